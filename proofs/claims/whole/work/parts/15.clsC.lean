/-! the class: sides of the whole, ways, the next corner -/
section CC
variable {l : Launch} {D : va_G} {ad : Nat → Nat} {cI cJ : ClassId} {n tc rc kc : Nat} {X Y : Nat → Int} {TT NB RG KT GR : Nat → Nat} {tl : Int}
abbrev rmX0_isWayFree : Room := { frames := 2, cells := 0, slots := 0, locals := 44 }
theorem inwX0_isWayFree : ∀ w ∈ wsX00, w ∈ wsX0_isWayFree := fun _ h => List.mem_cons_of_mem _ (List.mem_append_right _ h)
set_option maxRecDepth 20000 in
theorem flX0_isWayFree_16 : Cond.fieldLink RX0 16 RX0 (TX0 2).2.1 (TX0 2).2.2.1 ∈ wsX0_isWayFree := by decide +kernel
set_option maxRecDepth 20000 in
set_option maxHeartbeats 4000000 in
theorem mtX0_isWayFree (SB : pg_ok n X Y) {a b : Nat} (ha : a < n) (hb : b < n) : gz_Ki l yX0_isWayFree wsX0_isWayFree rmX0_isWayFree D [(cI, .int), (cJ, .long)] [.ref (ad 0), .int (nI a), .int (nI b)] (wC ad cI n X Y tc TT NB RG rc KT kc tl GR) (fun r w1 => gz_B r (pg_WF n X Y a b) ∧ w1 = (wC ad cI n X Y tc TT NB RG rc KT kc tl GR)) := by
  refine gz_ofi (cc := cX0_isWayFree) (maxL := 4) (own := RX0) (by decide +kernel) rfl rfl rfl (Nat.le_of_ble_eq_true rfl) ?_
  intro z E ret
  have hn := SB.1
  show gz_G z _ 0 [(0, .ref (ad 0)), (1, .int (nI a)), (2, .int (nI b))] []
  have loop : ∀ (f k : Nat), n < f + k → k ≤ n → (∀ m, m < k → ¬ (pg_tn X Y a b m = 0 ∧ pg_dt X Y m a b < 0)) → gz_G z (wC ad cI n X Y tc TT NB RG rc KT kc tl GR) 2 [(0, .ref (ad 0)), (1, .int (nI a)), (2, .int (nI b)), (3, .int (nI k))] [] := by
    intro f
    induction f with
    | zero => intro k h1 h2; exact absurd h1 (by omega)
    | succ f ih =>
      intro k h1 h2 h3
      refine gz_iload_n E dX0_isWayFree_2 rfl rfl ?_
      refine gz_aload_n E dX0_isWayFree_3 rfl rfl ?_
      refine gz_get E inwX0_isWayFree 0 2 dX0_isWayFree_4 flX0_isWayFree_16 rfl rfl (by decide) rfl rfl ?_
      refine gz_icN_ge (tgt := 42) E dX0_isWayFree_7 (by decide) (by omega) (by omega) (fun q7 => ?_) (fun q7 => ?_)
      · skip
        refine gz_iconst (v := 1) E dX0_isWayFree_42 (by decide) ?_
        exact ret _ _ _ _ dX0_isWayFree_43 rfl ⟨by first | exact gz_B_t (fun m hm => h3 m (by omega)) | exact gz_B_f (fun q => absurd (q k (by omega)) (by omega)), rfl⟩
      · skip
        have hk : k < n := by omega
        have tk := pg_tn_b SB ha hb hk
        have dk := pg_dt_b SB hk ha hb
        refine gz_aload_n E dX0_isWayFree_10 rfl rfl ?_
        refine gz_iload_n E dX0_isWayFree_11 rfl rfl ?_
        refine gz_iload_n E dX0_isWayFree_12 rfl rfl ?_
        refine gz_iload_n E dX0_isWayFree_13 rfl rfl ?_
        refine gz_call (n := 3) E 0 dX0_isWayFree_14 gX0_isWayFree_X0_turn (mtX0_turn SB (by assumption) (by assumption) (by assumption)) rfl rfl ⟨rfl, rfl⟩ (by decide +kernel) ⟨Nat.le_of_ble_eq_true rfl, Nat.le_of_ble_eq_true rfl⟩ rfl rfl rfl rfl (Nat.le_of_ble_eq_true rfl) (fun r14 w14 hr14 => ?_)
        obtain ⟨rfl, rfl⟩ := hr14
        refine gz_lconst (v := lI 0) E dX0_isWayFree_17 (by decide) ?_
        refine gz_lcL_ne (tgt := 36) E dX0_isWayFree_18 dX0_isWayFree_19 (by decide) (by omega) (by omega) (by omega) (by omega) (fun q18 => ?_) (fun q18 => ?_)
        · skip
          refine gz_iinc (lv' := [(0, _), (1, _), (2, _), (3, _)]) E dX0_isWayFree_36 rfl (gz_nI1 _) (by decide) rfl ?_
          refine gz_goto (tgt := 2) E dX0_isWayFree_39 (by decide) ?_
          exact ih (k + 1) (by omega) (by omega) (fun j hj => by
            rcases (show j < k ∨ j = k by omega) with e | e
            · exact h3 j e
            · rw [e]; omega)
        · skip
          refine gz_aload_n E dX0_isWayFree_22 rfl rfl ?_
          refine gz_iload_n E dX0_isWayFree_23 rfl rfl ?_
          refine gz_iload_n E dX0_isWayFree_24 rfl rfl ?_
          refine gz_iload_n E dX0_isWayFree_25 rfl rfl ?_
          refine gz_call (n := 3) E 0 dX0_isWayFree_26 gX0_isWayFree_X0_dot (mtX0_dot SB (by assumption) (by assumption) (by assumption)) rfl rfl ⟨rfl, rfl⟩ (by decide +kernel) ⟨Nat.le_of_ble_eq_true rfl, Nat.le_of_ble_eq_true rfl⟩ rfl rfl rfl rfl (Nat.le_of_ble_eq_true rfl) (fun r26 w26 hr26 => ?_)
          obtain ⟨rfl, rfl⟩ := hr26
          refine gz_lconst (v := lI 0) E dX0_isWayFree_29 (by decide) ?_
          refine gz_lcL_ge (tgt := 36) E dX0_isWayFree_30 dX0_isWayFree_31 (by decide) (by omega) (by omega) (by omega) (by omega) (fun q30 => ?_) (fun q30 => ?_)
          · skip
            refine gz_iinc (lv' := [(0, _), (1, _), (2, _), (3, _)]) E dX0_isWayFree_36 rfl (gz_nI1 _) (by decide) rfl ?_
            refine gz_goto (tgt := 2) E dX0_isWayFree_39 (by decide) ?_
            exact ih (k + 1) (by omega) (by omega) (fun j hj => by
              rcases (show j < k ∨ j = k by omega) with e | e
              · exact h3 j e
              · rw [e]; omega)
          · skip
            refine gz_iconst (v := 0) E dX0_isWayFree_34 (by decide) ?_
            exact ret _ _ _ _ dX0_isWayFree_35 rfl ⟨by first | exact gz_B_t (fun m hm => h3 m (by omega)) | exact gz_B_f (fun q => absurd (q k (by omega)) (by omega)), rfl⟩
  refine gz_iconst (v := nI 0) E dX0_isWayFree_0 (by decide) ?_
  refine gz_istore_n (lv' := [(0, _), (1, _), (2, _), (3, _)]) E dX0_isWayFree_1 rfl (by decide) rfl ?_
  exact loop (n + 1) 0 (by omega) (by omega) (fun j hj => absurd hj (by omega))
abbrev rmX0_isRingSide : Room := { frames := 2, cells := 0, slots := 0, locals := 44 }
theorem inwX0_isRingSide : ∀ w ∈ wsX00, w ∈ wsX0_isRingSide := fun _ h => List.mem_cons_of_mem _ (List.mem_append_right _ h)
set_option maxRecDepth 20000 in
theorem flX0_isRingSide_16 : Cond.fieldLink RX0 16 RX0 (TX0 2).2.1 (TX0 2).2.2.1 ∈ wsX0_isRingSide := by decide +kernel
set_option maxRecDepth 20000 in
set_option maxHeartbeats 4000000 in
theorem mtX0_isRingSide (SB : pg_ok n X Y) {a b : Nat} (ha : a < n) (hb : b < n) : gz_Ki l yX0_isRingSide wsX0_isRingSide rmX0_isRingSide D [(cI, .int), (cJ, .long)] [.ref (ad 0), .int (nI a), .int (nI b)] (wC ad cI n X Y tc TT NB RG rc KT kc tl GR) (fun r w1 => gz_B r (pg_RS n X Y a b) ∧ w1 = (wC ad cI n X Y tc TT NB RG rc KT kc tl GR)) := by
  refine gz_ofi (cc := cX0_isRingSide) (maxL := 6) (own := RX0) (by decide +kernel) rfl rfl rfl (Nat.le_of_ble_eq_true rfl) ?_
  intro z E ret
  have hn := SB.1
  show gz_G z _ 0 [(0, .ref (ad 0)), (1, .int (nI a)), (2, .int (nI b))] []
  have loop : ∀ (f k : Nat), n < f + k → k ≤ n → (∀ m, m < k → 0 ≤ pg_tn X Y a b m ∧ ¬ (pg_tn X Y a b m = 0 ∧ 0 < pg_dt X Y m a b)) → gz_G z (wC ad cI n X Y tc TT NB RG rc KT kc tl GR) 2 [(0, .ref (ad 0)), (1, .int (nI a)), (2, .int (nI b)), (3, .int (nI k))] [] := by
    intro f
    induction f with
    | zero => intro k h1 h2; exact absurd h1 (by omega)
    | succ f ih =>
      intro k h1 h2 h3
      refine gz_iload_n E dX0_isRingSide_2 rfl rfl ?_
      refine gz_aload_n E dX0_isRingSide_3 rfl rfl ?_
      refine gz_get E inwX0_isRingSide 0 2 dX0_isRingSide_4 flX0_isRingSide_16 rfl rfl (by decide) rfl rfl ?_
      refine gz_icN_ge (tgt := 53) E dX0_isRingSide_7 (by decide) (by omega) (by omega) (fun q7 => ?_) (fun q7 => ?_)
      · skip
        refine gz_iconst (v := 1) E dX0_isRingSide_53 (by decide) ?_
        exact ret _ _ _ _ dX0_isRingSide_54 rfl ⟨by first | exact gz_B_t (fun m hm => h3 m (by omega)) | exact gz_B_f (fun q => absurd (q k (by omega)) (by omega)), rfl⟩
      · skip
        have hk : k < n := by omega
        have tk := pg_tn_b SB ha hb hk
        have dk := pg_dt_b SB hk ha hb
        refine gz_aload_n E dX0_isRingSide_10 rfl rfl ?_
        refine gz_iload_n E dX0_isRingSide_11 rfl rfl ?_
        refine gz_iload_n E dX0_isRingSide_12 rfl rfl ?_
        refine gz_iload_n E dX0_isRingSide_13 rfl rfl ?_
        refine gz_call (n := 3) E 0 dX0_isRingSide_14 gX0_isRingSide_X0_turn (mtX0_turn SB (by assumption) (by assumption) (by assumption)) rfl rfl ⟨rfl, rfl⟩ (by decide +kernel) ⟨Nat.le_of_ble_eq_true rfl, Nat.le_of_ble_eq_true rfl⟩ rfl rfl rfl rfl (Nat.le_of_ble_eq_true rfl) (fun r14 w14 hr14 => ?_)
        obtain ⟨rfl, rfl⟩ := hr14
        refine gz_lstore (lv' := [(0, _), (1, _), (2, _), (3, _), (4, _)]) E dX0_isRingSide_17 (by decide) rfl ?_
        refine gz_lload E dX0_isRingSide_19 rfl ?_
        refine gz_lconst (v := lI 0) E dX0_isRingSide_21 (by decide) ?_
        refine gz_lcL_lt (tgt := 45) E dX0_isRingSide_22 dX0_isRingSide_23 (by decide) (by omega) (by omega) (by omega) (by omega) (fun q22 => ?_) (fun q22 => ?_)
        · skip
          refine gz_iconst (v := 0) E dX0_isRingSide_45 (by decide) ?_
          exact ret _ _ _ _ dX0_isRingSide_46 rfl ⟨by first | exact gz_B_t (fun m hm => h3 m (by omega)) | exact gz_B_f (fun q => absurd (q k (by omega)) (by omega)), rfl⟩
        · skip
          refine gz_lload E dX0_isRingSide_26 rfl ?_
          refine gz_lconst (v := lI 0) E dX0_isRingSide_28 (by decide) ?_
          refine gz_lcL_ne (tgt := 47) E dX0_isRingSide_29 dX0_isRingSide_30 (by decide) (by omega) (by omega) (by omega) (by omega) (fun q29 => ?_) (fun q29 => ?_)
          · skip
            refine gz_iinc (lv' := [(0, _), (1, _), (2, _), (3, _), (4, _)]) E dX0_isRingSide_47 rfl (gz_nI1 _) (by decide) rfl ?_
            refine gz_goto (tgt := 2) E dX0_isRingSide_50 (by decide) ?_
            refine gz_sub (lv' := [(0, _), (1, _), (2, _), (3, _)]) [0, 1, 2, 3] rfl ?_
            exact ih (k + 1) (by omega) (by omega) (fun j hj => by
              rcases (show j < k ∨ j = k by omega) with e | e
              · exact h3 j e
              · rw [e]; omega)
          · skip
            refine gz_aload_n E dX0_isRingSide_33 rfl rfl ?_
            refine gz_iload_n E dX0_isRingSide_34 rfl rfl ?_
            refine gz_iload_n E dX0_isRingSide_35 rfl rfl ?_
            refine gz_iload_n E dX0_isRingSide_36 rfl rfl ?_
            refine gz_call (n := 3) E 0 dX0_isRingSide_37 gX0_isRingSide_X0_dot (mtX0_dot SB (by assumption) (by assumption) (by assumption)) rfl rfl ⟨rfl, rfl⟩ (by decide +kernel) ⟨Nat.le_of_ble_eq_true rfl, Nat.le_of_ble_eq_true rfl⟩ rfl rfl rfl rfl (Nat.le_of_ble_eq_true rfl) (fun r37 w37 hr37 => ?_)
            obtain ⟨rfl, rfl⟩ := hr37
            refine gz_lconst (v := lI 0) E dX0_isRingSide_40 (by decide) ?_
            refine gz_lcL_le (tgt := 47) E dX0_isRingSide_41 dX0_isRingSide_42 (by decide) (by omega) (by omega) (by omega) (by omega) (fun q41 => ?_) (fun q41 => ?_)
            · skip
              refine gz_iinc (lv' := [(0, _), (1, _), (2, _), (3, _), (4, _)]) E dX0_isRingSide_47 rfl (gz_nI1 _) (by decide) rfl ?_
              refine gz_goto (tgt := 2) E dX0_isRingSide_50 (by decide) ?_
              refine gz_sub (lv' := [(0, _), (1, _), (2, _), (3, _)]) [0, 1, 2, 3] rfl ?_
              exact ih (k + 1) (by omega) (by omega) (fun j hj => by
                rcases (show j < k ∨ j = k by omega) with e | e
                · exact h3 j e
                · rw [e]; omega)
            · skip
              refine gz_iconst (v := 0) E dX0_isRingSide_45 (by decide) ?_
              exact ret _ _ _ _ dX0_isRingSide_46 rfl ⟨by first | exact gz_B_t (fun m hm => h3 m (by omega)) | exact gz_B_f (fun q => absurd (q k (by omega)) (by omega)), rfl⟩
  refine gz_iconst (v := nI 0) E dX0_isRingSide_0 (by decide) ?_
  refine gz_istore_n (lv' := [(0, _), (1, _), (2, _), (3, _)]) E dX0_isRingSide_1 rfl (by decide) rfl ?_
  exact loop (n + 1) 0 (by omega) (by omega) (fun j hj => absurd hj (by omega))
abbrev rmX0_noneTurnsRight : Room := { frames := 2, cells := 0, slots := 0, locals := 44 }
theorem inwX0_noneTurnsRight : ∀ w ∈ wsX00, w ∈ wsX0_noneTurnsRight := fun _ h => List.mem_cons_of_mem _ (List.mem_append_right _ h)
set_option maxRecDepth 20000 in
theorem flX0_noneTurnsRight_16 : Cond.fieldLink RX0 16 RX0 (TX0 2).2.1 (TX0 2).2.2.1 ∈ wsX0_noneTurnsRight := by decide +kernel
set_option maxRecDepth 20000 in
set_option maxHeartbeats 4000000 in
theorem mtX0_noneTurnsRight (SB : pg_ok n X Y) {a b : Nat} (ha : a < n) (hb : b < n) : gz_Ki l yX0_noneTurnsRight wsX0_noneTurnsRight rmX0_noneTurnsRight D [(cI, .int), (cJ, .long)] [.ref (ad 0), .int (nI a), .int (nI b)] (wC ad cI n X Y tc TT NB RG rc KT kc tl GR) (fun r w1 => gz_B r (pg_NR n X Y a b) ∧ w1 = (wC ad cI n X Y tc TT NB RG rc KT kc tl GR)) := by
  refine gz_ofi (cc := cX0_noneTurnsRight) (maxL := 4) (own := RX0) (by decide +kernel) rfl rfl rfl (Nat.le_of_ble_eq_true rfl) ?_
  intro z E ret
  have hn := SB.1
  show gz_G z _ 0 [(0, .ref (ad 0)), (1, .int (nI a)), (2, .int (nI b))] []
  have loop : ∀ (f k : Nat), n < f + k → k ≤ n → (∀ m, m < k → 0 ≤ pg_tn X Y a b m) → gz_G z (wC ad cI n X Y tc TT NB RG rc KT kc tl GR) 2 [(0, .ref (ad 0)), (1, .int (nI a)), (2, .int (nI b)), (3, .int (nI k))] [] := by
    intro f
    induction f with
    | zero => intro k h1 h2; exact absurd h1 (by omega)
    | succ f ih =>
      intro k h1 h2 h3
      refine gz_iload_n E dX0_noneTurnsRight_2 rfl rfl ?_
      refine gz_aload_n E dX0_noneTurnsRight_3 rfl rfl ?_
      refine gz_get E inwX0_noneTurnsRight 0 2 dX0_noneTurnsRight_4 flX0_noneTurnsRight_16 rfl rfl (by decide) rfl rfl ?_
      refine gz_icN_ge (tgt := 30) E dX0_noneTurnsRight_7 (by decide) (by omega) (by omega) (fun q7 => ?_) (fun q7 => ?_)
      · skip
        refine gz_iconst (v := 1) E dX0_noneTurnsRight_30 (by decide) ?_
        exact ret _ _ _ _ dX0_noneTurnsRight_31 rfl ⟨by first | exact gz_B_t (fun m hm => h3 m (by omega)) | exact gz_B_f (fun q => absurd (q k (by omega)) (by omega)), rfl⟩
      · skip
        have hk : k < n := by omega
        have tk := pg_tn_b SB ha hb hk
        have dk := pg_dt_b SB hk ha hb
        refine gz_aload_n E dX0_noneTurnsRight_10 rfl rfl ?_
        refine gz_iload_n E dX0_noneTurnsRight_11 rfl rfl ?_
        refine gz_iload_n E dX0_noneTurnsRight_12 rfl rfl ?_
        refine gz_iload_n E dX0_noneTurnsRight_13 rfl rfl ?_
        refine gz_call (n := 3) E 0 dX0_noneTurnsRight_14 gX0_noneTurnsRight_X0_turn (mtX0_turn SB (by assumption) (by assumption) (by assumption)) rfl rfl ⟨rfl, rfl⟩ (by decide +kernel) ⟨Nat.le_of_ble_eq_true rfl, Nat.le_of_ble_eq_true rfl⟩ rfl rfl rfl rfl (Nat.le_of_ble_eq_true rfl) (fun r14 w14 hr14 => ?_)
        obtain ⟨rfl, rfl⟩ := hr14
        refine gz_lconst (v := lI 0) E dX0_noneTurnsRight_17 (by decide) ?_
        refine gz_lcL_ge (tgt := 24) E dX0_noneTurnsRight_18 dX0_noneTurnsRight_19 (by decide) (by omega) (by omega) (by omega) (by omega) (fun q18 => ?_) (fun q18 => ?_)
        · skip
          refine gz_iinc (lv' := [(0, _), (1, _), (2, _), (3, _)]) E dX0_noneTurnsRight_24 rfl (gz_nI1 _) (by decide) rfl ?_
          refine gz_goto (tgt := 2) E dX0_noneTurnsRight_27 (by decide) ?_
          exact ih (k + 1) (by omega) (by omega) (fun j hj => by
            rcases (show j < k ∨ j = k by omega) with e | e
            · exact h3 j e
            · rw [e]; omega)
        · skip
          refine gz_iconst (v := 0) E dX0_noneTurnsRight_22 (by decide) ?_
          exact ret _ _ _ _ dX0_noneTurnsRight_23 rfl ⟨by first | exact gz_B_t (fun m hm => h3 m (by omega)) | exact gz_B_f (fun q => absurd (q k (by omega)) (by omega)), rfl⟩
  refine gz_iconst (v := nI 0) E dX0_noneTurnsRight_0 (by decide) ?_
  refine gz_istore_n (lv' := [(0, _), (1, _), (2, _), (3, _)]) E dX0_noneTurnsRight_1 rfl (by decide) rfl ?_
  exact loop (n + 1) 0 (by omega) (by omega) (fun j hj => absurd hj (by omega))
abbrev rmX0_nextCorner : Room := { frames := 3, cells := 0, slots := 0, locals := 69 }
theorem inwX0_nextCorner : ∀ w ∈ wsX00, w ∈ wsX0_nextCorner := fun _ h => List.mem_cons_of_mem _ (List.mem_append_right _ h)
set_option maxRecDepth 20000 in
theorem flX0_nextCorner_16 : Cond.fieldLink RX0 16 RX0 (TX0 2).2.1 (TX0 2).2.2.1 ∈ wsX0_nextCorner := by decide +kernel
set_option maxRecDepth 20000 in
set_option maxHeartbeats 4000000 in
theorem mtX0_nextCorner (SB : pg_ok n X Y) {a : Nat} (ha : a < n) : gz_Ki l yX0_nextCorner wsX0_nextCorner rmX0_nextCorner D [(cI, .int), (cJ, .long)] [.ref (ad 0), .int (nI a)] (wC ad cI n X Y tc TT NB RG rc KT kc tl GR) (fun r w1 => ((∃ b, pg_NX n X Y a b ∧ r = nI b) ∨ (r = -1 ∧ pg_NN n X Y a)) ∧ w1 = (wC ad cI n X Y tc TT NB RG rc KT kc tl GR)) := by
  refine gz_ofi (cc := cX0_nextCorner) (maxL := 3) (own := RX0) (by decide +kernel) rfl rfl rfl (Nat.le_of_ble_eq_true rfl) ?_
  intro z E ret
  have hn := SB.1
  show gz_G z _ 0 [(0, .ref (ad 0)), (1, .int (nI a))] []
  have loop : ∀ (f k : Nat), n < f + k → k ≤ n → (∀ c, c < k → c ≠ a → ¬ pg_RS n X Y a c) → gz_G z (wC ad cI n X Y tc TT NB RG rc KT kc tl GR) 2 [(0, .ref (ad 0)), (1, .int (nI a)), (2, .int (nI k))] [] := by
    intro f
    induction f with
    | zero => intro k h1 h2; exact absurd h1 (by omega)
    | succ f ih =>
      intro k h1 h2 h3
      refine gz_iload_n E dX0_nextCorner_2 rfl rfl ?_
      refine gz_aload_n E dX0_nextCorner_3 rfl rfl ?_
      refine gz_get E inwX0_nextCorner 0 2 dX0_nextCorner_4 flX0_nextCorner_16 rfl rfl (by decide) rfl rfl ?_
      refine gz_icN_ge (tgt := 32) E dX0_nextCorner_7 (by decide) (by omega) (by omega) (fun q7 => ?_) (fun q7 => ?_)
      · skip
        refine gz_iconst (v := -1) E dX0_nextCorner_32 (by decide) ?_
        exact ret _ _ _ _ dX0_nextCorner_33 rfl ⟨Or.inr ⟨rfl, fun b hb hne => h3 b (by omega) hne⟩, rfl⟩
      · skip
        have hk : k < n := by omega
        refine gz_iload_n E dX0_nextCorner_10 rfl rfl ?_
        refine gz_iload_n E dX0_nextCorner_11 rfl rfl ?_
        refine gz_icN_eq (tgt := 26) E dX0_nextCorner_12 (by decide) (by omega) (by omega) (fun q12 => ?_) (fun q12 => ?_)
        · skip
          refine gz_iinc (lv' := [(0, _), (1, _), (2, _)]) E dX0_nextCorner_26 rfl (gz_nI1 _) (by decide) rfl ?_
          refine gz_goto (tgt := 2) E dX0_nextCorner_29 (by decide) ?_
          exact ih (k + 1) (by omega) (by omega) (fun j hj hne => by
            rcases (show j < k ∨ j = k by omega) with e | e
            · exact h3 j e hne
            · first | exact absurd (e.trans (by assumption)) hne | (rw [e]; assumption))
        · skip
          refine gz_aload_n E dX0_nextCorner_15 rfl rfl ?_
          refine gz_iload_n E dX0_nextCorner_16 rfl rfl ?_
          refine gz_iload_n E dX0_nextCorner_17 rfl rfl ?_
          refine gz_cali (n := 2) E 0 dX0_nextCorner_18 gX0_nextCorner_X0_isRingSide (mtX0_isRingSide SB (by assumption) (by assumption)) rfl rfl ⟨rfl, rfl⟩ (by decide +kernel) ⟨Nat.le_of_ble_eq_true rfl, Nat.le_of_ble_eq_true rfl⟩ rfl rfl rfl rfl (Nat.le_of_ble_eq_true rfl) (fun r18 w18 hr18 => ?_)
          obtain ⟨hr18, rfl⟩ := hr18
          refine gz_ifB_eq (tgt := 26) E hr18 dX0_nextCorner_21 (by decide) (fun q21 => ?_) (fun q21 => ?_)
          · skip
            refine gz_iinc (lv' := [(0, _), (1, _), (2, _)]) E dX0_nextCorner_26 rfl (gz_nI1 _) (by decide) rfl ?_
            refine gz_goto (tgt := 2) E dX0_nextCorner_29 (by decide) ?_
            exact ih (k + 1) (by omega) (by omega) (fun j hj hne => by
              rcases (show j < k ∨ j = k by omega) with e | e
              · exact h3 j e hne
              · first | exact absurd (e.trans (by assumption)) hne | (rw [e]; assumption))
          · skip
            refine gz_iload_n E dX0_nextCorner_24 rfl rfl ?_
            exact ret _ _ _ _ dX0_nextCorner_25 rfl ⟨Or.inl ⟨k, ⟨by omega, by omega, by assumption, h3⟩, rfl⟩, rfl⟩
  refine gz_iconst (v := nI 0) E dX0_nextCorner_0 (by decide) ?_
  refine gz_istore_n (lv' := [(0, _), (1, _), (2, _)]) E dX0_nextCorner_1 rfl (by decide) rfl ?_
  exact loop (n + 1) 0 (by omega) (by omega) (fun j hj => absurd hj (by omega))
abbrev rmX0_leastCorner : Room := { frames := 4, cells := 0, slots := 0, locals := 91 }
theorem inwX0_leastCorner : ∀ w ∈ wsX00, w ∈ wsX0_leastCorner := fun _ h => List.mem_cons_of_mem _ (List.mem_append_right _ h)
set_option maxRecDepth 20000 in
theorem flX0_leastCorner_16 : Cond.fieldLink RX0 16 RX0 (TX0 2).2.1 (TX0 2).2.2.1 ∈ wsX0_leastCorner := by decide +kernel
set_option maxRecDepth 20000 in
set_option maxHeartbeats 4000000 in
theorem mtX0_leastCorner (SB : pg_ok n X Y) : gz_Ki l yX0_leastCorner wsX0_leastCorner rmX0_leastCorner D [(cI, .int), (cJ, .long)] [.ref (ad 0)] (wC ad cI n X Y tc TT NB RG rc KT kc tl GR) (fun r w1 => ((n = 1 ∧ r = nI 0) ∨ (n ≠ 1 ∧ ∃ a b, a < n ∧ pg_NX n X Y a b ∧ (∀ c, c < a → pg_NN n X Y c) ∧ r = nI a) ∨ (n ≠ 1 ∧ r = -1 ∧ ∀ c, c < n → pg_NN n X Y c)) ∧ w1 = (wC ad cI n X Y tc TT NB RG rc KT kc tl GR)) := by
  refine gz_ofi (cc := cX0_leastCorner) (maxL := 2) (own := RX0) (by decide +kernel) rfl rfl rfl (Nat.le_of_ble_eq_true rfl) ?_
  intro z E ret
  have hn := SB.1
  show gz_G z _ 0 [(0, .ref (ad 0))] []
  have loop : n ≠ 1 → ∀ (f k : Nat), n < f + k → k ≤ n → (∀ c, c < k → pg_NN n X Y c) → gz_G z (wC ad cI n X Y tc TT NB RG rc KT kc tl GR) 12 [(0, .ref (ad 0)), (1, .int (nI k))] [] := by
    intro hn1 f
    induction f with
    | zero => intro k h1 h2; exact absurd h1 (by omega)
    | succ f ih =>
      intro k h1 h2 h3
      refine gz_iload_n E dX0_leastCorner_12 rfl rfl ?_
      refine gz_aload_n E dX0_leastCorner_13 rfl rfl ?_
      refine gz_get E inwX0_leastCorner 0 2 dX0_leastCorner_14 flX0_leastCorner_16 rfl rfl (by decide) rfl rfl ?_
      refine gz_icN_ge (tgt := 36) E dX0_leastCorner_17 (by decide) (by omega) (by omega) (fun q17 => ?_) (fun q17 => ?_)
      · skip
        refine gz_iconst (v := -1) E dX0_leastCorner_36 (by decide) ?_
        exact ret _ _ _ _ dX0_leastCorner_37 rfl ⟨Or.inr (Or.inr ⟨by omega, rfl, fun c hc => h3 c (by omega)⟩), rfl⟩
      · skip
        have hk : k < n := by omega
        refine gz_aload_n E dX0_leastCorner_20 rfl rfl ?_
        refine gz_iload_n E dX0_leastCorner_21 rfl rfl ?_
        refine gz_cali (n := 1) E 0 dX0_leastCorner_22 gX0_leastCorner_X0_nextCorner (mtX0_nextCorner SB (by assumption)) rfl rfl ⟨rfl, rfl⟩ (by decide +kernel) ⟨Nat.le_of_ble_eq_true rfl, Nat.le_of_ble_eq_true rfl⟩ rfl rfl rfl rfl (Nat.le_of_ble_eq_true rfl) (fun r22 w22 hr22 => ?_)
        obtain ⟨hr22, rfl⟩ := hr22
        refine gz_if_lt (tgt := 30) E dX0_leastCorner_25 (by decide) (fun q25 => ?_) (fun q25 => ?_)
        · skip
          refine gz_iinc (lv' := [(0, _), (1, _)]) E dX0_leastCorner_30 rfl (gz_nI1 _) (by decide) rfl ?_
          refine gz_goto (tgt := 12) E dX0_leastCorner_33 (by decide) ?_
          exact ih (k + 1) (by omega) (by omega) (fun j hj => by
            rcases (show j < k ∨ j = k by omega) with e | e
            · exact h3 j e
            · rcases hr22 with ⟨b, hb1, hb2⟩ | ⟨-, hb⟩
              · exact absurd (hb2 ▸ q25) (nI_pos (by have := hb1.1; omega))
              · rw [e]; exact hb)
        · skip
          refine gz_iload_n E dX0_leastCorner_28 rfl rfl ?_
          rcases hr22 with ⟨b, hb1, hb2⟩ | ⟨hb, -⟩
          · exact ret _ _ _ _ dX0_leastCorner_29 rfl ⟨Or.inr (Or.inl ⟨by omega, k, b, by omega, hb1, h3, rfl⟩), rfl⟩
          · exact absurd (by rw [hb]; decide) q25
  refine gz_aload_n E dX0_leastCorner_0 rfl rfl ?_
  refine gz_get E inwX0_leastCorner 0 2 dX0_leastCorner_1 flX0_leastCorner_16 rfl rfl (by decide) rfl rfl ?_
  refine gz_iconst (v := nI 1) E dX0_leastCorner_4 (by decide) ?_
  refine gz_icN_ne (tgt := 10) E dX0_leastCorner_5 (by decide) (by omega) (by omega) (fun q5 => ?_) (fun q5 => ?_)
  · skip
    refine gz_iconst (v := nI 0) E dX0_leastCorner_10 (by decide) ?_
    refine gz_istore_n (lv' := [(0, _), (1, _)]) E dX0_leastCorner_11 rfl (by decide) rfl ?_
    exact loop (by omega) (n + 1) 0 (by omega) (by omega) (fun j hj => absurd hj (by omega))
  · skip
    refine gz_iconst (v := 0) E dX0_leastCorner_8 (by decide) ?_
    exact ret _ _ _ _ dX0_leastCorner_9 rfl ⟨Or.inl ⟨by omega, rfl⟩, rfl⟩
end CC
