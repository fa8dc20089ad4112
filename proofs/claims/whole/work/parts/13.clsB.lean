/-! the class: divisor, corners of triangles, side of a circle, due triangles -/
section CB
variable {l : Launch} {D : va_G} {ad : Nat → Nat} {cI cJ : ClassId} {n tc rc kc : Nat} {X Y : Nat → Int} {TT NB RG KT GR : Nat → Nat} {tl : Int}
/-- pairs of numbers of Fibonacci's row -/
def pg_fb : Nat → Nat × Nat
  | 0 => (1, 1)
  | k + 1 => ((pg_fb k).2, (pg_fb k).1 + (pg_fb k).2)
theorem pg_fb_99 : 2 ^ 62 ≤ (pg_fb 99).2 := by decide +kernel
theorem pg_fb_s {a b k : Nat} (hb : 0 < b) (hlt : b < a) (h : b < (pg_fb (k + 1)).1 ∨ a < (pg_fb (k + 1)).2) : a % b < (pg_fb k).1 ∨ b < (pg_fb k).2 := by
  have e1 : (pg_fb (k + 1)).1 = (pg_fb k).2 := rfl
  have e2 : (pg_fb (k + 1)).2 = (pg_fb k).1 + (pg_fb k).2 := rfl
  rw [e1, e2] at h
  by_cases g : b < (pg_fb k).2
  · exact Or.inr g
  · refine Or.inl ?_
    have h2 : a % b ≤ a - b := by
      rw [Nat.mod_eq_sub_mod (by omega)]
      exact Nat.mod_le _ _
    omega
theorem cdw_lk : Cond.methodLink RX0 125 Lib.MathLoose.abs_long.x ∈ wsX0_commonDivisor := by unfold wsX0_commonDivisor; simp
theorem cdw_st : Cond.static Lib.MathLoose.abs_long.x ∈ wsX0_commonDivisor := by unfold wsX0_commonDivisor; simp
theorem cdw_in : Cond.initialized "java/lang/Math" ∈ wsX0_commonDivisor := by unfold wsX0_commonDivisor; simp
theorem cdw_co : Cond.code Lib.MathLoose.abs_long.x Lib.MathLoose.abs_long.code 2 (some .long) ∈ wsX0_commonDivisor := by unfold wsX0_commonDivisor; simp
abbrev rmX0_commonDivisor : Room := { frames := 1, cells := 0, slots := 0, locals := 32 }
set_option maxRecDepth 20000 in
set_option maxHeartbeats 4000000 in
theorem mtX0_commonDivisor {P Q : Int} (hP1 : -4611686018427387904 < P) (hP2 : P < 4611686018427387904) (hQ1 : -4611686018427387904 < Q) (hQ2 : Q < 4611686018427387904) : gz_Sl l yX0_commonDivisor wsX0_commonDivisor rmX0_commonDivisor [.long (lI P), .long (lI Q)] (fun r => r = lI ((Nat.gcd P.natAbs Q.natAbs : Nat) : Int)) := by
  refine gz_sofl (cc := cX0_commonDivisor) (maxL := 11) (own := RX0) (by decide +kernel) rfl rfl rfl (Nat.le_of_ble_eq_true rfl) ?_
  intro z D E ret
  show gz_G z _ 0 [(0, .long (lI P)), (2, .long (lI Q))] []
  have loop : ∀ (f k a b : Nat), 100 < f + k → k ≤ 100 → a < 2 ^ 62 → b < 2 ^ 62 → Nat.gcd a b = Nat.gcd P.natAbs Q.natAbs → (1 ≤ k → b < a ∧ (b < (pg_fb (100 - k)).1 ∨ a < (pg_fb (100 - k)).2)) → gz_G z [] 15 [(4, .long (lI (a : Int))), (6, .long (lI (b : Int))), (8, .int (nI k))] [] := by
    intro f
    induction f with
    | zero => intro k a b h1 h2; exact absurd h1 (by omega)
    | succ f ih =>
      intro k a b h1 h2 h3 h4 h5 h6
      refine gz_iload E dX0_commonDivisor_15 rfl ?_
      refine gz_bipush (v := nI 100) E dX0_commonDivisor_17 (by decide) ?_
      refine gz_icN_ge (tgt := 50) E dX0_commonDivisor_19 (by decide) (by omega) (by omega) (fun q19 => ?_) (fun q19 => ?_)
      · skip
        refine gz_lload E dX0_commonDivisor_50 rfl ?_
        exact ret _ _ _ _ dX0_commonDivisor_52 (by rw [← h5]; first | (have e : b = 0 := by omega); rw [e, Nat.gcd_zero_right] | (have e : b = 0 := by (have hk : k = 100 := by omega); subst hk; have h7 := h6 (by omega); have e1 : (pg_fb (100 - 100)).1 = 1 := rfl; have e2 : (pg_fb (100 - 100)).2 = 1 := rfl; omega); rw [e, Nat.gcd_zero_right])
      · skip
        refine gz_lload E dX0_commonDivisor_22 rfl ?_
        refine gz_lconst (v := lI 0) E dX0_commonDivisor_24 (by decide) ?_
        refine gz_lcL_eq (tgt := 50) E dX0_commonDivisor_25 dX0_commonDivisor_26 (by decide) (by omega) (by omega) (by omega) (by omega) (fun q25 => ?_) (fun q25 => ?_)
        · skip
          refine gz_lload E dX0_commonDivisor_50 rfl ?_
          exact ret _ _ _ _ dX0_commonDivisor_52 (by rw [← h5]; first | (have e : b = 0 := by omega); rw [e, Nat.gcd_zero_right] | (have e : b = 0 := by (have hk : k = 100 := by omega); subst hk; have h7 := h6 (by omega); have e1 : (pg_fb (100 - 100)).1 = 1 := rfl; have e2 : (pg_fb (100 - 100)).2 = 1 := rfl; omega); rw [e, Nat.gcd_zero_right])
        · skip
          refine gz_lload E dX0_commonDivisor_29 rfl ?_
          refine gz_lload E dX0_commonDivisor_31 rfl ?_
          refine gz_lremN E dX0_commonDivisor_33 (by omega) (by omega) (by omega) ?_
          refine gz_lstore (lv' := [(4, _), (6, _), (8, _), (9, _)]) E dX0_commonDivisor_34 (by decide) rfl ?_
          refine gz_lload E dX0_commonDivisor_36 rfl ?_
          refine gz_lstore (lv' := [(4, _), (6, _), (8, _), (9, _)]) E dX0_commonDivisor_38 (by decide) rfl ?_
          refine gz_lload E dX0_commonDivisor_40 rfl ?_
          refine gz_lstore (lv' := [(4, _), (6, _), (8, _), (9, _)]) E dX0_commonDivisor_42 (by decide) rfl ?_
          refine gz_iinc (lv' := [(4, _), (6, _), (8, _), (9, _)]) E dX0_commonDivisor_44 rfl (gz_nI1 _) (by decide) rfl ?_
          refine gz_goto (tgt := 15) E dX0_commonDivisor_47 (by decide) ?_
          refine gz_sub (lv' := [(4, _), (6, _), (8, _)]) [0, 1, 2] rfl ?_
          exact ih (k + 1) b (a % b) (by omega) (by omega) (by omega) (by have := Nat.mod_lt a (show 0 < b by omega); omega) (by rw [← h5, Nat.gcd_comm b, Nat.gcd_comm a, ← Nat.gcd_rec b a]) (fun _ => ⟨Nat.mod_lt a (by omega), by
        have e : 100 - (k + 1) + 1 = 100 - k ∨ k = 100 := by omega
        by_cases hk : 1 ≤ k
        · have h7 := h6 hk
          rcases e with e | e
          · rw [← e] at h7
            exact pg_fb_s (by omega) h7.1 h7.2
          · omega
        · have hk0 : k = 0 := by omega
          subst hk0
          exact Or.inr (by have := pg_fb_99; show b < (pg_fb 99).2; omega)⟩)
  refine gz_lload_n E dX0_commonDivisor_0 rfl rfl ?_
  refine gz_absI E dX0_commonDivisor_1 cdw_lk cdw_st cdw_in cdw_co (Nat.le_of_ble_eq_true rfl) (Nat.le_of_ble_eq_true rfl) (by omega) (by omega) ?_
  refine gz_lstore (lv' := [(0, _), (2, _), (4, _)]) E dX0_commonDivisor_4 (by decide) rfl ?_
  refine gz_lload_n E dX0_commonDivisor_6 rfl rfl ?_
  refine gz_absI E dX0_commonDivisor_7 cdw_lk cdw_st cdw_in cdw_co (Nat.le_of_ble_eq_true rfl) (Nat.le_of_ble_eq_true rfl) (by omega) (by omega) ?_
  refine gz_lstore (lv' := [(0, _), (2, _), (4, _), (6, _)]) E dX0_commonDivisor_10 (by decide) rfl ?_
  refine gz_iconst (v := nI 0) E dX0_commonDivisor_12 (by decide) ?_
  refine gz_istore (lv' := [(0, _), (2, _), (4, _), (6, _), (8, _)]) E dX0_commonDivisor_13 (by decide) rfl ?_
  refine gz_sub (lv' := [(4, _), (6, _), (8, _)]) [2, 3, 4] rfl ?_
  exact loop 101 0 P.natAbs Q.natAbs (by omega) (by omega) (by omega) (by omega) rfl (fun h => absurd h (by omega))
theorem pg_dig (t : Nat) (h : t < 4096) {k : Nat} (hk : k < 3) : (nI t >>> (nI (4 * k) &&& 31)) &&& nI 15 = nI (t / 16 ^ k % 16) := by
  rcases (show k = 0 ∨ k = 1 ∨ k = 2 by omega) with rfl | rfl | rfl
  · rw [pk_shrN (by omega) _ 0 (by decide +kernel), pk_andN (by omega) 4 (by decide +kernel)]
  · rw [pk_shrN (by omega) _ 4 (by decide +kernel), pk_andN (by omega) 4 (by decide +kernel)]
  · rw [pk_shrN (by omega) _ 8 (by decide +kernel), pk_andN (by omega) 4 (by decide +kernel)]
abbrev rmX0_triangleCorner : Room := { frames := 1, cells := 0, slots := 0, locals := 21 }
theorem inwX0_triangleCorner : ∀ w ∈ wsX00, w ∈ wsX0_triangleCorner := fun _ h => List.mem_cons_of_mem _ (List.mem_append_right _ h)
set_option maxRecDepth 20000 in
theorem flX0_triangleCorner_20 : Cond.fieldLink RX0 20 RX0 (TX0 3).2.1 (TX0 3).2.2.1 ∈ wsX0_triangleCorner := by decide +kernel
set_option maxRecDepth 20000 in
set_option maxHeartbeats 4000000 in
theorem mtX0_triangleCorner (ht : tc ≤ 23) {i k : Nat} (hi : i < tc) (hT : TT i < 4096) (hk : k < 3) : gz_Ki l yX0_triangleCorner wsX0_triangleCorner rmX0_triangleCorner D [(cI, .int), (cJ, .long)] [.ref (ad 0), .int (nI i), .int (nI k)] (wC ad cI n X Y tc TT NB RG rc KT kc tl GR) (fun r w1 => r = nI (TT i / 16 ^ k % 16) ∧ w1 = (wC ad cI n X Y tc TT NB RG rc KT kc tl GR)) := by
  refine gz_ofi (cc := cX0_triangleCorner) (maxL := 3) (own := RX0) (by decide +kernel) rfl rfl rfl (Nat.le_of_ble_eq_true rfl) ?_
  intro z E ret
  show gz_G z _ 0 [(0, .ref (ad 0)), (1, .int (nI i)), (2, .int (nI k))] []
  refine gz_aload_n E dX0_triangleCorner_0 rfl rfl ?_
  refine gz_iload_n E dX0_triangleCorner_1 rfl rfl ?_
  refine gz_cali (n := 1) E 0 dX0_triangleCorner_2 gX0_triangleCorner_X0_isTriangle (mtX0_isTriangle ht _) rfl rfl ⟨rfl, rfl⟩ (by decide +kernel) ⟨Nat.le_of_ble_eq_true rfl, Nat.le_of_ble_eq_true rfl⟩ rfl rfl rfl rfl (Nat.le_of_ble_eq_true rfl) (fun r2 w2 hr2 => ?_)
  obtain ⟨hr2, rfl⟩ := hr2
  refine gz_ifB_ne (tgt := 10) E hr2 dX0_triangleCorner_5 (by decide) (fun q5 => ?_) (fun q5 => ?_)
  · skip
    refine gz_aload_n E dX0_triangleCorner_10 rfl rfl ?_
    refine gz_get E inwX0_triangleCorner 0 3 dX0_triangleCorner_11 flX0_triangleCorner_20 rfl rfl (by decide) rfl rfl ?_
    refine gz_iload_n E dX0_triangleCorner_14 rfl rfl ?_
    refine gz_ialdN E 3 0 dX0_triangleCorner_15 rfl rfl (by decide) rfl (by omega) ?_
    refine gz_iconst (v := nI 4) E dX0_triangleCorner_16 (by decide) ?_
    refine gz_iload_n E dX0_triangleCorner_17 rfl rfl ?_
    refine gz_imulN E dX0_triangleCorner_18 ?_
    refine gz_ishr E dX0_triangleCorner_19 ?_
    refine gz_bipush (v := nI 15) E dX0_triangleCorner_20 (by decide) ?_
    refine gz_iand E dX0_triangleCorner_22 ?_
    exact ret _ _ _ _ dX0_triangleCorner_23 rfl ⟨pg_dig _ hT hk, rfl⟩
  · exact absurd ⟨i, hi, rfl⟩ q5
abbrev rmX0_hasCorner : Room := { frames := 2, cells := 0, slots := 0, locals := 43 }
set_option maxRecDepth 20000 in
set_option maxHeartbeats 4000000 in
theorem mtX0_hasCorner (ht : tc ≤ 23) {i a : Nat} (hi : i < tc) (hT : TT i < 4096) (ha : a < 2 ^ 31) : gz_Ki l yX0_hasCorner wsX0_hasCorner rmX0_hasCorner D [(cI, .int), (cJ, .long)] [.ref (ad 0), .int (nI i), .int (nI a)] (wC ad cI n X Y tc TT NB RG rc KT kc tl GR) (fun r w1 => gz_B r (TT i % 16 = a ∨ TT i / 16 % 16 = a ∨ TT i / 256 % 16 = a) ∧ w1 = (wC ad cI n X Y tc TT NB RG rc KT kc tl GR)) := by
  refine gz_ofi (cc := cX0_hasCorner) (maxL := 3) (own := RX0) (by decide +kernel) rfl rfl rfl (Nat.le_of_ble_eq_true rfl) ?_
  intro z E ret
  show gz_G z _ 0 [(0, .ref (ad 0)), (1, .int (nI i)), (2, .int (nI a))] []
  refine gz_aload_n E dX0_hasCorner_0 rfl rfl ?_
  refine gz_iload_n E dX0_hasCorner_1 rfl rfl ?_
  refine gz_iconst (v := nI 0) E dX0_hasCorner_2 (by decide) ?_
  refine gz_cali (n := 2) E 0 dX0_hasCorner_3 gX0_hasCorner_X0_triangleCorner (mtX0_triangleCorner ht (by assumption) (by assumption) (by decide)) rfl rfl ⟨rfl, rfl⟩ (by decide +kernel) ⟨Nat.le_of_ble_eq_true rfl, Nat.le_of_ble_eq_true rfl⟩ rfl rfl rfl rfl (Nat.le_of_ble_eq_true rfl) (fun r3 w3 hr3 => ?_)
  obtain ⟨rfl, rfl⟩ := hr3
  refine gz_iload_n E dX0_hasCorner_6 rfl rfl ?_
  refine gz_icN_eq (tgt := 30) E dX0_hasCorner_7 (by decide) (by omega) (by omega) (fun q7 => ?_) (fun q7 => ?_)
  · skip
    refine gz_iconst (v := 1) E dX0_hasCorner_30 (by decide) ?_
    refine gz_goto (tgt := 35) E dX0_hasCorner_31 (by decide) ?_
    exact ret _ _ _ _ dX0_hasCorner_35 rfl ⟨by first | exact gz_B_t (by omega) | exact gz_B_f (by omega), rfl⟩
  · skip
    refine gz_aload_n E dX0_hasCorner_10 rfl rfl ?_
    refine gz_iload_n E dX0_hasCorner_11 rfl rfl ?_
    refine gz_iconst (v := nI 1) E dX0_hasCorner_12 (by decide) ?_
    refine gz_cali (n := 2) E 0 dX0_hasCorner_13 gX0_hasCorner_X0_triangleCorner (mtX0_triangleCorner ht (by assumption) (by assumption) (by decide)) rfl rfl ⟨rfl, rfl⟩ (by decide +kernel) ⟨Nat.le_of_ble_eq_true rfl, Nat.le_of_ble_eq_true rfl⟩ rfl rfl rfl rfl (Nat.le_of_ble_eq_true rfl) (fun r13 w13 hr13 => ?_)
    obtain ⟨rfl, rfl⟩ := hr13
    refine gz_iload_n E dX0_hasCorner_16 rfl rfl ?_
    refine gz_icN_eq (tgt := 30) E dX0_hasCorner_17 (by decide) (by omega) (by omega) (fun q17 => ?_) (fun q17 => ?_)
    · skip
      refine gz_iconst (v := 1) E dX0_hasCorner_30 (by decide) ?_
      refine gz_goto (tgt := 35) E dX0_hasCorner_31 (by decide) ?_
      exact ret _ _ _ _ dX0_hasCorner_35 rfl ⟨by first | exact gz_B_t (by omega) | exact gz_B_f (by omega), rfl⟩
    · skip
      refine gz_aload_n E dX0_hasCorner_20 rfl rfl ?_
      refine gz_iload_n E dX0_hasCorner_21 rfl rfl ?_
      refine gz_iconst (v := nI 2) E dX0_hasCorner_22 (by decide) ?_
      refine gz_cali (n := 2) E 0 dX0_hasCorner_23 gX0_hasCorner_X0_triangleCorner (mtX0_triangleCorner ht (by assumption) (by assumption) (by decide)) rfl rfl ⟨rfl, rfl⟩ (by decide +kernel) ⟨Nat.le_of_ble_eq_true rfl, Nat.le_of_ble_eq_true rfl⟩ rfl rfl rfl rfl (Nat.le_of_ble_eq_true rfl) (fun r23 w23 hr23 => ?_)
      obtain ⟨rfl, rfl⟩ := hr23
      refine gz_iload_n E dX0_hasCorner_26 rfl rfl ?_
      refine gz_icN_ne (tgt := 34) E dX0_hasCorner_27 (by decide) (by omega) (by omega) (fun q27 => ?_) (fun q27 => ?_)
      · skip
        refine gz_iconst (v := 0) E dX0_hasCorner_34 (by decide) ?_
        exact ret _ _ _ _ dX0_hasCorner_35 rfl ⟨by first | exact gz_B_t (by omega) | exact gz_B_f (by omega), rfl⟩
      · skip
        refine gz_iconst (v := 1) E dX0_hasCorner_30 (by decide) ?_
        refine gz_goto (tgt := 35) E dX0_hasCorner_31 (by decide) ?_
        exact ret _ _ _ _ dX0_hasCorner_35 rfl ⟨by first | exact gz_B_t (by omega) | exact gz_B_f (by omega), rfl⟩
abbrev rmX0_isTooFar : Room := { frames := 0, cells := 0, slots := 0, locals := 0 }
set_option maxRecDepth 20000 in
set_option maxHeartbeats 4000000 in
theorem mtX0_isTooFar {x : Int} (h1 : -2147483648 ≤ x) (h2 : x < 2147483648) : gz_Si l yX0_isTooFar wsX0_isTooFar rmX0_isTooFar [.int (iI x)] (fun r => gz_B r (x < -30000 ∨ 30000 < x)) := by
  refine gz_sofi (cc := cX0_isTooFar) (maxL := 1) (own := RX0) (by decide +kernel) rfl rfl rfl (Nat.le_of_ble_eq_true rfl) ?_
  intro z D E ret
  show gz_G z _ 0 [(0, .int (iI x))] []
  refine gz_iload_n E dX0_isTooFar_0 rfl rfl ?_
  refine gz_sipush (v := iI (-30000)) E dX0_isTooFar_1 (by decide) ?_
  refine gz_icI_lt (tgt := 14) E dX0_isTooFar_4 (by decide) (by omega) (by omega) (by omega) (by omega) (fun q4 => ?_) (fun q4 => ?_)
  · skip
    refine gz_iconst (v := 1) E dX0_isTooFar_14 (by decide) ?_
    refine gz_goto (tgt := 19) E dX0_isTooFar_15 (by decide) ?_
    exact ret _ _ _ _ dX0_isTooFar_19 rfl (by first | exact gz_B_t (by omega) | exact gz_B_f (by omega))
  · skip
    refine gz_iload_n E dX0_isTooFar_7 rfl rfl ?_
    refine gz_sipush (v := iI (30000)) E dX0_isTooFar_8 (by decide) ?_
    refine gz_icI_le (tgt := 18) E dX0_isTooFar_11 (by decide) (by omega) (by omega) (by omega) (by omega) (fun q11 => ?_) (fun q11 => ?_)
    · skip
      refine gz_iconst (v := 0) E dX0_isTooFar_18 (by decide) ?_
      exact ret _ _ _ _ dX0_isTooFar_19 rfl (by first | exact gz_B_t (by omega) | exact gz_B_f (by omega))
    · skip
      refine gz_iconst (v := 1) E dX0_isTooFar_14 (by decide) ?_
      refine gz_goto (tgt := 19) E dX0_isTooFar_15 (by decide) ?_
      exact ret _ _ _ _ dX0_isTooFar_19 rfl (by first | exact gz_B_t (by omega) | exact gz_B_f (by omega))
abbrev rmX0_siteAt : Room := { frames := 0, cells := 0, slots := 0, locals := 0 }
theorem inwX0_siteAt : ∀ w ∈ wsX00, w ∈ wsX0_siteAt := fun _ h => List.mem_cons_of_mem _ (List.mem_append_right _ h)
set_option maxRecDepth 20000 in
theorem flX0_siteAt_16 : Cond.fieldLink RX0 16 RX0 (TX0 2).2.1 (TX0 2).2.2.1 ∈ wsX0_siteAt := by decide +kernel
set_option maxRecDepth 20000 in
theorem flX0_siteAt_9 : Cond.fieldLink RX0 9 RX0 (TX0 0).2.1 (TX0 0).2.2.1 ∈ wsX0_siteAt := by decide +kernel
set_option maxRecDepth 20000 in
theorem flX0_siteAt_13 : Cond.fieldLink RX0 13 RX0 (TX0 1).2.1 (TX0 1).2.2.1 ∈ wsX0_siteAt := by decide +kernel
set_option maxRecDepth 20000 in
set_option maxHeartbeats 4000000 in
theorem mtX0_siteAt (SB : pg_ok n X Y) {x y : Int} (x1 : -2147483648 ≤ x) (x2 : x < 2147483648) (y1 : -2147483648 ≤ y) (y2 : y < 2147483648) : gz_Ki l yX0_siteAt wsX0_siteAt rmX0_siteAt D [(cI, .int), (cJ, .long)] [.ref (ad 0), .int (iI x), .int (iI y)] (wC ad cI n X Y tc TT NB RG rc KT kc tl GR) (fun r w1 => ((∃ k, k < n ∧ X k = x ∧ Y k = y ∧ r = nI k) ∨ (r = -1 ∧ ∀ k, k < n → ¬ (X k = x ∧ Y k = y))) ∧ w1 = (wC ad cI n X Y tc TT NB RG rc KT kc tl GR)) := by
  refine gz_ofi (cc := cX0_siteAt) (maxL := 4) (own := RX0) (by decide +kernel) rfl rfl rfl (Nat.le_of_ble_eq_true rfl) ?_
  intro z E ret
  have hn := SB.1
  show gz_G z _ 0 [(0, .ref (ad 0)), (1, .int (iI x)), (2, .int (iI y))] []
  have loop : ∀ (f k : Nat), n < f + k → k ≤ n → (∀ j, j < k → ¬ (X j = x ∧ Y j = y)) → gz_G z (wC ad cI n X Y tc TT NB RG rc KT kc tl GR) 2 [(0, .ref (ad 0)), (1, .int (iI x)), (2, .int (iI y)), (3, .int (nI k))] [] := by
    intro f
    induction f with
    | zero => intro k h1 h2; exact absurd h1 (by omega)
    | succ f ih =>
      intro k h1 h2 h3
      refine gz_iload_n E dX0_siteAt_2 rfl rfl ?_
      refine gz_aload_n E dX0_siteAt_3 rfl rfl ?_
      refine gz_get E inwX0_siteAt 0 2 dX0_siteAt_4 flX0_siteAt_16 rfl rfl (by decide) rfl rfl ?_
      refine gz_icN_ge (tgt := 38) E dX0_siteAt_7 (by decide) (by omega) (by omega) (fun q7 => ?_) (fun q7 => ?_)
      · skip
        refine gz_iconst (v := -1) E dX0_siteAt_38 (by decide) ?_
        exact ret _ _ _ _ dX0_siteAt_39 rfl ⟨Or.inr ⟨rfl, fun j hj => h3 j (by omega)⟩, rfl⟩
      · skip
        have hB := SB.2.1 k (by omega)
        refine gz_aload_n E dX0_siteAt_10 rfl rfl ?_
        refine gz_get E inwX0_siteAt 0 0 dX0_siteAt_11 flX0_siteAt_9 rfl rfl (by decide) rfl rfl ?_
        refine gz_iload_n E dX0_siteAt_14 rfl rfl ?_
        refine gz_ialdN E 1 0 dX0_siteAt_15 rfl rfl (by decide) rfl (by omega) ?_
        refine gz_iload_n E dX0_siteAt_16 rfl rfl ?_
        refine gz_icI_ne (tgt := 32) E dX0_siteAt_17 (by decide) (by omega) (by omega) (by omega) (by omega) (fun q17 => ?_) (fun q17 => ?_)
        · skip
          refine gz_iinc (lv' := [(0, _), (1, _), (2, _), (3, _)]) E dX0_siteAt_32 rfl (gz_nI1 _) (by decide) rfl ?_
          refine gz_goto (tgt := 2) E dX0_siteAt_35 (by decide) ?_
          exact ih (k + 1) (by omega) (by omega) (fun j hj => by
            rcases (show j < k ∨ j = k by omega) with e | e
            · exact h3 j e
            · rw [e]; omega)
        · skip
          refine gz_aload_n E dX0_siteAt_20 rfl rfl ?_
          refine gz_get E inwX0_siteAt 0 1 dX0_siteAt_21 flX0_siteAt_13 rfl rfl (by decide) rfl rfl ?_
          refine gz_iload_n E dX0_siteAt_24 rfl rfl ?_
          refine gz_ialdN E 2 0 dX0_siteAt_25 rfl rfl (by decide) rfl (by omega) ?_
          refine gz_iload_n E dX0_siteAt_26 rfl rfl ?_
          refine gz_icI_ne (tgt := 32) E dX0_siteAt_27 (by decide) (by omega) (by omega) (by omega) (by omega) (fun q27 => ?_) (fun q27 => ?_)
          · skip
            refine gz_iinc (lv' := [(0, _), (1, _), (2, _), (3, _)]) E dX0_siteAt_32 rfl (gz_nI1 _) (by decide) rfl ?_
            refine gz_goto (tgt := 2) E dX0_siteAt_35 (by decide) ?_
            exact ih (k + 1) (by omega) (by omega) (fun j hj => by
              rcases (show j < k ∨ j = k by omega) with e | e
              · exact h3 j e
              · rw [e]; omega)
          · skip
            refine gz_iload_n E dX0_siteAt_30 rfl rfl ?_
            exact ret _ _ _ _ dX0_siteAt_31 rfl ⟨Or.inl ⟨k, by omega, by omega, by omega, rfl⟩, rfl⟩
  refine gz_iconst (v := nI 0) E dX0_siteAt_0 (by decide) ?_
  refine gz_istore_n (lv' := [(0, _), (1, _), (2, _), (3, _)]) E dX0_siteAt_1 rfl (by decide) rfl ?_
  exact loop (n + 1) 0 (by omega) (by omega) (fun j hj => absurd hj (by omega))
theorem pg_sg1 {x : Int} (h : 0 < x) : (1 : Int32) = iI (pg_sg x) := by unfold pg_sg; rw [if_pos h]; rfl
theorem pg_sgm {x : Int} (h : x < 0) : (-1 : Int32) = iI (pg_sg x) := by unfold pg_sg; rw [if_neg (by omega), if_pos h]; rfl
theorem pg_sgz {x : Int} (h : x = 0) : (0 : Int32) = iI (pg_sg x) := by unfold pg_sg; rw [if_neg (by omega), if_neg (by omega)]; rfl
abbrev rmX0_circleSide : Room := { frames := 2, cells := 0, slots := 0, locals := 47 }
set_option maxRecDepth 20000 in
theorem cwX0_circleSide_164 : Jvm.Cond.constantLong RX0 164 (1048575) ∈ wsX0_circleSide := by decide +kernel
set_option maxRecDepth 20000 in
set_option maxHeartbeats 4000000 in
theorem mtX0_circleSide (SB : pg_ok n X Y) {a b c d : Nat} (ha : a < n) (hb : b < n) (hc : c < n) (hd : d < n) : gz_Ki l yX0_circleSide wsX0_circleSide rmX0_circleSide D [(cI, .int), (cJ, .long)] [.ref (ad 0), .int (nI a), .int (nI b), .int (nI c), .int (nI d)] (wC ad cI n X Y tc TT NB RG rc KT kc tl GR) (fun r w1 => r = iI (pg_sg (pg_ic X Y a b c d)) ∧ w1 = (wC ad cI n X Y tc TT NB RG rc KT kc tl GR)) := by
  refine gz_ofi (cc := cX0_circleSide) (maxL := 21) (own := RX0) (by decide +kernel) rfl rfl rfl (Nat.le_of_ble_eq_true rfl) ?_
  intro z E ret
  have g1 := pg_gp_b SB hd ha
  have g2 := pg_gp_b SB hd hb
  have g3 := pg_gp_b SB hd hc
  have t1 := pg_tn_b SB hd hb hc
  have t2 := pg_tn_b SB hd hc ha
  have t3 := pg_tn_b SB hd ha hb
  have S : pg_ic X Y a b c d = _ := pg_split (2 ^ 20) (pg_gp X Y d a) (pg_gp X Y d b) (pg_gp X Y d c) (pg_tn X Y d b c) (pg_tn X Y d c a) (pg_tn X Y d a b)
  have m0 := pg_mulb (a := pg_gp X Y d a / 2 ^ 20) (b := pg_tn X Y d b c) (A := 7200) (B := 7200000000) (by omega) (by omega) (by omega) (by omega)
  have l0 := pg_mulb (a := pg_gp X Y d a % 2 ^ 20) (b := pg_tn X Y d b c) (A := 1048576) (B := 7200000000) (by omega) (by omega) (by omega) (by omega)
  have m1 := pg_mulb (a := pg_gp X Y d b / 2 ^ 20) (b := pg_tn X Y d c a) (A := 7200) (B := 7200000000) (by omega) (by omega) (by omega) (by omega)
  have l1 := pg_mulb (a := pg_gp X Y d b % 2 ^ 20) (b := pg_tn X Y d c a) (A := 1048576) (B := 7200000000) (by omega) (by omega) (by omega) (by omega)
  have m2 := pg_mulb (a := pg_gp X Y d c / 2 ^ 20) (b := pg_tn X Y d a b) (A := 7200) (B := 7200000000) (by omega) (by omega) (by omega) (by omega)
  have l2 := pg_mulb (a := pg_gp X Y d c % 2 ^ 20) (b := pg_tn X Y d a b) (A := 1048576) (B := 7200000000) (by omega) (by omega) (by omega) (by omega)
  show gz_G z _ 0 [(0, .ref (ad 0)), (1, .int (nI a)), (2, .int (nI b)), (3, .int (nI c)), (4, .int (nI d))] []
  refine gz_aload_n E dX0_circleSide_0 rfl rfl ?_
  refine gz_iload E dX0_circleSide_1 rfl ?_
  refine gz_iload_n E dX0_circleSide_3 rfl rfl ?_
  refine gz_call (n := 2) E 0 dX0_circleSide_4 gX0_circleSide_X0_gap (mtX0_gap SB (by assumption) (by assumption)) rfl rfl ⟨rfl, rfl⟩ (by decide +kernel) ⟨Nat.le_of_ble_eq_true rfl, Nat.le_of_ble_eq_true rfl⟩ rfl rfl rfl rfl (Nat.le_of_ble_eq_true rfl) (fun r4 w4 hr4 => ?_)
  obtain ⟨rfl, rfl⟩ := hr4
  refine gz_lstore (lv' := [(0, _), (1, _), (2, _), (3, _), (4, _), (5, _)]) E dX0_circleSide_7 (by decide) rfl ?_
  refine gz_aload_n E dX0_circleSide_9 rfl rfl ?_
  refine gz_iload E dX0_circleSide_10 rfl ?_
  refine gz_iload_n E dX0_circleSide_12 rfl rfl ?_
  refine gz_call (n := 2) E 0 dX0_circleSide_13 gX0_circleSide_X0_gap (mtX0_gap SB (by assumption) (by assumption)) rfl rfl ⟨rfl, rfl⟩ (by decide +kernel) ⟨Nat.le_of_ble_eq_true rfl, Nat.le_of_ble_eq_true rfl⟩ rfl rfl rfl rfl (Nat.le_of_ble_eq_true rfl) (fun r13 w13 hr13 => ?_)
  obtain ⟨rfl, rfl⟩ := hr13
  refine gz_lstore (lv' := [(0, _), (1, _), (2, _), (3, _), (4, _), (5, _), (7, _)]) E dX0_circleSide_16 (by decide) rfl ?_
  refine gz_aload_n E dX0_circleSide_18 rfl rfl ?_
  refine gz_iload E dX0_circleSide_19 rfl ?_
  refine gz_iload_n E dX0_circleSide_21 rfl rfl ?_
  refine gz_call (n := 2) E 0 dX0_circleSide_22 gX0_circleSide_X0_gap (mtX0_gap SB (by assumption) (by assumption)) rfl rfl ⟨rfl, rfl⟩ (by decide +kernel) ⟨Nat.le_of_ble_eq_true rfl, Nat.le_of_ble_eq_true rfl⟩ rfl rfl rfl rfl (Nat.le_of_ble_eq_true rfl) (fun r22 w22 hr22 => ?_)
  obtain ⟨rfl, rfl⟩ := hr22
  refine gz_lstore (lv' := [(0, _), (1, _), (2, _), (3, _), (4, _), (5, _), (7, _), (9, _)]) E dX0_circleSide_25 (by decide) rfl ?_
  refine gz_aload_n E dX0_circleSide_27 rfl rfl ?_
  refine gz_iload E dX0_circleSide_28 rfl ?_
  refine gz_iload_n E dX0_circleSide_30 rfl rfl ?_
  refine gz_iload_n E dX0_circleSide_31 rfl rfl ?_
  refine gz_call (n := 3) E 0 dX0_circleSide_32 gX0_circleSide_X0_turn (mtX0_turn SB (by assumption) (by assumption) (by assumption)) rfl rfl ⟨rfl, rfl⟩ (by decide +kernel) ⟨Nat.le_of_ble_eq_true rfl, Nat.le_of_ble_eq_true rfl⟩ rfl rfl rfl rfl (Nat.le_of_ble_eq_true rfl) (fun r32 w32 hr32 => ?_)
  obtain ⟨rfl, rfl⟩ := hr32
  refine gz_lstore (lv' := [(0, _), (1, _), (2, _), (3, _), (4, _), (5, _), (7, _), (9, _), (11, _)]) E dX0_circleSide_35 (by decide) rfl ?_
  refine gz_aload_n E dX0_circleSide_37 rfl rfl ?_
  refine gz_iload E dX0_circleSide_38 rfl ?_
  refine gz_iload_n E dX0_circleSide_40 rfl rfl ?_
  refine gz_iload_n E dX0_circleSide_41 rfl rfl ?_
  refine gz_call (n := 3) E 0 dX0_circleSide_42 gX0_circleSide_X0_turn (mtX0_turn SB (by assumption) (by assumption) (by assumption)) rfl rfl ⟨rfl, rfl⟩ (by decide +kernel) ⟨Nat.le_of_ble_eq_true rfl, Nat.le_of_ble_eq_true rfl⟩ rfl rfl rfl rfl (Nat.le_of_ble_eq_true rfl) (fun r42 w42 hr42 => ?_)
  obtain ⟨rfl, rfl⟩ := hr42
  refine gz_lstore (lv' := [(0, _), (1, _), (2, _), (3, _), (4, _), (5, _), (7, _), (9, _), (11, _), (13, _)]) E dX0_circleSide_45 (by decide) rfl ?_
  refine gz_aload_n E dX0_circleSide_47 rfl rfl ?_
  refine gz_iload E dX0_circleSide_48 rfl ?_
  refine gz_iload_n E dX0_circleSide_50 rfl rfl ?_
  refine gz_iload_n E dX0_circleSide_51 rfl rfl ?_
  refine gz_call (n := 3) E 0 dX0_circleSide_52 gX0_circleSide_X0_turn (mtX0_turn SB (by assumption) (by assumption) (by assumption)) rfl rfl ⟨rfl, rfl⟩ (by decide +kernel) ⟨Nat.le_of_ble_eq_true rfl, Nat.le_of_ble_eq_true rfl⟩ rfl rfl rfl rfl (Nat.le_of_ble_eq_true rfl) (fun r52 w52 hr52 => ?_)
  obtain ⟨rfl, rfl⟩ := hr52
  refine gz_lstore (lv' := [(0, _), (1, _), (2, _), (3, _), (4, _), (5, _), (7, _), (9, _), (11, _), (13, _), (15, _)]) E dX0_circleSide_55 (by decide) rfl ?_
  refine gz_lload E dX0_circleSide_57 rfl ?_
  refine gz_bipush (v := nI 20) E dX0_circleSide_59 (by decide) ?_
  refine gz_lshrI E 20 dX0_circleSide_61 (by decide) (by decide +kernel) (by omega) (by omega) ?_
  refine gz_lload E dX0_circleSide_62 rfl ?_
  refine gz_lmulL E dX0_circleSide_64 ?_
  refine gz_lload E dX0_circleSide_65 rfl ?_
  refine gz_bipush (v := nI 20) E dX0_circleSide_67 (by decide) ?_
  refine gz_lshrI E 20 dX0_circleSide_69 (by decide) (by decide +kernel) (by omega) (by omega) ?_
  refine gz_lload E dX0_circleSide_70 rfl ?_
  refine gz_lmulL E dX0_circleSide_72 ?_
  refine gz_laddL E dX0_circleSide_73 ?_
  refine gz_lload E dX0_circleSide_74 rfl ?_
  refine gz_bipush (v := nI 20) E dX0_circleSide_76 (by decide) ?_
  refine gz_lshrI E 20 dX0_circleSide_78 (by decide) (by decide +kernel) (by omega) (by omega) ?_
  refine gz_lload E dX0_circleSide_79 rfl ?_
  refine gz_lmulL E dX0_circleSide_81 ?_
  refine gz_laddL E dX0_circleSide_82 ?_
  refine gz_lstore (lv' := [(0, _), (1, _), (2, _), (3, _), (4, _), (5, _), (7, _), (9, _), (11, _), (13, _), (15, _), (17, _)]) E dX0_circleSide_83 (by decide) rfl ?_
  refine gz_lload E dX0_circleSide_85 rfl ?_
  refine gz_ldc2 (v := lI 1048575) E dX0_circleSide_87 cwX0_circleSide_164 ?_
  refine gz_landI E 20 dX0_circleSide_90 (by decide) (by decide) ?_
  refine gz_lload E dX0_circleSide_91 rfl ?_
  refine gz_lmulL E dX0_circleSide_93 ?_
  refine gz_lload E dX0_circleSide_94 rfl ?_
  refine gz_ldc2 (v := lI 1048575) E dX0_circleSide_96 cwX0_circleSide_164 ?_
  refine gz_landI E 20 dX0_circleSide_99 (by decide) (by decide) ?_
  refine gz_lload E dX0_circleSide_100 rfl ?_
  refine gz_lmulL E dX0_circleSide_102 ?_
  refine gz_laddL E dX0_circleSide_103 ?_
  refine gz_lload E dX0_circleSide_104 rfl ?_
  refine gz_ldc2 (v := lI 1048575) E dX0_circleSide_106 cwX0_circleSide_164 ?_
  refine gz_landI E 20 dX0_circleSide_109 (by decide) (by decide) ?_
  refine gz_lload E dX0_circleSide_110 rfl ?_
  refine gz_lmulL E dX0_circleSide_112 ?_
  refine gz_laddL E dX0_circleSide_113 ?_
  refine gz_lstore (lv' := [(0, _), (1, _), (2, _), (3, _), (4, _), (5, _), (7, _), (9, _), (11, _), (13, _), (15, _), (17, _), (19, _)]) E dX0_circleSide_114 (by decide) rfl ?_
  refine gz_lload E dX0_circleSide_116 rfl ?_
  refine gz_lload E dX0_circleSide_118 rfl ?_
  refine gz_bipush (v := nI 20) E dX0_circleSide_120 (by decide) ?_
  refine gz_lshrI E 20 dX0_circleSide_122 (by decide) (by decide +kernel) (by omega) (by omega) ?_
  refine gz_laddL E dX0_circleSide_123 ?_
  refine gz_lstore (lv' := [(0, _), (1, _), (2, _), (3, _), (4, _), (5, _), (7, _), (9, _), (11, _), (13, _), (15, _), (17, _), (19, _)]) E dX0_circleSide_124 (by decide) rfl ?_
  refine gz_lload E dX0_circleSide_126 rfl ?_
  refine gz_lconst (v := lI 0) E dX0_circleSide_128 (by decide) ?_
  refine gz_lcL_eq (tgt := 146) E dX0_circleSide_129 dX0_circleSide_130 (by decide) (by omega) (by omega) (by omega) (by omega) (fun q129 => ?_) (fun q129 => ?_)
  · skip
    refine gz_lload E dX0_circleSide_146 rfl ?_
    refine gz_ldc2 (v := lI 1048575) E dX0_circleSide_148 cwX0_circleSide_164 ?_
    refine gz_landI E 20 dX0_circleSide_151 (by decide) (by decide) ?_
    refine gz_lconst (v := lI 0) E dX0_circleSide_152 (by decide) ?_
    refine gz_lcL_eq (tgt := 161) E dX0_circleSide_153 dX0_circleSide_154 (by decide) (by omega) (by omega) (by omega) (by omega) (fun q153 => ?_) (fun q153 => ?_)
    · skip
      refine gz_iconst (v := 0) E dX0_circleSide_161 (by decide) ?_
      exact ret _ _ _ _ dX0_circleSide_162 rfl ⟨by first | exact pg_sg1 (by omega) | exact pg_sgm (by omega) | exact pg_sgz (by omega), rfl⟩
    · skip
      refine gz_iconst (v := 1) E dX0_circleSide_157 (by decide) ?_
      refine gz_goto (tgt := 162) E dX0_circleSide_158 (by decide) ?_
      exact ret _ _ _ _ dX0_circleSide_162 rfl ⟨by first | exact pg_sg1 (by omega) | exact pg_sgm (by omega) | exact pg_sgz (by omega), rfl⟩
  · skip
    refine gz_lload E dX0_circleSide_133 rfl ?_
    refine gz_lconst (v := lI 0) E dX0_circleSide_135 (by decide) ?_
    refine gz_lcL_le (tgt := 144) E dX0_circleSide_136 dX0_circleSide_137 (by decide) (by omega) (by omega) (by omega) (by omega) (fun q136 => ?_) (fun q136 => ?_)
    · skip
      refine gz_iconst (v := -1) E dX0_circleSide_144 (by decide) ?_
      exact ret _ _ _ _ dX0_circleSide_145 rfl ⟨by first | exact pg_sg1 (by omega) | exact pg_sgm (by omega) | exact pg_sgz (by omega), rfl⟩
    · skip
      refine gz_iconst (v := 1) E dX0_circleSide_140 (by decide) ?_
      refine gz_goto (tgt := 145) E dX0_circleSide_141 (by decide) ?_
      exact ret _ _ _ _ dX0_circleSide_145 rfl ⟨by first | exact pg_sg1 (by omega) | exact pg_sgm (by omega) | exact pg_sgz (by omega), rfl⟩
theorem pg_TR_t {n : Nat} {X Y : Nat → Int} {a b c : Nat} (hab : a < b) (hbc : b < c) (hc : c < n) (ht : pg_tn X Y a b c ≠ 0) (h : ∀ d, d < n → pg_Q X Y a b c d) : pg_TR n X Y (a, b, c) := (pg_Q_TR hab hbc hc).mp ⟨ht, h⟩
theorem pg_TR_f0 {n : Nat} {X Y : Nat → Int} {a b c : Nat} (hab : a < b) (hbc : b < c) (hc : c < n) (ht : pg_tn X Y a b c = 0) : ¬ pg_TR n X Y (a, b, c) := fun q => ((pg_Q_TR hab hbc hc).mpr q).1 ht
theorem pg_TR_f {n : Nat} {X Y : Nat → Int} {a b c d : Nat} (hab : a < b) (hbc : b < c) (hc : c < n) (hd : d < n) (h : ¬ pg_Q X Y a b c d) : ¬ pg_TR n X Y (a, b, c) := fun q => h (((pg_Q_TR hab hbc hc).mpr q).2 d hd)
abbrev rmX0_isDueTriangle : Room := { frames := 3, cells := 0, slots := 0, locals := 87 }
theorem inwX0_isDueTriangle : ∀ w ∈ wsX00, w ∈ wsX0_isDueTriangle := fun _ h => List.mem_cons_of_mem _ (List.mem_append_right _ h)
set_option maxRecDepth 20000 in
theorem flX0_isDueTriangle_16 : Cond.fieldLink RX0 16 RX0 (TX0 2).2.1 (TX0 2).2.2.1 ∈ wsX0_isDueTriangle := by decide +kernel
set_option maxRecDepth 20000 in
set_option maxHeartbeats 4000000 in
theorem mtX0_isDueTriangle (SB : pg_ok n X Y) {a b c : Nat} (hab : a < b) (hbc : b < c) (hc : c < n) : gz_Ki l yX0_isDueTriangle wsX0_isDueTriangle rmX0_isDueTriangle D [(cI, .int), (cJ, .long)] [.ref (ad 0), .int (nI a), .int (nI b), .int (nI c)] (wC ad cI n X Y tc TT NB RG rc KT kc tl GR) (fun r w1 => gz_B r (pg_TR n X Y (a, b, c)) ∧ w1 = (wC ad cI n X Y tc TT NB RG rc KT kc tl GR)) := by
  refine gz_ofi (cc := cX0_isDueTriangle) (maxL := 9) (own := RX0) (by decide +kernel) rfl rfl rfl (Nat.le_of_ble_eq_true rfl) ?_
  intro z E ret
  have hn := SB.1
  have ha : a < n := by omega
  have hb : b < n := by omega
  have tb := pg_tn_b SB ha hb hc
  show gz_G z _ 0 [(0, .ref (ad 0)), (1, .int (nI a)), (2, .int (nI b)), (3, .int (nI c))] []
  by_cases ht : pg_tn X Y a b c = 0
  · skip
    refine gz_aload_n E dX0_isDueTriangle_0 rfl rfl ?_
    refine gz_iload_n E dX0_isDueTriangle_1 rfl rfl ?_
    refine gz_iload_n E dX0_isDueTriangle_2 rfl rfl ?_
    refine gz_iload_n E dX0_isDueTriangle_3 rfl rfl ?_
    refine gz_call (n := 3) E 0 dX0_isDueTriangle_4 gX0_isDueTriangle_X0_turn (mtX0_turn SB (by assumption) (by assumption) (by assumption)) rfl rfl ⟨rfl, rfl⟩ (by decide +kernel) ⟨Nat.le_of_ble_eq_true rfl, Nat.le_of_ble_eq_true rfl⟩ rfl rfl rfl rfl (Nat.le_of_ble_eq_true rfl) (fun r4 w4 hr4 => ?_)
    obtain ⟨rfl, rfl⟩ := hr4
    refine gz_lstore (lv' := [(0, _), (1, _), (2, _), (3, _), (4, _)]) E dX0_isDueTriangle_7 (by decide) rfl ?_
    refine gz_lload E dX0_isDueTriangle_9 rfl ?_
    refine gz_lconst (v := lI 0) E dX0_isDueTriangle_11 (by decide) ?_
    refine gz_lcL_ne (tgt := 18) E dX0_isDueTriangle_12 dX0_isDueTriangle_13 (by decide) (by omega) (by omega) (by omega) (by omega) (fun q12 => ?_) (fun q12 => ?_)
    · exact absurd ht q12
    · skip
      refine gz_iconst (v := 0) E dX0_isDueTriangle_16 (by decide) ?_
      exact ret _ _ _ _ dX0_isDueTriangle_17 rfl ⟨gz_B_f (pg_TR_f0 hab hbc hc ht), rfl⟩
  have loop : ∀ (f k : Nat), n < f + k → k ≤ n → (∀ d, d < k → pg_Q X Y a b c d) → gz_G z (wC ad cI n X Y tc TT NB RG rc KT kc tl GR) 21 [(0, .ref (ad 0)), (1, .int (nI a)), (2, .int (nI b)), (3, .int (nI c)), (4, .long (lI (pg_tn X Y a b c))), (6, .int (nI k))] [] := by
    intro f
    induction f with
    | zero => intro k h1 h2; exact absurd h1 (by omega)
    | succ f ih =>
      intro k h1 h2 h3
      refine gz_iload E dX0_isDueTriangle_21 rfl ?_
      refine gz_aload_n E dX0_isDueTriangle_23 rfl rfl ?_
      refine gz_get E inwX0_isDueTriangle 0 2 dX0_isDueTriangle_24 flX0_isDueTriangle_16 rfl rfl (by decide) rfl rfl ?_
      refine gz_icN_ge (tgt := 156) E dX0_isDueTriangle_27 (by decide) (by omega) (by omega) (fun q27 => ?_) (fun q27 => ?_)
      · skip
        refine gz_iconst (v := 1) E dX0_isDueTriangle_156 (by decide) ?_
        exact ret _ _ _ _ dX0_isDueTriangle_157 rfl ⟨by first | exact gz_B_t (pg_TR_t hab hbc hc ht (fun d hd => h3 d (by omega))) | exact gz_B_f (pg_TR_f hab hbc hc (by assumption) (by unfold pg_Q; omega)), rfl⟩
      · skip
        refine gz_iload E dX0_isDueTriangle_30 rfl ?_
        refine gz_iload_n E dX0_isDueTriangle_32 rfl rfl ?_
        refine gz_icN_eq (tgt := 150) E dX0_isDueTriangle_33 (by decide) (by omega) (by omega) (fun q33 => ?_) (fun q33 => ?_)
        · skip
          refine gz_iinc (lv' := [(0, _), (1, _), (2, _), (3, _), (4, _), (6, _)]) E dX0_isDueTriangle_150 rfl (gz_nI1 _) (by decide) rfl ?_
          refine gz_goto (tgt := 21) E dX0_isDueTriangle_153 (by decide) ?_
          exact ih (k + 1) (by omega) (by omega) (fun j hj => by
            rcases (show j < k ∨ j = k by omega) with e | e
            · exact h3 j e
            · rw [e]; unfold pg_Q; omega)
        · skip
          refine gz_iload E dX0_isDueTriangle_36 rfl ?_
          refine gz_iload_n E dX0_isDueTriangle_38 rfl rfl ?_
          refine gz_icN_eq (tgt := 150) E dX0_isDueTriangle_39 (by decide) (by omega) (by omega) (fun q39 => ?_) (fun q39 => ?_)
          · skip
            refine gz_iinc (lv' := [(0, _), (1, _), (2, _), (3, _), (4, _), (6, _)]) E dX0_isDueTriangle_150 rfl (gz_nI1 _) (by decide) rfl ?_
            refine gz_goto (tgt := 21) E dX0_isDueTriangle_153 (by decide) ?_
            exact ih (k + 1) (by omega) (by omega) (fun j hj => by
              rcases (show j < k ∨ j = k by omega) with e | e
              · exact h3 j e
              · rw [e]; unfold pg_Q; omega)
          · skip
            refine gz_iload E dX0_isDueTriangle_42 rfl ?_
            refine gz_iload_n E dX0_isDueTriangle_44 rfl rfl ?_
            refine gz_icN_ne (tgt := 51) E dX0_isDueTriangle_45 (by decide) (by omega) (by omega) (fun q45 => ?_) (fun q45 => ?_)
            · skip
              have hkn : k < n := by omega
              have sb := pg_sg_b (pg_ic X Y a b c k)
              have s1 := pg_sg_pos (x := pg_ic X Y a b c k)
              have s2 := pg_sg_neg (x := pg_ic X Y a b c k)
              have s3 := pg_sg_0 (x := pg_ic X Y a b c k)
              have tk := pg_tn_b SB hb hc hkn
              have cc4 : pg_ic X Y a b c k = 0 → pg_tn X Y b c k ≠ 0 := fun q => pg_cc SB hb hc hkn ht q (by omega) (by omega)
              refine gz_aload_n E dX0_isDueTriangle_51 rfl rfl ?_
              refine gz_iload_n E dX0_isDueTriangle_52 rfl rfl ?_
              refine gz_iload_n E dX0_isDueTriangle_53 rfl rfl ?_
              refine gz_iload_n E dX0_isDueTriangle_54 rfl rfl ?_
              refine gz_iload E dX0_isDueTriangle_55 rfl ?_
              refine gz_cali (n := 4) E 0 dX0_isDueTriangle_57 gX0_isDueTriangle_X0_circleSide (mtX0_circleSide SB (by assumption) (by assumption) (by assumption) (by assumption)) rfl rfl ⟨rfl, rfl⟩ (by decide +kernel) ⟨Nat.le_of_ble_eq_true rfl, Nat.le_of_ble_eq_true rfl⟩ rfl rfl rfl rfl (Nat.le_of_ble_eq_true rfl) (fun r57 w57 hr57 => ?_)
              obtain ⟨rfl, rfl⟩ := hr57
              refine gz_istore (lv' := [(0, _), (1, _), (2, _), (3, _), (4, _), (6, _), (7, _)]) E dX0_isDueTriangle_60 (by decide) rfl ?_
              refine gz_iload E dX0_isDueTriangle_62 rfl ?_
              refine gz_ifI_ne (tgt := 123) E dX0_isDueTriangle_64 (by decide) (by omega) (by omega) (fun q64 => ?_) (fun q64 => ?_)
              · skip
                refine gz_iload E dX0_isDueTriangle_123 rfl ?_
                refine gz_ifI_le (tgt := 132) E dX0_isDueTriangle_125 (by decide) (by omega) (by omega) (fun q125 => ?_) (fun q125 => ?_)
                · skip
                  refine gz_iconst (v := nI 0) E dX0_isDueTriangle_132 (by decide) ?_
                  refine gz_lload E dX0_isDueTriangle_133 rfl ?_
                  refine gz_lconst (v := lI 0) E dX0_isDueTriangle_135 (by decide) ?_
                  refine gz_lcL_le (tgt := 144) E dX0_isDueTriangle_136 dX0_isDueTriangle_137 (by decide) (by omega) (by omega) (by omega) (by omega) (fun q136 => ?_) (fun q136 => ?_)
                  · skip
                    refine gz_iconst (v := nI 0) E dX0_isDueTriangle_144 (by decide) ?_
                    refine gz_icN_ne (tgt := 150) E dX0_isDueTriangle_145 (by decide) (by omega) (by omega) (fun q145 => ?_) (fun q145 => ?_)
                    · skip
                      refine gz_iinc (lv' := [(0, _), (1, _), (2, _), (3, _), (4, _), (6, _), (7, _)]) E dX0_isDueTriangle_150 rfl (gz_nI1 _) (by decide) rfl ?_
                      refine gz_goto (tgt := 21) E dX0_isDueTriangle_153 (by decide) ?_
                      refine gz_sub (lv' := [(0, _), (1, _), (2, _), (3, _), (4, _), (6, _)]) [0, 1, 2, 3, 4, 5] rfl ?_
                      exact ih (k + 1) (by omega) (by omega) (fun j hj => by
                        rcases (show j < k ∨ j = k by omega) with e | e
                        · exact h3 j e
                        · rw [e]; unfold pg_Q; omega)
                    · skip
                      refine gz_iconst (v := 0) E dX0_isDueTriangle_148 (by decide) ?_
                      exact ret _ _ _ _ dX0_isDueTriangle_149 rfl ⟨by first | exact gz_B_t (pg_TR_t hab hbc hc ht (fun d hd => h3 d (by omega))) | exact gz_B_f (pg_TR_f hab hbc hc (by assumption) (by unfold pg_Q; omega)), rfl⟩
                  · skip
                    refine gz_iconst (v := nI 1) E dX0_isDueTriangle_140 (by decide) ?_
                    refine gz_goto (tgt := 145) E dX0_isDueTriangle_141 (by decide) ?_
                    refine gz_icN_ne (tgt := 150) E dX0_isDueTriangle_145 (by decide) (by omega) (by omega) (fun q145 => ?_) (fun q145 => ?_)
                    · skip
                      refine gz_iinc (lv' := [(0, _), (1, _), (2, _), (3, _), (4, _), (6, _), (7, _)]) E dX0_isDueTriangle_150 rfl (gz_nI1 _) (by decide) rfl ?_
                      refine gz_goto (tgt := 21) E dX0_isDueTriangle_153 (by decide) ?_
                      refine gz_sub (lv' := [(0, _), (1, _), (2, _), (3, _), (4, _), (6, _)]) [0, 1, 2, 3, 4, 5] rfl ?_
                      exact ih (k + 1) (by omega) (by omega) (fun j hj => by
                        rcases (show j < k ∨ j = k by omega) with e | e
                        · exact h3 j e
                        · rw [e]; unfold pg_Q; omega)
                    · skip
                      refine gz_iconst (v := 0) E dX0_isDueTriangle_148 (by decide) ?_
                      exact ret _ _ _ _ dX0_isDueTriangle_149 rfl ⟨by first | exact gz_B_t (pg_TR_t hab hbc hc ht (fun d hd => h3 d (by omega))) | exact gz_B_f (pg_TR_f hab hbc hc (by assumption) (by unfold pg_Q; omega)), rfl⟩
                · skip
                  refine gz_iconst (v := nI 1) E dX0_isDueTriangle_128 (by decide) ?_
                  refine gz_goto (tgt := 133) E dX0_isDueTriangle_129 (by decide) ?_
                  refine gz_lload E dX0_isDueTriangle_133 rfl ?_
                  refine gz_lconst (v := lI 0) E dX0_isDueTriangle_135 (by decide) ?_
                  refine gz_lcL_le (tgt := 144) E dX0_isDueTriangle_136 dX0_isDueTriangle_137 (by decide) (by omega) (by omega) (by omega) (by omega) (fun q136 => ?_) (fun q136 => ?_)
                  · skip
                    refine gz_iconst (v := nI 0) E dX0_isDueTriangle_144 (by decide) ?_
                    refine gz_icN_ne (tgt := 150) E dX0_isDueTriangle_145 (by decide) (by omega) (by omega) (fun q145 => ?_) (fun q145 => ?_)
                    · skip
                      refine gz_iinc (lv' := [(0, _), (1, _), (2, _), (3, _), (4, _), (6, _), (7, _)]) E dX0_isDueTriangle_150 rfl (gz_nI1 _) (by decide) rfl ?_
                      refine gz_goto (tgt := 21) E dX0_isDueTriangle_153 (by decide) ?_
                      refine gz_sub (lv' := [(0, _), (1, _), (2, _), (3, _), (4, _), (6, _)]) [0, 1, 2, 3, 4, 5] rfl ?_
                      exact ih (k + 1) (by omega) (by omega) (fun j hj => by
                        rcases (show j < k ∨ j = k by omega) with e | e
                        · exact h3 j e
                        · rw [e]; unfold pg_Q; omega)
                    · skip
                      refine gz_iconst (v := 0) E dX0_isDueTriangle_148 (by decide) ?_
                      exact ret _ _ _ _ dX0_isDueTriangle_149 rfl ⟨by first | exact gz_B_t (pg_TR_t hab hbc hc ht (fun d hd => h3 d (by omega))) | exact gz_B_f (pg_TR_f hab hbc hc (by assumption) (by unfold pg_Q; omega)), rfl⟩
                  · skip
                    refine gz_iconst (v := nI 1) E dX0_isDueTriangle_140 (by decide) ?_
                    refine gz_goto (tgt := 145) E dX0_isDueTriangle_141 (by decide) ?_
                    refine gz_icN_ne (tgt := 150) E dX0_isDueTriangle_145 (by decide) (by omega) (by omega) (fun q145 => ?_) (fun q145 => ?_)
                    · skip
                      refine gz_iinc (lv' := [(0, _), (1, _), (2, _), (3, _), (4, _), (6, _), (7, _)]) E dX0_isDueTriangle_150 rfl (gz_nI1 _) (by decide) rfl ?_
                      refine gz_goto (tgt := 21) E dX0_isDueTriangle_153 (by decide) ?_
                      refine gz_sub (lv' := [(0, _), (1, _), (2, _), (3, _), (4, _), (6, _)]) [0, 1, 2, 3, 4, 5] rfl ?_
                      exact ih (k + 1) (by omega) (by omega) (fun j hj => by
                        rcases (show j < k ∨ j = k by omega) with e | e
                        · exact h3 j e
                        · rw [e]; unfold pg_Q; omega)
                    · skip
                      refine gz_iconst (v := 0) E dX0_isDueTriangle_148 (by decide) ?_
                      exact ret _ _ _ _ dX0_isDueTriangle_149 rfl ⟨by first | exact gz_B_t (pg_TR_t hab hbc hc ht (fun d hd => h3 d (by omega))) | exact gz_B_f (pg_TR_f hab hbc hc (by assumption) (by unfold pg_Q; omega)), rfl⟩
              · skip
                refine gz_aload_n E dX0_isDueTriangle_67 rfl rfl ?_
                refine gz_iload_n E dX0_isDueTriangle_68 rfl rfl ?_
                refine gz_iload_n E dX0_isDueTriangle_69 rfl rfl ?_
                refine gz_iload E dX0_isDueTriangle_70 rfl ?_
                refine gz_call (n := 3) E 0 dX0_isDueTriangle_72 gX0_isDueTriangle_X0_turn (mtX0_turn SB (by assumption) (by assumption) (by assumption)) rfl rfl ⟨rfl, rfl⟩ (by decide +kernel) ⟨Nat.le_of_ble_eq_true rfl, Nat.le_of_ble_eq_true rfl⟩ rfl rfl rfl rfl (Nat.le_of_ble_eq_true rfl) (fun r72 w72 hr72 => ?_)
                obtain ⟨rfl, rfl⟩ := hr72
                refine gz_lconst (v := lI 0) E dX0_isDueTriangle_75 (by decide) ?_
                refine gz_lcL_le (tgt := 84) E dX0_isDueTriangle_76 dX0_isDueTriangle_77 (by decide) (by omega) (by omega) (by omega) (by omega) (fun q76 => ?_) (fun q76 => ?_)
                · skip
                  refine gz_iconst (v := nI 0) E dX0_isDueTriangle_84 (by decide) ?_
                  refine gz_lload E dX0_isDueTriangle_85 rfl ?_
                  refine gz_lconst (v := lI 0) E dX0_isDueTriangle_87 (by decide) ?_
                  refine gz_lcL_le (tgt := 96) E dX0_isDueTriangle_88 dX0_isDueTriangle_89 (by decide) (by omega) (by omega) (by omega) (by omega) (fun q88 => ?_) (fun q88 => ?_)
                  · skip
                    refine gz_iconst (v := nI 0) E dX0_isDueTriangle_96 (by decide) ?_
                    refine gz_icN_eq (tgt := 104) E dX0_isDueTriangle_97 (by decide) (by omega) (by omega) (fun q97 => ?_) (fun q97 => ?_)
                    · skip
                      refine gz_iconst (v := nI 0) E dX0_isDueTriangle_104 (by decide) ?_
                      refine gz_istore (lv' := [(0, _), (1, _), (2, _), (3, _), (4, _), (6, _), (7, _), (8, _)]) E dX0_isDueTriangle_105 (by decide) rfl ?_
                      refine gz_iload E dX0_isDueTriangle_107 rfl ?_
                      refine gz_iload_n E dX0_isDueTriangle_109 rfl rfl ?_
                      refine gz_icN_lt (tgt := 118) E dX0_isDueTriangle_110 (by decide) (by omega) (by omega) (fun q110 => ?_) (fun q110 => ?_)
                      · skip
                        refine gz_iconst (v := 0) E dX0_isDueTriangle_118 (by decide) ?_
                        exact ret _ _ _ _ dX0_isDueTriangle_119 rfl ⟨by first | exact gz_B_t (pg_TR_t hab hbc hc ht (fun d hd => h3 d (by omega))) | exact gz_B_f (pg_TR_f hab hbc hc (by assumption) (by unfold pg_Q; omega)), rfl⟩
                      · skip
                        refine gz_iload E dX0_isDueTriangle_113 rfl ?_
                        refine gz_ifN_eq (tgt := 120) E dX0_isDueTriangle_115 (by decide) (by omega) (fun q115 => ?_) (fun q115 => ?_)
                        · skip
                          refine gz_goto (tgt := 150) E dX0_isDueTriangle_120 (by decide) ?_
                          refine gz_iinc (lv' := [(0, _), (1, _), (2, _), (3, _), (4, _), (6, _), (7, _), (8, _)]) E dX0_isDueTriangle_150 rfl (gz_nI1 _) (by decide) rfl ?_
                          refine gz_goto (tgt := 21) E dX0_isDueTriangle_153 (by decide) ?_
                          refine gz_sub (lv' := [(0, _), (1, _), (2, _), (3, _), (4, _), (6, _)]) [0, 1, 2, 3, 4, 5] rfl ?_
                          exact ih (k + 1) (by omega) (by omega) (fun j hj => by
                            rcases (show j < k ∨ j = k by omega) with e | e
                            · exact h3 j e
                            · rw [e]; unfold pg_Q; omega)
                        · skip
                          refine gz_iconst (v := 0) E dX0_isDueTriangle_118 (by decide) ?_
                          exact ret _ _ _ _ dX0_isDueTriangle_119 rfl ⟨by first | exact gz_B_t (pg_TR_t hab hbc hc ht (fun d hd => h3 d (by omega))) | exact gz_B_f (pg_TR_f hab hbc hc (by assumption) (by unfold pg_Q; omega)), rfl⟩
                    · skip
                      refine gz_iconst (v := nI 1) E dX0_isDueTriangle_100 (by decide) ?_
                      refine gz_goto (tgt := 105) E dX0_isDueTriangle_101 (by decide) ?_
                      refine gz_istore (lv' := [(0, _), (1, _), (2, _), (3, _), (4, _), (6, _), (7, _), (8, _)]) E dX0_isDueTriangle_105 (by decide) rfl ?_
                      refine gz_iload E dX0_isDueTriangle_107 rfl ?_
                      refine gz_iload_n E dX0_isDueTriangle_109 rfl rfl ?_
                      refine gz_icN_lt (tgt := 118) E dX0_isDueTriangle_110 (by decide) (by omega) (by omega) (fun q110 => ?_) (fun q110 => ?_)
                      · skip
                        refine gz_iconst (v := 0) E dX0_isDueTriangle_118 (by decide) ?_
                        exact ret _ _ _ _ dX0_isDueTriangle_119 rfl ⟨by first | exact gz_B_t (pg_TR_t hab hbc hc ht (fun d hd => h3 d (by omega))) | exact gz_B_f (pg_TR_f hab hbc hc (by assumption) (by unfold pg_Q; omega)), rfl⟩
                      · skip
                        refine gz_iload E dX0_isDueTriangle_113 rfl ?_
                        refine gz_ifN_eq (tgt := 120) E dX0_isDueTriangle_115 (by decide) (by omega) (fun q115 => ?_) (fun q115 => ?_)
                        · skip
                          refine gz_goto (tgt := 150) E dX0_isDueTriangle_120 (by decide) ?_
                          refine gz_iinc (lv' := [(0, _), (1, _), (2, _), (3, _), (4, _), (6, _), (7, _), (8, _)]) E dX0_isDueTriangle_150 rfl (gz_nI1 _) (by decide) rfl ?_
                          refine gz_goto (tgt := 21) E dX0_isDueTriangle_153 (by decide) ?_
                          refine gz_sub (lv' := [(0, _), (1, _), (2, _), (3, _), (4, _), (6, _)]) [0, 1, 2, 3, 4, 5] rfl ?_
                          exact ih (k + 1) (by omega) (by omega) (fun j hj => by
                            rcases (show j < k ∨ j = k by omega) with e | e
                            · exact h3 j e
                            · rw [e]; unfold pg_Q; omega)
                        · skip
                          refine gz_iconst (v := 0) E dX0_isDueTriangle_118 (by decide) ?_
                          exact ret _ _ _ _ dX0_isDueTriangle_119 rfl ⟨by first | exact gz_B_t (pg_TR_t hab hbc hc ht (fun d hd => h3 d (by omega))) | exact gz_B_f (pg_TR_f hab hbc hc (by assumption) (by unfold pg_Q; omega)), rfl⟩
                  · skip
                    refine gz_iconst (v := nI 1) E dX0_isDueTriangle_92 (by decide) ?_
                    refine gz_goto (tgt := 97) E dX0_isDueTriangle_93 (by decide) ?_
                    refine gz_icN_eq (tgt := 104) E dX0_isDueTriangle_97 (by decide) (by omega) (by omega) (fun q97 => ?_) (fun q97 => ?_)
                    · skip
                      refine gz_iconst (v := nI 0) E dX0_isDueTriangle_104 (by decide) ?_
                      refine gz_istore (lv' := [(0, _), (1, _), (2, _), (3, _), (4, _), (6, _), (7, _), (8, _)]) E dX0_isDueTriangle_105 (by decide) rfl ?_
                      refine gz_iload E dX0_isDueTriangle_107 rfl ?_
                      refine gz_iload_n E dX0_isDueTriangle_109 rfl rfl ?_
                      refine gz_icN_lt (tgt := 118) E dX0_isDueTriangle_110 (by decide) (by omega) (by omega) (fun q110 => ?_) (fun q110 => ?_)
                      · skip
                        refine gz_iconst (v := 0) E dX0_isDueTriangle_118 (by decide) ?_
                        exact ret _ _ _ _ dX0_isDueTriangle_119 rfl ⟨by first | exact gz_B_t (pg_TR_t hab hbc hc ht (fun d hd => h3 d (by omega))) | exact gz_B_f (pg_TR_f hab hbc hc (by assumption) (by unfold pg_Q; omega)), rfl⟩
                      · skip
                        refine gz_iload E dX0_isDueTriangle_113 rfl ?_
                        refine gz_ifN_eq (tgt := 120) E dX0_isDueTriangle_115 (by decide) (by omega) (fun q115 => ?_) (fun q115 => ?_)
                        · skip
                          refine gz_goto (tgt := 150) E dX0_isDueTriangle_120 (by decide) ?_
                          refine gz_iinc (lv' := [(0, _), (1, _), (2, _), (3, _), (4, _), (6, _), (7, _), (8, _)]) E dX0_isDueTriangle_150 rfl (gz_nI1 _) (by decide) rfl ?_
                          refine gz_goto (tgt := 21) E dX0_isDueTriangle_153 (by decide) ?_
                          refine gz_sub (lv' := [(0, _), (1, _), (2, _), (3, _), (4, _), (6, _)]) [0, 1, 2, 3, 4, 5] rfl ?_
                          exact ih (k + 1) (by omega) (by omega) (fun j hj => by
                            rcases (show j < k ∨ j = k by omega) with e | e
                            · exact h3 j e
                            · rw [e]; unfold pg_Q; omega)
                        · skip
                          refine gz_iconst (v := 0) E dX0_isDueTriangle_118 (by decide) ?_
                          exact ret _ _ _ _ dX0_isDueTriangle_119 rfl ⟨by first | exact gz_B_t (pg_TR_t hab hbc hc ht (fun d hd => h3 d (by omega))) | exact gz_B_f (pg_TR_f hab hbc hc (by assumption) (by unfold pg_Q; omega)), rfl⟩
                    · skip
                      refine gz_iconst (v := nI 1) E dX0_isDueTriangle_100 (by decide) ?_
                      refine gz_goto (tgt := 105) E dX0_isDueTriangle_101 (by decide) ?_
                      refine gz_istore (lv' := [(0, _), (1, _), (2, _), (3, _), (4, _), (6, _), (7, _), (8, _)]) E dX0_isDueTriangle_105 (by decide) rfl ?_
                      refine gz_iload E dX0_isDueTriangle_107 rfl ?_
                      refine gz_iload_n E dX0_isDueTriangle_109 rfl rfl ?_
                      refine gz_icN_lt (tgt := 118) E dX0_isDueTriangle_110 (by decide) (by omega) (by omega) (fun q110 => ?_) (fun q110 => ?_)
                      · skip
                        refine gz_iconst (v := 0) E dX0_isDueTriangle_118 (by decide) ?_
                        exact ret _ _ _ _ dX0_isDueTriangle_119 rfl ⟨by first | exact gz_B_t (pg_TR_t hab hbc hc ht (fun d hd => h3 d (by omega))) | exact gz_B_f (pg_TR_f hab hbc hc (by assumption) (by unfold pg_Q; omega)), rfl⟩
                      · skip
                        refine gz_iload E dX0_isDueTriangle_113 rfl ?_
                        refine gz_ifN_eq (tgt := 120) E dX0_isDueTriangle_115 (by decide) (by omega) (fun q115 => ?_) (fun q115 => ?_)
                        · skip
                          refine gz_goto (tgt := 150) E dX0_isDueTriangle_120 (by decide) ?_
                          refine gz_iinc (lv' := [(0, _), (1, _), (2, _), (3, _), (4, _), (6, _), (7, _), (8, _)]) E dX0_isDueTriangle_150 rfl (gz_nI1 _) (by decide) rfl ?_
                          refine gz_goto (tgt := 21) E dX0_isDueTriangle_153 (by decide) ?_
                          refine gz_sub (lv' := [(0, _), (1, _), (2, _), (3, _), (4, _), (6, _)]) [0, 1, 2, 3, 4, 5] rfl ?_
                          exact ih (k + 1) (by omega) (by omega) (fun j hj => by
                            rcases (show j < k ∨ j = k by omega) with e | e
                            · exact h3 j e
                            · rw [e]; unfold pg_Q; omega)
                        · skip
                          refine gz_iconst (v := 0) E dX0_isDueTriangle_118 (by decide) ?_
                          exact ret _ _ _ _ dX0_isDueTriangle_119 rfl ⟨by first | exact gz_B_t (pg_TR_t hab hbc hc ht (fun d hd => h3 d (by omega))) | exact gz_B_f (pg_TR_f hab hbc hc (by assumption) (by unfold pg_Q; omega)), rfl⟩
                · skip
                  refine gz_iconst (v := nI 1) E dX0_isDueTriangle_80 (by decide) ?_
                  refine gz_goto (tgt := 85) E dX0_isDueTriangle_81 (by decide) ?_
                  refine gz_lload E dX0_isDueTriangle_85 rfl ?_
                  refine gz_lconst (v := lI 0) E dX0_isDueTriangle_87 (by decide) ?_
                  refine gz_lcL_le (tgt := 96) E dX0_isDueTriangle_88 dX0_isDueTriangle_89 (by decide) (by omega) (by omega) (by omega) (by omega) (fun q88 => ?_) (fun q88 => ?_)
                  · skip
                    refine gz_iconst (v := nI 0) E dX0_isDueTriangle_96 (by decide) ?_
                    refine gz_icN_eq (tgt := 104) E dX0_isDueTriangle_97 (by decide) (by omega) (by omega) (fun q97 => ?_) (fun q97 => ?_)
                    · skip
                      refine gz_iconst (v := nI 0) E dX0_isDueTriangle_104 (by decide) ?_
                      refine gz_istore (lv' := [(0, _), (1, _), (2, _), (3, _), (4, _), (6, _), (7, _), (8, _)]) E dX0_isDueTriangle_105 (by decide) rfl ?_
                      refine gz_iload E dX0_isDueTriangle_107 rfl ?_
                      refine gz_iload_n E dX0_isDueTriangle_109 rfl rfl ?_
                      refine gz_icN_lt (tgt := 118) E dX0_isDueTriangle_110 (by decide) (by omega) (by omega) (fun q110 => ?_) (fun q110 => ?_)
                      · skip
                        refine gz_iconst (v := 0) E dX0_isDueTriangle_118 (by decide) ?_
                        exact ret _ _ _ _ dX0_isDueTriangle_119 rfl ⟨by first | exact gz_B_t (pg_TR_t hab hbc hc ht (fun d hd => h3 d (by omega))) | exact gz_B_f (pg_TR_f hab hbc hc (by assumption) (by unfold pg_Q; omega)), rfl⟩
                      · skip
                        refine gz_iload E dX0_isDueTriangle_113 rfl ?_
                        refine gz_ifN_eq (tgt := 120) E dX0_isDueTriangle_115 (by decide) (by omega) (fun q115 => ?_) (fun q115 => ?_)
                        · skip
                          refine gz_goto (tgt := 150) E dX0_isDueTriangle_120 (by decide) ?_
                          refine gz_iinc (lv' := [(0, _), (1, _), (2, _), (3, _), (4, _), (6, _), (7, _), (8, _)]) E dX0_isDueTriangle_150 rfl (gz_nI1 _) (by decide) rfl ?_
                          refine gz_goto (tgt := 21) E dX0_isDueTriangle_153 (by decide) ?_
                          refine gz_sub (lv' := [(0, _), (1, _), (2, _), (3, _), (4, _), (6, _)]) [0, 1, 2, 3, 4, 5] rfl ?_
                          exact ih (k + 1) (by omega) (by omega) (fun j hj => by
                            rcases (show j < k ∨ j = k by omega) with e | e
                            · exact h3 j e
                            · rw [e]; unfold pg_Q; omega)
                        · skip
                          refine gz_iconst (v := 0) E dX0_isDueTriangle_118 (by decide) ?_
                          exact ret _ _ _ _ dX0_isDueTriangle_119 rfl ⟨by first | exact gz_B_t (pg_TR_t hab hbc hc ht (fun d hd => h3 d (by omega))) | exact gz_B_f (pg_TR_f hab hbc hc (by assumption) (by unfold pg_Q; omega)), rfl⟩
                    · skip
                      refine gz_iconst (v := nI 1) E dX0_isDueTriangle_100 (by decide) ?_
                      refine gz_goto (tgt := 105) E dX0_isDueTriangle_101 (by decide) ?_
                      refine gz_istore (lv' := [(0, _), (1, _), (2, _), (3, _), (4, _), (6, _), (7, _), (8, _)]) E dX0_isDueTriangle_105 (by decide) rfl ?_
                      refine gz_iload E dX0_isDueTriangle_107 rfl ?_
                      refine gz_iload_n E dX0_isDueTriangle_109 rfl rfl ?_
                      refine gz_icN_lt (tgt := 118) E dX0_isDueTriangle_110 (by decide) (by omega) (by omega) (fun q110 => ?_) (fun q110 => ?_)
                      · skip
                        refine gz_iconst (v := 0) E dX0_isDueTriangle_118 (by decide) ?_
                        exact ret _ _ _ _ dX0_isDueTriangle_119 rfl ⟨by first | exact gz_B_t (pg_TR_t hab hbc hc ht (fun d hd => h3 d (by omega))) | exact gz_B_f (pg_TR_f hab hbc hc (by assumption) (by unfold pg_Q; omega)), rfl⟩
                      · skip
                        refine gz_iload E dX0_isDueTriangle_113 rfl ?_
                        refine gz_ifN_eq (tgt := 120) E dX0_isDueTriangle_115 (by decide) (by omega) (fun q115 => ?_) (fun q115 => ?_)
                        · skip
                          refine gz_goto (tgt := 150) E dX0_isDueTriangle_120 (by decide) ?_
                          refine gz_iinc (lv' := [(0, _), (1, _), (2, _), (3, _), (4, _), (6, _), (7, _), (8, _)]) E dX0_isDueTriangle_150 rfl (gz_nI1 _) (by decide) rfl ?_
                          refine gz_goto (tgt := 21) E dX0_isDueTriangle_153 (by decide) ?_
                          refine gz_sub (lv' := [(0, _), (1, _), (2, _), (3, _), (4, _), (6, _)]) [0, 1, 2, 3, 4, 5] rfl ?_
                          exact ih (k + 1) (by omega) (by omega) (fun j hj => by
                            rcases (show j < k ∨ j = k by omega) with e | e
                            · exact h3 j e
                            · rw [e]; unfold pg_Q; omega)
                        · skip
                          refine gz_iconst (v := 0) E dX0_isDueTriangle_118 (by decide) ?_
                          exact ret _ _ _ _ dX0_isDueTriangle_119 rfl ⟨by first | exact gz_B_t (pg_TR_t hab hbc hc ht (fun d hd => h3 d (by omega))) | exact gz_B_f (pg_TR_f hab hbc hc (by assumption) (by unfold pg_Q; omega)), rfl⟩
                  · skip
                    refine gz_iconst (v := nI 1) E dX0_isDueTriangle_92 (by decide) ?_
                    refine gz_goto (tgt := 97) E dX0_isDueTriangle_93 (by decide) ?_
                    refine gz_icN_eq (tgt := 104) E dX0_isDueTriangle_97 (by decide) (by omega) (by omega) (fun q97 => ?_) (fun q97 => ?_)
                    · skip
                      refine gz_iconst (v := nI 0) E dX0_isDueTriangle_104 (by decide) ?_
                      refine gz_istore (lv' := [(0, _), (1, _), (2, _), (3, _), (4, _), (6, _), (7, _), (8, _)]) E dX0_isDueTriangle_105 (by decide) rfl ?_
                      refine gz_iload E dX0_isDueTriangle_107 rfl ?_
                      refine gz_iload_n E dX0_isDueTriangle_109 rfl rfl ?_
                      refine gz_icN_lt (tgt := 118) E dX0_isDueTriangle_110 (by decide) (by omega) (by omega) (fun q110 => ?_) (fun q110 => ?_)
                      · skip
                        refine gz_iconst (v := 0) E dX0_isDueTriangle_118 (by decide) ?_
                        exact ret _ _ _ _ dX0_isDueTriangle_119 rfl ⟨by first | exact gz_B_t (pg_TR_t hab hbc hc ht (fun d hd => h3 d (by omega))) | exact gz_B_f (pg_TR_f hab hbc hc (by assumption) (by unfold pg_Q; omega)), rfl⟩
                      · skip
                        refine gz_iload E dX0_isDueTriangle_113 rfl ?_
                        refine gz_ifN_eq (tgt := 120) E dX0_isDueTriangle_115 (by decide) (by omega) (fun q115 => ?_) (fun q115 => ?_)
                        · skip
                          refine gz_goto (tgt := 150) E dX0_isDueTriangle_120 (by decide) ?_
                          refine gz_iinc (lv' := [(0, _), (1, _), (2, _), (3, _), (4, _), (6, _), (7, _), (8, _)]) E dX0_isDueTriangle_150 rfl (gz_nI1 _) (by decide) rfl ?_
                          refine gz_goto (tgt := 21) E dX0_isDueTriangle_153 (by decide) ?_
                          refine gz_sub (lv' := [(0, _), (1, _), (2, _), (3, _), (4, _), (6, _)]) [0, 1, 2, 3, 4, 5] rfl ?_
                          exact ih (k + 1) (by omega) (by omega) (fun j hj => by
                            rcases (show j < k ∨ j = k by omega) with e | e
                            · exact h3 j e
                            · rw [e]; unfold pg_Q; omega)
                        · skip
                          refine gz_iconst (v := 0) E dX0_isDueTriangle_118 (by decide) ?_
                          exact ret _ _ _ _ dX0_isDueTriangle_119 rfl ⟨by first | exact gz_B_t (pg_TR_t hab hbc hc ht (fun d hd => h3 d (by omega))) | exact gz_B_f (pg_TR_f hab hbc hc (by assumption) (by unfold pg_Q; omega)), rfl⟩
                    · skip
                      refine gz_iconst (v := nI 1) E dX0_isDueTriangle_100 (by decide) ?_
                      refine gz_goto (tgt := 105) E dX0_isDueTriangle_101 (by decide) ?_
                      refine gz_istore (lv' := [(0, _), (1, _), (2, _), (3, _), (4, _), (6, _), (7, _), (8, _)]) E dX0_isDueTriangle_105 (by decide) rfl ?_
                      refine gz_iload E dX0_isDueTriangle_107 rfl ?_
                      refine gz_iload_n E dX0_isDueTriangle_109 rfl rfl ?_
                      refine gz_icN_lt (tgt := 118) E dX0_isDueTriangle_110 (by decide) (by omega) (by omega) (fun q110 => ?_) (fun q110 => ?_)
                      · skip
                        refine gz_iconst (v := 0) E dX0_isDueTriangle_118 (by decide) ?_
                        exact ret _ _ _ _ dX0_isDueTriangle_119 rfl ⟨by first | exact gz_B_t (pg_TR_t hab hbc hc ht (fun d hd => h3 d (by omega))) | exact gz_B_f (pg_TR_f hab hbc hc (by assumption) (by unfold pg_Q; omega)), rfl⟩
                      · skip
                        refine gz_iload E dX0_isDueTriangle_113 rfl ?_
                        refine gz_ifN_eq (tgt := 120) E dX0_isDueTriangle_115 (by decide) (by omega) (fun q115 => ?_) (fun q115 => ?_)
                        · skip
                          refine gz_goto (tgt := 150) E dX0_isDueTriangle_120 (by decide) ?_
                          refine gz_iinc (lv' := [(0, _), (1, _), (2, _), (3, _), (4, _), (6, _), (7, _), (8, _)]) E dX0_isDueTriangle_150 rfl (gz_nI1 _) (by decide) rfl ?_
                          refine gz_goto (tgt := 21) E dX0_isDueTriangle_153 (by decide) ?_
                          refine gz_sub (lv' := [(0, _), (1, _), (2, _), (3, _), (4, _), (6, _)]) [0, 1, 2, 3, 4, 5] rfl ?_
                          exact ih (k + 1) (by omega) (by omega) (fun j hj => by
                            rcases (show j < k ∨ j = k by omega) with e | e
                            · exact h3 j e
                            · rw [e]; unfold pg_Q; omega)
                        · skip
                          refine gz_iconst (v := 0) E dX0_isDueTriangle_118 (by decide) ?_
                          exact ret _ _ _ _ dX0_isDueTriangle_119 rfl ⟨by first | exact gz_B_t (pg_TR_t hab hbc hc ht (fun d hd => h3 d (by omega))) | exact gz_B_f (pg_TR_f hab hbc hc (by assumption) (by unfold pg_Q; omega)), rfl⟩
            · skip
              refine gz_goto (tgt := 150) E dX0_isDueTriangle_48 (by decide) ?_
              refine gz_iinc (lv' := [(0, _), (1, _), (2, _), (3, _), (4, _), (6, _)]) E dX0_isDueTriangle_150 rfl (gz_nI1 _) (by decide) rfl ?_
              refine gz_goto (tgt := 21) E dX0_isDueTriangle_153 (by decide) ?_
              exact ih (k + 1) (by omega) (by omega) (fun j hj => by
                rcases (show j < k ∨ j = k by omega) with e | e
                · exact h3 j e
                · rw [e]; unfold pg_Q; omega)
  refine gz_aload_n E dX0_isDueTriangle_0 rfl rfl ?_
  refine gz_iload_n E dX0_isDueTriangle_1 rfl rfl ?_
  refine gz_iload_n E dX0_isDueTriangle_2 rfl rfl ?_
  refine gz_iload_n E dX0_isDueTriangle_3 rfl rfl ?_
  refine gz_call (n := 3) E 0 dX0_isDueTriangle_4 gX0_isDueTriangle_X0_turn (mtX0_turn SB (by assumption) (by assumption) (by assumption)) rfl rfl ⟨rfl, rfl⟩ (by decide +kernel) ⟨Nat.le_of_ble_eq_true rfl, Nat.le_of_ble_eq_true rfl⟩ rfl rfl rfl rfl (Nat.le_of_ble_eq_true rfl) (fun r4 w4 hr4 => ?_)
  obtain ⟨rfl, rfl⟩ := hr4
  refine gz_lstore (lv' := [(0, _), (1, _), (2, _), (3, _), (4, _)]) E dX0_isDueTriangle_7 (by decide) rfl ?_
  refine gz_lload E dX0_isDueTriangle_9 rfl ?_
  refine gz_lconst (v := lI 0) E dX0_isDueTriangle_11 (by decide) ?_
  refine gz_lcL_ne (tgt := 18) E dX0_isDueTriangle_12 dX0_isDueTriangle_13 (by decide) (by omega) (by omega) (by omega) (by omega) (fun q12 => ?_) (fun q12 => ?_)
  · skip
    refine gz_iconst (v := nI 0) E dX0_isDueTriangle_18 (by decide) ?_
    refine gz_istore (lv' := [(0, _), (1, _), (2, _), (3, _), (4, _), (6, _)]) E dX0_isDueTriangle_19 (by decide) rfl ?_
    exact loop (n + 1) 0 (by omega) (by omega) (fun j hj => absurd hj (by omega))
  · exact absurd q12 ht
end CB
