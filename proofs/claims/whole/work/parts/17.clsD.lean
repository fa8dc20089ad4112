/-! the class: the making of the triangles, of the edges, of the ring, of the tree -/
section CD
variable {l : Launch} {D : va_G} {ad : Nat → Nat} {cI cJ : ClassId} {n tc rc kc : Nat} {X Y : Nat → Int} {TT NB RG KT GR : Nat → Nat} {tl : Int}
theorem gz_orN (a b : Nat) : nI a ||| nI b = nI (a ||| b) := by
  apply Int32.toBitVec_inj.1
  show BitVec.ofNat 32 a ||| BitVec.ofNat 32 b = BitVec.ofNat 32 (a ||| b)
  apply BitVec.eq_of_getLsbD_eq
  intro i hi
  simp [hi]
theorem gz_sm : ∀ k, k < 32 → ((nI k &&& 31).toBitVec.smod 32).toNat = k := by decide +kernel
theorem gz_or3 : ∀ a, a < 16 → ∀ b, b < 16 → ∀ c, c < 16 → (a ||| b * 16) ||| c * 256 = a + 16 * b + 256 * c := by decide +kernel
theorem gz_or2 : ∀ a, a < 16 → ∀ b, b < 16 → a ||| b * 16 = a + 16 * b := by decide +kernel
theorem gz_pk3 {a b c : Nat} (ha : a < 16) (hb : b < 16) (hc : c < 16) : (nI a ||| (nI b <<< (nI 4 &&& 31))) ||| (nI c <<< (nI 8 &&& 31)) = nI (a + 16 * b + 256 * c) := by
  rw [pk_shlN _ 4 (gz_sm 4 (by decide)) (by omega), pk_shlN _ 8 (gz_sm 8 (by decide)) (by omega), gz_orN, gz_orN]
  exact congrArg nI (gz_or3 a ha b hb c hc)
theorem gz_pk2 {a b : Nat} (ha : a < 16) (hb : b < 16) : nI a ||| (nI b <<< (nI 4 &&& 31)) = nI (a + 16 * b) := by
  rw [pk_shlN _ 4 (gz_sm 4 (by decide)) (by omega), gz_orN]
  exact congrArg nI (gz_or2 a ha b hb)
abbrev rmX0_keepTriangle : Room := { frames := 0, cells := 0, slots := 0, locals := 0 }
theorem inwX0_keepTriangle : ∀ w ∈ wsX00, w ∈ wsX0_keepTriangle := fun _ h => List.mem_cons_of_mem _ (List.mem_append_right _ h)
set_option maxRecDepth 20000 in
theorem flX0_keepTriangle_23 : Cond.fieldLink RX0 23 RX0 (TX0 4).2.1 (TX0 4).2.2.1 ∈ wsX0_keepTriangle := by decide +kernel
set_option maxRecDepth 20000 in
theorem flX0_keepTriangle_20 : Cond.fieldLink RX0 20 RX0 (TX0 3).2.1 (TX0 3).2.2.1 ∈ wsX0_keepTriangle := by decide +kernel
set_option maxRecDepth 20000 in
set_option maxHeartbeats 4000000 in
theorem mtX0_keepTriangle {a b c : Nat} (htc : tc < 23) (ha : a < 16) (hb : b < 16) (hc : c < 16) : gz_Kv l yX0_keepTriangle wsX0_keepTriangle rmX0_keepTriangle D [(cI, .int), (cJ, .long)] [.ref (ad 0), .int (nI a), .int (nI b), .int (nI c)] (wC ad cI n X Y tc TT NB RG rc KT kc tl GR) (fun w1 => w1 = (wC ad cI n X Y (tc + 1) (fun i => if i = tc then a + 16 * b + 256 * c else TT i) NB RG rc KT kc tl GR)) := by
  refine gz_ofv (cc := cX0_keepTriangle) (maxL := 4) (own := RX0) (by decide +kernel) rfl rfl rfl (Nat.le_of_ble_eq_true rfl) ?_
  intro z E ret
  show gz_G z _ 0 [(0, .ref (ad 0)), (1, .int (nI a)), (2, .int (nI b)), (3, .int (nI c))] []
  refine gz_aload_n E dX0_keepTriangle_0 rfl rfl ?_
  refine gz_get E inwX0_keepTriangle 0 4 dX0_keepTriangle_1 flX0_keepTriangle_23 rfl rfl (by decide) rfl rfl ?_
  refine gz_bipush (v := nI 23) E dX0_keepTriangle_4 (by decide) ?_
  refine gz_icN_ge (tgt := 38) E dX0_keepTriangle_6 (by decide) (by omega) (by omega) (fun q6 => ?_) (fun q6 => ?_)
  · exact absurd q6 (by omega)
  · skip
    refine gz_aload_n E dX0_keepTriangle_9 rfl rfl ?_
    refine gz_get E inwX0_keepTriangle 0 3 dX0_keepTriangle_10 flX0_keepTriangle_20 rfl rfl (by decide) rfl rfl ?_
    refine gz_aload_n E dX0_keepTriangle_13 rfl rfl ?_
    refine gz_get E inwX0_keepTriangle 0 4 dX0_keepTriangle_14 flX0_keepTriangle_23 rfl rfl (by decide) rfl rfl ?_
    refine gz_iload_n E dX0_keepTriangle_17 rfl rfl ?_
    refine gz_iload_n E dX0_keepTriangle_18 rfl rfl ?_
    refine gz_iconst (v := nI 4) E dX0_keepTriangle_19 (by decide) ?_
    refine gz_ishl E dX0_keepTriangle_20 ?_
    refine gz_ior E dX0_keepTriangle_21 ?_
    refine gz_iload_n E dX0_keepTriangle_22 rfl rfl ?_
    refine gz_bipush (v := nI 8) E dX0_keepTriangle_23 (by decide) ?_
    refine gz_ishl E dX0_keepTriangle_25 ?_
    refine gz_ior E dX0_keepTriangle_26 ?_
    refine gz_s (congrArg (fun q => Value.int q :: _) (gz_pk3 ha hb hc)) ?_
    refine gz_iastN E 3 0 dX0_keepTriangle_27 rfl rfl (by decide) (by omega) ?_
    refine gz_w (ws' := (wC ad cI n X Y tc (fun i => if i = tc then a + 16 * b + 256 * c else TT i) NB RG rc KT kc tl GR)) (by rw [gz_upN]; rfl) ?_
    refine gz_aload_n E dX0_keepTriangle_28 rfl rfl ?_
    refine gz_dup E dX0_keepTriangle_29 rfl ?_
    refine gz_get E inwX0_keepTriangle 0 4 dX0_keepTriangle_30 flX0_keepTriangle_23 rfl rfl (by decide) rfl rfl ?_
    refine gz_iconst (v := nI 1) E dX0_keepTriangle_33 (by decide) ?_
    refine gz_iaddN E dX0_keepTriangle_34 ?_
    refine gz_put E inwX0_keepTriangle 0 4 dX0_keepTriangle_35 flX0_keepTriangle_23 rfl rfl (by decide) rfl tyX0 tyX0_ok nmX0 rfl rfl rfl (Nat.le_of_ble_eq_true rfl) ?_
    refine gz_w (ws' := (wC ad cI n X Y (tc + 1) (fun i => if i = tc then a + 16 * b + 256 * c else TT i) NB RG rc KT kc tl GR)) (by rfl) ?_
    exact ret _ _ _ dX0_keepTriangle_38 rfl
abbrev rmX0_findTriangles : Room := { frames := 4, cells := 0, slots := 0, locals := 115 }
theorem inwX0_findTriangles : ∀ w ∈ wsX00, w ∈ wsX0_findTriangles := fun _ h => List.mem_cons_of_mem _ (List.mem_append_right _ h)
set_option maxRecDepth 20000 in
theorem flX0_findTriangles_16 : Cond.fieldLink RX0 16 RX0 (TX0 2).2.1 (TX0 2).2.2.1 ∈ wsX0_findTriangles := by decide +kernel
set_option maxRecDepth 20000 in
theorem flX0_findTriangles_23 : Cond.fieldLink RX0 23 RX0 (TX0 4).2.1 (TX0 4).2.2.1 ∈ wsX0_findTriangles := by decide +kernel
set_option maxRecDepth 20000 in
set_option maxHeartbeats 4000000 in
theorem mtX0_findTriangles (SB : pg_ok n X Y) : gz_Kv l yX0_findTriangles wsX0_findTriangles rmX0_findTriangles D [(cI, .int), (cJ, .long)] [.ref (ad 0)] (wC ad cI n X Y tc TT NB RG rc KT kc tl GR) (fun w1 => ∃ tc TT, w1 = (wC ad cI n X Y tc TT NB RG rc KT kc tl GR) ∧ pg_ENT n X Y 4096 tc TT) := by
  refine gz_ofv (cc := cX0_findTriangles) (maxL := 4) (own := RX0) (by decide +kernel) rfl rfl rfl (Nat.le_of_ble_eq_true rfl) ?_
  intro z E ret
  have hn := SB.1
  show gz_G z _ 0 [(0, .ref (ad 0))] []
  have loopA : ∀ (f a tc : Nat) (TT : Nat → Nat), n < f + a → a ≤ n → pg_ENT n X Y (a * 256) tc TT → gz_G z (wC ad cI n X Y tc TT NB RG rc KT kc tl GR) 7 [(0, .ref (ad 0)), (1, .int (nI a))] [] := by
    intro f
    induction f with
    | zero => intro a tc TT h1 h2; exact absurd h1 (by omega)
    | succ f ihA =>
      intro a tc TT h1 h2 hE
      have loopB : a < n → ∀ (g b tc : Nat) (TT : Nat → Nat), n < g + b → a < b → b ≤ n → pg_ENT n X Y (a * 256 + b * 16) tc TT → gz_G z (wC ad cI n X Y tc TT NB RG rc KT kc tl GR) 19 [(0, .ref (ad 0)), (1, .int (nI a)), (2, .int (nI b))] [] := by
        intro han g
        induction g with
        | zero => intro b tc TT g1 g2 g3; exact absurd g1 (by omega)
        | succ g ihB =>
          intro b tc TT g1 g2 g3 hE
          have loopC : b < n → ∀ (h c tc : Nat) (TT : Nat → Nat), n < h + c → b < c → c ≤ n → pg_ENT n X Y (a * 256 + b * 16 + c) tc TT → gz_G z (wC ad cI n X Y tc TT NB RG rc KT kc tl GR) 31 [(0, .ref (ad 0)), (1, .int (nI a)), (2, .int (nI b)), (3, .int (nI c))] [] := by
            intro hbn h
            induction h with
            | zero => intro c tc TT j1 j2 j3; exact absurd j1 (by omega)
            | succ h ihC =>
              intro c tc TT j1 j2 j3 hE
              refine gz_iload_n E dX0_findTriangles_31 rfl rfl ?_
              refine gz_aload_n E dX0_findTriangles_32 rfl rfl ?_
              refine gz_get E inwX0_findTriangles 0 2 dX0_findTriangles_33 flX0_findTriangles_16 rfl rfl (by decide) rfl rfl ?_
              refine gz_icN_ge (tgt := 62) E dX0_findTriangles_36 (by decide) (by omega) (by omega) (fun q36 => ?_) (fun q36 => ?_)
              · skip
                refine gz_iinc (lv' := [(0, _), (1, _), (2, _), (3, _)]) E dX0_findTriangles_62 rfl (gz_nI1 _) (by decide) rfl ?_
                refine gz_goto (tgt := 19) E dX0_findTriangles_65 (by decide) ?_
                refine gz_sub (lv' := [(0, _), (1, _), (2, _)]) [0, 1, 2] rfl ?_
                have e : c = n := by omega
                subst e
                exact ihB (b + 1) _ _ (by omega) (by omega) (by omega) (pg_ENT_C hn hE)
              · skip
                refine gz_aload_n E dX0_findTriangles_39 rfl rfl ?_
                refine gz_iload_n E dX0_findTriangles_40 rfl rfl ?_
                refine gz_iload_n E dX0_findTriangles_41 rfl rfl ?_
                refine gz_iload_n E dX0_findTriangles_42 rfl rfl ?_
                refine gz_cali (n := 3) E 0 dX0_findTriangles_43 gX0_findTriangles_X0_isDueTriangle (mtX0_isDueTriangle SB (by omega) (by omega) (by omega)) rfl rfl ⟨rfl, rfl⟩ (by decide +kernel) ⟨Nat.le_of_ble_eq_true rfl, Nat.le_of_ble_eq_true rfl⟩ rfl rfl rfl rfl (Nat.le_of_ble_eq_true rfl) (fun r43 w43 hr43 => ?_)
                obtain ⟨hr43, rfl⟩ := hr43
                refine gz_ifB_eq (tgt := 56) E hr43 dX0_findTriangles_46 (by decide) (fun q46 => ?_) (fun q46 => ?_)
                · skip
                  refine gz_iinc (lv' := [(0, _), (1, _), (2, _), (3, _)]) E dX0_findTriangles_56 rfl (gz_nI1 _) (by decide) rfl ?_
                  refine gz_goto (tgt := 31) E dX0_findTriangles_59 (by decide) ?_
                  first | exact ihC (c + 1) _ _ (by omega) (by omega) (by omega) (pg_ENT_add hn (by omega) (by omega) hE q46) | exact ihC (c + 1) _ _ (by omega) (by omega) (by omega) (pg_ENT_no hn (by omega) (by omega) hE q46)
                · skip
                  refine gz_aload_n E dX0_findTriangles_49 rfl rfl ?_
                  refine gz_iload_n E dX0_findTriangles_50 rfl rfl ?_
                  refine gz_iload_n E dX0_findTriangles_51 rfl rfl ?_
                  refine gz_iload_n E dX0_findTriangles_52 rfl rfl ?_
                  have htc := pg_ENT_lt SB (by omega) (by omega) hE q46
                  refine gz_calv (n := 3) E 0 dX0_findTriangles_53 gX0_findTriangles_X0_keepTriangle (mtX0_keepTriangle (by omega) (by omega) (by omega) (by omega)) rfl rfl ⟨rfl, rfl⟩ (by decide +kernel) ⟨Nat.le_of_ble_eq_true rfl, Nat.le_of_ble_eq_true rfl⟩ rfl rfl rfl rfl (Nat.le_of_ble_eq_true rfl) (fun w53 hr53 => ?_)
                  subst hr53
                  refine gz_iinc (lv' := [(0, _), (1, _), (2, _), (3, _)]) E dX0_findTriangles_56 rfl (gz_nI1 _) (by decide) rfl ?_
                  refine gz_goto (tgt := 31) E dX0_findTriangles_59 (by decide) ?_
                  first | exact ihC (c + 1) _ _ (by omega) (by omega) (by omega) (pg_ENT_add hn (by omega) (by omega) hE q46) | exact ihC (c + 1) _ _ (by omega) (by omega) (by omega) (pg_ENT_no hn (by omega) (by omega) hE q46)
          refine gz_iload_n E dX0_findTriangles_19 rfl rfl ?_
          refine gz_aload_n E dX0_findTriangles_20 rfl rfl ?_
          refine gz_get E inwX0_findTriangles 0 2 dX0_findTriangles_21 flX0_findTriangles_16 rfl rfl (by decide) rfl rfl ?_
          refine gz_icN_ge (tgt := 68) E dX0_findTriangles_24 (by decide) (by omega) (by omega) (fun q24 => ?_) (fun q24 => ?_)
          · skip
            refine gz_iinc (lv' := [(0, _), (1, _), (2, _)]) E dX0_findTriangles_68 rfl (gz_nI1 _) (by decide) rfl ?_
            refine gz_goto (tgt := 7) E dX0_findTriangles_71 (by decide) ?_
            refine gz_sub (lv' := [(0, _), (1, _)]) [0, 1] rfl ?_
            have e : b = n := by omega
            subst e
            exact ihA (a + 1) _ _ (by omega) (by omega) (pg_ENT_D hn hE)
          · skip
            refine gz_iload_n E dX0_findTriangles_27 rfl rfl ?_
            refine gz_iconst (v := nI 1) E dX0_findTriangles_28 (by decide) ?_
            refine gz_iaddN E dX0_findTriangles_29 ?_
            refine gz_istore_n (lv' := [(0, _), (1, _), (2, _), (3, _)]) E dX0_findTriangles_30 rfl (by decide) rfl ?_
            exact loopC (by omega) (n + 1) (b + 1) _ _ (by omega) (by omega) (by omega) (pg_ENT_B hn (by omega) hE)
      refine gz_iload_n E dX0_findTriangles_7 rfl rfl ?_
      refine gz_aload_n E dX0_findTriangles_8 rfl rfl ?_
      refine gz_get E inwX0_findTriangles 0 2 dX0_findTriangles_9 flX0_findTriangles_16 rfl rfl (by decide) rfl rfl ?_
      refine gz_icN_ge (tgt := 74) E dX0_findTriangles_12 (by decide) (by omega) (by omega) (fun q12 => ?_) (fun q12 => ?_)
      · skip
        have e : a = n := by omega
        subst e
        exact ret _ _ _ dX0_findTriangles_74 ⟨tc, TT, rfl, pg_ENT_E hn hE⟩
      · skip
        refine gz_iload_n E dX0_findTriangles_15 rfl rfl ?_
        refine gz_iconst (v := nI 1) E dX0_findTriangles_16 (by decide) ?_
        refine gz_iaddN E dX0_findTriangles_17 ?_
        refine gz_istore_n (lv' := [(0, _), (1, _), (2, _)]) E dX0_findTriangles_18 rfl (by decide) rfl ?_
        exact loopB (by omega) (n + 1) (a + 1) _ _ (by omega) (by omega) (by omega) (pg_ENT_A hn hE)
  refine gz_aload_n E dX0_findTriangles_0 rfl rfl ?_
  refine gz_iconst (v := nI 0) E dX0_findTriangles_1 (by decide) ?_
  refine gz_put E inwX0_findTriangles 0 4 dX0_findTriangles_2 flX0_findTriangles_23 rfl rfl (by decide) rfl tyX0 tyX0_ok nmX0 rfl rfl rfl (Nat.le_of_ble_eq_true rfl) ?_
  refine gz_w (ws' := (wC ad cI n X Y 0 TT NB RG rc KT kc tl GR)) (by rfl) ?_
  refine gz_iconst (v := nI 0) E dX0_findTriangles_5 (by decide) ?_
  refine gz_istore_n (lv' := [(0, _), (1, _)]) E dX0_findTriangles_6 rfl (by decide) rfl ?_
  exact loopA (n + 1) 0 _ _ (by omega) (by omega) pg_ENT_0
def gz_HE (NB : Nat → Nat) (n : Nat) (x y : Int32) : Prop := ∃ i j, i < n ∧ j < n ∧ x = nI i ∧ y = nI j ∧ pg_EB NB i j
theorem gz_HE_N {NB : Nat → Nat} {n i j : Nat} (hn : n ≤ 14) (hi : i < n) (hj : j < n) : gz_HE NB n (nI i) (nI j) ↔ pg_EB NB i j := by
  constructor
  · rintro ⟨a, b, ha, hb, e1, e2, h⟩
    rw [nI_eq (by omega) (by omega)] at e1 e2
    subst e1 e2
    exact h
  · exact fun h => ⟨i, j, hi, hj, rfl, rfl, h⟩
theorem gz_bit {x k : Nat} (hx : x < 2 ^ 31) (hk : k < 31) : (nI x >>> (nI k &&& 31)) &&& nI 1 = nI (x / 2 ^ k % 2) := by
  rw [pk_shrN hx _ k (gz_sm k (by omega)), pk_andN (by have := Nat.div_le_self x (2 ^ k); omega) 1 (by decide +kernel)]
abbrev rmX0_hasEdge : Room := { frames := 1, cells := 0, slots := 0, locals := 21 }
theorem inwX0_hasEdge : ∀ w ∈ wsX00, w ∈ wsX0_hasEdge := fun _ h => List.mem_cons_of_mem _ (List.mem_append_right _ h)
set_option maxRecDepth 20000 in
theorem flX0_hasEdge_26 : Cond.fieldLink RX0 26 RX0 (TX0 5).2.1 (TX0 5).2.2.1 ∈ wsX0_hasEdge := by decide +kernel
set_option maxRecDepth 20000 in
set_option maxHeartbeats 4000000 in
theorem mtX0_hasEdge (hn : n ≤ 14) (hNB : ∀ i, i < n → NB i < 2 ^ 14) (x y : Int32) : gz_Ki l yX0_hasEdge wsX0_hasEdge rmX0_hasEdge D [(cI, .int), (cJ, .long)] [.ref (ad 0), .int x, .int y] (wC ad cI n X Y tc TT NB RG rc KT kc tl GR) (fun r w1 => gz_B r (gz_HE NB n x y) ∧ w1 = (wC ad cI n X Y tc TT NB RG rc KT kc tl GR)) := by
  refine gz_ofi (cc := cX0_hasEdge) (maxL := 3) (own := RX0) (by decide +kernel) rfl rfl rfl (Nat.le_of_ble_eq_true rfl) ?_
  intro z E ret
  show gz_G z _ 0 [(0, .ref (ad 0)), (1, .int x), (2, .int y)] []
  refine gz_aload_n E dX0_hasEdge_0 rfl rfl ?_
  refine gz_iload_n E dX0_hasEdge_1 rfl rfl ?_
  refine gz_cali (n := 1) E 0 dX0_hasEdge_2 gX0_hasEdge_X0_isSite (mtX0_isSite hn _) rfl rfl ⟨rfl, rfl⟩ (by decide +kernel) ⟨Nat.le_of_ble_eq_true rfl, Nat.le_of_ble_eq_true rfl⟩ rfl rfl rfl rfl (Nat.le_of_ble_eq_true rfl) (fun r2 w2 hr2 => ?_)
  obtain ⟨hr2, rfl⟩ := hr2
  refine gz_ifB_eq (tgt := 34) E hr2 dX0_hasEdge_5 (by decide) (fun q5 => ?_) (fun q5 => ?_)
  · skip
    refine gz_iconst (v := 0) E dX0_hasEdge_34 (by decide) ?_
    exact ret _ _ _ _ dX0_hasEdge_35 rfl ⟨by first | exact gz_B_f (fun q => q5 (by obtain ⟨i, j, hi, hj, e1, e2, h⟩ := q; exact ⟨i, hi, e1⟩)) | exact gz_B_f (fun q => q13 (by obtain ⟨i, j, hi, hj, e1, e2, h⟩ := q; exact ⟨j, hj, e2⟩)) | exact gz_B_t ((gz_HE_N hn hi hj).mpr q27) | exact gz_B_f (fun q => q27 ((gz_HE_N hn hi hj).mp q)), rfl⟩
  · skip
    refine gz_aload_n E dX0_hasEdge_8 rfl rfl ?_
    refine gz_iload_n E dX0_hasEdge_9 rfl rfl ?_
    refine gz_cali (n := 1) E 0 dX0_hasEdge_10 gX0_hasEdge_X0_isSite (mtX0_isSite hn _) rfl rfl ⟨rfl, rfl⟩ (by decide +kernel) ⟨Nat.le_of_ble_eq_true rfl, Nat.le_of_ble_eq_true rfl⟩ rfl rfl rfl rfl (Nat.le_of_ble_eq_true rfl) (fun r10 w10 hr10 => ?_)
    obtain ⟨hr10, rfl⟩ := hr10
    refine gz_ifB_eq (tgt := 34) E hr10 dX0_hasEdge_13 (by decide) (fun q13 => ?_) (fun q13 => ?_)
    · skip
      refine gz_iconst (v := 0) E dX0_hasEdge_34 (by decide) ?_
      exact ret _ _ _ _ dX0_hasEdge_35 rfl ⟨by first | exact gz_B_f (fun q => q5 (by obtain ⟨i, j, hi, hj, e1, e2, h⟩ := q; exact ⟨i, hi, e1⟩)) | exact gz_B_f (fun q => q13 (by obtain ⟨i, j, hi, hj, e1, e2, h⟩ := q; exact ⟨j, hj, e2⟩)) | exact gz_B_t ((gz_HE_N hn hi hj).mpr q27) | exact gz_B_f (fun q => q27 ((gz_HE_N hn hi hj).mp q)), rfl⟩
    · skip
      obtain ⟨i, hi, rfl⟩ := q5
      obtain ⟨j, hj, rfl⟩ := q13
      have hNi := hNB i hi
      refine gz_aload_n E dX0_hasEdge_16 rfl rfl ?_
      refine gz_get E inwX0_hasEdge 0 5 dX0_hasEdge_17 flX0_hasEdge_26 rfl rfl (by decide) rfl rfl ?_
      refine gz_iload_n E dX0_hasEdge_20 rfl rfl ?_
      refine gz_ialdN E 4 0 dX0_hasEdge_21 rfl rfl (by decide) rfl (by omega) ?_
      refine gz_iload_n E dX0_hasEdge_22 rfl rfl ?_
      refine gz_ishr E dX0_hasEdge_23 ?_
      refine gz_iconst (v := nI 1) E dX0_hasEdge_24 (by decide) ?_
      refine gz_iand E dX0_hasEdge_25 ?_
      refine gz_s (congrArg (fun q => Value.int q :: _) (gz_bit (by omega) (by omega))) ?_
      refine gz_iconst (v := nI 1) E dX0_hasEdge_26 (by decide) ?_
      refine gz_icN_ne (tgt := 34) E dX0_hasEdge_27 (by decide) (by have := Nat.mod_lt (NB i / 2 ^ j) (show 0 < 2 by decide); omega) (by omega) (fun q27 => ?_) (fun q27 => ?_)
      · skip
        refine gz_iconst (v := 0) E dX0_hasEdge_34 (by decide) ?_
        exact ret _ _ _ _ dX0_hasEdge_35 rfl ⟨by first | exact gz_B_f (fun q => q5 (by obtain ⟨i, j, hi, hj, e1, e2, h⟩ := q; exact ⟨i, hi, e1⟩)) | exact gz_B_f (fun q => q13 (by obtain ⟨i, j, hi, hj, e1, e2, h⟩ := q; exact ⟨j, hj, e2⟩)) | exact gz_B_t ((gz_HE_N hn hi hj).mpr q27) | exact gz_B_f (fun q => q27 ((gz_HE_N hn hi hj).mp q)), rfl⟩
      · skip
        refine gz_iconst (v := 1) E dX0_hasEdge_30 (by decide) ?_
        refine gz_goto (tgt := 35) E dX0_hasEdge_31 (by decide) ?_
        exact ret _ _ _ _ dX0_hasEdge_35 rfl ⟨by first | exact gz_B_f (fun q => q5 (by obtain ⟨i, j, hi, hj, e1, e2, h⟩ := q; exact ⟨i, hi, e1⟩)) | exact gz_B_f (fun q => q13 (by obtain ⟨i, j, hi, hj, e1, e2, h⟩ := q; exact ⟨j, hj, e2⟩)) | exact gz_B_t ((gz_HE_N hn hi hj).mpr q27) | exact gz_B_f (fun q => q27 ((gz_HE_N hn hi hj).mp q)), rfl⟩
theorem gz_shl1 {k : Nat} (hk : k < 14) : nI 1 <<< (nI k &&& 31) = nI (2 ^ k) := by
  have h : 2 ^ k < 2 ^ 14 := Nat.pow_lt_pow_right (by decide) hk
  rw [pk_shlN (nI k &&& 31) k (gz_sm k (by omega)) (by omega), Nat.one_mul]
theorem gz_orB {x k : Nat} (hk : k < 14) : nI x ||| (nI 1 <<< (nI k &&& 31)) = nI (x ||| 2 ^ k) := by rw [gz_shl1 hk, gz_orN]
abbrev rmX0_join : Room := { frames := 1, cells := 0, slots := 0, locals := 21 }
theorem inwX0_join : ∀ w ∈ wsX00, w ∈ wsX0_join := fun _ h => List.mem_cons_of_mem _ (List.mem_append_right _ h)
set_option maxRecDepth 20000 in
theorem flX0_join_26 : Cond.fieldLink RX0 26 RX0 (TX0 5).2.1 (TX0 5).2.2.1 ∈ wsX0_join := by decide +kernel
set_option maxRecDepth 20000 in
set_option maxHeartbeats 4000000 in
theorem mtX0_join (hn : n ≤ 14) {a b : Nat} (ha : a < n) (hb : b < n) (hab : a ≠ b) : gz_Kv l yX0_join wsX0_join rmX0_join D [(cI, .int), (cJ, .long)] [.ref (ad 0), .int (nI a), .int (nI b)] (wC ad cI n X Y tc TT NB RG rc KT kc tl GR) (fun w1 => w1 = (wC ad cI n X Y tc TT (fun i => if i = b then NB b ||| 2 ^ a else if i = a then NB a ||| 2 ^ b else NB i) RG rc KT kc tl GR)) := by
  refine gz_ofv (cc := cX0_join) (maxL := 3) (own := RX0) (by decide +kernel) rfl rfl rfl (Nat.le_of_ble_eq_true rfl) ?_
  intro z E ret
  show gz_G z _ 0 [(0, .ref (ad 0)), (1, .int (nI a)), (2, .int (nI b))] []
  refine gz_aload_n E dX0_join_0 rfl rfl ?_
  refine gz_iload_n E dX0_join_1 rfl rfl ?_
  refine gz_cali (n := 1) E 0 dX0_join_2 gX0_join_X0_isSite (mtX0_isSite hn _) rfl rfl ⟨rfl, rfl⟩ (by decide +kernel) ⟨Nat.le_of_ble_eq_true rfl, Nat.le_of_ble_eq_true rfl⟩ rfl rfl rfl rfl (Nat.le_of_ble_eq_true rfl) (fun r2 w2 hr2 => ?_)
  obtain ⟨hr2, rfl⟩ := hr2
  refine gz_ifB_eq (tgt := 40) E hr2 dX0_join_5 (by decide) (fun q5 => ?_) (fun q5 => ?_)
  · exact absurd ⟨a, ha, rfl⟩ q5
  · skip
    refine gz_aload_n E dX0_join_8 rfl rfl ?_
    refine gz_iload_n E dX0_join_9 rfl rfl ?_
    refine gz_cali (n := 1) E 0 dX0_join_10 gX0_join_X0_isSite (mtX0_isSite hn _) rfl rfl ⟨rfl, rfl⟩ (by decide +kernel) ⟨Nat.le_of_ble_eq_true rfl, Nat.le_of_ble_eq_true rfl⟩ rfl rfl rfl rfl (Nat.le_of_ble_eq_true rfl) (fun r10 w10 hr10 => ?_)
    obtain ⟨hr10, rfl⟩ := hr10
    refine gz_ifB_eq (tgt := 40) E hr10 dX0_join_13 (by decide) (fun q13 => ?_) (fun q13 => ?_)
    · exact absurd ⟨b, hb, rfl⟩ q13
    · skip
      refine gz_aload_n E dX0_join_16 rfl rfl ?_
      refine gz_get E inwX0_join 0 5 dX0_join_17 flX0_join_26 rfl rfl (by decide) rfl rfl ?_
      refine gz_iload_n E dX0_join_20 rfl rfl ?_
      refine gz_dup2_11 E dX0_join_21 rfl rfl ?_
      refine gz_ialdN E 4 0 dX0_join_22 rfl rfl (by decide) rfl (by omega) ?_
      refine gz_iconst (v := nI 1) E dX0_join_23 (by decide) ?_
      refine gz_iload_n E dX0_join_24 rfl rfl ?_
      refine gz_ishl E dX0_join_25 ?_
      refine gz_ior E dX0_join_26 ?_
      refine gz_s (congrArg (fun q => Value.int q :: _) (gz_orB (by omega))) ?_
      refine gz_iastN E 4 0 dX0_join_27 rfl rfl (by decide) (by omega) ?_
      refine gz_w (ws' := (wC ad cI n X Y tc TT (fun i => if i = a then NB a ||| 2 ^ b else NB i) RG rc KT kc tl GR)) (by rw [gz_upN]; rfl) ?_
      refine gz_aload_n E dX0_join_28 rfl rfl ?_
      refine gz_get E inwX0_join 0 5 dX0_join_29 flX0_join_26 rfl rfl (by decide) rfl rfl ?_
      refine gz_iload_n E dX0_join_32 rfl rfl ?_
      refine gz_dup2_11 E dX0_join_33 rfl rfl ?_
      refine gz_ialdN (v := nI (NB b)) E 4 0 dX0_join_34 rfl rfl (by decide) (by simp [hab.symm]) (by omega) ?_
      refine gz_iconst (v := nI 1) E dX0_join_35 (by decide) ?_
      refine gz_iload_n E dX0_join_36 rfl rfl ?_
      refine gz_ishl E dX0_join_37 ?_
      refine gz_ior E dX0_join_38 ?_
      refine gz_s (congrArg (fun q => Value.int q :: _) (gz_orB (by omega))) ?_
      refine gz_iastN E 4 0 dX0_join_39 rfl rfl (by decide) (by omega) ?_
      refine gz_w (ws' := (wC ad cI n X Y tc TT (fun i => if i = b then NB b ||| 2 ^ a else if i = a then NB a ||| 2 ^ b else NB i) RG rc KT kc tl GR)) (by rw [gz_upN]; rfl) ?_
      exact ret _ _ _ dX0_join_40 rfl
end CD
