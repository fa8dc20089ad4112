/-! the class: tree, rebuild, add -/
section CF
variable {l : Launch} {D : va_G} {ad : Nat → Nat} {cI cJ : ClassId} {n tc rc kc : Nat} {X Y : Nat → Int} {TT NB RG KT GR : Nat → Nat} {tl : Int}
theorem gz_upI (T : Nat → Int) (k : Nat) (v : Int) : upd (fun i => iI (T i)) k (iI v) = fun i => iI (if i = k then v else T i) := by
  funext j
  unfold upd
  by_cases h : j = k
  · rw [if_pos h, if_pos h]
  · rw [if_neg h, if_neg h]
theorem gz_grp_yes {GR : Nat → Nat} {k x y : Nat} (h : GR k = GR y) : (fun i => if i = k then GR x else (if i < k ∧ GR i = GR y then GR x else GR i)) = fun i => if i < k + 1 ∧ GR i = GR y then GR x else GR i := by
  funext i
  by_cases e : i = k
  · subst e
    simp [h]
  · have : (i < k + 1) ↔ i < k := by omega
    simp only [if_neg e, this]
theorem gz_grp_no {GR : Nat → Nat} {k x y : Nat} (h : GR k ≠ GR y) : (fun i => if i < k ∧ GR i = GR y then GR x else GR i) = fun i => if i < k + 1 ∧ GR i = GR y then GR x else GR i := by
  funext i
  by_cases e : i = k
  · subst e
    simp [h]
  · have : (i < k + 1) ↔ i < k := by omega
    simp only [this]
/-- the tree's state after s edges -/
def pg_TI (n : Nat) (X Y : Nat → Int) (E : Nat → Nat → Prop) (s : Nat) (KT : Nat → Nat) (tl : Int) (GR : Nat → Nat) : Prop := ∃ LS GT, pg_TS n X Y E LS GT s ∧ tl = pg_tot X Y LS GT s ∧ (∀ t, t < s → KT t = LS t + 16 * GT t) ∧ ∀ i, i < n → GR i = pg_gr n LS GT s i
theorem pg_TI_0 {n : Nat} {X Y : Nat → Int} {E : Nat → Nat → Prop} {KT GR : Nat → Nat} (h : ∀ i, i < n → GR i = i) : pg_TI n X Y E 0 KT 0 GR := ⟨fun _ => 0, fun _ => 0, fun t ht => absurd ht (by omega), rfl, fun t ht => absurd ht (by omega), fun i hi => by rw [h i hi]; rfl⟩
theorem pg_TI_step {n : Nat} {X Y : Nat → Int} {E : Nat → Nat → Prop} {s x y : Nat} {KT GR : Nat → Nat} {tl : Int} (h : pg_TI n X Y E s KT tl GR) (hs : pg_SEL n X Y E GR x y) : pg_TI n X Y E (s + 1) (fun i => if i = s then x + 16 * y else KT i) (tl + pg_gp X Y x y) (fun i => if i < n ∧ GR i = GR y then GR x else GR i) := by
  obtain ⟨LS, GT, h1, h2, h3, h4⟩ := h
  have hxy := hs.1.1
  have hy := hs.1.2.1
  have c : ∀ t, t < s → LS t = (fun i => if i = s then x else LS i) t ∧ GT t = (fun i => if i = s then y else GT i) t := fun v hv => by
    have : v ≠ s := by omega
    simp [this]
  refine ⟨fun i => if i = s then x else LS i, fun i => if i = s then y else GT i, pg_TS_add h1 (pg_SEL_c (fun _ _ _ _ => Iff.rfl) h4 hs), ?_, fun t ht => ?_, fun i hi => ?_⟩
  · show tl + pg_gp X Y x y = pg_tot X Y _ _ s + pg_gp X Y ((fun i => if i = s then x else LS i) s) ((fun i => if i = s then y else GT i) s)
    rw [← pg_tot_c s c, ← h2]
    simp
  · by_cases e : t = s
    · simp [e]
    · simp only [if_neg e]
      exact h3 t (by omega)
  · have e1 : (fun i => if i = s then x else LS i) s = x := by simp
    have e2 : (fun i => if i = s then y else GT i) s = y := by simp
    show (if i < n ∧ GR i = GR y then GR x else GR i) = if i < n ∧ pg_gr n _ _ s i = pg_gr n _ _ s ((fun i => if i = s then y else GT i) s) then pg_gr n _ _ s ((fun i => if i = s then x else LS i) s) else pg_gr n _ _ s i
    rw [e1, e2, ← pg_gr_c s c i, ← pg_gr_c s c y, ← pg_gr_c s c x, h4 i hi, h4 y hy, h4 x (by omega)]
theorem pg_TI_more {n s : Nat} {X Y : Nat → Int} {E : Nat → Nat → Prop} {KT GR : Nat → Nat} {tl : Int} (h : pg_TI n X Y E s KT tl GR) (hs : s + 1 < n) : ∃ i j, i < n ∧ j < n ∧ GR i ≠ GR j := by
  obtain ⟨LS, GT, h1, h2, h3, h4⟩ := h
  obtain ⟨i, j, hi, hj, e⟩ := pg_TS_more hs h1
  exact ⟨i, j, hi, hj, by rw [h4 i hi, h4 j hj]; exact e⟩
theorem pg_gr_lt {n : Nat} {X Y : Nat → Int} {E : Nat → Nat → Prop} {LS GT : Nat → Nat} : ∀ s, pg_TS n X Y E LS GT s → ∀ i, i < n → pg_gr n LS GT s i < n
  | 0, _, i, hi => hi
  | s + 1, h, i, hi => by
    have ih := pg_gr_lt s (fun t ht => h t (by omega))
    have k := (h s (by omega)).1
    have k1 := k.1
    have k2 := k.2.1
    unfold pg_gr
    split
    · exact ih (LS s) (by omega)
    · exact ih i hi
theorem pg_TI_lt {n s : Nat} {X Y : Nat → Int} {E : Nat → Nat → Prop} {KT GR : Nat → Nat} {tl : Int} (h : pg_TI n X Y E s KT tl GR) : ∀ i, i < n → GR i < n := by
  obtain ⟨LS, GT, h1, h2, h3, h4⟩ := h
  intro i hi
  rw [h4 i hi]
  exact pg_gr_lt s h1 i hi
abbrev rmX0_takeEdge : Room := { frames := 2, cells := 0, slots := 0, locals := 47 }
theorem inwX0_takeEdge : ∀ w ∈ wsX00, w ∈ wsX0_takeEdge := fun _ h => List.mem_cons_of_mem _ (List.mem_append_right _ h)
set_option maxRecDepth 20000 in
theorem flX0_takeEdge_16 : Cond.fieldLink RX0 16 RX0 (TX0 2).2.1 (TX0 2).2.2.1 ∈ wsX0_takeEdge := by decide +kernel
set_option maxRecDepth 20000 in
theorem flX0_takeEdge_45 : Cond.fieldLink RX0 45 RX0 (TX0 11).2.1 (TX0 11).2.2.1 ∈ wsX0_takeEdge := by decide +kernel
set_option maxRecDepth 20000 in
theorem flX0_takeEdge_38 : Cond.fieldLink RX0 38 RX0 (TX0 9).2.1 (TX0 9).2.2.1 ∈ wsX0_takeEdge := by decide +kernel
set_option maxRecDepth 20000 in
theorem flX0_takeEdge_35 : Cond.fieldLink RX0 35 RX0 (TX0 8).2.1 (TX0 8).2.2.1 ∈ wsX0_takeEdge := by decide +kernel
set_option maxRecDepth 20000 in
theorem flX0_takeEdge_41 : Cond.fieldLink RX0 41 RX0 (TX0 10).2.1 (TX0 10).2.2.1 ∈ wsX0_takeEdge := by decide +kernel
set_option maxRecDepth 20000 in
set_option maxHeartbeats 4000000 in
theorem mtX0_takeEdge (SB : pg_ok n X Y) {x y : Nat} (hxy : x < y) (hy : y < n) (hk : kc < 13) (hG : ∀ i, i < n → GR i < n) : gz_Kv l yX0_takeEdge wsX0_takeEdge rmX0_takeEdge D [(cI, .int), (cJ, .long)] [.ref (ad 0), .int (nI x), .int (nI y)] (wC ad cI n X Y tc TT NB RG rc KT kc tl GR) (fun w1 => w1 = (wC ad cI n X Y tc TT NB RG rc (fun i => if i = kc then x + 16 * y else KT i) (kc + 1) (tl + pg_gp X Y x y) (fun i => if i < n ∧ GR i = GR y then GR x else GR i))) := by
  refine gz_ofv (cc := cX0_takeEdge) (maxL := 6) (own := RX0) (by decide +kernel) rfl rfl rfl (Nat.le_of_ble_eq_true rfl) ?_
  intro z E ret
  have hn := SB.1
  have hx : x < n := by omega
  have hGx := hG x hx
  have hGy := hG y hy
  show gz_G z _ 0 [(0, .ref (ad 0)), (1, .int (nI x)), (2, .int (nI y))] []
  have loop : ∀ (f k : Nat), n < f + k → k ≤ n → gz_G z (wC ad cI n X Y tc TT NB RG rc (fun i => if i = kc then x + 16 * y else KT i) (kc + 1) (tl + pg_gp X Y x y) (fun i => if i < k ∧ GR i = GR y then GR x else GR i)) 83 [(0, .ref (ad 0)), (3, .int (nI (GR x))), (4, .int (nI (GR y))), (5, .int (nI k))] [] := by
    intro f
    induction f with
    | zero => intro k h1 h2; exact absurd h1 (by omega)
    | succ f ih =>
      intro k h1 h2
      refine gz_iload E dX0_takeEdge_83 rfl ?_
      refine gz_aload_n E dX0_takeEdge_85 rfl rfl ?_
      refine gz_get E inwX0_takeEdge 0 2 dX0_takeEdge_86 flX0_takeEdge_16 rfl rfl (by decide) rfl rfl ?_
      refine gz_icN_ge (tgt := 118) E dX0_takeEdge_89 (by decide) (by omega) (by omega) (fun q89 => ?_) (fun q89 => ?_)
      · skip
        have e : k = n := by omega
        subst e
        exact ret _ _ _ dX0_takeEdge_118 rfl
      · skip
        have hGk := hG k (by omega)
        refine gz_aload_n E dX0_takeEdge_92 rfl rfl ?_
        refine gz_get E inwX0_takeEdge 0 11 dX0_takeEdge_93 flX0_takeEdge_45 rfl rfl (by decide) rfl rfl ?_
        refine gz_iload E dX0_takeEdge_96 rfl ?_
        refine gz_ialdN (v := nI (GR k)) E 7 0 dX0_takeEdge_98 rfl rfl (by decide) (by simp) (by omega) ?_
        refine gz_iload E dX0_takeEdge_99 rfl ?_
        refine gz_icN_ne (tgt := 112) E dX0_takeEdge_101 (by decide) (by omega) (by omega) (fun q101 => ?_) (fun q101 => ?_)
        · skip
          refine gz_iinc (lv' := [(0, _), (3, _), (4, _), (5, _)]) E dX0_takeEdge_112 rfl (gz_nI1 _) (by decide) rfl ?_
          refine gz_goto (tgt := 83) E dX0_takeEdge_115 (by decide) ?_
          refine gz_w (ws' := (wC ad cI n X Y tc TT NB RG rc (fun i => if i = kc then x + 16 * y else KT i) (kc + 1) (tl + pg_gp X Y x y) (fun i => if i < (k + 1) ∧ GR i = GR y then GR x else GR i))) (congrArg (wC ad cI n X Y tc TT NB RG rc (fun i => if i = kc then x + 16 * y else KT i) (kc + 1) (tl + pg_gp X Y x y)) (by first | exact gz_grp_yes q101 | exact gz_grp_no q101)) ?_
          exact ih (k + 1) (by omega) (by omega)
        · skip
          refine gz_aload_n E dX0_takeEdge_104 rfl rfl ?_
          refine gz_get E inwX0_takeEdge 0 11 dX0_takeEdge_105 flX0_takeEdge_45 rfl rfl (by decide) rfl rfl ?_
          refine gz_iload E dX0_takeEdge_108 rfl ?_
          refine gz_iload_n E dX0_takeEdge_110 rfl rfl ?_
          refine gz_iastN E 7 0 dX0_takeEdge_111 rfl rfl (by decide) (by omega) ?_
          refine gz_w (ws' := (wC ad cI n X Y tc TT NB RG rc (fun i => if i = kc then x + 16 * y else KT i) (kc + 1) (tl + pg_gp X Y x y) (fun i => if i = k then GR x else (if i < k ∧ GR i = GR y then GR x else GR i)))) (by rw [gz_upN]; rfl) ?_
          refine gz_iinc (lv' := [(0, _), (3, _), (4, _), (5, _)]) E dX0_takeEdge_112 rfl (gz_nI1 _) (by decide) rfl ?_
          refine gz_goto (tgt := 83) E dX0_takeEdge_115 (by decide) ?_
          refine gz_w (ws' := (wC ad cI n X Y tc TT NB RG rc (fun i => if i = kc then x + 16 * y else KT i) (kc + 1) (tl + pg_gp X Y x y) (fun i => if i < (k + 1) ∧ GR i = GR y then GR x else GR i))) (congrArg (wC ad cI n X Y tc TT NB RG rc (fun i => if i = kc then x + 16 * y else KT i) (kc + 1) (tl + pg_gp X Y x y)) (by first | exact gz_grp_yes q101 | exact gz_grp_no q101)) ?_
          exact ih (k + 1) (by omega) (by omega)
  refine gz_aload_n E dX0_takeEdge_0 rfl rfl ?_
  refine gz_iload_n E dX0_takeEdge_1 rfl rfl ?_
  refine gz_cali (n := 1) E 0 dX0_takeEdge_2 gX0_takeEdge_X0_isSite (mtX0_isSite hn _) rfl rfl ⟨rfl, rfl⟩ (by decide +kernel) ⟨Nat.le_of_ble_eq_true rfl, Nat.le_of_ble_eq_true rfl⟩ rfl rfl rfl rfl (Nat.le_of_ble_eq_true rfl) (fun r2 w2 hr2 => ?_)
  obtain ⟨hr2, rfl⟩ := hr2
  refine gz_ifB_eq (tgt := 25) E hr2 dX0_takeEdge_5 (by decide) (fun q5 => ?_) (fun q5 => ?_)
  · exact absurd ⟨x, hx, rfl⟩ q5
  · skip
    refine gz_aload_n E dX0_takeEdge_8 rfl rfl ?_
    refine gz_iload_n E dX0_takeEdge_9 rfl rfl ?_
    refine gz_cali (n := 1) E 0 dX0_takeEdge_10 gX0_takeEdge_X0_isSite (mtX0_isSite hn _) rfl rfl ⟨rfl, rfl⟩ (by decide +kernel) ⟨Nat.le_of_ble_eq_true rfl, Nat.le_of_ble_eq_true rfl⟩ rfl rfl rfl rfl (Nat.le_of_ble_eq_true rfl) (fun r10 w10 hr10 => ?_)
    obtain ⟨hr10, rfl⟩ := hr10
    refine gz_ifB_eq (tgt := 25) E hr10 dX0_takeEdge_13 (by decide) (fun q13 => ?_) (fun q13 => ?_)
    · exact absurd ⟨y, hy, rfl⟩ q13
    · skip
      refine gz_aload_n E dX0_takeEdge_16 rfl rfl ?_
      refine gz_get E inwX0_takeEdge 0 9 dX0_takeEdge_17 flX0_takeEdge_38 rfl rfl (by decide) rfl rfl ?_
      refine gz_bipush (v := nI 13) E dX0_takeEdge_20 (by decide) ?_
      refine gz_icN_lt (tgt := 26) E dX0_takeEdge_22 (by decide) (by omega) (by omega) (fun q22 => ?_) (fun q22 => ?_)
      · skip
        refine gz_aload_n E dX0_takeEdge_26 rfl rfl ?_
        refine gz_get E inwX0_takeEdge 0 8 dX0_takeEdge_27 flX0_takeEdge_35 rfl rfl (by decide) rfl rfl ?_
        refine gz_aload_n E dX0_takeEdge_30 rfl rfl ?_
        refine gz_get E inwX0_takeEdge 0 9 dX0_takeEdge_31 flX0_takeEdge_38 rfl rfl (by decide) rfl rfl ?_
        refine gz_iload_n E dX0_takeEdge_34 rfl rfl ?_
        refine gz_iload_n E dX0_takeEdge_35 rfl rfl ?_
        refine gz_iconst (v := nI 4) E dX0_takeEdge_36 (by decide) ?_
        refine gz_ishl E dX0_takeEdge_37 ?_
        refine gz_ior E dX0_takeEdge_38 ?_
        refine gz_s (congrArg (fun q => Value.int q :: _) (gz_pk2 (by omega) (by omega))) ?_
        refine gz_iastN E 6 0 dX0_takeEdge_39 rfl rfl (by decide) (by omega) ?_
        refine gz_w (ws' := (wC ad cI n X Y tc TT NB RG rc (fun i => if i = kc then x + 16 * y else KT i) kc tl GR)) (by rw [gz_upN]; rfl) ?_
        refine gz_aload_n E dX0_takeEdge_40 rfl rfl ?_
        refine gz_dup E dX0_takeEdge_41 rfl ?_
        refine gz_get E inwX0_takeEdge 0 9 dX0_takeEdge_42 flX0_takeEdge_38 rfl rfl (by decide) rfl rfl ?_
        refine gz_iconst (v := nI 1) E dX0_takeEdge_45 (by decide) ?_
        refine gz_iaddN E dX0_takeEdge_46 ?_
        refine gz_put E inwX0_takeEdge 0 9 dX0_takeEdge_47 flX0_takeEdge_38 rfl rfl (by decide) rfl tyX0 tyX0_ok nmX0 rfl rfl rfl (Nat.le_of_ble_eq_true rfl) ?_
        refine gz_w (ws' := (wC ad cI n X Y tc TT NB RG rc (fun i => if i = kc then x + 16 * y else KT i) (kc + 1) tl GR)) (by rfl) ?_
        refine gz_aload_n E dX0_takeEdge_50 rfl rfl ?_
        refine gz_dup E dX0_takeEdge_51 rfl ?_
        refine gz_get E inwX0_takeEdge 0 10 dX0_takeEdge_52 flX0_takeEdge_41 rfl rfl (by decide) rfl rfl ?_
        refine gz_aload_n E dX0_takeEdge_55 rfl rfl ?_
        refine gz_iload_n E dX0_takeEdge_56 rfl rfl ?_
        refine gz_iload_n E dX0_takeEdge_57 rfl rfl ?_
        refine gz_call (n := 2) E 0 dX0_takeEdge_58 gX0_takeEdge_X0_gap (mtX0_gap SB (by assumption) (by assumption)) rfl rfl ⟨rfl, rfl⟩ (by decide +kernel) ⟨Nat.le_of_ble_eq_true rfl, Nat.le_of_ble_eq_true rfl⟩ rfl rfl rfl rfl (Nat.le_of_ble_eq_true rfl) (fun r58 w58 hr58 => ?_)
        obtain ⟨rfl, rfl⟩ := hr58
        refine gz_laddL E dX0_takeEdge_61 ?_
        refine gz_put E inwX0_takeEdge 0 10 dX0_takeEdge_62 flX0_takeEdge_41 rfl rfl (by decide) rfl tyX0 tyX0_ok nmX0 rfl rfl rfl (Nat.le_of_ble_eq_true rfl) ?_
        refine gz_w (ws' := (wC ad cI n X Y tc TT NB RG rc (fun i => if i = kc then x + 16 * y else KT i) (kc + 1) (tl + pg_gp X Y x y) GR)) (by rfl) ?_
        refine gz_aload_n E dX0_takeEdge_65 rfl rfl ?_
        refine gz_get E inwX0_takeEdge 0 11 dX0_takeEdge_66 flX0_takeEdge_45 rfl rfl (by decide) rfl rfl ?_
        refine gz_iload_n E dX0_takeEdge_69 rfl rfl ?_
        refine gz_ialdN E 7 0 dX0_takeEdge_70 rfl rfl (by decide) rfl (by omega) ?_
        refine gz_istore_n (lv' := [(0, _), (1, _), (2, _), (3, _)]) E dX0_takeEdge_71 rfl (by decide) rfl ?_
        refine gz_aload_n E dX0_takeEdge_72 rfl rfl ?_
        refine gz_get E inwX0_takeEdge 0 11 dX0_takeEdge_73 flX0_takeEdge_45 rfl rfl (by decide) rfl rfl ?_
        refine gz_iload_n E dX0_takeEdge_76 rfl rfl ?_
        refine gz_ialdN E 7 0 dX0_takeEdge_77 rfl rfl (by decide) rfl (by omega) ?_
        refine gz_istore (lv' := [(0, _), (1, _), (2, _), (3, _), (4, _)]) E dX0_takeEdge_78 (by decide) rfl ?_
        refine gz_iconst (v := nI 0) E dX0_takeEdge_80 (by decide) ?_
        refine gz_istore (lv' := [(0, _), (1, _), (2, _), (3, _), (4, _), (5, _)]) E dX0_takeEdge_81 (by decide) rfl ?_
        refine gz_sub (lv' := [(0, _), (3, _), (4, _), (5, _)]) [0, 3, 4, 5] rfl ?_
        refine gz_w (ws' := (wC ad cI n X Y tc TT NB RG rc (fun i => if i = kc then x + 16 * y else KT i) (kc + 1) (tl + pg_gp X Y x y) (fun i => if i < 0 ∧ GR i = GR y then GR x else GR i))) (congrArg (wC ad cI n X Y tc TT NB RG rc (fun i => if i = kc then x + 16 * y else KT i) (kc + 1) (tl + pg_gp X Y x y)) (by funext i; simp)) ?_
        exact loop (n + 1) 0 (by omega) (by omega)
      · exact absurd q22 (by omega)
abbrev rmX0_takeNextEdge : Room := { frames := 3, cells := 0, slots := 0, locals := 72 }
theorem inwX0_takeNextEdge : ∀ w ∈ wsX00, w ∈ wsX0_takeNextEdge := fun _ h => List.mem_cons_of_mem _ (List.mem_append_right _ h)
set_option maxRecDepth 20000 in
theorem flX0_takeNextEdge_16 : Cond.fieldLink RX0 16 RX0 (TX0 2).2.1 (TX0 2).2.2.1 ∈ wsX0_takeNextEdge := by decide +kernel
set_option maxRecDepth 20000 in
theorem flX0_takeNextEdge_45 : Cond.fieldLink RX0 45 RX0 (TX0 11).2.1 (TX0 11).2.2.1 ∈ wsX0_takeNextEdge := by decide +kernel
set_option maxRecDepth 20000 in
set_option maxHeartbeats 4000000 in
theorem mtX0_takeNextEdge (SB : pg_ok n X Y) (hk : kc < 13) (hG : ∀ i, i < n → GR i < n) (hNB : ∀ i, i < n → NB i < 2 ^ 14) (hc : ∃ a b, pg_CA n (pg_EB NB) GR a b) : gz_Kv l yX0_takeNextEdge wsX0_takeNextEdge rmX0_takeNextEdge D [(cI, .int), (cJ, .long)] [.ref (ad 0)] (wC ad cI n X Y tc TT NB RG rc KT kc tl GR) (fun w1 => ∃ x y, pg_SEL n X Y (pg_EB NB) GR x y ∧ w1 = (wC ad cI n X Y tc TT NB RG rc (fun i => if i = kc then x + 16 * y else KT i) (kc + 1) (tl + pg_gp X Y x y) (fun i => if i < n ∧ GR i = GR y then GR x else GR i))) := by
  refine gz_ofv (cc := cX0_takeNextEdge) (maxL := 7) (own := RX0) (by decide +kernel) rfl rfl rfl (Nat.le_of_ble_eq_true rfl) ?_
  intro z E ret
  have hn := SB.1
  show gz_G z _ 0 [(0, .ref (ad 0))] []
  have loopA : ∀ (f a : Nat) (u v : Int32) (g : Int64), n < f + a → a ≤ n → pg_ST n X Y (pg_EB NB) GR (a * 16) u v g → gz_G z (wC ad cI n X Y tc TT NB RG rc KT kc tl GR) 9 [(0, .ref (ad 0)), (1, .int u), (2, .int v), (3, .long g), (5, .int (nI a))] [] := by
    intro f
    induction f with
    | zero => intro a u v g h1 h2; exact absurd h1 (by omega)
    | succ f ihA =>
      intro a u v g h1 h2 hE
      have loopB : a < n → ∀ (e b : Nat) (u v : Int32) (g : Int64), n < e + b → a < b → b ≤ n → pg_ST n X Y (pg_EB NB) GR (a * 16 + b) u v g → gz_G z (wC ad cI n X Y tc TT NB RG rc KT kc tl GR) 24 [(0, .ref (ad 0)), (1, .int u), (2, .int v), (3, .long g), (5, .int (nI a)), (6, .int (nI b))] [] := by
        intro han e
        induction e with
        | zero => intro b u v g g1 g2 g3; exact absurd g1 (by omega)
        | succ e ihB =>
          intro b u v g g1 g2 g3 hE
          refine gz_iload E dX0_takeNextEdge_24 rfl ?_
          refine gz_aload_n E dX0_takeNextEdge_26 rfl rfl ?_
          refine gz_get E inwX0_takeNextEdge 0 2 dX0_takeNextEdge_27 flX0_takeNextEdge_16 rfl rfl (by decide) rfl rfl ?_
          refine gz_icN_ge (tgt := 99) E dX0_takeNextEdge_30 (by decide) (by omega) (by omega) (fun q30 => ?_) (fun q30 => ?_)
          · skip
            refine gz_iinc (lv' := [(0, _), (1, _), (2, _), (3, _), (5, _), (6, _)]) E dX0_takeNextEdge_99 rfl (gz_nI1 _) (by decide) rfl ?_
            refine gz_goto (tgt := 9) E dX0_takeNextEdge_102 (by decide) ?_
            refine gz_sub (lv' := [(0, _), (1, _), (2, _), (3, _), (5, _)]) [0, 1, 2, 3, 4] rfl ?_
            have e : b = n := by omega
            subst e
            exact ihA (a + 1) _ _ _ (by omega) (by omega) (pg_ST_jump hE (by omega) (fun i j _ _ _ => by omega))
          · skip
            have ha : a < n := by omega
            have hb : b < n := by omega
            have hGa := hG a ha
            have hGb := hG b hb
            refine gz_aload_n E dX0_takeNextEdge_33 rfl rfl ?_
            refine gz_iload E dX0_takeNextEdge_34 rfl ?_
            refine gz_iload E dX0_takeNextEdge_36 rfl ?_
            refine gz_cali (n := 2) E 0 dX0_takeNextEdge_38 gX0_takeNextEdge_X0_hasEdge (mtX0_hasEdge hn hNB _ _) rfl rfl ⟨rfl, rfl⟩ (by decide +kernel) ⟨Nat.le_of_ble_eq_true rfl, Nat.le_of_ble_eq_true rfl⟩ rfl rfl rfl rfl (Nat.le_of_ble_eq_true rfl) (fun r38 w38 hr38 => ?_)
            obtain ⟨hr38, rfl⟩ := hr38
            refine gz_ifB_eq (tgt := 93) E hr38 dX0_takeNextEdge_41 (by decide) (fun q41 => ?_) (fun q41 => ?_)
            · skip
              refine gz_iinc (lv' := [(0, _), (1, _), (2, _), (3, _), (5, _), (6, _)]) E dX0_takeNextEdge_93 rfl (gz_nI1 _) (by decide) rfl ?_
              refine gz_goto (tgt := 24) E dX0_takeNextEdge_96 (by decide) ?_
              first
                | exact ihB (b + 1) _ _ _ (by omega) (by omega) (by omega) (pg_ST_skip hn hb hE (fun q => q41 ((gz_HE_N hn ha hb).mpr q.2.2.1)))
                | exact ihB (b + 1) _ _ _ (by omega) (by omega) (by omega) (pg_ST_skip hn hb hE (fun q => q.2.2.2 q58))
                | exact ihB (b + 1) _ _ _ (by omega) (by omega) (by omega) (pg_ST_keep SB ha hb hE q62 q74)
                | exact ihB (b + 1) _ _ _ (by omega) (by omega) (by omega) (pg_ST_new SB hE ⟨g2, hb, (gz_HE_N hn ha hb).mp q41, q58⟩ (Or.inl q62))
                | exact ihB (b + 1) _ _ _ (by omega) (by omega) (by omega) (pg_ST_new SB hE ⟨g2, hb, (gz_HE_N hn ha hb).mp q41, q58⟩ (Or.inr q74))
            · skip
              refine gz_aload_n E dX0_takeNextEdge_44 rfl rfl ?_
              refine gz_get E inwX0_takeNextEdge 0 11 dX0_takeNextEdge_45 flX0_takeNextEdge_45 rfl rfl (by decide) rfl rfl ?_
              refine gz_iload E dX0_takeNextEdge_48 rfl ?_
              refine gz_ialdN E 7 0 dX0_takeNextEdge_50 rfl rfl (by decide) rfl (by omega) ?_
              refine gz_aload_n E dX0_takeNextEdge_51 rfl rfl ?_
              refine gz_get E inwX0_takeNextEdge 0 11 dX0_takeNextEdge_52 flX0_takeNextEdge_45 rfl rfl (by decide) rfl rfl ?_
              refine gz_iload E dX0_takeNextEdge_55 rfl ?_
              refine gz_ialdN E 7 0 dX0_takeNextEdge_57 rfl rfl (by decide) rfl (by omega) ?_
              refine gz_icN_eq (tgt := 93) E dX0_takeNextEdge_58 (by decide) (by omega) (by omega) (fun q58 => ?_) (fun q58 => ?_)
              · skip
                refine gz_iinc (lv' := [(0, _), (1, _), (2, _), (3, _), (5, _), (6, _)]) E dX0_takeNextEdge_93 rfl (gz_nI1 _) (by decide) rfl ?_
                refine gz_goto (tgt := 24) E dX0_takeNextEdge_96 (by decide) ?_
                first
                  | exact ihB (b + 1) _ _ _ (by omega) (by omega) (by omega) (pg_ST_skip hn hb hE (fun q => q41 ((gz_HE_N hn ha hb).mpr q.2.2.1)))
                  | exact ihB (b + 1) _ _ _ (by omega) (by omega) (by omega) (pg_ST_skip hn hb hE (fun q => q.2.2.2 q58))
                  | exact ihB (b + 1) _ _ _ (by omega) (by omega) (by omega) (pg_ST_keep SB ha hb hE q62 q74)
                  | exact ihB (b + 1) _ _ _ (by omega) (by omega) (by omega) (pg_ST_new SB hE ⟨g2, hb, (gz_HE_N hn ha hb).mp q41, q58⟩ (Or.inl q62))
                  | exact ihB (b + 1) _ _ _ (by omega) (by omega) (by omega) (pg_ST_new SB hE ⟨g2, hb, (gz_HE_N hn ha hb).mp q41, q58⟩ (Or.inr q74))
              · skip
                refine gz_iload_n E dX0_takeNextEdge_61 rfl rfl ?_
                refine gz_if_lt (tgt := 78) E dX0_takeNextEdge_62 (by decide) (fun q62 => ?_) (fun q62 => ?_)
                · skip
                  refine gz_iload E dX0_takeNextEdge_78 rfl ?_
                  refine gz_istore_n (lv' := [(0, _), (1, _), (2, _), (3, _), (5, _), (6, _)]) E dX0_takeNextEdge_80 rfl (by decide) rfl ?_
                  refine gz_iload E dX0_takeNextEdge_81 rfl ?_
                  refine gz_istore_n (lv' := [(0, _), (1, _), (2, _), (3, _), (5, _), (6, _)]) E dX0_takeNextEdge_83 rfl (by decide) rfl ?_
                  refine gz_aload_n E dX0_takeNextEdge_84 rfl rfl ?_
                  refine gz_iload E dX0_takeNextEdge_85 rfl ?_
                  refine gz_iload E dX0_takeNextEdge_87 rfl ?_
                  refine gz_call (n := 2) E 0 dX0_takeNextEdge_89 gX0_takeNextEdge_X0_gap (mtX0_gap SB (by assumption) (by assumption)) rfl rfl ⟨rfl, rfl⟩ (by decide +kernel) ⟨Nat.le_of_ble_eq_true rfl, Nat.le_of_ble_eq_true rfl⟩ rfl rfl rfl rfl (Nat.le_of_ble_eq_true rfl) (fun r89 w89 hr89 => ?_)
                  obtain ⟨rfl, rfl⟩ := hr89
                  refine gz_lstore_n (lv' := [(0, _), (1, _), (2, _), (3, _), (5, _), (6, _)]) E dX0_takeNextEdge_92 rfl (by decide) rfl ?_
                  refine gz_iinc (lv' := [(0, _), (1, _), (2, _), (3, _), (5, _), (6, _)]) E dX0_takeNextEdge_93 rfl (gz_nI1 _) (by decide) rfl ?_
                  refine gz_goto (tgt := 24) E dX0_takeNextEdge_96 (by decide) ?_
                  first
                    | exact ihB (b + 1) _ _ _ (by omega) (by omega) (by omega) (pg_ST_skip hn hb hE (fun q => q41 ((gz_HE_N hn ha hb).mpr q.2.2.1)))
                    | exact ihB (b + 1) _ _ _ (by omega) (by omega) (by omega) (pg_ST_skip hn hb hE (fun q => q.2.2.2 q58))
                    | exact ihB (b + 1) _ _ _ (by omega) (by omega) (by omega) (pg_ST_keep SB ha hb hE q62 q74)
                    | exact ihB (b + 1) _ _ _ (by omega) (by omega) (by omega) (pg_ST_new SB hE ⟨g2, hb, (gz_HE_N hn ha hb).mp q41, q58⟩ (Or.inl q62))
                    | exact ihB (b + 1) _ _ _ (by omega) (by omega) (by omega) (pg_ST_new SB hE ⟨g2, hb, (gz_HE_N hn ha hb).mp q41, q58⟩ (Or.inr q74))
                · skip
                  refine gz_aload_n E dX0_takeNextEdge_65 rfl rfl ?_
                  refine gz_iload E dX0_takeNextEdge_66 rfl ?_
                  refine gz_iload E dX0_takeNextEdge_68 rfl ?_
                  refine gz_call (n := 2) E 0 dX0_takeNextEdge_70 gX0_takeNextEdge_X0_gap (mtX0_gap SB (by assumption) (by assumption)) rfl rfl ⟨rfl, rfl⟩ (by decide +kernel) ⟨Nat.le_of_ble_eq_true rfl, Nat.le_of_ble_eq_true rfl⟩ rfl rfl rfl rfl (Nat.le_of_ble_eq_true rfl) (fun r70 w70 hr70 => ?_)
                  obtain ⟨rfl, rfl⟩ := hr70
                  refine gz_lload_n E dX0_takeNextEdge_73 rfl rfl ?_
                  refine gz_lc_ge (tgt := 93) E dX0_takeNextEdge_74 dX0_takeNextEdge_75 (by decide) (fun q74 => ?_) (fun q74 => ?_)
                  · skip
                    refine gz_iinc (lv' := [(0, _), (1, _), (2, _), (3, _), (5, _), (6, _)]) E dX0_takeNextEdge_93 rfl (gz_nI1 _) (by decide) rfl ?_
                    refine gz_goto (tgt := 24) E dX0_takeNextEdge_96 (by decide) ?_
                    first
                      | exact ihB (b + 1) _ _ _ (by omega) (by omega) (by omega) (pg_ST_skip hn hb hE (fun q => q41 ((gz_HE_N hn ha hb).mpr q.2.2.1)))
                      | exact ihB (b + 1) _ _ _ (by omega) (by omega) (by omega) (pg_ST_skip hn hb hE (fun q => q.2.2.2 q58))
                      | exact ihB (b + 1) _ _ _ (by omega) (by omega) (by omega) (pg_ST_keep SB ha hb hE q62 q74)
                      | exact ihB (b + 1) _ _ _ (by omega) (by omega) (by omega) (pg_ST_new SB hE ⟨g2, hb, (gz_HE_N hn ha hb).mp q41, q58⟩ (Or.inl q62))
                      | exact ihB (b + 1) _ _ _ (by omega) (by omega) (by omega) (pg_ST_new SB hE ⟨g2, hb, (gz_HE_N hn ha hb).mp q41, q58⟩ (Or.inr q74))
                  · skip
                    refine gz_iload E dX0_takeNextEdge_78 rfl ?_
                    refine gz_istore_n (lv' := [(0, _), (1, _), (2, _), (3, _), (5, _), (6, _)]) E dX0_takeNextEdge_80 rfl (by decide) rfl ?_
                    refine gz_iload E dX0_takeNextEdge_81 rfl ?_
                    refine gz_istore_n (lv' := [(0, _), (1, _), (2, _), (3, _), (5, _), (6, _)]) E dX0_takeNextEdge_83 rfl (by decide) rfl ?_
                    refine gz_aload_n E dX0_takeNextEdge_84 rfl rfl ?_
                    refine gz_iload E dX0_takeNextEdge_85 rfl ?_
                    refine gz_iload E dX0_takeNextEdge_87 rfl ?_
                    refine gz_call (n := 2) E 0 dX0_takeNextEdge_89 gX0_takeNextEdge_X0_gap (mtX0_gap SB (by assumption) (by assumption)) rfl rfl ⟨rfl, rfl⟩ (by decide +kernel) ⟨Nat.le_of_ble_eq_true rfl, Nat.le_of_ble_eq_true rfl⟩ rfl rfl rfl rfl (Nat.le_of_ble_eq_true rfl) (fun r89 w89 hr89 => ?_)
                    obtain ⟨rfl, rfl⟩ := hr89
                    refine gz_lstore_n (lv' := [(0, _), (1, _), (2, _), (3, _), (5, _), (6, _)]) E dX0_takeNextEdge_92 rfl (by decide) rfl ?_
                    refine gz_iinc (lv' := [(0, _), (1, _), (2, _), (3, _), (5, _), (6, _)]) E dX0_takeNextEdge_93 rfl (gz_nI1 _) (by decide) rfl ?_
                    refine gz_goto (tgt := 24) E dX0_takeNextEdge_96 (by decide) ?_
                    first
                      | exact ihB (b + 1) _ _ _ (by omega) (by omega) (by omega) (pg_ST_skip hn hb hE (fun q => q41 ((gz_HE_N hn ha hb).mpr q.2.2.1)))
                      | exact ihB (b + 1) _ _ _ (by omega) (by omega) (by omega) (pg_ST_skip hn hb hE (fun q => q.2.2.2 q58))
                      | exact ihB (b + 1) _ _ _ (by omega) (by omega) (by omega) (pg_ST_keep SB ha hb hE q62 q74)
                      | exact ihB (b + 1) _ _ _ (by omega) (by omega) (by omega) (pg_ST_new SB hE ⟨g2, hb, (gz_HE_N hn ha hb).mp q41, q58⟩ (Or.inl q62))
                      | exact ihB (b + 1) _ _ _ (by omega) (by omega) (by omega) (pg_ST_new SB hE ⟨g2, hb, (gz_HE_N hn ha hb).mp q41, q58⟩ (Or.inr q74))
      refine gz_iload E dX0_takeNextEdge_9 rfl ?_
      refine gz_aload_n E dX0_takeNextEdge_11 rfl rfl ?_
      refine gz_get E inwX0_takeNextEdge 0 2 dX0_takeNextEdge_12 flX0_takeNextEdge_16 rfl rfl (by decide) rfl rfl ?_
      refine gz_icN_ge (tgt := 105) E dX0_takeNextEdge_15 (by decide) (by omega) (by omega) (fun q15 => ?_) (fun q15 => ?_)
      · skip
        have e : a = n := by omega
        subst e
        rcases pg_ST_fin hn hE with ⟨-, hno⟩ | ⟨x, y, rfl, rfl, hsel⟩
        · obtain ⟨a1, b1, hab⟩ := hc; exact absurd hab (hno a1 b1)
        have hsx := hsel.1.1
        have hsy := hsel.1.2.1
        refine gz_iload_n E dX0_takeNextEdge_105 rfl rfl ?_
        refine gz_if_lt (tgt := 115) E dX0_takeNextEdge_106 (by decide) (fun q106 => ?_) (fun q106 => ?_)
        · exact absurd q106 (nI_pos (by omega))
        · skip
          refine gz_aload_n E dX0_takeNextEdge_109 rfl rfl ?_
          refine gz_iload_n E dX0_takeNextEdge_110 rfl rfl ?_
          refine gz_iload_n E dX0_takeNextEdge_111 rfl rfl ?_
          refine gz_calv (n := 2) E 0 dX0_takeNextEdge_112 gX0_takeNextEdge_X0_takeEdge (mtX0_takeEdge SB hsx hsy hk hG) rfl rfl ⟨rfl, rfl⟩ (by decide +kernel) ⟨Nat.le_of_ble_eq_true rfl, Nat.le_of_ble_eq_true rfl⟩ rfl rfl rfl rfl (Nat.le_of_ble_eq_true rfl) (fun w112 hr112 => ?_)
          subst hr112
          exact ret _ _ _ dX0_takeNextEdge_115 ⟨x, y, hsel, rfl⟩
      · skip
        refine gz_iload E dX0_takeNextEdge_18 rfl ?_
        refine gz_iconst (v := nI 1) E dX0_takeNextEdge_20 (by decide) ?_
        refine gz_iaddN E dX0_takeNextEdge_21 ?_
        refine gz_istore (lv' := [(0, _), (1, _), (2, _), (3, _), (5, _), (6, _)]) E dX0_takeNextEdge_22 (by decide) rfl ?_
        exact loopB (by omega) (n + 1) (a + 1) _ _ _ (by omega) (by omega) (by omega) (pg_ST_jump hE (by omega) (fun i j _ _ _ => by omega))
  refine gz_iconst (v := -1) E dX0_takeNextEdge_0 (by decide) ?_
  refine gz_istore_n (lv' := [(0, _), (1, _)]) E dX0_takeNextEdge_1 rfl (by decide) rfl ?_
  refine gz_iconst (v := -1) E dX0_takeNextEdge_2 (by decide) ?_
  refine gz_istore_n (lv' := [(0, _), (1, _), (2, _)]) E dX0_takeNextEdge_3 rfl (by decide) rfl ?_
  refine gz_lconst (v := lI 0) E dX0_takeNextEdge_4 (by decide) ?_
  refine gz_lstore_n (lv' := [(0, _), (1, _), (2, _), (3, _)]) E dX0_takeNextEdge_5 rfl (by decide) rfl ?_
  refine gz_iconst (v := nI 0) E dX0_takeNextEdge_6 (by decide) ?_
  refine gz_istore (lv' := [(0, _), (1, _), (2, _), (3, _), (5, _)]) E dX0_takeNextEdge_7 (by decide) rfl ?_
  exact loopA (n + 1) 0 _ _ _ (by omega) (by omega) (by rw [Nat.zero_mul]; exact pg_ST_0)
abbrev rmX0_growTree : Room := { frames := 4, cells := 0, slots := 0, locals := 98 }
theorem inwX0_growTree : ∀ w ∈ wsX00, w ∈ wsX0_growTree := fun _ h => List.mem_cons_of_mem _ (List.mem_append_right _ h)
set_option maxRecDepth 20000 in
theorem flX0_growTree_16 : Cond.fieldLink RX0 16 RX0 (TX0 2).2.1 (TX0 2).2.2.1 ∈ wsX0_growTree := by decide +kernel
set_option maxRecDepth 20000 in
theorem flX0_growTree_45 : Cond.fieldLink RX0 45 RX0 (TX0 11).2.1 (TX0 11).2.2.1 ∈ wsX0_growTree := by decide +kernel
set_option maxRecDepth 20000 in
theorem flX0_growTree_38 : Cond.fieldLink RX0 38 RX0 (TX0 9).2.1 (TX0 9).2.2.1 ∈ wsX0_growTree := by decide +kernel
set_option maxRecDepth 20000 in
theorem flX0_growTree_41 : Cond.fieldLink RX0 41 RX0 (TX0 10).2.1 (TX0 10).2.2.1 ∈ wsX0_growTree := by decide +kernel
set_option maxRecDepth 20000 in
set_option maxHeartbeats 4000000 in
theorem mtX0_growTree (SB : pg_ok n X Y) (hn0 : 0 < n) (hNB : ∀ i, i < n → NB i < 2 ^ 14) (hcon : ∀ GR : Nat → Nat, (∃ i j, i < n ∧ j < n ∧ GR i ≠ GR j) → ∃ a b, pg_CA n (pg_EB NB) GR a b) : gz_Kv l yX0_growTree wsX0_growTree rmX0_growTree D [(cI, .int), (cJ, .long)] [.ref (ad 0)] (wC ad cI n X Y tc TT NB RG rc KT kc tl GR) (fun w1 => ∃ KT tl GR, w1 = (wC ad cI n X Y tc TT NB RG rc KT (n - 1) tl GR) ∧ pg_TI n X Y (pg_EB NB) (n - 1) KT tl GR) := by
  refine gz_ofv (cc := cX0_growTree) (maxL := 2) (own := RX0) (by decide +kernel) rfl rfl rfl (Nat.le_of_ble_eq_true rfl) ?_
  intro z E ret
  have hn := SB.1
  show gz_G z _ 0 [(0, .ref (ad 0))] []
  have loopB : ∀ (f s : Nat) (KT : Nat → Nat) (tl : Int) (GR : Nat → Nat), n < f + s → s + 1 ≤ n → pg_TI n X Y (pg_EB NB) s KT tl GR → gz_G z (wC ad cI n X Y tc TT NB RG rc KT s tl GR) 35 [(0, .ref (ad 0)), (1, .int (nI (s + 1)))] [] := by
    intro f
    induction f with
    | zero => intro s KT tl GR h1 h2; exact absurd h1 (by omega)
    | succ f ihB =>
      intro s KT tl GR h1 h2 hE
      refine gz_iload_n E dX0_growTree_35 rfl rfl ?_
      refine gz_aload_n E dX0_growTree_36 rfl rfl ?_
      refine gz_get E inwX0_growTree 0 2 dX0_growTree_37 flX0_growTree_16 rfl rfl (by decide) rfl rfl ?_
      refine gz_icN_ge (tgt := 53) E dX0_growTree_40 (by decide) (by omega) (by omega) (fun q40 => ?_) (fun q40 => ?_)
      · skip
        have e : s = n - 1 := by omega
        subst e
        exact ret _ _ _ dX0_growTree_53 ⟨KT, tl, GR, rfl, hE⟩
      · skip
        refine gz_aload_n E dX0_growTree_43 rfl rfl ?_
        refine gz_calv (n := 0) E 0 dX0_growTree_44 gX0_growTree_X0_takeNextEdge (mtX0_takeNextEdge SB (by omega) (pg_TI_lt hE) hNB (hcon GR (pg_TI_more hE (by omega)))) rfl rfl ⟨rfl, rfl⟩ (by decide +kernel) ⟨Nat.le_of_ble_eq_true rfl, Nat.le_of_ble_eq_true rfl⟩ rfl rfl rfl rfl (Nat.le_of_ble_eq_true rfl) (fun w44 hr44 => ?_)
        obtain ⟨x, y, hsel, rfl⟩ := hr44
        refine gz_iinc (lv' := [(0, _), (1, _)]) E dX0_growTree_47 rfl (gz_nI1 _) (by decide) rfl ?_
        refine gz_goto (tgt := 35) E dX0_growTree_50 (by decide) ?_
        exact ihB (s + 1) _ _ _ (by omega) (by omega) (pg_TI_step hE hsel)
  have loopA : ∀ (f a : Nat) (GR : Nat → Nat), n < f + a → a ≤ n → (∀ i, i < a → GR i = i) → gz_G z (wC ad cI n X Y tc TT NB RG rc KT 0 0 GR) 12 [(0, .ref (ad 0)), (1, .int (nI a))] [] := by
    intro f
    induction f with
    | zero => intro a GR h1 h2; exact absurd h1 (by omega)
    | succ f ihA =>
      intro a GR h1 h2 hE
      refine gz_iload_n E dX0_growTree_12 rfl rfl ?_
      refine gz_aload_n E dX0_growTree_13 rfl rfl ?_
      refine gz_get E inwX0_growTree 0 2 dX0_growTree_14 flX0_growTree_16 rfl rfl (by decide) rfl rfl ?_
      refine gz_icN_ge (tgt := 33) E dX0_growTree_17 (by decide) (by omega) (by omega) (fun q17 => ?_) (fun q17 => ?_)
      · skip
        refine gz_iconst (v := nI 1) E dX0_growTree_33 (by decide) ?_
        refine gz_istore_n (lv' := [(0, _), (1, _)]) E dX0_growTree_34 rfl (by decide) rfl ?_
        exact loopB (n + 1) 0 _ _ _ (by omega) (by omega) (pg_TI_0 (fun i hi => hE i (by omega)))
      · skip
        refine gz_aload_n E dX0_growTree_20 rfl rfl ?_
        refine gz_get E inwX0_growTree 0 11 dX0_growTree_21 flX0_growTree_45 rfl rfl (by decide) rfl rfl ?_
        refine gz_iload_n E dX0_growTree_24 rfl rfl ?_
        refine gz_iload_n E dX0_growTree_25 rfl rfl ?_
        refine gz_iastN E 7 0 dX0_growTree_26 rfl rfl (by decide) (by omega) ?_
        refine gz_w (ws' := (wC ad cI n X Y tc TT NB RG rc KT 0 0 (fun i => if i = a then a else GR i))) (by rw [gz_upN]; rfl) ?_
        refine gz_iinc (lv' := [(0, _), (1, _)]) E dX0_growTree_27 rfl (gz_nI1 _) (by decide) rfl ?_
        refine gz_goto (tgt := 12) E dX0_growTree_30 (by decide) ?_
        exact ihA (a + 1) _ (by omega) (by omega) (fun i hi => by
          by_cases e : i = a
          · simp [e]
          · simp only [if_neg e]; exact hE i (by omega))
  refine gz_aload_n E dX0_growTree_0 rfl rfl ?_
  refine gz_iconst (v := nI 0) E dX0_growTree_1 (by decide) ?_
  refine gz_put E inwX0_growTree 0 9 dX0_growTree_2 flX0_growTree_38 rfl rfl (by decide) rfl tyX0 tyX0_ok nmX0 rfl rfl rfl (Nat.le_of_ble_eq_true rfl) ?_
  refine gz_w (ws' := (wC ad cI n X Y tc TT NB RG rc KT 0 tl GR)) (by rfl) ?_
  refine gz_aload_n E dX0_growTree_5 rfl rfl ?_
  refine gz_lconst (v := lI 0) E dX0_growTree_6 (by decide) ?_
  refine gz_put E inwX0_growTree 0 10 dX0_growTree_7 flX0_growTree_41 rfl rfl (by decide) rfl tyX0 tyX0_ok nmX0 rfl rfl rfl (Nat.le_of_ble_eq_true rfl) ?_
  refine gz_w (ws' := (wC ad cI n X Y tc TT NB RG rc KT 0 0 GR)) (by rfl) ?_
  refine gz_iconst (v := nI 0) E dX0_growTree_10 (by decide) ?_
  refine gz_istore_n (lv' := [(0, _), (1, _)]) E dX0_growTree_11 rfl (by decide) rfl ?_
  exact loopA (n + 1) 0 _ (by omega) (by omega) (fun i hi => absurd hi (by omega))
theorem pg_p14 {n : Nat} {NB : Nat → Nat} (hn : n ≤ 14) (h : ∀ i, i < n → NB i < 2 ^ n) : ∀ i, i < n → NB i < 2 ^ 14 := fun i hi => Nat.lt_of_lt_of_le (h i hi) (Nat.pow_le_pow_right (by decide) hn)
def pg_LC (n : Nat) (X Y : Nat → Int) (f : Nat) : Prop := f < n ∧ ((n = 1 ∧ f = 0) ∨ (n ≠ 1 ∧ (∃ b, pg_NX n X Y f b) ∧ ∀ c, c < f → pg_NN n X Y c))
/-- the ring of the corners -/
def pg_RI (n : Nat) (X Y : Nat → Int) (rc : Nat) (RG : Nat → Nat) : Prop := ∃ f, pg_LC n X Y f ∧ 0 < rc ∧ rc ≤ 14 ∧ pg_CH n X Y f rc RG ∧ (rc = 14 ∨ pg_NX n X Y (RG (rc - 1)) f ∨ pg_NN n X Y (RG (rc - 1)))
/-- the class's state over its sites -/
def pg_ALL (n : Nat) (X Y : Nat → Int) (tc : Nat) (TT NB RG : Nat → Nat) (rc : Nat) (KT : Nat → Nat) (kc : Nat) (tl : Int) (GR : Nat → Nat) : Prop := pg_ENT n X Y 4096 tc TT ∧ pg_NBs n X Y tc TT NB ∧ pg_RI n X Y rc RG ∧ kc = n - 1 ∧ pg_TI n X Y (pg_EB NB) (n - 1) KT tl GR
theorem pg_ENT_T {n q tc : Nat} {X Y : Nat → Int} {TT : Nat → Nat} (h : pg_ENT n X Y q tc TT) : ∀ t, t < tc → ∃ a b c, a < b ∧ b < c ∧ c < n ∧ TT t = a + 16 * b + 256 * c := by
  obtain ⟨A, B, C, h1, h2⟩ := h
  intro t ht
  obtain ⟨k1, k2, k3⟩ := pg_TR_lt (h1.1 t ht).1
  exact ⟨A t, B t, C t, k1, k2, k3, h2 t ht⟩
/-- what the plane gives: an edge between two groups, a corner -/
def pg_PL (n : Nat) (X Y : Nat → Int) : Prop := (n = 1 ∨ ∃ a b, a < n ∧ pg_NX n X Y a b) ∧ ∀ tc TT NB, pg_ENT n X Y 4096 tc TT → pg_NBs n X Y tc TT NB → ∀ GR : Nat → Nat, (∃ i j, i < n ∧ j < n ∧ GR i ≠ GR j) → ∃ a b, pg_CA n (pg_EB NB) GR a b
abbrev rmX0_rebuild : Room := { frames := 5, cells := 0, slots := 0, locals := 138 }
set_option maxRecDepth 20000 in
set_option maxHeartbeats 4000000 in
theorem mtX0_rebuild (SB : pg_ok n X Y) (hn0 : 0 < n) (hPL : pg_PL n X Y) : gz_Kv l yX0_rebuild wsX0_rebuild rmX0_rebuild D [(cI, .int), (cJ, .long)] [.ref (ad 0)] (wC ad cI n X Y tc TT NB RG rc KT kc tl GR) (fun w1 => ∃ tc TT NB RG rc KT kc tl GR, w1 = (wC ad cI n X Y tc TT NB RG rc KT kc tl GR) ∧ pg_ALL n X Y tc TT NB RG rc KT kc tl GR) := by
  refine gz_ofv (cc := cX0_rebuild) (maxL := 1) (own := RX0) (by decide +kernel) rfl rfl rfl (Nat.le_of_ble_eq_true rfl) ?_
  intro z E ret
  have hn := SB.1
  show gz_G z _ 0 [(0, .ref (ad 0))] []
  refine gz_aload_n E dX0_rebuild_0 rfl rfl ?_
  refine gz_calv (n := 0) E 0 dX0_rebuild_1 gX0_rebuild_X0_findTriangles (mtX0_findTriangles SB) rfl rfl ⟨rfl, rfl⟩ (by decide +kernel) ⟨Nat.le_of_ble_eq_true rfl, Nat.le_of_ble_eq_true rfl⟩ rfl rfl rfl rfl (Nat.le_of_ble_eq_true rfl) (fun w1 hr1 => ?_)
  obtain ⟨tc, TT, rfl, hEN1⟩ := hr1
  refine gz_aload_n E dX0_rebuild_4 rfl rfl ?_
  refine gz_calv (n := 0) E 0 dX0_rebuild_5 gX0_rebuild_X0_findEdges (mtX0_findEdges SB (pg_ENT_23 SB hEN1) (pg_ENT_T hEN1)) rfl rfl ⟨rfl, rfl⟩ (by decide +kernel) ⟨Nat.le_of_ble_eq_true rfl, Nat.le_of_ble_eq_true rfl⟩ rfl rfl rfl rfl (Nat.le_of_ble_eq_true rfl) (fun w5 hr5 => ?_)
  obtain ⟨NB, rfl, hNB5⟩ := hr5
  refine gz_aload_n E dX0_rebuild_8 rfl rfl ?_
  refine gz_aload_n E dX0_rebuild_9 rfl rfl ?_
  refine gz_cali (n := 0) E 0 dX0_rebuild_10 gX0_rebuild_X0_leastCorner (mtX0_leastCorner SB) rfl rfl ⟨rfl, rfl⟩ (by decide +kernel) ⟨Nat.le_of_ble_eq_true rfl, Nat.le_of_ble_eq_true rfl⟩ rfl rfl rfl rfl (Nat.le_of_ble_eq_true rfl) (fun r10 w10 hr10 => ?_)
  obtain ⟨hr10, rfl⟩ := hr10
  obtain ⟨f, hLC, rfl⟩ : ∃ f, pg_LC n X Y f ∧ r10 = nI f := by
    rcases hr10 with ⟨e1, e2⟩ | ⟨e1, a, b, ha, hb, hc, e2⟩ | ⟨e1, e2, e3⟩
    · exact ⟨0, ⟨hn0, Or.inl ⟨e1, rfl⟩⟩, e2⟩
    · exact ⟨a, ⟨ha, Or.inr ⟨e1, ⟨b, hb⟩, hc⟩⟩, e2⟩
    · rcases hPL.1 with e | ⟨a, b, ha, hb⟩
      · exact absurd e e1
      · exact absurd hb (fun q => pg_NX_NN q (e3 a ha))
  refine gz_calv (n := 1) E 0 dX0_rebuild_13 gX0_rebuild_X0_findRing (mtX0_findRing SB hLC.1) rfl rfl ⟨rfl, rfl⟩ (by decide +kernel) ⟨Nat.le_of_ble_eq_true rfl, Nat.le_of_ble_eq_true rfl⟩ rfl rfl rfl rfl (Nat.le_of_ble_eq_true rfl) (fun w13 hr13 => ?_)
  obtain ⟨rc, RG, rfl, hRG13⟩ := hr13
  refine gz_aload_n E dX0_rebuild_16 rfl rfl ?_
  refine gz_calv (n := 0) E 0 dX0_rebuild_17 gX0_rebuild_X0_growTree (mtX0_growTree SB hn0 (pg_p14 hn hNB5.1) (hPL.2 _ _ _ hEN1 hNB5)) rfl rfl ⟨rfl, rfl⟩ (by decide +kernel) ⟨Nat.le_of_ble_eq_true rfl, Nat.le_of_ble_eq_true rfl⟩ rfl rfl rfl rfl (Nat.le_of_ble_eq_true rfl) (fun w17 hr17 => ?_)
  obtain ⟨KT, tl, GR, rfl, hTI17⟩ := hr17
  exact ret _ _ _ dX0_rebuild_20 ⟨_, _, _, _, _, _, _, _, _, rfl, hEN1, hNB5, ⟨f, hLC, hRG13⟩, rfl, hTI17⟩
theorem pg_ok_add {n : Nat} {X Y : Nat → Int} {x y : Int} (h : pg_ok n X Y) (hn : n < 14) (x1 : -30000 ≤ x) (x2 : x ≤ 30000) (y1 : -30000 ≤ y) (y2 : y ≤ 30000) (hno : ∀ k, k < n → ¬ (X k = x ∧ Y k = y)) : pg_ok (n + 1) (fun i => if i = n then x else X i) (fun i => if i = n then y else Y i) := by
  refine ⟨by omega, fun i hi => ?_, fun i j hi hj e1 e2 => ?_⟩
  · by_cases e : i = n
    · simp [e]; omega
    · simp only [if_neg e]; exact h.2.1 i (by omega)
  · dsimp only at e1 e2
    by_cases a : i = n
    · by_cases b : j = n
      · omega
      · rw [if_pos a, if_neg b] at e1 e2
        exact absurd ⟨e1.symm, e2.symm⟩ (hno j (by omega))
    · by_cases b : j = n
      · rw [if_neg a, if_pos b] at e1 e2
        exact absurd ⟨e1, e2⟩ (hno i (by omega))
      · rw [if_neg a, if_neg b] at e1 e2
        exact h.2.2 i j (by omega) (by omega) e1 e2
abbrev rmX0_add : Room := { frames := 6, cells := 0, slots := 0, locals := 158 }
theorem inwX0_add : ∀ w ∈ wsX00, w ∈ wsX0_add := fun _ h => List.mem_cons_of_mem _ (List.mem_append_right _ h)
set_option maxRecDepth 20000 in
theorem flX0_add_16 : Cond.fieldLink RX0 16 RX0 (TX0 2).2.1 (TX0 2).2.2.1 ∈ wsX0_add := by decide +kernel
set_option maxRecDepth 20000 in
theorem flX0_add_9 : Cond.fieldLink RX0 9 RX0 (TX0 0).2.1 (TX0 0).2.2.1 ∈ wsX0_add := by decide +kernel
set_option maxRecDepth 20000 in
theorem flX0_add_13 : Cond.fieldLink RX0 13 RX0 (TX0 1).2.1 (TX0 1).2.2.1 ∈ wsX0_add := by decide +kernel
set_option maxRecDepth 20000 in
set_option maxHeartbeats 4000000 in
theorem mtX0_add (SB : pg_ok n X Y) {x y : Int} (x1 : -2147483648 ≤ x) (x2 : x < 2147483648) (y1 : -2147483648 ≤ y) (y2 : y < 2147483648) (hPL : pg_ok (n + 1) (fun i => if i = n then x else X i) (fun i => if i = n then y else Y i) → pg_PL (n + 1) (fun i => if i = n then x else X i) (fun i => if i = n then y else Y i)) : gz_Ki l yX0_add wsX0_add rmX0_add D [(cI, .int), (cJ, .long)] [.ref (ad 0), .int (iI x), .int (iI y)] (wC ad cI n X Y tc TT NB RG rc KT kc tl GR) (fun r w1 => ((x < -30000 ∨ 30000 < x ∨ y < -30000 ∨ 30000 < y) ∧ r = -1 ∧ w1 = (wC ad cI n X Y tc TT NB RG rc KT kc tl GR)) ∨ ((-30000 ≤ x ∧ x ≤ 30000 ∧ -30000 ≤ y ∧ y ≤ 30000) ∧ ((∃ k, k < n ∧ X k = x ∧ Y k = y ∧ r = nI k ∧ w1 = (wC ad cI n X Y tc TT NB RG rc KT kc tl GR)) ∨ ((∀ k, k < n → ¬ (X k = x ∧ Y k = y)) ∧ ((n = 14 ∧ r = -2 ∧ w1 = (wC ad cI n X Y tc TT NB RG rc KT kc tl GR)) ∨ (n < 14 ∧ r = nI n ∧ ∃ tc TT NB RG rc KT kc tl GR, w1 = (wC ad cI (n + 1) (fun i => if i = n then x else X i) (fun i => if i = n then y else Y i) tc TT NB RG rc KT kc tl GR) ∧ pg_ALL (n + 1) (fun i => if i = n then x else X i) (fun i => if i = n then y else Y i) tc TT NB RG rc KT kc tl GR)))))) := by
  refine gz_ofi (cc := cX0_add) (maxL := 5) (own := RX0) (by decide +kernel) rfl rfl rfl (Nat.le_of_ble_eq_true rfl) ?_
  intro z E ret
  have hn := SB.1
  show gz_G z _ 0 [(0, .ref (ad 0)), (1, .int (iI x)), (2, .int (iI y))] []
  refine gz_iload_n E dX0_add_0 rfl rfl ?_
  refine gz_stati (n := 1) E dX0_add_1 gX0_add_X0_isTooFar (mtX0_isTooFar (by omega) (by omega)) rfl ⟨rfl, rfl⟩ (by decide +kernel) ⟨Nat.le_of_ble_eq_true rfl, Nat.le_of_ble_eq_true rfl⟩ rfl rfl (Nat.le_of_ble_eq_true rfl) (fun r1 hr1 => ?_)
  refine gz_ifB_ne (tgt := 14) E hr1 dX0_add_4 (by decide) (fun q4 => ?_) (fun q4 => ?_)
  · skip
    refine gz_iconst (v := -1) E dX0_add_14 (by decide) ?_
    exact ret _ _ _ _ dX0_add_15 rfl (Or.inl ⟨by omega, rfl, rfl⟩)
  · skip
    refine gz_iload_n E dX0_add_7 rfl rfl ?_
    refine gz_stati (n := 1) E dX0_add_8 gX0_add_X0_isTooFar (mtX0_isTooFar (by omega) (by omega)) rfl ⟨rfl, rfl⟩ (by decide +kernel) ⟨Nat.le_of_ble_eq_true rfl, Nat.le_of_ble_eq_true rfl⟩ rfl rfl (Nat.le_of_ble_eq_true rfl) (fun r8 hr8 => ?_)
    refine gz_ifB_eq (tgt := 16) E hr8 dX0_add_11 (by decide) (fun q11 => ?_) (fun q11 => ?_)
    · skip
      refine gz_aload_n E dX0_add_16 rfl rfl ?_
      refine gz_iload_n E dX0_add_17 rfl rfl ?_
      refine gz_iload_n E dX0_add_18 rfl rfl ?_
      refine gz_cali (n := 2) E 0 dX0_add_19 gX0_add_X0_siteAt (mtX0_siteAt SB x1 x2 y1 y2) rfl rfl ⟨rfl, rfl⟩ (by decide +kernel) ⟨Nat.le_of_ble_eq_true rfl, Nat.le_of_ble_eq_true rfl⟩ rfl rfl rfl rfl (Nat.le_of_ble_eq_true rfl) (fun r19 w19 hr19 => ?_)
      obtain ⟨hr19, rfl⟩ := hr19
      refine gz_istore_n (lv' := [(0, _), (1, _), (2, _), (3, _)]) E dX0_add_22 rfl (by decide) rfl ?_
      refine gz_iload_n E dX0_add_23 rfl rfl ?_
      refine gz_if_lt (tgt := 29) E dX0_add_24 (by decide) (fun q24 => ?_) (fun q24 => ?_)
      · skip
        have hno : ∀ k, k < n → ¬ (X k = x ∧ Y k = y) := by
          rcases hr19 with ⟨k, hk1, hk2, hk3, h⟩ | ⟨-, h⟩
          · exact absurd (h ▸ q24) (nI_pos (by omega))
          · exact h
        refine gz_aload_n E dX0_add_29 rfl rfl ?_
        refine gz_get E inwX0_add 0 2 dX0_add_30 flX0_add_16 rfl rfl (by decide) rfl rfl ?_
        refine gz_bipush (v := nI 14) E dX0_add_33 (by decide) ?_
        refine gz_icN_lt (tgt := 41) E dX0_add_35 (by decide) (by omega) (by omega) (fun q35 => ?_) (fun q35 => ?_)
        · skip
          have hok := pg_ok_add SB (by omega) (by omega) (by omega) (by omega) (by omega) hno
          refine gz_aload_n E dX0_add_41 rfl rfl ?_
          refine gz_get E inwX0_add 0 2 dX0_add_42 flX0_add_16 rfl rfl (by decide) rfl rfl ?_
          refine gz_istore (lv' := [(0, _), (1, _), (2, _), (3, _), (4, _)]) E dX0_add_45 (by decide) rfl ?_
          refine gz_aload_n E dX0_add_47 rfl rfl ?_
          refine gz_get E inwX0_add 0 0 dX0_add_48 flX0_add_9 rfl rfl (by decide) rfl rfl ?_
          refine gz_iload E dX0_add_51 rfl ?_
          refine gz_iload_n E dX0_add_53 rfl rfl ?_
          refine gz_iastN E 1 0 dX0_add_54 rfl rfl (by decide) (by omega) ?_
          refine gz_w (ws' := (wC ad cI n (fun i => if i = n then x else X i) Y tc TT NB RG rc KT kc tl GR)) (by rw [gz_upI]; rfl) ?_
          refine gz_aload_n E dX0_add_55 rfl rfl ?_
          refine gz_get E inwX0_add 0 1 dX0_add_56 flX0_add_13 rfl rfl (by decide) rfl rfl ?_
          refine gz_iload E dX0_add_59 rfl ?_
          refine gz_iload_n E dX0_add_61 rfl rfl ?_
          refine gz_iastN E 2 0 dX0_add_62 rfl rfl (by decide) (by omega) ?_
          refine gz_w (ws' := (wC ad cI n (fun i => if i = n then x else X i) (fun i => if i = n then y else Y i) tc TT NB RG rc KT kc tl GR)) (by rw [gz_upI]; rfl) ?_
          refine gz_aload_n E dX0_add_63 rfl rfl ?_
          refine gz_iload E dX0_add_64 rfl ?_
          refine gz_iconst (v := nI 1) E dX0_add_66 (by decide) ?_
          refine gz_iaddN E dX0_add_67 ?_
          refine gz_put E inwX0_add 0 2 dX0_add_68 flX0_add_16 rfl rfl (by decide) rfl tyX0 tyX0_ok nmX0 rfl rfl rfl (Nat.le_of_ble_eq_true rfl) ?_
          refine gz_w (ws' := (wC ad cI (n + 1) (fun i => if i = n then x else X i) (fun i => if i = n then y else Y i) tc TT NB RG rc KT kc tl GR)) (by rfl) ?_
          refine gz_aload_n E dX0_add_71 rfl rfl ?_
          refine gz_calv (n := 0) E 0 dX0_add_72 gX0_add_X0_rebuild (mtX0_rebuild hok (by omega) (hPL hok)) rfl rfl ⟨rfl, rfl⟩ (by decide +kernel) ⟨Nat.le_of_ble_eq_true rfl, Nat.le_of_ble_eq_true rfl⟩ rfl rfl rfl rfl (Nat.le_of_ble_eq_true rfl) (fun w72 hr72 => ?_)
          obtain ⟨tc, TT, NB, RG, rc, KT, kc, tl, GR, rfl, hAL72⟩ := hr72
          refine gz_iload E dX0_add_75 rfl ?_
          exact ret _ _ _ _ dX0_add_77 rfl (Or.inr ⟨by omega, Or.inr ⟨hno, Or.inr ⟨by omega, rfl, _, _, _, _, _, _, _, _, _, rfl, hAL72⟩⟩⟩)
        · skip
          refine gz_bipush (v := -2) E dX0_add_38 (by decide) ?_
          exact ret _ _ _ _ dX0_add_40 rfl (Or.inr ⟨by omega, Or.inr ⟨hno, Or.inl ⟨by omega, rfl, rfl⟩⟩⟩)
      · skip
        refine gz_iload_n E dX0_add_27 rfl rfl ?_
        obtain ⟨k, hk1, hk2, hk3, rfl⟩ : ∃ k, k < n ∧ X k = x ∧ Y k = y ∧ r19 = nI k := by
          rcases hr19 with h | ⟨h, -⟩
          · exact h
          · exact absurd (by rw [h]; decide) q24
        exact ret _ _ _ _ dX0_add_28 rfl (Or.inr ⟨by omega, Or.inl ⟨k, hk1, hk2, hk3, rfl, rfl⟩⟩)
    · skip
      refine gz_iconst (v := -1) E dX0_add_14 (by decide) ?_
      exact ret _ _ _ _ dX0_add_15 rfl (Or.inl ⟨by omega, rfl, rfl⟩)
end CF
