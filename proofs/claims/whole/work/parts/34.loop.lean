/-! the law, case by case -/
section LC
variable {z : gz_Z} {l : Launch} {D : va_G} {ad bd : Nat → Nat} {cI cJ : ClassId} {b L : Nat} {xs : Nat → Int32}
variable {n tc rc kc mc ec kd i : Nat} {X Y : Nat → Int} {TT NB RG KT GR LE MI GE CO LS GT GP : Nat → Nat} {tl tm : Int}
set_option maxRecDepth 20000 in
theorem cwL_law_58 : Jvm.Cond.constantDouble RL 58 (4593671619917905920) ∈ wsL_law := by decide +kernel
theorem lw_nl {q t : Nat} (h : pg_EN n X Y q mc LE MI GE) (ht : t < mc) : pg_tn X Y (LE t) (MI t) (GE t) ≠ 0 := by
  have h1 := (h.1 t ht).1
  obtain ⟨h2, h3, h4⟩ := pg_TR_lt h1
  exact ((pg_Q_TR h2 h3 h4).mpr h1).1
theorem lw_t14 {q : Nat} (hn : n ≤ 14) (h : pg_EN n X Y q mc LE MI GE) : ∀ t, t < mc → LE t < 14 ∧ MI t < 14 ∧ GE t < 14 := fun t ht => by
  obtain ⟨h2, h3, h4⟩ := pg_TR_lt (h.1 t ht).1
  have h2 : LE t < MI t := h2
  have h3 : MI t < GE t := h3
  have h4 : GE t < n := h4
  omega
theorem lw_bey (h : pg_EN n X Y 4096 mc LE MI GE) (hm : mc ≤ 64) {i v r r' : Int32} (e1 : (∃ a k, a < mc ∧ k < 3 ∧ i = nI a ∧ v = nI k ∧ ((∃ j, j < mc ∧ pg_BE LE MI GE a k j ∧ r = nI j) ∨ (r = -1 ∧ ∀ j, j < mc → ¬ pg_BE LE MI GE a k j))) ∨ (¬ (gz_Ix i mc ∧ gz_Ix v 3) ∧ r = -1)) (e2 : (∃ a k, a < mc ∧ k < 3 ∧ i = nI a ∧ v = nI k ∧ pg_BS mc LE MI GE a k mc r') ∨ (¬ (gz_Ix i mc ∧ gz_Ix v 3) ∧ r' = -1)) : r = r' := by
  refine lw_idx2 (P := fun a k (r : Int32) => (∃ j, j < mc ∧ pg_BE LE MI GE a k j ∧ r = nI j) ∨ (r = -1 ∧ ∀ j, j < mc → ¬ pg_BE LE MI GE a k j)) (Q := fun a k (r : Int32) => pg_BS mc LE MI GE a k mc r) hm (by decide) (fun a k ha hk h1 h2 => ?_) e1 e2
  rcases h1 with ⟨j, h3, h4, h5⟩ | ⟨h3, h4⟩ <;> rcases h2 with ⟨j', h3', h4', h5'⟩ | ⟨h3', h4'⟩
  · rw [h5, h5', pg_BE_u h ha h3 h3' h4 h4']
  · exact absurd h4 (h4' j h3)
  · exact absurd h4' (h4 j' h3')
  · rw [h3, h3']
theorem lw_joi (c7 : ∀ i j, i < n → j < n → (pg_EB NB i j ↔ pg_ER n X Y mc LE MI GE i j)) {x y : Int32} : gz_HE NB n x y ↔ pg_JO n X Y mc LE MI GE x y :=
  ⟨fun ⟨i, j, h1, h2, h3, h4, h5⟩ => ⟨i, j, h1, h2, h3, h4, (c7 i j h1 h2).mp h5⟩, fun ⟨i, j, h1, h2, h3, h4, h5⟩ => ⟨i, j, h1, h2, h3, h4, (c7 i j h1 h2).mpr h5⟩⟩
theorem lw_deg (hn : n ≤ 14) (c6 : ∀ i, i < n → NB i < 2 ^ n) (c7 : ∀ i j, i < n → j < n → (pg_EB NB i j ↔ pg_ER n X Y mc LE MI GE i j)) {x r r' : Int32} (e1 : (∃ k, k < n ∧ x = nI k ∧ r = nI (pg_pop (fun j => Nat.beq (NB k / 2 ^ j % 2) 1) 14)) ∨ (¬ gz_Ix x n ∧ r = -1)) (e2 : (∃ a m, a < n ∧ x = nI a ∧ pg_Cn (fun b => pg_ER n X Y mc LE MI GE a b) n m ∧ r' = nI m) ∨ (¬ gz_Ix x n ∧ r' = -1)) : r = r' := by
  rcases e1 with ⟨k, h1, h2, h3⟩ | ⟨h1, h2⟩ <;> rcases e2 with ⟨k', m, h1', h2', h3', h4'⟩ | ⟨h1', h2'⟩
  · have e := (nI_eq (by omega) (by omega)).mp (h2.symm.trans h2')
    subst e
    have e3 : pg_pop (fun j => Nat.beq (NB k / 2 ^ j % 2) 1) n = m := pg_Cn_pop n m (fun j hj => by
      rw [← c7 k j h1 hj]
      exact ⟨fun q => Nat.eq_of_beq_eq_true q, fun q => by show Nat.beq (NB k / 2 ^ j % 2) 1 = true; rw [show NB k / 2 ^ j % 2 = 1 from q]; rfl⟩) h3'
    have e4 := pg_pop_more (f := fun j => Nat.beq (NB k / 2 ^ j % 2) 1) (n := n) 14 (fun j hj => by
      have h5 : NB k < 2 ^ j := Nat.lt_of_lt_of_le (c6 k h1) (Nat.pow_le_pow_right (by decide) hj)
      show Nat.beq (NB k / 2 ^ j % 2) 1 = false
      rw [Nat.div_eq_of_lt h5]
      rfl) hn
    rw [h3, h4', e4, e3]
  · exact absurd ⟨k, h1, h2⟩ h1'
  · exact absurd ⟨k', h1', h2'⟩ h1
  · rw [h2, h2']
set_option maxRecDepth 20000 in
set_option maxHeartbeats 4000000 in
theorem lw_c1 (E : gz_E z l D [(cI, .int), (cJ, .long)] cL_law RL wsL_law 8 room_1 true) (XS : gz_X z b L xs) (hL : L ≤ 2048) (hi : i + 4 ≤ L) (C : pg_CP n X Y tc TT NB RG rc KT kc tl mc LE MI GE ec CO kd LS GT tm) (ih : gz_G z ((wC ad cI n X Y tc TT NB RG rc KT kc tl GR) ++ (wM bd cI cJ n X Y mc LE MI GE ec CO kd LS GT tm GP)) 610 [(0, .ref b), (1, .ref (ad 0)), (2, .ref (bd 0)), (3, .int (nI i))] []) : gz_G z ((wC ad cI n X Y tc TT NB RG rc KT kc tl GR) ++ (wM bd cI cJ n X Y mc LE MI GE ec CO kd LS GT tm GP)) 145 [(0, .ref b), (1, .ref (ad 0)), (2, .ref (bd 0)), (3, .int (nI i))] [] := by
  obtain ⟨c1, ⟨q1, q2, q3, q4⟩, ⟨b1, b2, b3⟩, c4, c5, c6, c7, c8, c9⟩ := C
  refine gz_aload_n E dL_law_145 rfl rfl ?_
  refine gz_calli (n := 0) (wr := (wM bd cI cJ n X Y mc LE MI GE ec CO kd LS GT tm GP)) E 0 [0, 1, 2, 3, 4, 5, 6, 7] [8, 9, 10, 11, 12, 13, 14, 15, 16, 17] dL_law_146 gL_law_X0_sites mtX0_sites rfl rfl ⟨rfl, rfl⟩ (by decide) rfl ⟨rfl, rfl⟩ (by decide +kernel) ⟨Nat.le_of_ble_eq_true rfl, Nat.le_of_ble_eq_true rfl⟩ rfl rfl rfl rfl (Nat.le_of_ble_eq_true rfl) (fun r146 w146 h146 => ?_)
  obtain ⟨e1, rfl⟩ := h146
  refine gz_aload_n E dL_law_149 rfl rfl ?_
  refine gz_calli (n := 0) (wr := (wC ad cI n X Y tc TT NB RG rc KT kc tl GR)) E 0 [0, 1, 2, 3, 4, 5, 6, 7, 8, 9] [10, 11, 12, 13, 14, 15, 16, 17] dL_law_150 gL_law_X1_sites mtX1_sites rfl rfl ⟨rfl, rfl⟩ (by decide) rfl ⟨rfl, rfl⟩ (by decide +kernel) ⟨Nat.le_of_ble_eq_true rfl, Nat.le_of_ble_eq_true rfl⟩ rfl rfl rfl rfl (Nat.le_of_ble_eq_true rfl) (fun r150 w150 h150 => ?_)
  obtain ⟨e2, rfl⟩ := h150
  exact gz_icmp_eq (tgt := 610) E dL_law_153 (by decide) (fun _ => ih) (fun q => absurd (e1.trans e2.symm) q)
set_option maxRecDepth 20000 in
set_option maxHeartbeats 4000000 in
theorem lw_c2 (E : gz_E z l D [(cI, .int), (cJ, .long)] cL_law RL wsL_law 8 room_1 true) (XS : gz_X z b L xs) (hL : L ≤ 2048) (hi : i + 4 ≤ L) (C : pg_CP n X Y tc TT NB RG rc KT kc tl mc LE MI GE ec CO kd LS GT tm) (ih : gz_G z ((wC ad cI n X Y tc TT NB RG rc KT kc tl GR) ++ (wM bd cI cJ n X Y mc LE MI GE ec CO kd LS GT tm GP)) 610 [(0, .ref b), (1, .ref (ad 0)), (2, .ref (bd 0)), (3, .int (nI i))] []) : gz_G z ((wC ad cI n X Y tc TT NB RG rc KT kc tl GR) ++ (wM bd cI cJ n X Y mc LE MI GE ec CO kd LS GT tm GP)) 158 [(0, .ref b), (1, .ref (ad 0)), (2, .ref (bd 0)), (3, .int (nI i))] [] := by
  obtain ⟨c1, ⟨q1, q2, q3, q4⟩, ⟨b1, b2, b3⟩, c4, c5, c6, c7, c8, c9⟩ := C
  refine gz_aload_n E dL_law_158 rfl rfl ?_
  refine gz_calli (n := 0) (wr := (wM bd cI cJ n X Y mc LE MI GE ec CO kd LS GT tm GP)) E 0 [0, 1, 2, 3, 4, 5, 6, 7] [8, 9, 10, 11, 12, 13, 14, 15, 16, 17] dL_law_159 gL_law_X0_triangles mtX0_triangles rfl rfl ⟨rfl, rfl⟩ (by decide) rfl ⟨rfl, rfl⟩ (by decide +kernel) ⟨Nat.le_of_ble_eq_true rfl, Nat.le_of_ble_eq_true rfl⟩ rfl rfl rfl rfl (Nat.le_of_ble_eq_true rfl) (fun r159 w159 h159 => ?_)
  obtain ⟨e1, rfl⟩ := h159
  refine gz_aload_n E dL_law_162 rfl rfl ?_
  refine gz_calli (n := 0) (wr := (wC ad cI n X Y tc TT NB RG rc KT kc tl GR)) E 0 [0, 1, 2, 3, 4, 5, 6, 7, 8, 9] [10, 11, 12, 13, 14, 15, 16, 17] dL_law_163 gL_law_X1_triangles mtX1_triangles rfl rfl ⟨rfl, rfl⟩ (by decide) rfl ⟨rfl, rfl⟩ (by decide +kernel) ⟨Nat.le_of_ble_eq_true rfl, Nat.le_of_ble_eq_true rfl⟩ rfl rfl rfl rfl (Nat.le_of_ble_eq_true rfl) (fun r163 w163 h163 => ?_)
  obtain ⟨e2, rfl⟩ := h163
  exact gz_icmp_eq (tgt := 610) E dL_law_166 (by decide) (fun _ => ih) (fun q => absurd (e1.trans ((congrArg nI q1).trans e2.symm)) q)
set_option maxRecDepth 20000 in
set_option maxHeartbeats 4000000 in
theorem lw_c3 (E : gz_E z l D [(cI, .int), (cJ, .long)] cL_law RL wsL_law 8 room_1 true) (XS : gz_X z b L xs) (hL : L ≤ 2048) (hi : i + 4 ≤ L) (C : pg_CP n X Y tc TT NB RG rc KT kc tl mc LE MI GE ec CO kd LS GT tm) (ih : gz_G z ((wC ad cI n X Y tc TT NB RG rc KT kc tl GR) ++ (wM bd cI cJ n X Y mc LE MI GE ec CO kd LS GT tm GP)) 610 [(0, .ref b), (1, .ref (ad 0)), (2, .ref (bd 0)), (3, .int (nI i))] []) : gz_G z ((wC ad cI n X Y tc TT NB RG rc KT kc tl GR) ++ (wM bd cI cJ n X Y mc LE MI GE ec CO kd LS GT tm GP)) 171 [(0, .ref b), (1, .ref (ad 0)), (2, .ref (bd 0)), (3, .int (nI i))] [] := by
  obtain ⟨c1, ⟨q1, q2, q3, q4⟩, ⟨b1, b2, b3⟩, c4, c5, c6, c7, c8, c9⟩ := C
  refine gz_aload_n E dL_law_171 rfl rfl ?_
  refine gz_aload_n E dL_law_172 rfl rfl ?_
  refine gz_iload_n E dL_law_173 rfl rfl ?_
  refine gz_iconst (v := nI 1) E dL_law_174 (by decide) ?_
  refine gz_iaddN E dL_law_175 ?_
  refine gz_sld E XS (by omega) hL dL_law_176 ?_
  refine gz_calli (n := 1) (wr := (wM bd cI cJ n X Y mc LE MI GE ec CO kd LS GT tm GP)) E 0 [0, 1, 2, 3, 4, 5, 6, 7] [8, 9, 10, 11, 12, 13, 14, 15, 16, 17] dL_law_177 gL_law_X0_triangle (mtX0_triangle b1 _) rfl rfl ⟨rfl, rfl⟩ (by decide) rfl ⟨rfl, rfl⟩ (by decide +kernel) ⟨Nat.le_of_ble_eq_true rfl, Nat.le_of_ble_eq_true rfl⟩ rfl rfl rfl rfl (Nat.le_of_ble_eq_true rfl) (fun r177 w177 h177 => ?_)
  obtain ⟨e1, rfl⟩ := h177
  refine gz_aload_n E dL_law_180 rfl rfl ?_
  refine gz_aload_n E dL_law_181 rfl rfl ?_
  refine gz_iload_n E dL_law_182 rfl rfl ?_
  refine gz_iconst (v := nI 1) E dL_law_183 (by decide) ?_
  refine gz_iaddN E dL_law_184 ?_
  refine gz_sld E XS (by omega) hL dL_law_185 ?_
  refine gz_calli (n := 1) (wr := (wC ad cI n X Y tc TT NB RG rc KT kc tl GR)) E 0 [0, 1, 2, 3, 4, 5, 6, 7, 8, 9] [10, 11, 12, 13, 14, 15, 16, 17] dL_law_186 gL_law_X1_triangle (mtX1_triangle (by omega) _) rfl rfl ⟨rfl, rfl⟩ (by decide) rfl ⟨rfl, rfl⟩ (by decide +kernel) ⟨Nat.le_of_ble_eq_true rfl, Nat.le_of_ble_eq_true rfl⟩ rfl rfl rfl rfl (Nat.le_of_ble_eq_true rfl) (fun r186 w186 h186 => ?_)
  obtain ⟨e2, rfl⟩ := h186
  exact gz_icmp_eq (tgt := 610) E dL_law_189 (by decide) (fun _ => ih) (fun q => absurd (lw_idx (by omega) q1 c5 e1 e2) q)
set_option maxRecDepth 20000 in
set_option maxHeartbeats 4000000 in
theorem lw_c4 (E : gz_E z l D [(cI, .int), (cJ, .long)] cL_law RL wsL_law 8 room_1 true) (XS : gz_X z b L xs) (hL : L ≤ 2048) (hi : i + 4 ≤ L) (C : pg_CP n X Y tc TT NB RG rc KT kc tl mc LE MI GE ec CO kd LS GT tm) (ih : gz_G z ((wC ad cI n X Y tc TT NB RG rc KT kc tl GR) ++ (wM bd cI cJ n X Y mc LE MI GE ec CO kd LS GT tm GP)) 610 [(0, .ref b), (1, .ref (ad 0)), (2, .ref (bd 0)), (3, .int (nI i))] []) : gz_G z ((wC ad cI n X Y tc TT NB RG rc KT kc tl GR) ++ (wM bd cI cJ n X Y mc LE MI GE ec CO kd LS GT tm GP)) 194 [(0, .ref b), (1, .ref (ad 0)), (2, .ref (bd 0)), (3, .int (nI i))] [] := by
  obtain ⟨c1, ⟨q1, q2, q3, q4⟩, ⟨b1, b2, b3⟩, c4, c5, c6, c7, c8, c9⟩ := C
  subst q1
  refine gz_aload_n E dL_law_194 rfl rfl ?_
  refine gz_aload_n E dL_law_195 rfl rfl ?_
  refine gz_iload_n E dL_law_196 rfl rfl ?_
  refine gz_iconst (v := nI 1) E dL_law_197 (by decide) ?_
  refine gz_iaddN E dL_law_198 ?_
  refine gz_sld E XS (by omega) hL dL_law_199 ?_
  refine gz_aload_n E dL_law_200 rfl rfl ?_
  refine gz_iload_n E dL_law_201 rfl rfl ?_
  refine gz_iconst (v := nI 2) E dL_law_202 (by decide) ?_
  refine gz_iaddN E dL_law_203 ?_
  refine gz_sld E XS (by omega) hL dL_law_204 ?_
  refine gz_calli (n := 2) (wr := (wM bd cI cJ n X Y tc LE MI GE ec CO kd LS GT tm GP)) E 0 [0, 1, 2, 3, 4, 5, 6, 7] [8, 9, 10, 11, 12, 13, 14, 15, 16, 17] dL_law_205 gL_law_X0_beyond (mtX0_beyond c1.1 b1 (pg_TTs_of c4 c5) _ _) rfl rfl ⟨rfl, rfl⟩ (by decide) rfl ⟨rfl, rfl⟩ (by decide +kernel) ⟨Nat.le_of_ble_eq_true rfl, Nat.le_of_ble_eq_true rfl⟩ rfl rfl rfl rfl (Nat.le_of_ble_eq_true rfl) (fun r205 w205 h205 => ?_)
  obtain ⟨e1, rfl⟩ := h205
  refine gz_aload_n E dL_law_208 rfl rfl ?_
  refine gz_aload_n E dL_law_209 rfl rfl ?_
  refine gz_iload_n E dL_law_210 rfl rfl ?_
  refine gz_iconst (v := nI 1) E dL_law_211 (by decide) ?_
  refine gz_iaddN E dL_law_212 ?_
  refine gz_sld E XS (by omega) hL dL_law_213 ?_
  refine gz_aload_n E dL_law_214 rfl rfl ?_
  refine gz_iload_n E dL_law_215 rfl rfl ?_
  refine gz_iconst (v := nI 2) E dL_law_216 (by decide) ?_
  refine gz_iaddN E dL_law_217 ?_
  refine gz_sld E XS (by omega) hL dL_law_218 ?_
  refine gz_calli (n := 2) (wr := (wC ad cI n X Y tc TT NB RG rc KT kc tl GR)) E 0 [0, 1, 2, 3, 4, 5, 6, 7, 8, 9] [10, 11, 12, 13, 14, 15, 16, 17] dL_law_219 gL_law_X1_beyond (mtX1_beyond c1.1 (by omega) (fun t ht => pg_TR_lt (c4.1 t (by omega)).1) _ _) rfl rfl ⟨rfl, rfl⟩ (by decide) rfl ⟨rfl, rfl⟩ (by decide +kernel) ⟨Nat.le_of_ble_eq_true rfl, Nat.le_of_ble_eq_true rfl⟩ rfl rfl rfl rfl (Nat.le_of_ble_eq_true rfl) (fun r219 w219 h219 => ?_)
  obtain ⟨e2, rfl⟩ := h219
  exact gz_icmp_eq (tgt := 610) E dL_law_222 (by decide) (fun _ => ih) (fun q => absurd (lw_bey c4 (by omega) e1 e2) q)
set_option maxRecDepth 20000 in
set_option maxHeartbeats 4000000 in
theorem lw_c5 (E : gz_E z l D [(cI, .int), (cJ, .long)] cL_law RL wsL_law 8 room_1 true) (XS : gz_X z b L xs) (hL : L ≤ 2048) (hi : i + 4 ≤ L) (C : pg_CP n X Y tc TT NB RG rc KT kc tl mc LE MI GE ec CO kd LS GT tm) (ih : gz_G z ((wC ad cI n X Y tc TT NB RG rc KT kc tl GR) ++ (wM bd cI cJ n X Y mc LE MI GE ec CO kd LS GT tm GP)) 610 [(0, .ref b), (1, .ref (ad 0)), (2, .ref (bd 0)), (3, .int (nI i))] []) : gz_G z ((wC ad cI n X Y tc TT NB RG rc KT kc tl GR) ++ (wM bd cI cJ n X Y mc LE MI GE ec CO kd LS GT tm GP)) 227 [(0, .ref b), (1, .ref (ad 0)), (2, .ref (bd 0)), (3, .int (nI i))] [] := by
  obtain ⟨c1, ⟨q1, q2, q3, q4⟩, ⟨b1, b2, b3⟩, c4, c5, c6, c7, c8, c9⟩ := C
  subst q1
  refine gz_aload_n E dL_law_227 rfl rfl ?_
  refine gz_aload_n E dL_law_228 rfl rfl ?_
  refine gz_iload_n E dL_law_229 rfl rfl ?_
  refine gz_iconst (v := nI 1) E dL_law_230 (by decide) ?_
  refine gz_iaddN E dL_law_231 ?_
  refine gz_sld E XS (by omega) hL dL_law_232 ?_
  refine gz_aload_n E dL_law_233 rfl rfl ?_
  refine gz_iload_n E dL_law_234 rfl rfl ?_
  refine gz_iconst (v := nI 2) E dL_law_235 (by decide) ?_
  refine gz_iaddN E dL_law_236 ?_
  refine gz_sld E XS (by omega) hL dL_law_237 ?_
  refine gz_calll (n := 2) (wr := (wM bd cI cJ n X Y tc LE MI GE ec CO kd LS GT tm GP)) E 0 [0, 1, 2, 3, 4, 5, 6, 7] [8, 9, 10, 11, 12, 13, 14, 15, 16, 17] dL_law_238 gL_law_X0_centre (mtX0_centre c1 b1 (pg_TTs_of c4 c5) (fun t ht => lw_nl c4 (by omega)) _ _) rfl rfl ⟨rfl, rfl⟩ (by decide) rfl ⟨rfl, rfl⟩ (by decide +kernel) ⟨Nat.le_of_ble_eq_true rfl, Nat.le_of_ble_eq_true rfl⟩ rfl rfl rfl rfl (Nat.le_of_ble_eq_true rfl) (fun r238 w238 h238 => ?_)
  obtain ⟨e1, rfl⟩ := h238
  refine gz_aload_n E dL_law_241 rfl rfl ?_
  refine gz_aload_n E dL_law_242 rfl rfl ?_
  refine gz_iload_n E dL_law_243 rfl rfl ?_
  refine gz_iconst (v := nI 1) E dL_law_244 (by decide) ?_
  refine gz_iaddN E dL_law_245 ?_
  refine gz_sld E XS (by omega) hL dL_law_246 ?_
  refine gz_aload_n E dL_law_247 rfl rfl ?_
  refine gz_iload_n E dL_law_248 rfl rfl ?_
  refine gz_iconst (v := nI 2) E dL_law_249 (by decide) ?_
  refine gz_iaddN E dL_law_250 ?_
  refine gz_sld E XS (by omega) hL dL_law_251 ?_
  refine gz_calll (n := 2) (wr := (wC ad cI n X Y tc TT NB RG rc KT kc tl GR)) E 0 [0, 1, 2, 3, 4, 5, 6, 7, 8, 9] [10, 11, 12, 13, 14, 15, 16, 17] dL_law_252 gL_law_X1_centre (mtX1_centre c1 (by omega) (fun t ht => pg_TR_lt (c4.1 t (by omega)).1) (fun t ht => lw_nl c4 (by omega)) _ _) rfl rfl ⟨rfl, rfl⟩ (by decide) rfl ⟨rfl, rfl⟩ (by decide +kernel) ⟨Nat.le_of_ble_eq_true rfl, Nat.le_of_ble_eq_true rfl⟩ rfl rfl rfl rfl (Nat.le_of_ble_eq_true rfl) (fun r252 w252 h252 => ?_)
  obtain ⟨e2, rfl⟩ := h252
  exact gz_lc_eq (tgt := 610) E dL_law_255 dL_law_256 (by decide) (fun _ => ih) (fun q => absurd (lw_idxV (by omega) (by omega) e1 e2) q)
set_option maxRecDepth 20000 in
set_option maxHeartbeats 4000000 in
theorem lw_c6 (E : gz_E z l D [(cI, .int), (cJ, .long)] cL_law RL wsL_law 8 room_1 true) (XS : gz_X z b L xs) (hL : L ≤ 2048) (hi : i + 4 ≤ L) (C : pg_CP n X Y tc TT NB RG rc KT kc tl mc LE MI GE ec CO kd LS GT tm) (ih : gz_G z ((wC ad cI n X Y tc TT NB RG rc KT kc tl GR) ++ (wM bd cI cJ n X Y mc LE MI GE ec CO kd LS GT tm GP)) 610 [(0, .ref b), (1, .ref (ad 0)), (2, .ref (bd 0)), (3, .int (nI i))] []) : gz_G z ((wC ad cI n X Y tc TT NB RG rc KT kc tl GR) ++ (wM bd cI cJ n X Y mc LE MI GE ec CO kd LS GT tm GP)) 261 [(0, .ref b), (1, .ref (ad 0)), (2, .ref (bd 0)), (3, .int (nI i))] [] := by
  obtain ⟨c1, ⟨q1, q2, q3, q4⟩, ⟨b1, b2, b3⟩, c4, c5, c6, c7, c8, c9⟩ := C
  refine gz_aload_n E dL_law_261 rfl rfl ?_
  refine gz_aload_n E dL_law_262 rfl rfl ?_
  refine gz_iload_n E dL_law_263 rfl rfl ?_
  refine gz_iconst (v := nI 1) E dL_law_264 (by decide) ?_
  refine gz_iaddN E dL_law_265 ?_
  refine gz_sld E XS (by omega) hL dL_law_266 ?_
  refine gz_aload_n E dL_law_267 rfl rfl ?_
  refine gz_iload_n E dL_law_268 rfl rfl ?_
  refine gz_iconst (v := nI 2) E dL_law_269 (by decide) ?_
  refine gz_iaddN E dL_law_270 ?_
  refine gz_sld E XS (by omega) hL dL_law_271 ?_
  refine gz_calli (n := 2) (wr := (wM bd cI cJ n X Y mc LE MI GE ec CO kd LS GT tm GP)) E 0 [0, 1, 2, 3, 4, 5, 6, 7] [8, 9, 10, 11, 12, 13, 14, 15, 16, 17] dL_law_272 gL_law_X0_joined (mtX0_joined c1.1 (pg_p14 c1.1 c6) _ _) rfl rfl ⟨rfl, rfl⟩ (by decide) rfl ⟨rfl, rfl⟩ (by decide +kernel) ⟨Nat.le_of_ble_eq_true rfl, Nat.le_of_ble_eq_true rfl⟩ rfl rfl rfl rfl (Nat.le_of_ble_eq_true rfl) (fun r272 w272 h272 => ?_)
  obtain ⟨e1, rfl⟩ := h272
  refine gz_aload_n E dL_law_275 rfl rfl ?_
  refine gz_aload_n E dL_law_276 rfl rfl ?_
  refine gz_iload_n E dL_law_277 rfl rfl ?_
  refine gz_iconst (v := nI 1) E dL_law_278 (by decide) ?_
  refine gz_iaddN E dL_law_279 ?_
  refine gz_sld E XS (by omega) hL dL_law_280 ?_
  refine gz_aload_n E dL_law_281 rfl rfl ?_
  refine gz_iload_n E dL_law_282 rfl rfl ?_
  refine gz_iconst (v := nI 2) E dL_law_283 (by decide) ?_
  refine gz_iaddN E dL_law_284 ?_
  refine gz_sld E XS (by omega) hL dL_law_285 ?_
  refine gz_calli (n := 2) (wr := (wC ad cI n X Y tc TT NB RG rc KT kc tl GR)) E 0 [0, 1, 2, 3, 4, 5, 6, 7, 8, 9] [10, 11, 12, 13, 14, 15, 16, 17] dL_law_286 gL_law_X1_joined (mtX1_joined c1 (by omega) (lw_t14 c1.1 c4) _ _) rfl rfl ⟨rfl, rfl⟩ (by decide) rfl ⟨rfl, rfl⟩ (by decide +kernel) ⟨Nat.le_of_ble_eq_true rfl, Nat.le_of_ble_eq_true rfl⟩ rfl rfl rfl rfl (Nat.le_of_ble_eq_true rfl) (fun r286 w286 h286 => ?_)
  obtain ⟨e2, rfl⟩ := h286
  exact gz_icmp_eq (tgt := 610) E dL_law_289 (by decide) (fun _ => ih) (fun q => absurd (gz_B_u e1 e2 (lw_joi c7)) q)
set_option maxRecDepth 20000 in
set_option maxHeartbeats 4000000 in
theorem lw_c7 (E : gz_E z l D [(cI, .int), (cJ, .long)] cL_law RL wsL_law 8 room_1 true) (XS : gz_X z b L xs) (hL : L ≤ 2048) (hi : i + 4 ≤ L) (C : pg_CP n X Y tc TT NB RG rc KT kc tl mc LE MI GE ec CO kd LS GT tm) (ih : gz_G z ((wC ad cI n X Y tc TT NB RG rc KT kc tl GR) ++ (wM bd cI cJ n X Y mc LE MI GE ec CO kd LS GT tm GP)) 610 [(0, .ref b), (1, .ref (ad 0)), (2, .ref (bd 0)), (3, .int (nI i))] []) : gz_G z ((wC ad cI n X Y tc TT NB RG rc KT kc tl GR) ++ (wM bd cI cJ n X Y mc LE MI GE ec CO kd LS GT tm GP)) 294 [(0, .ref b), (1, .ref (ad 0)), (2, .ref (bd 0)), (3, .int (nI i))] [] := by
  obtain ⟨c1, ⟨q1, q2, q3, q4⟩, ⟨b1, b2, b3⟩, c4, c5, c6, c7, c8, c9⟩ := C
  refine gz_aload_n E dL_law_294 rfl rfl ?_
  refine gz_aload_n E dL_law_295 rfl rfl ?_
  refine gz_iload_n E dL_law_296 rfl rfl ?_
  refine gz_iconst (v := nI 1) E dL_law_297 (by decide) ?_
  refine gz_iaddN E dL_law_298 ?_
  refine gz_sld E XS (by omega) hL dL_law_299 ?_
  refine gz_calli (n := 1) (wr := (wM bd cI cJ n X Y mc LE MI GE ec CO kd LS GT tm GP)) E 0 [0, 1, 2, 3, 4, 5, 6, 7] [8, 9, 10, 11, 12, 13, 14, 15, 16, 17] dL_law_300 gL_law_X0_degree (mtX0_degree c1.1 (pg_p14 c1.1 c6) _) rfl rfl ⟨rfl, rfl⟩ (by decide) rfl ⟨rfl, rfl⟩ (by decide +kernel) ⟨Nat.le_of_ble_eq_true rfl, Nat.le_of_ble_eq_true rfl⟩ rfl rfl rfl rfl (Nat.le_of_ble_eq_true rfl) (fun r300 w300 h300 => ?_)
  obtain ⟨e1, rfl⟩ := h300
  refine gz_aload_n E dL_law_303 rfl rfl ?_
  refine gz_aload_n E dL_law_304 rfl rfl ?_
  refine gz_iload_n E dL_law_305 rfl rfl ?_
  refine gz_iconst (v := nI 1) E dL_law_306 (by decide) ?_
  refine gz_iaddN E dL_law_307 ?_
  refine gz_sld E XS (by omega) hL dL_law_308 ?_
  refine gz_calli (n := 1) (wr := (wC ad cI n X Y tc TT NB RG rc KT kc tl GR)) E 0 [0, 1, 2, 3, 4, 5, 6, 7, 8, 9] [10, 11, 12, 13, 14, 15, 16, 17] dL_law_309 gL_law_X1_degree (mtX1_degree c1 (by omega) (lw_t14 c1.1 c4) _) rfl rfl ⟨rfl, rfl⟩ (by decide) rfl ⟨rfl, rfl⟩ (by decide +kernel) ⟨Nat.le_of_ble_eq_true rfl, Nat.le_of_ble_eq_true rfl⟩ rfl rfl rfl rfl (Nat.le_of_ble_eq_true rfl) (fun r309 w309 h309 => ?_)
  obtain ⟨e2, rfl⟩ := h309
  exact gz_icmp_eq (tgt := 610) E dL_law_312 (by decide) (fun _ => ih) (fun q => absurd (lw_deg c1.1 c6 c7 e1 e2) q)
set_option maxRecDepth 20000 in
set_option maxHeartbeats 4000000 in
theorem lw_c8 (E : gz_E z l D [(cI, .int), (cJ, .long)] cL_law RL wsL_law 8 room_1 true) (XS : gz_X z b L xs) (hL : L ≤ 2048) (hi : i + 4 ≤ L) (C : pg_CP n X Y tc TT NB RG rc KT kc tl mc LE MI GE ec CO kd LS GT tm) (ih : gz_G z ((wC ad cI n X Y tc TT NB RG rc KT kc tl GR) ++ (wM bd cI cJ n X Y mc LE MI GE ec CO kd LS GT tm GP)) 610 [(0, .ref b), (1, .ref (ad 0)), (2, .ref (bd 0)), (3, .int (nI i))] []) : gz_G z ((wC ad cI n X Y tc TT NB RG rc KT kc tl GR) ++ (wM bd cI cJ n X Y mc LE MI GE ec CO kd LS GT tm GP)) 317 [(0, .ref b), (1, .ref (ad 0)), (2, .ref (bd 0)), (3, .int (nI i))] [] := by
  obtain ⟨c1, ⟨q1, q2, q3, q4⟩, ⟨b1, b2, b3⟩, c4, c5, c6, c7, c8, c9⟩ := C
  refine gz_aload_n E dL_law_317 rfl rfl ?_
  refine gz_calli (n := 0) (wr := (wM bd cI cJ n X Y mc LE MI GE ec CO kd LS GT tm GP)) E 0 [0, 1, 2, 3, 4, 5, 6, 7] [8, 9, 10, 11, 12, 13, 14, 15, 16, 17] dL_law_318 gL_law_X0_corners mtX0_corners rfl rfl ⟨rfl, rfl⟩ (by decide) rfl ⟨rfl, rfl⟩ (by decide +kernel) ⟨Nat.le_of_ble_eq_true rfl, Nat.le_of_ble_eq_true rfl⟩ rfl rfl rfl rfl (Nat.le_of_ble_eq_true rfl) (fun r318 w318 h318 => ?_)
  obtain ⟨e1, rfl⟩ := h318
  refine gz_aload_n E dL_law_321 rfl rfl ?_
  refine gz_calli (n := 0) (wr := (wC ad cI n X Y tc TT NB RG rc KT kc tl GR)) E 0 [0, 1, 2, 3, 4, 5, 6, 7, 8, 9] [10, 11, 12, 13, 14, 15, 16, 17] dL_law_322 gL_law_X1_corners mtX1_corners rfl rfl ⟨rfl, rfl⟩ (by decide) rfl ⟨rfl, rfl⟩ (by decide +kernel) ⟨Nat.le_of_ble_eq_true rfl, Nat.le_of_ble_eq_true rfl⟩ rfl rfl rfl rfl (Nat.le_of_ble_eq_true rfl) (fun r322 w322 h322 => ?_)
  obtain ⟨e2, rfl⟩ := h322
  exact gz_icmp_eq (tgt := 610) E dL_law_325 (by decide) (fun _ => ih) (fun q => absurd (e1.trans ((congrArg nI q2).trans e2.symm)) q)
set_option maxRecDepth 20000 in
set_option maxHeartbeats 4000000 in
theorem lw_c9 (E : gz_E z l D [(cI, .int), (cJ, .long)] cL_law RL wsL_law 8 room_1 true) (XS : gz_X z b L xs) (hL : L ≤ 2048) (hi : i + 4 ≤ L) (C : pg_CP n X Y tc TT NB RG rc KT kc tl mc LE MI GE ec CO kd LS GT tm) (ih : gz_G z ((wC ad cI n X Y tc TT NB RG rc KT kc tl GR) ++ (wM bd cI cJ n X Y mc LE MI GE ec CO kd LS GT tm GP)) 610 [(0, .ref b), (1, .ref (ad 0)), (2, .ref (bd 0)), (3, .int (nI i))] []) : gz_G z ((wC ad cI n X Y tc TT NB RG rc KT kc tl GR) ++ (wM bd cI cJ n X Y mc LE MI GE ec CO kd LS GT tm GP)) 330 [(0, .ref b), (1, .ref (ad 0)), (2, .ref (bd 0)), (3, .int (nI i))] [] := by
  obtain ⟨c1, ⟨q1, q2, q3, q4⟩, ⟨b1, b2, b3⟩, c4, c5, c6, c7, c8, c9⟩ := C
  refine gz_aload_n E dL_law_330 rfl rfl ?_
  refine gz_aload_n E dL_law_331 rfl rfl ?_
  refine gz_iload_n E dL_law_332 rfl rfl ?_
  refine gz_iconst (v := nI 1) E dL_law_333 (by decide) ?_
  refine gz_iaddN E dL_law_334 ?_
  refine gz_sld E XS (by omega) hL dL_law_335 ?_
  refine gz_calli (n := 1) (wr := (wM bd cI cJ n X Y mc LE MI GE ec CO kd LS GT tm GP)) E 0 [0, 1, 2, 3, 4, 5, 6, 7] [8, 9, 10, 11, 12, 13, 14, 15, 16, 17] dL_law_336 gL_law_X0_corner (mtX0_corner b2 _) rfl rfl ⟨rfl, rfl⟩ (by decide) rfl ⟨rfl, rfl⟩ (by decide +kernel) ⟨Nat.le_of_ble_eq_true rfl, Nat.le_of_ble_eq_true rfl⟩ rfl rfl rfl rfl (Nat.le_of_ble_eq_true rfl) (fun r336 w336 h336 => ?_)
  obtain ⟨e1, rfl⟩ := h336
  refine gz_aload_n E dL_law_339 rfl rfl ?_
  refine gz_aload_n E dL_law_340 rfl rfl ?_
  refine gz_iload_n E dL_law_341 rfl rfl ?_
  refine gz_iconst (v := nI 1) E dL_law_342 (by decide) ?_
  refine gz_iaddN E dL_law_343 ?_
  refine gz_sld E XS (by omega) hL dL_law_344 ?_
  refine gz_calli (n := 1) (wr := (wC ad cI n X Y tc TT NB RG rc KT kc tl GR)) E 0 [0, 1, 2, 3, 4, 5, 6, 7, 8, 9] [10, 11, 12, 13, 14, 15, 16, 17] dL_law_345 gL_law_X1_corner (mtX1_corner (by omega) _) rfl rfl ⟨rfl, rfl⟩ (by decide) rfl ⟨rfl, rfl⟩ (by decide +kernel) ⟨Nat.le_of_ble_eq_true rfl, Nat.le_of_ble_eq_true rfl⟩ rfl rfl rfl rfl (Nat.le_of_ble_eq_true rfl) (fun r345 w345 h345 => ?_)
  obtain ⟨e2, rfl⟩ := h345
  exact gz_icmp_eq (tgt := 610) E dL_law_348 (by decide) (fun _ => ih) (fun q => absurd (lw_idx (by omega) q2 c8 e1 e2) q)
set_option maxRecDepth 20000 in
set_option maxHeartbeats 4000000 in
theorem lw_c10 (E : gz_E z l D [(cI, .int), (cJ, .long)] cL_law RL wsL_law 8 room_1 true) (XS : gz_X z b L xs) (hL : L ≤ 2048) (hi : i + 4 ≤ L) (C : pg_CP n X Y tc TT NB RG rc KT kc tl mc LE MI GE ec CO kd LS GT tm) (ih : gz_G z ((wC ad cI n X Y tc TT NB RG rc KT kc tl GR) ++ (wM bd cI cJ n X Y mc LE MI GE ec CO kd LS GT tm GP)) 610 [(0, .ref b), (1, .ref (ad 0)), (2, .ref (bd 0)), (3, .int (nI i))] []) : gz_G z ((wC ad cI n X Y tc TT NB RG rc KT kc tl GR) ++ (wM bd cI cJ n X Y mc LE MI GE ec CO kd LS GT tm GP)) 353 [(0, .ref b), (1, .ref (ad 0)), (2, .ref (bd 0)), (3, .int (nI i))] [] := by
  obtain ⟨c1, ⟨q1, q2, q3, q4⟩, ⟨b1, b2, b3⟩, c4, c5, c6, c7, c8, c9⟩ := C
  refine gz_aload_n E dL_law_353 rfl rfl ?_
  refine gz_aload_n E dL_law_354 rfl rfl ?_
  refine gz_iload_n E dL_law_355 rfl rfl ?_
  refine gz_iconst (v := nI 1) E dL_law_356 (by decide) ?_
  refine gz_iaddN E dL_law_357 ?_
  refine gz_sld E XS (by omega) hL dL_law_358 ?_
  refine gz_i2d E dL_law_359 ?_
  refine gz_ldc2d E dL_law_360 cwL_law_58 ?_
  refine gz_dmul E dL_law_363 rfl (fd_n64 (lw_pt _)) ?_
  refine gz_aload_n E dL_law_364 rfl rfl ?_
  refine gz_iload_n E dL_law_365 rfl rfl ?_
  refine gz_iconst (v := nI 2) E dL_law_366 (by decide) ?_
  refine gz_iaddN E dL_law_367 ?_
  refine gz_sld E XS (by omega) hL dL_law_368 ?_
  refine gz_i2d E dL_law_369 ?_
  refine gz_ldc2d E dL_law_370 cwL_law_58 ?_
  refine gz_dmul E dL_law_373 rfl (fd_n64 (lw_pt _)) ?_
  refine gz_calli (n := 2) (wr := (wM bd cI cJ n X Y mc LE MI GE ec CO kd LS GT tm GP)) E 0 [0, 1, 2, 3, 4, 5, 6, 7] [8, 9, 10, 11, 12, 13, 14, 15, 16, 17] dL_law_374 gL_law_X0_nearest (mtX0_nearest c1 (lw_pt _) (lw_pt _)) rfl rfl ⟨rfl, rfl⟩ (by decide) rfl ⟨rfl, rfl⟩ (by decide +kernel) ⟨Nat.le_of_ble_eq_true rfl, Nat.le_of_ble_eq_true rfl⟩ rfl rfl rfl rfl (Nat.le_of_ble_eq_true rfl) (fun r374 w374 h374 => ?_)
  obtain ⟨e1, rfl⟩ := h374
  refine gz_aload_n E dL_law_377 rfl rfl ?_
  refine gz_aload_n E dL_law_378 rfl rfl ?_
  refine gz_iload_n E dL_law_379 rfl rfl ?_
  refine gz_iconst (v := nI 1) E dL_law_380 (by decide) ?_
  refine gz_iaddN E dL_law_381 ?_
  refine gz_sld E XS (by omega) hL dL_law_382 ?_
  refine gz_i2d E dL_law_383 ?_
  refine gz_ldc2d E dL_law_384 cwL_law_58 ?_
  refine gz_dmul E dL_law_387 rfl (fd_n64 (lw_pt _)) ?_
  refine gz_aload_n E dL_law_388 rfl rfl ?_
  refine gz_iload_n E dL_law_389 rfl rfl ?_
  refine gz_iconst (v := nI 2) E dL_law_390 (by decide) ?_
  refine gz_iaddN E dL_law_391 ?_
  refine gz_sld E XS (by omega) hL dL_law_392 ?_
  refine gz_i2d E dL_law_393 ?_
  refine gz_ldc2d E dL_law_394 cwL_law_58 ?_
  refine gz_dmul E dL_law_397 rfl (fd_n64 (lw_pt _)) ?_
  refine gz_calli (n := 2) (wr := (wC ad cI n X Y tc TT NB RG rc KT kc tl GR)) E 0 [0, 1, 2, 3, 4, 5, 6, 7, 8, 9] [10, 11, 12, 13, 14, 15, 16, 17] dL_law_398 gL_law_X1_nearest (mtX1_nearest c1 (lw_pt _) (lw_pt _)) rfl rfl ⟨rfl, rfl⟩ (by decide) rfl ⟨rfl, rfl⟩ (by decide +kernel) ⟨Nat.le_of_ble_eq_true rfl, Nat.le_of_ble_eq_true rfl⟩ rfl rfl rfl rfl (Nat.le_of_ble_eq_true rfl) (fun r398 w398 h398 => ?_)
  obtain ⟨e2, rfl⟩ := h398
  exact gz_icmp_eq (tgt := 610) E dL_law_401 (by decide) (fun _ => ih) (fun q => absurd (lw_near e1 e2) q)
set_option maxRecDepth 20000 in
set_option maxHeartbeats 4000000 in
theorem lw_c11 (E : gz_E z l D [(cI, .int), (cJ, .long)] cL_law RL wsL_law 8 room_1 true) (XS : gz_X z b L xs) (hL : L ≤ 2048) (hi : i + 4 ≤ L) (C : pg_CP n X Y tc TT NB RG rc KT kc tl mc LE MI GE ec CO kd LS GT tm) (ih : gz_G z ((wC ad cI n X Y tc TT NB RG rc KT kc tl GR) ++ (wM bd cI cJ n X Y mc LE MI GE ec CO kd LS GT tm GP)) 610 [(0, .ref b), (1, .ref (ad 0)), (2, .ref (bd 0)), (3, .int (nI i))] []) : gz_G z ((wC ad cI n X Y tc TT NB RG rc KT kc tl GR) ++ (wM bd cI cJ n X Y mc LE MI GE ec CO kd LS GT tm GP)) 406 [(0, .ref b), (1, .ref (ad 0)), (2, .ref (bd 0)), (3, .int (nI i))] [] := by
  obtain ⟨c1, ⟨q1, q2, q3, q4⟩, ⟨b1, b2, b3⟩, c4, c5, c6, c7, c8, c9⟩ := C
  subst q1
  refine gz_aload_n E dL_law_406 rfl rfl ?_
  refine gz_aload_n E dL_law_407 rfl rfl ?_
  refine gz_iload_n E dL_law_408 rfl rfl ?_
  refine gz_iconst (v := nI 1) E dL_law_409 (by decide) ?_
  refine gz_iaddN E dL_law_410 ?_
  refine gz_sld E XS (by omega) hL dL_law_411 ?_
  refine gz_i2d E dL_law_412 ?_
  refine gz_ldc2d E dL_law_413 cwL_law_58 ?_
  refine gz_dmul E dL_law_416 rfl (fd_n64 (lw_pt _)) ?_
  refine gz_aload_n E dL_law_417 rfl rfl ?_
  refine gz_iload_n E dL_law_418 rfl rfl ?_
  refine gz_iconst (v := nI 2) E dL_law_419 (by decide) ?_
  refine gz_iaddN E dL_law_420 ?_
  refine gz_sld E XS (by omega) hL dL_law_421 ?_
  refine gz_i2d E dL_law_422 ?_
  refine gz_ldc2d E dL_law_423 cwL_law_58 ?_
  refine gz_dmul E dL_law_426 rfl (fd_n64 (lw_pt _)) ?_
  refine gz_calli (n := 2) (wr := (wM bd cI cJ n X Y tc LE MI GE ec CO kd LS GT tm GP)) E 0 [0, 1, 2, 3, 4, 5, 6, 7] [8, 9, 10, 11, 12, 13, 14, 15, 16, 17] dL_law_427 gL_law_X0_holder (mtX0_holder c1 b1 (pg_TTs_of c4 c5) (fun t ht => lw_nl c4 (by omega)) (lw_pt _) (lw_pt _)) rfl rfl ⟨rfl, rfl⟩ (by decide) rfl ⟨rfl, rfl⟩ (by decide +kernel) ⟨Nat.le_of_ble_eq_true rfl, Nat.le_of_ble_eq_true rfl⟩ rfl rfl rfl rfl (Nat.le_of_ble_eq_true rfl) (fun r427 w427 h427 => ?_)
  obtain ⟨e1, rfl⟩ := h427
  refine gz_aload_n E dL_law_430 rfl rfl ?_
  refine gz_aload_n E dL_law_431 rfl rfl ?_
  refine gz_iload_n E dL_law_432 rfl rfl ?_
  refine gz_iconst (v := nI 1) E dL_law_433 (by decide) ?_
  refine gz_iaddN E dL_law_434 ?_
  refine gz_sld E XS (by omega) hL dL_law_435 ?_
  refine gz_i2d E dL_law_436 ?_
  refine gz_ldc2d E dL_law_437 cwL_law_58 ?_
  refine gz_dmul E dL_law_440 rfl (fd_n64 (lw_pt _)) ?_
  refine gz_aload_n E dL_law_441 rfl rfl ?_
  refine gz_iload_n E dL_law_442 rfl rfl ?_
  refine gz_iconst (v := nI 2) E dL_law_443 (by decide) ?_
  refine gz_iaddN E dL_law_444 ?_
  refine gz_sld E XS (by omega) hL dL_law_445 ?_
  refine gz_i2d E dL_law_446 ?_
  refine gz_ldc2d E dL_law_447 cwL_law_58 ?_
  refine gz_dmul E dL_law_450 rfl (fd_n64 (lw_pt _)) ?_
  refine gz_calli (n := 2) (wr := (wC ad cI n X Y tc TT NB RG rc KT kc tl GR)) E 0 [0, 1, 2, 3, 4, 5, 6, 7, 8, 9] [10, 11, 12, 13, 14, 15, 16, 17] dL_law_451 gL_law_X1_holder (mtX1_holder c1 (by omega) (fun t ht => pg_TR_lt (c4.1 t (by omega)).1) (fun t ht => lw_nl c4 (by omega)) (lw_pt _) (lw_pt _)) rfl rfl ⟨rfl, rfl⟩ (by decide) rfl ⟨rfl, rfl⟩ (by decide +kernel) ⟨Nat.le_of_ble_eq_true rfl, Nat.le_of_ble_eq_true rfl⟩ rfl rfl rfl rfl (Nat.le_of_ble_eq_true rfl) (fun r451 w451 h451 => ?_)
  obtain ⟨e2, rfl⟩ := h451
  exact gz_icmp_eq (tgt := 610) E dL_law_454 (by decide) (fun _ => ih) (fun q => absurd (lw_hold e1 e2) q)
set_option maxRecDepth 20000 in
set_option maxHeartbeats 4000000 in
theorem lw_c12 (E : gz_E z l D [(cI, .int), (cJ, .long)] cL_law RL wsL_law 8 room_1 true) (XS : gz_X z b L xs) (hL : L ≤ 2048) (hi : i + 4 ≤ L) (C : pg_CP n X Y tc TT NB RG rc KT kc tl mc LE MI GE ec CO kd LS GT tm) (ih : gz_G z ((wC ad cI n X Y tc TT NB RG rc KT kc tl GR) ++ (wM bd cI cJ n X Y mc LE MI GE ec CO kd LS GT tm GP)) 610 [(0, .ref b), (1, .ref (ad 0)), (2, .ref (bd 0)), (3, .int (nI i))] []) : gz_G z ((wC ad cI n X Y tc TT NB RG rc KT kc tl GR) ++ (wM bd cI cJ n X Y mc LE MI GE ec CO kd LS GT tm GP)) 459 [(0, .ref b), (1, .ref (ad 0)), (2, .ref (bd 0)), (3, .int (nI i))] [] := by
  obtain ⟨c1, ⟨q1, q2, q3, q4⟩, ⟨b1, b2, b3⟩, c4, c5, c6, c7, c8, c9⟩ := C
  refine gz_aload_n E dL_law_459 rfl rfl ?_
  refine gz_aload_n E dL_law_460 rfl rfl ?_
  refine gz_iload_n E dL_law_461 rfl rfl ?_
  refine gz_iconst (v := nI 1) E dL_law_462 (by decide) ?_
  refine gz_iaddN E dL_law_463 ?_
  refine gz_sld E XS (by omega) hL dL_law_464 ?_
  refine gz_aload_n E dL_law_465 rfl rfl ?_
  refine gz_iload_n E dL_law_466 rfl rfl ?_
  refine gz_iconst (v := nI 2) E dL_law_467 (by decide) ?_
  refine gz_iaddN E dL_law_468 ?_
  refine gz_sld E XS (by omega) hL dL_law_469 ?_
  refine gz_i2d E dL_law_470 ?_
  refine gz_ldc2d E dL_law_471 cwL_law_58 ?_
  refine gz_dmul E dL_law_474 rfl (fd_n64 (lw_pt _)) ?_
  refine gz_aload_n E dL_law_475 rfl rfl ?_
  refine gz_iload_n E dL_law_476 rfl rfl ?_
  refine gz_iconst (v := nI 3) E dL_law_477 (by decide) ?_
  refine gz_iaddN E dL_law_478 ?_
  refine gz_sld E XS (by omega) hL dL_law_479 ?_
  refine gz_i2d E dL_law_480 ?_
  refine gz_ldc2d E dL_law_481 cwL_law_58 ?_
  refine gz_dmul E dL_law_484 rfl (fd_n64 (lw_pt _)) ?_
  refine gz_calld (n := 3) (wr := (wM bd cI cJ n X Y mc LE MI GE ec CO kd LS GT tm GP)) E 0 [0, 1, 2, 3, 4, 5, 6, 7] [8, 9, 10, 11, 12, 13, 14, 15, 16, 17] dL_law_485 gL_law_X0_square (mtX0_square c1 _ (lw_pt _) (lw_pt _)) rfl rfl ⟨rfl, rfl⟩ (by decide) rfl ⟨rfl, rfl⟩ (by decide +kernel) ⟨Nat.le_of_ble_eq_true rfl, Nat.le_of_ble_eq_true rfl⟩ rfl rfl rfl rfl (Nat.le_of_ble_eq_true rfl) (fun r485 w485 h485 => ?_)
  obtain ⟨e1, rfl⟩ := h485
  refine gz_dstore (lv' := [(0, .ref b), (1, .ref (ad 0)), (2, .ref (bd 0)), (3, .int (nI i)), (4, .double r485)]) E dL_law_488 (by decide) rfl ?_
  refine gz_aload_n E dL_law_490 rfl rfl ?_
  refine gz_aload_n E dL_law_491 rfl rfl ?_
  refine gz_iload_n E dL_law_492 rfl rfl ?_
  refine gz_iconst (v := nI 1) E dL_law_493 (by decide) ?_
  refine gz_iaddN E dL_law_494 ?_
  refine gz_sld E XS (by omega) hL dL_law_495 ?_
  refine gz_aload_n E dL_law_496 rfl rfl ?_
  refine gz_iload_n E dL_law_497 rfl rfl ?_
  refine gz_iconst (v := nI 2) E dL_law_498 (by decide) ?_
  refine gz_iaddN E dL_law_499 ?_
  refine gz_sld E XS (by omega) hL dL_law_500 ?_
  refine gz_i2d E dL_law_501 ?_
  refine gz_ldc2d E dL_law_502 cwL_law_58 ?_
  refine gz_dmul E dL_law_505 rfl (fd_n64 (lw_pt _)) ?_
  refine gz_aload_n E dL_law_506 rfl rfl ?_
  refine gz_iload_n E dL_law_507 rfl rfl ?_
  refine gz_iconst (v := nI 3) E dL_law_508 (by decide) ?_
  refine gz_iaddN E dL_law_509 ?_
  refine gz_sld E XS (by omega) hL dL_law_510 ?_
  refine gz_i2d E dL_law_511 ?_
  refine gz_ldc2d E dL_law_512 cwL_law_58 ?_
  refine gz_dmul E dL_law_515 rfl (fd_n64 (lw_pt _)) ?_
  refine gz_calld (n := 3) (wr := (wC ad cI n X Y tc TT NB RG rc KT kc tl GR)) E 0 [0, 1, 2, 3, 4, 5, 6, 7, 8, 9] [10, 11, 12, 13, 14, 15, 16, 17] dL_law_516 gL_law_X1_square (mtX1_square c1 _ (lw_pt _) (lw_pt _)) rfl rfl ⟨rfl, rfl⟩ (by decide) rfl ⟨rfl, rfl⟩ (by decide +kernel) ⟨Nat.le_of_ble_eq_true rfl, Nat.le_of_ble_eq_true rfl⟩ rfl rfl rfl rfl (Nat.le_of_ble_eq_true rfl) (fun r516 w516 h516 => ?_)
  obtain ⟨e2, rfl⟩ := h516
  refine gz_dstore (lv' := [(0, .ref b), (1, .ref (ad 0)), (2, .ref (bd 0)), (3, .int (nI i)), (4, .double r485), (6, .double r516)]) E dL_law_519 (by decide) rfl ?_
  obtain ⟨v, d1, d2⟩ := lw_sq (by have := c1.1; omega) e1 e2
  refine gz_dload E dL_law_521 rfl ?_
  refine gz_dload E dL_law_523 rfl ?_
  refine gz_dc_eq (tgt := 547) E dL_law_525 dL_law_526 (by decide) d1 d2 (fun _ => ?_) (fun q => absurd rfl q)
  refine gz_goto (tgt := 610) E dL_law_547 (by decide) ?_
  exact gz_sub (lv' := [(0, .ref b), (1, .ref (ad 0)), (2, .ref (bd 0)), (3, .int (nI i))]) [0, 1, 2, 3] rfl ih
set_option maxRecDepth 20000 in
set_option maxHeartbeats 4000000 in
theorem lw_c13 (E : gz_E z l D [(cI, .int), (cJ, .long)] cL_law RL wsL_law 8 room_1 true) (XS : gz_X z b L xs) (hL : L ≤ 2048) (hi : i + 4 ≤ L) (C : pg_CP n X Y tc TT NB RG rc KT kc tl mc LE MI GE ec CO kd LS GT tm) (ih : gz_G z ((wC ad cI n X Y tc TT NB RG rc KT kc tl GR) ++ (wM bd cI cJ n X Y mc LE MI GE ec CO kd LS GT tm GP)) 610 [(0, .ref b), (1, .ref (ad 0)), (2, .ref (bd 0)), (3, .int (nI i))] []) : gz_G z ((wC ad cI n X Y tc TT NB RG rc KT kc tl GR) ++ (wM bd cI cJ n X Y mc LE MI GE ec CO kd LS GT tm GP)) 550 [(0, .ref b), (1, .ref (ad 0)), (2, .ref (bd 0)), (3, .int (nI i))] [] := by
  obtain ⟨c1, ⟨q1, q2, q3, q4⟩, ⟨b1, b2, b3⟩, c4, c5, c6, c7, c8, c9⟩ := C
  refine gz_aload_n E dL_law_550 rfl rfl ?_
  refine gz_aload_n E dL_law_551 rfl rfl ?_
  refine gz_iload_n E dL_law_552 rfl rfl ?_
  refine gz_iconst (v := nI 1) E dL_law_553 (by decide) ?_
  refine gz_iaddN E dL_law_554 ?_
  refine gz_sld E XS (by omega) hL dL_law_555 ?_
  refine gz_calli (n := 1) (wr := (wM bd cI cJ n X Y mc LE MI GE ec CO kd LS GT tm GP)) E 0 [0, 1, 2, 3, 4, 5, 6, 7] [8, 9, 10, 11, 12, 13, 14, 15, 16, 17] dL_law_556 gL_law_X0_tree (mtX0_tree b3 _) rfl rfl ⟨rfl, rfl⟩ (by decide) rfl ⟨rfl, rfl⟩ (by decide +kernel) ⟨Nat.le_of_ble_eq_true rfl, Nat.le_of_ble_eq_true rfl⟩ rfl rfl rfl rfl (Nat.le_of_ble_eq_true rfl) (fun r556 w556 h556 => ?_)
  obtain ⟨e1, rfl⟩ := h556
  refine gz_aload_n E dL_law_559 rfl rfl ?_
  refine gz_aload_n E dL_law_560 rfl rfl ?_
  refine gz_iload_n E dL_law_561 rfl rfl ?_
  refine gz_iconst (v := nI 1) E dL_law_562 (by decide) ?_
  refine gz_iaddN E dL_law_563 ?_
  refine gz_sld E XS (by omega) hL dL_law_564 ?_
  refine gz_calli (n := 1) (wr := (wC ad cI n X Y tc TT NB RG rc KT kc tl GR)) E 0 [0, 1, 2, 3, 4, 5, 6, 7, 8, 9] [10, 11, 12, 13, 14, 15, 16, 17] dL_law_565 gL_law_X1_tree (mtX1_tree (by omega) _) rfl rfl ⟨rfl, rfl⟩ (by decide) rfl ⟨rfl, rfl⟩ (by decide +kernel) ⟨Nat.le_of_ble_eq_true rfl, Nat.le_of_ble_eq_true rfl⟩ rfl rfl rfl rfl (Nat.le_of_ble_eq_true rfl) (fun r565 w565 h565 => ?_)
  obtain ⟨e2, rfl⟩ := h565
  exact gz_icmp_eq (tgt := 610) E dL_law_568 (by decide) (fun _ => ih) (fun q => absurd (lw_idx (by omega) q3 c9 e1 e2) q)
set_option maxRecDepth 20000 in
set_option maxHeartbeats 4000000 in
theorem lw_c14 (E : gz_E z l D [(cI, .int), (cJ, .long)] cL_law RL wsL_law 8 room_1 true) (XS : gz_X z b L xs) (hL : L ≤ 2048) (hi : i + 4 ≤ L) (C : pg_CP n X Y tc TT NB RG rc KT kc tl mc LE MI GE ec CO kd LS GT tm) (ih : gz_G z ((wC ad cI n X Y tc TT NB RG rc KT kc tl GR) ++ (wM bd cI cJ n X Y mc LE MI GE ec CO kd LS GT tm GP)) 610 [(0, .ref b), (1, .ref (ad 0)), (2, .ref (bd 0)), (3, .int (nI i))] []) : gz_G z ((wC ad cI n X Y tc TT NB RG rc KT kc tl GR) ++ (wM bd cI cJ n X Y mc LE MI GE ec CO kd LS GT tm GP)) 573 [(0, .ref b), (1, .ref (ad 0)), (2, .ref (bd 0)), (3, .int (nI i))] [] := by
  obtain ⟨c1, ⟨q1, q2, q3, q4⟩, ⟨b1, b2, b3⟩, c4, c5, c6, c7, c8, c9⟩ := C
  refine gz_aload_n E dL_law_573 rfl rfl ?_
  refine gz_calll (n := 0) (wr := (wM bd cI cJ n X Y mc LE MI GE ec CO kd LS GT tm GP)) E 0 [0, 1, 2, 3, 4, 5, 6, 7] [8, 9, 10, 11, 12, 13, 14, 15, 16, 17] dL_law_574 gL_law_X0_total mtX0_total rfl rfl ⟨rfl, rfl⟩ (by decide) rfl ⟨rfl, rfl⟩ (by decide +kernel) ⟨Nat.le_of_ble_eq_true rfl, Nat.le_of_ble_eq_true rfl⟩ rfl rfl rfl rfl (Nat.le_of_ble_eq_true rfl) (fun r574 w574 h574 => ?_)
  obtain ⟨e1, rfl⟩ := h574
  refine gz_aload_n E dL_law_577 rfl rfl ?_
  refine gz_calll (n := 0) (wr := (wC ad cI n X Y tc TT NB RG rc KT kc tl GR)) E 0 [0, 1, 2, 3, 4, 5, 6, 7, 8, 9] [10, 11, 12, 13, 14, 15, 16, 17] dL_law_578 gL_law_X1_total mtX1_total rfl rfl ⟨rfl, rfl⟩ (by decide) rfl ⟨rfl, rfl⟩ (by decide +kernel) ⟨Nat.le_of_ble_eq_true rfl, Nat.le_of_ble_eq_true rfl⟩ rfl rfl rfl rfl (Nat.le_of_ble_eq_true rfl) (fun r578 w578 h578 => ?_)
  obtain ⟨e2, rfl⟩ := h578
  exact gz_lc_eq (tgt := 610) E dL_law_581 dL_law_582 (by decide) (fun _ => ih) (fun q => absurd (e1.trans ((congrArg lI q4).trans e2.symm)) q)
set_option maxRecDepth 20000 in
set_option maxHeartbeats 4000000 in
theorem lw_c15 (E : gz_E z l D [(cI, .int), (cJ, .long)] cL_law RL wsL_law 8 room_1 true) (XS : gz_X z b L xs) (hL : L ≤ 2048) (hi : i + 4 ≤ L) (C : pg_CP n X Y tc TT NB RG rc KT kc tl mc LE MI GE ec CO kd LS GT tm) (ih : gz_G z ((wC ad cI n X Y tc TT NB RG rc KT kc tl GR) ++ (wM bd cI cJ n X Y mc LE MI GE ec CO kd LS GT tm GP)) 610 [(0, .ref b), (1, .ref (ad 0)), (2, .ref (bd 0)), (3, .int (nI i))] []) : gz_G z ((wC ad cI n X Y tc TT NB RG rc KT kc tl GR) ++ (wM bd cI cJ n X Y mc LE MI GE ec CO kd LS GT tm GP)) 587 [(0, .ref b), (1, .ref (ad 0)), (2, .ref (bd 0)), (3, .int (nI i))] [] := by
  obtain ⟨c1, ⟨q1, q2, q3, q4⟩, ⟨b1, b2, b3⟩, c4, c5, c6, c7, c8, c9⟩ := C
  refine gz_aload_n E dL_law_587 rfl rfl ?_
  refine gz_aload_n E dL_law_588 rfl rfl ?_
  refine gz_iload_n E dL_law_589 rfl rfl ?_
  refine gz_iconst (v := nI 1) E dL_law_590 (by decide) ?_
  refine gz_iaddN E dL_law_591 ?_
  refine gz_sld E XS (by omega) hL dL_law_592 ?_
  refine gz_calli (n := 1) (wr := (wM bd cI cJ n X Y mc LE MI GE ec CO kd LS GT tm GP)) E 0 [0, 1, 2, 3, 4, 5, 6, 7] [8, 9, 10, 11, 12, 13, 14, 15, 16, 17] dL_law_593 gL_law_X0_bounded (mtX0_bounded c1 _) rfl rfl ⟨rfl, rfl⟩ (by decide) rfl ⟨rfl, rfl⟩ (by decide +kernel) ⟨Nat.le_of_ble_eq_true rfl, Nat.le_of_ble_eq_true rfl⟩ rfl rfl rfl rfl (Nat.le_of_ble_eq_true rfl) (fun r593 w593 h593 => ?_)
  obtain ⟨e1, rfl⟩ := h593
  refine gz_aload_n E dL_law_596 rfl rfl ?_
  refine gz_aload_n E dL_law_597 rfl rfl ?_
  refine gz_iload_n E dL_law_598 rfl rfl ?_
  refine gz_iconst (v := nI 1) E dL_law_599 (by decide) ?_
  refine gz_iaddN E dL_law_600 ?_
  refine gz_sld E XS (by omega) hL dL_law_601 ?_
  refine gz_calli (n := 1) (wr := (wC ad cI n X Y tc TT NB RG rc KT kc tl GR)) E 0 [0, 1, 2, 3, 4, 5, 6, 7, 8, 9] [10, 11, 12, 13, 14, 15, 16, 17] dL_law_602 gL_law_X1_bounded (mtX1_bounded c1 _) rfl rfl ⟨rfl, rfl⟩ (by decide) rfl ⟨rfl, rfl⟩ (by decide +kernel) ⟨Nat.le_of_ble_eq_true rfl, Nat.le_of_ble_eq_true rfl⟩ rfl rfl rfl rfl (Nat.le_of_ble_eq_true rfl) (fun r602 w602 h602 => ?_)
  obtain ⟨e2, rfl⟩ := h602
  exact gz_icmp_eq (tgt := 610) E dL_law_605 (by decide) (fun _ => ih) (fun q => absurd (gz_B_u e1 e2 Iff.rfl) q)
theorem lw_okp (ok : pg_ok n X Y) (h14 : n < 14) {x y : Int} (h : -30000 ≤ x ∧ x ≤ 30000 ∧ -30000 ≤ y ∧ y ≤ 30000) (h0 : ∀ k, k < n → ¬ (X k = x ∧ Y k = y)) : pg_ok (n + 1) (fun i => if i = n then x else X i) (fun i => if i = n then y else Y i) := by
  obtain ⟨a1, a2, a3⟩ := ok
  refine ⟨by omega, fun i hi => ?_, fun i j hi hj e1 e2 => ?_⟩
  · by_cases hin : i = n
    · simp only [hin, if_true]; exact h
    · simp only [hin, if_false]; exact a2 i (by omega)
  · by_cases hin : i = n <;> by_cases hjn : j = n
    · omega
    · simp only [hin, hjn, if_true, if_false] at e1 e2
      exact absurd ⟨e1.symm, e2.symm⟩ (h0 j (by omega))
    · simp only [hin, hjn, if_true, if_false] at e1 e2
      exact absurd ⟨e1, e2⟩ (h0 i (by omega))
    · simp only [hin, hjn, if_false] at e1 e2
      exact a3 i j (by omega) (by omega) e1 e2
set_option maxRecDepth 20000 in
set_option maxHeartbeats 4000000 in
theorem lw_c0 (E : gz_E z l D [(cI, .int), (cJ, .long)] cL_law RL wsL_law 8 room_1 true) (XS : gz_X z b L xs) (hL : L ≤ 2048) (hi : i + 4 ≤ L) (C : pg_CP n X Y tc TT NB RG rc KT kc tl mc LE MI GE ec CO kd LS GT tm) (ih : ∀ (n : Nat) (X Y : Nat → Int) (tc : Nat) (TT NB RG : Nat → Nat) (rc : Nat) (KT : Nat → Nat) (kc : Nat) (tl : Int) (GR : Nat → Nat) (mc : Nat) (LE MI GE : Nat → Nat) (ec : Nat) (CO : Nat → Nat) (kd : Nat) (LS GT : Nat → Nat) (tm : Int) (GP : Nat → Nat), pg_CP n X Y tc TT NB RG rc KT kc tl mc LE MI GE ec CO kd LS GT tm → gz_G z ((wC ad cI n X Y tc TT NB RG rc KT kc tl GR) ++ (wM bd cI cJ n X Y mc LE MI GE ec CO kd LS GT tm GP)) 610 [(0, .ref b), (1, .ref (ad 0)), (2, .ref (bd 0)), (3, .int (nI i))] []) : gz_G z ((wC ad cI n X Y tc TT NB RG rc KT kc tl GR) ++ (wM bd cI cJ n X Y mc LE MI GE ec CO kd LS GT tm GP)) 112 [(0, .ref b), (1, .ref (ad 0)), (2, .ref (bd 0)), (3, .int (nI i))] [] := by
  obtain ⟨c1, ⟨q1, q2, q3, q4⟩, ⟨b1, b2, b3⟩, c4, c5, c6, c7, c8, c9⟩ := id C
  obtain ⟨x, hx⟩ : ∃ x, x = (xs (i + 1)).toInt := ⟨_, rfl⟩
  obtain ⟨y, hy⟩ : ∃ y, y = (xs (i + 2)).toInt := ⟨_, rfl⟩
  have ex : xs (i + 1) = iI x := by rw [hx]; exact iI_of _
  have ey : xs (i + 2) = iI y := by rw [hy]; exact iI_of _
  have x1 : -2147483648 ≤ x := by rw [hx]; exact Int32.le_toInt _
  have x2 : x < 2147483648 := by rw [hx]; exact Int32.toInt_lt _
  have y1 : -2147483648 ≤ y := by rw [hy]; exact Int32.le_toInt _
  have y2 : y < 2147483648 := by rw [hy]; exact Int32.toInt_lt _
  refine gz_aload_n E dL_law_112 rfl rfl ?_
  refine gz_aload_n E dL_law_113 rfl rfl ?_
  refine gz_iload_n E dL_law_114 rfl rfl ?_
  refine gz_iconst (v := nI 1) E dL_law_115 (by decide) ?_
  refine gz_iaddN E dL_law_116 ?_
  refine gz_sld E XS (by omega) hL dL_law_117 ?_
  refine gz_aload_n E dL_law_118 rfl rfl ?_
  refine gz_iload_n E dL_law_119 rfl rfl ?_
  refine gz_iconst (v := nI 2) E dL_law_120 (by decide) ?_
  refine gz_iaddN E dL_law_121 ?_
  refine gz_sld E XS (by omega) hL dL_law_122 ?_
  refine gz_s (st' := [Value.int (iI y), .int (iI x), .ref (ad 0)]) (by rw [ex, ey]) ?_
  refine gz_calli (n := 2) (wr := (wM bd cI cJ n X Y mc LE MI GE ec CO kd LS GT tm GP)) E 0 [0, 1, 2, 3, 4, 5, 6, 7] [8, 9, 10, 11, 12, 13, 14, 15, 16, 17] dL_law_123 gL_law_X0_add (mtX0_add c1 x1 x2 y1 y2 (fun k => pg_PL_ok k (Nat.succ_pos n))) rfl rfl ⟨rfl, rfl⟩ (by decide) rfl ⟨rfl, rfl⟩ (by decide +kernel) ⟨Nat.le_of_ble_eq_true rfl, Nat.le_of_ble_eq_true rfl⟩ rfl rfl rfl rfl (Nat.le_of_ble_eq_true rfl) (fun r123 w123 h123 => ?_)
  rcases h123 with ⟨g1, g2, rfl⟩ | ⟨g1, ⟨k, k1, k2, k3, g2, rfl⟩ | ⟨g0, ⟨g3, g2, rfl⟩ | ⟨g3, g2, tc', TT', NB', RG', rc', KT', kc', tl', GR', rfl, AL⟩⟩⟩
  · refine gz_aload_n E dL_law_126 rfl rfl ?_
    refine gz_aload_n E dL_law_127 rfl rfl ?_
    refine gz_iload_n E dL_law_128 rfl rfl ?_
    refine gz_iconst (v := nI 1) E dL_law_129 (by decide) ?_
    refine gz_iaddN E dL_law_130 ?_
    refine gz_sld E XS (by omega) hL dL_law_131 ?_
    refine gz_aload_n E dL_law_132 rfl rfl ?_
    refine gz_iload_n E dL_law_133 rfl rfl ?_
    refine gz_iconst (v := nI 2) E dL_law_134 (by decide) ?_
    refine gz_iaddN E dL_law_135 ?_
    refine gz_sld E XS (by omega) hL dL_law_136 ?_
    refine gz_s (st' := [Value.int (iI y), .int (iI x), .ref (bd 0), .int r123]) (by rw [ex, ey]) ?_
    refine gz_calli (n := 2) (wr := (wC ad cI n X Y tc TT NB RG rc KT kc tl GR)) E 0 [0, 1, 2, 3, 4, 5, 6, 7, 8, 9] [10, 11, 12, 13, 14, 15, 16, 17] dL_law_137 gL_law_X1_add (mtX1_add c1 x1 x2 y1 y2 (fun k => pg_PT_ok k (Nat.succ_pos n))) rfl rfl ⟨rfl, rfl⟩ (by decide) rfl ⟨rfl, rfl⟩ (by decide +kernel) ⟨Nat.le_of_ble_eq_true rfl, Nat.le_of_ble_eq_true rfl⟩ rfl rfl rfl rfl (Nat.le_of_ble_eq_true rfl) (fun r137 w137 h137 => ?_)
    rcases h137 with ⟨f1, f2, rfl⟩ | ⟨f1, f2⟩
    · exact gz_icmp_eq (tgt := 610) E dL_law_140 (by decide) (fun _ => ih _ _ _ _ _ _ _ _ _ _ _ _ _ _ _ _ _ _ _ _ _ _ _ C) (fun q => absurd (g2.trans f2.symm) q)
    · omega
  · refine gz_aload_n E dL_law_126 rfl rfl ?_
    refine gz_aload_n E dL_law_127 rfl rfl ?_
    refine gz_iload_n E dL_law_128 rfl rfl ?_
    refine gz_iconst (v := nI 1) E dL_law_129 (by decide) ?_
    refine gz_iaddN E dL_law_130 ?_
    refine gz_sld E XS (by omega) hL dL_law_131 ?_
    refine gz_aload_n E dL_law_132 rfl rfl ?_
    refine gz_iload_n E dL_law_133 rfl rfl ?_
    refine gz_iconst (v := nI 2) E dL_law_134 (by decide) ?_
    refine gz_iaddN E dL_law_135 ?_
    refine gz_sld E XS (by omega) hL dL_law_136 ?_
    refine gz_s (st' := [Value.int (iI y), .int (iI x), .ref (bd 0), .int r123]) (by rw [ex, ey]) ?_
    refine gz_calli (n := 2) (wr := (wC ad cI n X Y tc TT NB RG rc KT kc tl GR)) E 0 [0, 1, 2, 3, 4, 5, 6, 7, 8, 9] [10, 11, 12, 13, 14, 15, 16, 17] dL_law_137 gL_law_X1_add (mtX1_add c1 x1 x2 y1 y2 (fun k => pg_PT_ok k (Nat.succ_pos n))) rfl rfl ⟨rfl, rfl⟩ (by decide) rfl ⟨rfl, rfl⟩ (by decide +kernel) ⟨Nat.le_of_ble_eq_true rfl, Nat.le_of_ble_eq_true rfl⟩ rfl rfl rfl rfl (Nat.le_of_ble_eq_true rfl) (fun r137 w137 h137 => ?_)
    rcases h137 with ⟨f1, f2, rfl⟩ | ⟨f1, ⟨j, j1, j2, j3, f2, rfl⟩ | ⟨f0, f2⟩⟩
    · omega
    · exact gz_icmp_eq (tgt := 610) E dL_law_140 (by decide) (fun _ => ih _ _ _ _ _ _ _ _ _ _ _ _ _ _ _ _ _ _ _ _ _ _ _ C) (fun q => absurd (g2.trans ((congrArg nI (c1.2.2 k j k1 j1 (by omega) (by omega))).trans f2.symm)) q)
    · exact absurd ⟨k2, k3⟩ (f0 k k1)
  · refine gz_aload_n E dL_law_126 rfl rfl ?_
    refine gz_aload_n E dL_law_127 rfl rfl ?_
    refine gz_iload_n E dL_law_128 rfl rfl ?_
    refine gz_iconst (v := nI 1) E dL_law_129 (by decide) ?_
    refine gz_iaddN E dL_law_130 ?_
    refine gz_sld E XS (by omega) hL dL_law_131 ?_
    refine gz_aload_n E dL_law_132 rfl rfl ?_
    refine gz_iload_n E dL_law_133 rfl rfl ?_
    refine gz_iconst (v := nI 2) E dL_law_134 (by decide) ?_
    refine gz_iaddN E dL_law_135 ?_
    refine gz_sld E XS (by omega) hL dL_law_136 ?_
    refine gz_s (st' := [Value.int (iI y), .int (iI x), .ref (bd 0), .int r123]) (by rw [ex, ey]) ?_
    refine gz_calli (n := 2) (wr := (wC ad cI n X Y tc TT NB RG rc KT kc tl GR)) E 0 [0, 1, 2, 3, 4, 5, 6, 7, 8, 9] [10, 11, 12, 13, 14, 15, 16, 17] dL_law_137 gL_law_X1_add (mtX1_add c1 x1 x2 y1 y2 (fun k => pg_PT_ok k (Nat.succ_pos n))) rfl rfl ⟨rfl, rfl⟩ (by decide) rfl ⟨rfl, rfl⟩ (by decide +kernel) ⟨Nat.le_of_ble_eq_true rfl, Nat.le_of_ble_eq_true rfl⟩ rfl rfl rfl rfl (Nat.le_of_ble_eq_true rfl) (fun r137 w137 h137 => ?_)
    rcases h137 with ⟨f1, f2, rfl⟩ | ⟨f1, ⟨j, j1, j2, j3, f2, rfl⟩ | ⟨f0, ⟨f3, f2, rfl⟩ | ⟨f3, f2⟩⟩⟩
    · omega
    · exact absurd ⟨j2, j3⟩ (g0 j j1)
    · exact gz_icmp_eq (tgt := 610) E dL_law_140 (by decide) (fun _ => ih _ _ _ _ _ _ _ _ _ _ _ _ _ _ _ _ _ _ _ _ _ _ _ C) (fun q => absurd (g2.trans f2.symm) q)
    · omega
  · refine gz_aload_n E dL_law_126 rfl rfl ?_
    refine gz_aload_n E dL_law_127 rfl rfl ?_
    refine gz_iload_n E dL_law_128 rfl rfl ?_
    refine gz_iconst (v := nI 1) E dL_law_129 (by decide) ?_
    refine gz_iaddN E dL_law_130 ?_
    refine gz_sld E XS (by omega) hL dL_law_131 ?_
    refine gz_aload_n E dL_law_132 rfl rfl ?_
    refine gz_iload_n E dL_law_133 rfl rfl ?_
    refine gz_iconst (v := nI 2) E dL_law_134 (by decide) ?_
    refine gz_iaddN E dL_law_135 ?_
    refine gz_sld E XS (by omega) hL dL_law_136 ?_
    refine gz_s (st' := [Value.int (iI y), .int (iI x), .ref (bd 0), .int r123]) (by rw [ex, ey]) ?_
    refine gz_calli (n := 2) (wr := (wC ad cI (n + 1) (fun i => if i = n then x else X i) (fun i => if i = n then y else Y i) tc' TT' NB' RG' rc' KT' kc' tl' GR')) E 0 [0, 1, 2, 3, 4, 5, 6, 7, 8, 9] [10, 11, 12, 13, 14, 15, 16, 17] dL_law_137 gL_law_X1_add (mtX1_add c1 x1 x2 y1 y2 (fun k => pg_PT_ok k (Nat.succ_pos n))) rfl rfl ⟨rfl, rfl⟩ (by decide) rfl ⟨rfl, rfl⟩ (by decide +kernel) ⟨Nat.le_of_ble_eq_true rfl, Nat.le_of_ble_eq_true rfl⟩ rfl rfl rfl rfl (Nat.le_of_ble_eq_true rfl) (fun r137 w137 h137 => ?_)
    rcases h137 with ⟨f1, f2, rfl⟩ | ⟨f1, ⟨j, j1, j2, j3, f2, rfl⟩ | ⟨f0, ⟨f3, f2, rfl⟩ | ⟨f3, f2, mc', LE', MI', GE', ec', CO', kd', LS', GT', tm', GP', rfl, AM⟩⟩⟩
    · omega
    · exact absurd ⟨j2, j3⟩ (g0 j j1)
    · omega
    · exact gz_icmp_eq (tgt := 610) E dL_law_140 (by decide) (fun _ => ih _ _ _ _ _ _ _ _ _ _ _ _ _ _ _ _ _ _ _ _ _ _ _ (pg_CP_of (lw_okp c1 f3 f1 f0) AL AM)) (fun q => absurd (g2.trans f2.symm) q)
set_option maxRecDepth 20000 in
set_option maxHeartbeats 4000000 in
theorem lw_loop (E : gz_E z l D [(cI, .int), (cJ, .long)] cL_law RL wsL_law 8 room_1 true) (XS : gz_X z b L xs) (hL : L ≤ 2048) (hret : ∀ ws lv, gz_G z ws 617 lv [.int 1]) : ∀ (f i : Nat), L < i + f → i ≤ L → ∀ (n : Nat) (X Y : Nat → Int) (tc : Nat) (TT NB RG : Nat → Nat) (rc : Nat) (KT : Nat → Nat) (kc : Nat) (tl : Int) (GR : Nat → Nat) (mc : Nat) (LE MI GE : Nat → Nat) (ec : Nat) (CO : Nat → Nat) (kd : Nat) (LS GT : Nat → Nat) (tm : Int) (GP : Nat → Nat), pg_CP n X Y tc TT NB RG rc KT kc tl mc LE MI GE ec CO kd LS GT tm → gz_G z ((wC ad cI n X Y tc TT NB RG rc KT kc tl GR) ++ (wM bd cI cJ n X Y mc LE MI GE ec CO kd LS GT tm GP)) 18 [(0, .ref b), (1, .ref (ad 0)), (2, .ref (bd 0)), (3, .int (nI i))] [] := by
  intro f
  induction f with
  | zero => intro i h1 h2; exact absurd h1 (by omega)
  | succ f ihf =>
    intro i h1 h2 n X Y tc TT NB RG rc KT kc tl GR mc LE MI GE ec CO kd LS GT tm GP C
    refine gz_iload_n E dL_law_18 rfl rfl ?_
    refine gz_aload_n E dL_law_19 rfl rfl ?_
    refine gz_slen E XS dL_law_20 ?_
    refine gz_iconst (v := nI 4) E dL_law_21 (by decide) ?_
    refine gz_isub E dL_law_22 ?_
    refine gz_icmp_gt (tgt := 616) E dL_law_23 (by decide) (fun _ => ?_) (fun q => ?_)
    · refine gz_iconst (v := 1) E dL_law_616 (by decide) ?_
      exact hret _ _
    · have hi := lw_room h2 hL q
      have go : ∀ (n : Nat) (X Y : Nat → Int) (tc : Nat) (TT NB RG : Nat → Nat) (rc : Nat) (KT : Nat → Nat) (kc : Nat) (tl : Int) (GR : Nat → Nat) (mc : Nat) (LE MI GE : Nat → Nat) (ec : Nat) (CO : Nat → Nat) (kd : Nat) (LS GT : Nat → Nat) (tm : Int) (GP : Nat → Nat), pg_CP n X Y tc TT NB RG rc KT kc tl mc LE MI GE ec CO kd LS GT tm → gz_G z ((wC ad cI n X Y tc TT NB RG rc KT kc tl GR) ++ (wM bd cI cJ n X Y mc LE MI GE ec CO kd LS GT tm GP)) 610 [(0, .ref b), (1, .ref (ad 0)), (2, .ref (bd 0)), (3, .int (nI i))] [] := by
        intro n X Y tc TT NB RG rc KT kc tl GR mc LE MI GE ec CO kd LS GT tm GP C
        refine gz_iinc (lv' := [(0, .ref b), (1, .ref (ad 0)), (2, .ref (bd 0)), (3, .int (nI (i + 4)))]) E dL_law_610 rfl (nI_add _ 4) (by decide) rfl ?_
        refine gz_goto (tgt := 18) E dL_law_613 (by decide) ?_
        exact ihf (i + 4) (by omega) (by omega) _ _ _ _ _ _ _ _ _ _ _ _ _ _ _ _ _ _ _ _ _ _ _ C
      refine gz_aload_n E dL_law_26 rfl rfl ?_
      refine gz_iload_n E dL_law_27 rfl rfl ?_
      refine gz_sld E XS (by omega) hL dL_law_28 ?_
      refine gz_bipush (v := nI 15) E dL_law_29 (by decide) ?_
      refine gz_iand E dL_law_31 ?_
      obtain ⟨j, hj, ej⟩ := pk_andE (xs i) (m := nI 15) 4 (by decide)
      rw [ej]
      have hj : j < 16 := hj
      match j, hj with
      | 0, _ => exact gz_tab (tgt := 112) E dL_law_32 (by decide) (by decide) rfl (by decide) (lw_c0 E XS hL hi C go)
      | 1, _ => exact gz_tab (tgt := 145) E dL_law_32 (by decide) (by decide) rfl (by decide) (lw_c1 E XS hL hi C (go _ _ _ _ _ _ _ _ _ _ _ _ _ _ _ _ _ _ _ _ _ _ _ C))
      | 2, _ => exact gz_tab (tgt := 158) E dL_law_32 (by decide) (by decide) rfl (by decide) (lw_c2 E XS hL hi C (go _ _ _ _ _ _ _ _ _ _ _ _ _ _ _ _ _ _ _ _ _ _ _ C))
      | 3, _ => exact gz_tab (tgt := 171) E dL_law_32 (by decide) (by decide) rfl (by decide) (lw_c3 E XS hL hi C (go _ _ _ _ _ _ _ _ _ _ _ _ _ _ _ _ _ _ _ _ _ _ _ C))
      | 4, _ => exact gz_tab (tgt := 194) E dL_law_32 (by decide) (by decide) rfl (by decide) (lw_c4 E XS hL hi C (go _ _ _ _ _ _ _ _ _ _ _ _ _ _ _ _ _ _ _ _ _ _ _ C))
      | 5, _ => exact gz_tab (tgt := 227) E dL_law_32 (by decide) (by decide) rfl (by decide) (lw_c5 E XS hL hi C (go _ _ _ _ _ _ _ _ _ _ _ _ _ _ _ _ _ _ _ _ _ _ _ C))
      | 6, _ => exact gz_tab (tgt := 261) E dL_law_32 (by decide) (by decide) rfl (by decide) (lw_c6 E XS hL hi C (go _ _ _ _ _ _ _ _ _ _ _ _ _ _ _ _ _ _ _ _ _ _ _ C))
      | 7, _ => exact gz_tab (tgt := 294) E dL_law_32 (by decide) (by decide) rfl (by decide) (lw_c7 E XS hL hi C (go _ _ _ _ _ _ _ _ _ _ _ _ _ _ _ _ _ _ _ _ _ _ _ C))
      | 8, _ => exact gz_tab (tgt := 317) E dL_law_32 (by decide) (by decide) rfl (by decide) (lw_c8 E XS hL hi C (go _ _ _ _ _ _ _ _ _ _ _ _ _ _ _ _ _ _ _ _ _ _ _ C))
      | 9, _ => exact gz_tab (tgt := 330) E dL_law_32 (by decide) (by decide) rfl (by decide) (lw_c9 E XS hL hi C (go _ _ _ _ _ _ _ _ _ _ _ _ _ _ _ _ _ _ _ _ _ _ _ C))
      | 10, _ => exact gz_tab (tgt := 353) E dL_law_32 (by decide) (by decide) rfl (by decide) (lw_c10 E XS hL hi C (go _ _ _ _ _ _ _ _ _ _ _ _ _ _ _ _ _ _ _ _ _ _ _ C))
      | 11, _ => exact gz_tab (tgt := 406) E dL_law_32 (by decide) (by decide) rfl (by decide) (lw_c11 E XS hL hi C (go _ _ _ _ _ _ _ _ _ _ _ _ _ _ _ _ _ _ _ _ _ _ _ C))
      | 12, _ => exact gz_tab (tgt := 459) E dL_law_32 (by decide) (by decide) rfl (by decide) (lw_c12 E XS hL hi C (go _ _ _ _ _ _ _ _ _ _ _ _ _ _ _ _ _ _ _ _ _ _ _ C))
      | 13, _ => exact gz_tab (tgt := 550) E dL_law_32 (by decide) (by decide) rfl (by decide) (lw_c13 E XS hL hi C (go _ _ _ _ _ _ _ _ _ _ _ _ _ _ _ _ _ _ _ _ _ _ _ C))
      | 14, _ => exact gz_tab (tgt := 573) E dL_law_32 (by decide) (by decide) rfl (by decide) (lw_c14 E XS hL hi C (go _ _ _ _ _ _ _ _ _ _ _ _ _ _ _ _ _ _ _ _ _ _ _ C))
      | 15, _ => exact gz_tab (tgt := 587) E dL_law_32 (by decide) (by decide) rfl (by decide) (lw_c15 E XS hL hi C (go _ _ _ _ _ _ _ _ _ _ _ _ _ _ _ _ _ _ _ _ _ _ _ C))
      | j + 16, h => exact absurd h (by omega)
end LC
