/-! the class: what is asked of it (whole numbers) -/
section CG
variable {l : Launch} {D : va_G} {ad : Nat → Nat} {cI cJ : ClassId} {n tc rc kc : Nat} {X Y : Nat → Int} {TT NB RG KT GR : Nat → Nat} {tl : Int}
variable {LE MI GE : Nat → Nat}
abbrev rmX0_sites : Room := { frames := 0, cells := 0, slots := 0, locals := 0 }
theorem inwX0_sites : ∀ w ∈ wsX00, w ∈ wsX0_sites := fun _ h => List.mem_cons_of_mem _ (List.mem_append_right _ h)
set_option maxRecDepth 20000 in
theorem flX0_sites_16 : Cond.fieldLink RX0 16 RX0 (TX0 2).2.1 (TX0 2).2.2.1 ∈ wsX0_sites := by decide +kernel
set_option maxRecDepth 20000 in
set_option maxHeartbeats 4000000 in
theorem mtX0_sites  : gz_Ki l yX0_sites wsX0_sites rmX0_sites D [(cI, .int), (cJ, .long)] [.ref (ad 0)] (wC ad cI n X Y tc TT NB RG rc KT kc tl GR) (fun r w1 => r = nI n ∧ w1 = (wC ad cI n X Y tc TT NB RG rc KT kc tl GR)) := by
  refine gz_ofi (cc := cX0_sites) (maxL := 1) (own := RX0) (by decide +kernel) rfl rfl rfl (Nat.le_of_ble_eq_true rfl) ?_
  intro z E ret
  show gz_G z _ 0 [(0, .ref (ad 0))] []
  refine gz_aload_n E dX0_sites_0 rfl rfl ?_
  refine gz_get E inwX0_sites 0 2 dX0_sites_1 flX0_sites_16 rfl rfl (by decide) rfl rfl ?_
  exact ret _ _ _ _ dX0_sites_4 rfl ⟨rfl, rfl⟩
abbrev rmX0_triangles : Room := { frames := 0, cells := 0, slots := 0, locals := 0 }
theorem inwX0_triangles : ∀ w ∈ wsX00, w ∈ wsX0_triangles := fun _ h => List.mem_cons_of_mem _ (List.mem_append_right _ h)
set_option maxRecDepth 20000 in
theorem flX0_triangles_23 : Cond.fieldLink RX0 23 RX0 (TX0 4).2.1 (TX0 4).2.2.1 ∈ wsX0_triangles := by decide +kernel
set_option maxRecDepth 20000 in
set_option maxHeartbeats 4000000 in
theorem mtX0_triangles  : gz_Ki l yX0_triangles wsX0_triangles rmX0_triangles D [(cI, .int), (cJ, .long)] [.ref (ad 0)] (wC ad cI n X Y tc TT NB RG rc KT kc tl GR) (fun r w1 => r = nI tc ∧ w1 = (wC ad cI n X Y tc TT NB RG rc KT kc tl GR)) := by
  refine gz_ofi (cc := cX0_triangles) (maxL := 1) (own := RX0) (by decide +kernel) rfl rfl rfl (Nat.le_of_ble_eq_true rfl) ?_
  intro z E ret
  show gz_G z _ 0 [(0, .ref (ad 0))] []
  refine gz_aload_n E dX0_triangles_0 rfl rfl ?_
  refine gz_get E inwX0_triangles 0 4 dX0_triangles_1 flX0_triangles_23 rfl rfl (by decide) rfl rfl ?_
  exact ret _ _ _ _ dX0_triangles_4 rfl ⟨rfl, rfl⟩
abbrev rmX0_corners : Room := { frames := 0, cells := 0, slots := 0, locals := 0 }
theorem inwX0_corners : ∀ w ∈ wsX00, w ∈ wsX0_corners := fun _ h => List.mem_cons_of_mem _ (List.mem_append_right _ h)
set_option maxRecDepth 20000 in
theorem flX0_corners_32 : Cond.fieldLink RX0 32 RX0 (TX0 7).2.1 (TX0 7).2.2.1 ∈ wsX0_corners := by decide +kernel
set_option maxRecDepth 20000 in
set_option maxHeartbeats 4000000 in
theorem mtX0_corners  : gz_Ki l yX0_corners wsX0_corners rmX0_corners D [(cI, .int), (cJ, .long)] [.ref (ad 0)] (wC ad cI n X Y tc TT NB RG rc KT kc tl GR) (fun r w1 => r = nI rc ∧ w1 = (wC ad cI n X Y tc TT NB RG rc KT kc tl GR)) := by
  refine gz_ofi (cc := cX0_corners) (maxL := 1) (own := RX0) (by decide +kernel) rfl rfl rfl (Nat.le_of_ble_eq_true rfl) ?_
  intro z E ret
  show gz_G z _ 0 [(0, .ref (ad 0))] []
  refine gz_aload_n E dX0_corners_0 rfl rfl ?_
  refine gz_get E inwX0_corners 0 7 dX0_corners_1 flX0_corners_32 rfl rfl (by decide) rfl rfl ?_
  exact ret _ _ _ _ dX0_corners_4 rfl ⟨rfl, rfl⟩
abbrev rmX0_total : Room := { frames := 0, cells := 0, slots := 0, locals := 0 }
theorem inwX0_total : ∀ w ∈ wsX00, w ∈ wsX0_total := fun _ h => List.mem_cons_of_mem _ (List.mem_append_right _ h)
set_option maxRecDepth 20000 in
theorem flX0_total_41 : Cond.fieldLink RX0 41 RX0 (TX0 10).2.1 (TX0 10).2.2.1 ∈ wsX0_total := by decide +kernel
set_option maxRecDepth 20000 in
set_option maxHeartbeats 4000000 in
theorem mtX0_total  : gz_Kl l yX0_total wsX0_total rmX0_total D [(cI, .int), (cJ, .long)] [.ref (ad 0)] (wC ad cI n X Y tc TT NB RG rc KT kc tl GR) (fun r w1 => r = lI tl ∧ w1 = (wC ad cI n X Y tc TT NB RG rc KT kc tl GR)) := by
  refine gz_ofl (cc := cX0_total) (maxL := 1) (own := RX0) (by decide +kernel) rfl rfl rfl (Nat.le_of_ble_eq_true rfl) ?_
  intro z E ret
  show gz_G z _ 0 [(0, .ref (ad 0))] []
  refine gz_aload_n E dX0_total_0 rfl rfl ?_
  refine gz_get E inwX0_total 0 10 dX0_total_1 flX0_total_41 rfl rfl (by decide) rfl rfl ?_
  exact ret _ _ _ _ dX0_total_4 ⟨rfl, rfl⟩
abbrev rmX0_corner : Room := { frames := 0, cells := 0, slots := 0, locals := 0 }
theorem inwX0_corner : ∀ w ∈ wsX00, w ∈ wsX0_corner := fun _ h => List.mem_cons_of_mem _ (List.mem_append_right _ h)
set_option maxRecDepth 20000 in
theorem flX0_corner_32 : Cond.fieldLink RX0 32 RX0 (TX0 7).2.1 (TX0 7).2.2.1 ∈ wsX0_corner := by decide +kernel
set_option maxRecDepth 20000 in
theorem flX0_corner_29 : Cond.fieldLink RX0 29 RX0 (TX0 6).2.1 (TX0 6).2.2.1 ∈ wsX0_corner := by decide +kernel
set_option maxRecDepth 20000 in
set_option maxHeartbeats 4000000 in
theorem mtX0_corner (hn : rc ≤ 14) (x : Int32) : gz_Ki l yX0_corner wsX0_corner rmX0_corner D [(cI, .int), (cJ, .long)] [.ref (ad 0), .int x] (wC ad cI n X Y tc TT NB RG rc KT kc tl GR) (fun r w1 => ((∃ k, k < rc ∧ x = nI k ∧ r = nI (RG k)) ∨ (¬ gz_Ix x rc ∧ r = -1)) ∧ w1 = (wC ad cI n X Y tc TT NB RG rc KT kc tl GR)) := by
  refine gz_ofi (cc := cX0_corner) (maxL := 2) (own := RX0) (by decide +kernel) rfl rfl rfl (Nat.le_of_ble_eq_true rfl) ?_
  intro z E ret
  show gz_G z _ 0 [(0, .ref (ad 0)), (1, .int x)] []
  refine gz_iload_n E dX0_corner_0 rfl rfl ?_
  refine gz_if_lt (tgt := 21) E dX0_corner_1 (by decide) (fun q1 => ?_) (fun q1 => ?_)
  · skip
    refine gz_iconst (v := -1) E dX0_corner_21 (by decide) ?_
    first | exact ret _ _ _ _ dX0_corner_22 rfl ⟨Or.inr ⟨gz_Ix_f1 (by omega) q1, rfl⟩, rfl⟩ | exact ret _ _ _ _ dX0_corner_22 rfl ⟨Or.inr ⟨gz_Ix_f2 (by omega) q9, rfl⟩, rfl⟩ | exact ret _ _ _ _ dX0_corner_22 rfl ⟨Or.inl ⟨k, hk, rfl, rfl⟩, rfl⟩
  · skip
    refine gz_iload_n E dX0_corner_4 rfl rfl ?_
    refine gz_aload_n E dX0_corner_5 rfl rfl ?_
    refine gz_get E inwX0_corner 0 7 dX0_corner_6 flX0_corner_32 rfl rfl (by decide) rfl rfl ?_
    refine gz_icmp_ge (tgt := 21) E dX0_corner_9 (by decide) (fun q9 => ?_) (fun q9 => ?_)
    · skip
      refine gz_iconst (v := -1) E dX0_corner_21 (by decide) ?_
      first | exact ret _ _ _ _ dX0_corner_22 rfl ⟨Or.inr ⟨gz_Ix_f1 (by omega) q1, rfl⟩, rfl⟩ | exact ret _ _ _ _ dX0_corner_22 rfl ⟨Or.inr ⟨gz_Ix_f2 (by omega) q9, rfl⟩, rfl⟩ | exact ret _ _ _ _ dX0_corner_22 rfl ⟨Or.inl ⟨k, hk, rfl, rfl⟩, rfl⟩
    · skip
      obtain ⟨k, hk, rfl⟩ := gz_Ix_t (by omega) q1 q9
      refine gz_aload_n E dX0_corner_12 rfl rfl ?_
      refine gz_get E inwX0_corner 0 6 dX0_corner_13 flX0_corner_29 rfl rfl (by decide) rfl rfl ?_
      refine gz_iload_n E dX0_corner_16 rfl rfl ?_
      refine gz_ialdN E 5 0 dX0_corner_17 rfl rfl (by decide) rfl (by omega) ?_
      refine gz_goto (tgt := 22) E dX0_corner_18 (by decide) ?_
      first | exact ret _ _ _ _ dX0_corner_22 rfl ⟨Or.inr ⟨gz_Ix_f1 (by omega) q1, rfl⟩, rfl⟩ | exact ret _ _ _ _ dX0_corner_22 rfl ⟨Or.inr ⟨gz_Ix_f2 (by omega) q9, rfl⟩, rfl⟩ | exact ret _ _ _ _ dX0_corner_22 rfl ⟨Or.inl ⟨k, hk, rfl, rfl⟩, rfl⟩
abbrev rmX0_tree : Room := { frames := 0, cells := 0, slots := 0, locals := 0 }
theorem inwX0_tree : ∀ w ∈ wsX00, w ∈ wsX0_tree := fun _ h => List.mem_cons_of_mem _ (List.mem_append_right _ h)
set_option maxRecDepth 20000 in
theorem flX0_tree_38 : Cond.fieldLink RX0 38 RX0 (TX0 9).2.1 (TX0 9).2.2.1 ∈ wsX0_tree := by decide +kernel
set_option maxRecDepth 20000 in
theorem flX0_tree_35 : Cond.fieldLink RX0 35 RX0 (TX0 8).2.1 (TX0 8).2.2.1 ∈ wsX0_tree := by decide +kernel
set_option maxRecDepth 20000 in
set_option maxHeartbeats 4000000 in
theorem mtX0_tree (hn : kc ≤ 13) (x : Int32) : gz_Ki l yX0_tree wsX0_tree rmX0_tree D [(cI, .int), (cJ, .long)] [.ref (ad 0), .int x] (wC ad cI n X Y tc TT NB RG rc KT kc tl GR) (fun r w1 => ((∃ k, k < kc ∧ x = nI k ∧ r = nI (KT k)) ∨ (¬ gz_Ix x kc ∧ r = -1)) ∧ w1 = (wC ad cI n X Y tc TT NB RG rc KT kc tl GR)) := by
  refine gz_ofi (cc := cX0_tree) (maxL := 2) (own := RX0) (by decide +kernel) rfl rfl rfl (Nat.le_of_ble_eq_true rfl) ?_
  intro z E ret
  show gz_G z _ 0 [(0, .ref (ad 0)), (1, .int x)] []
  refine gz_iload_n E dX0_tree_0 rfl rfl ?_
  refine gz_if_lt (tgt := 21) E dX0_tree_1 (by decide) (fun q1 => ?_) (fun q1 => ?_)
  · skip
    refine gz_iconst (v := -1) E dX0_tree_21 (by decide) ?_
    first | exact ret _ _ _ _ dX0_tree_22 rfl ⟨Or.inr ⟨gz_Ix_f1 (by omega) q1, rfl⟩, rfl⟩ | exact ret _ _ _ _ dX0_tree_22 rfl ⟨Or.inr ⟨gz_Ix_f2 (by omega) q9, rfl⟩, rfl⟩ | exact ret _ _ _ _ dX0_tree_22 rfl ⟨Or.inl ⟨k, hk, rfl, rfl⟩, rfl⟩
  · skip
    refine gz_iload_n E dX0_tree_4 rfl rfl ?_
    refine gz_aload_n E dX0_tree_5 rfl rfl ?_
    refine gz_get E inwX0_tree 0 9 dX0_tree_6 flX0_tree_38 rfl rfl (by decide) rfl rfl ?_
    refine gz_icmp_ge (tgt := 21) E dX0_tree_9 (by decide) (fun q9 => ?_) (fun q9 => ?_)
    · skip
      refine gz_iconst (v := -1) E dX0_tree_21 (by decide) ?_
      first | exact ret _ _ _ _ dX0_tree_22 rfl ⟨Or.inr ⟨gz_Ix_f1 (by omega) q1, rfl⟩, rfl⟩ | exact ret _ _ _ _ dX0_tree_22 rfl ⟨Or.inr ⟨gz_Ix_f2 (by omega) q9, rfl⟩, rfl⟩ | exact ret _ _ _ _ dX0_tree_22 rfl ⟨Or.inl ⟨k, hk, rfl, rfl⟩, rfl⟩
    · skip
      obtain ⟨k, hk, rfl⟩ := gz_Ix_t (by omega) q1 q9
      refine gz_aload_n E dX0_tree_12 rfl rfl ?_
      refine gz_get E inwX0_tree 0 8 dX0_tree_13 flX0_tree_35 rfl rfl (by decide) rfl rfl ?_
      refine gz_iload_n E dX0_tree_16 rfl rfl ?_
      refine gz_ialdN E 6 0 dX0_tree_17 rfl rfl (by decide) rfl (by omega) ?_
      refine gz_goto (tgt := 22) E dX0_tree_18 (by decide) ?_
      first | exact ret _ _ _ _ dX0_tree_22 rfl ⟨Or.inr ⟨gz_Ix_f1 (by omega) q1, rfl⟩, rfl⟩ | exact ret _ _ _ _ dX0_tree_22 rfl ⟨Or.inr ⟨gz_Ix_f2 (by omega) q9, rfl⟩, rfl⟩ | exact ret _ _ _ _ dX0_tree_22 rfl ⟨Or.inl ⟨k, hk, rfl, rfl⟩, rfl⟩
abbrev rmX0_triangle : Room := { frames := 1, cells := 0, slots := 0, locals := 21 }
theorem inwX0_triangle : ∀ w ∈ wsX00, w ∈ wsX0_triangle := fun _ h => List.mem_cons_of_mem _ (List.mem_append_right _ h)
set_option maxRecDepth 20000 in
theorem flX0_triangle_20 : Cond.fieldLink RX0 20 RX0 (TX0 3).2.1 (TX0 3).2.2.1 ∈ wsX0_triangle := by decide +kernel
set_option maxRecDepth 20000 in
set_option maxHeartbeats 4000000 in
theorem mtX0_triangle (ht : tc ≤ 23) (x : Int32) : gz_Ki l yX0_triangle wsX0_triangle rmX0_triangle D [(cI, .int), (cJ, .long)] [.ref (ad 0), .int x] (wC ad cI n X Y tc TT NB RG rc KT kc tl GR) (fun r w1 => ((∃ k, k < tc ∧ x = nI k ∧ r = nI (TT k)) ∨ (¬ gz_Ix x tc ∧ r = -1)) ∧ w1 = (wC ad cI n X Y tc TT NB RG rc KT kc tl GR)) := by
  refine gz_ofi (cc := cX0_triangle) (maxL := 2) (own := RX0) (by decide +kernel) rfl rfl rfl (Nat.le_of_ble_eq_true rfl) ?_
  intro z E ret
  show gz_G z _ 0 [(0, .ref (ad 0)), (1, .int x)] []
  refine gz_aload_n E dX0_triangle_0 rfl rfl ?_
  refine gz_iload_n E dX0_triangle_1 rfl rfl ?_
  refine gz_cali (n := 1) E 0 dX0_triangle_2 gX0_triangle_X0_isTriangle (mtX0_isTriangle ht _) rfl rfl ⟨rfl, rfl⟩ (by decide +kernel) ⟨Nat.le_of_ble_eq_true rfl, Nat.le_of_ble_eq_true rfl⟩ rfl rfl rfl rfl (Nat.le_of_ble_eq_true rfl) (fun r2 w2 hr2 => ?_)
  obtain ⟨hr2, rfl⟩ := hr2
  refine gz_ifB_eq (tgt := 17) E hr2 dX0_triangle_5 (by decide) (fun q5 => ?_) (fun q5 => ?_)
  · skip
    refine gz_iconst (v := -1) E dX0_triangle_17 (by decide) ?_
    first | exact ret _ _ _ _ dX0_triangle_18 rfl ⟨Or.inr ⟨q5, rfl⟩, rfl⟩ | exact ret _ _ _ _ dX0_triangle_18 rfl ⟨Or.inl ⟨k, hk, rfl, rfl⟩, rfl⟩
  · skip
    obtain ⟨k, hk, rfl⟩ := q5
    refine gz_aload_n E dX0_triangle_8 rfl rfl ?_
    refine gz_get E inwX0_triangle 0 3 dX0_triangle_9 flX0_triangle_20 rfl rfl (by decide) rfl rfl ?_
    refine gz_iload_n E dX0_triangle_12 rfl rfl ?_
    refine gz_ialdN E 3 0 dX0_triangle_13 rfl rfl (by decide) rfl (by omega) ?_
    refine gz_goto (tgt := 18) E dX0_triangle_14 (by decide) ?_
    first | exact ret _ _ _ _ dX0_triangle_18 rfl ⟨Or.inr ⟨q5, rfl⟩, rfl⟩ | exact ret _ _ _ _ dX0_triangle_18 rfl ⟨Or.inl ⟨k, hk, rfl, rfl⟩, rfl⟩
abbrev rmX0_joined : Room := { frames := 2, cells := 0, slots := 0, locals := 43 }
set_option maxRecDepth 20000 in
set_option maxHeartbeats 4000000 in
theorem mtX0_joined (hn : n ≤ 14) (hNB : ∀ i, i < n → NB i < 2 ^ 14) (x y : Int32) : gz_Ki l yX0_joined wsX0_joined rmX0_joined D [(cI, .int), (cJ, .long)] [.ref (ad 0), .int x, .int y] (wC ad cI n X Y tc TT NB RG rc KT kc tl GR) (fun r w1 => gz_B r (gz_HE NB n x y) ∧ w1 = (wC ad cI n X Y tc TT NB RG rc KT kc tl GR)) := by
  refine gz_ofi (cc := cX0_joined) (maxL := 3) (own := RX0) (by decide +kernel) rfl rfl rfl (Nat.le_of_ble_eq_true rfl) ?_
  intro z E ret
  show gz_G z _ 0 [(0, .ref (ad 0)), (1, .int x), (2, .int y)] []
  refine gz_aload_n E dX0_joined_0 rfl rfl ?_
  refine gz_iload_n E dX0_joined_1 rfl rfl ?_
  refine gz_iload_n E dX0_joined_2 rfl rfl ?_
  refine gz_cali (n := 2) E 0 dX0_joined_3 gX0_joined_X0_hasEdge (mtX0_hasEdge hn hNB _ _) rfl rfl ⟨rfl, rfl⟩ (by decide +kernel) ⟨Nat.le_of_ble_eq_true rfl, Nat.le_of_ble_eq_true rfl⟩ rfl rfl rfl rfl (Nat.le_of_ble_eq_true rfl) (fun r3 w3 hr3 => ?_)
  obtain ⟨hr3, rfl⟩ := hr3
  exact ret _ _ _ _ dX0_joined_6 (gz_bnar hr3) ⟨hr3, rfl⟩
theorem gz_andN (a b : Nat) : nI a &&& nI b = nI (a &&& b) := by
  apply Int32.toBitVec_inj.1
  show BitVec.ofNat 32 a &&& BitVec.ofNat 32 b = BitVec.ofNat 32 (a &&& b)
  apply BitVec.eq_of_getLsbD_eq
  intro i hi
  simp [hi]
def pg_bc (x : Nat) : Nat :=
  let a := x - (x / 2 &&& 1431655765)
  let b := (a &&& 858993459) + (a / 4 &&& 858993459)
  let c := (b + b / 16) &&& 252645135
  let d := c + c / 256
  let e := d + d / 65536
  e &&& 63
def pg_pop (f : Nat → Bool) : Nat → Nat
  | 0 => 0
  | k + 1 => pg_pop f k + (bif f k then 1 else 0)
theorem pg_bc_pop : ∀ h, h < 16 → ∀ x, x < 1024 → pg_bc (h * 1024 + x) = pg_pop (fun j => Nat.beq ((h * 1024 + x) / 2 ^ j % 2) 1) 14 := by decide +kernel
theorem pg_bc_ok {x : Nat} (h : x < 2 ^ 14) : pg_bc x = pg_pop (fun j => Nat.beq (x / 2 ^ j % 2) 1) 14 := by
  have := pg_bc_pop (x / 1024) (by omega) (x % 1024) (by omega)
  rw [show x / 1024 * 1024 + x % 1024 = x by omega] at this
  exact this
theorem gz_us : ∀ k, k < 32 → (((nI k).toUInt32 &&& Int32.toUInt32 31).toBitVec % 32).toNat = k := by decide +kernel
theorem gz_ushN {x : Nat} (k : Nat) (hx : x < 2 ^ 32) (hk : k < 32) : ((nI x).toUInt32 >>> ((nI k).toUInt32 &&& Int32.toUInt32 31)).toInt32 = nI (x / 2 ^ k) := pk_ushrN hx (nI k) k (gz_us k hk)
abbrev rmJ6_bitCount_0f7a4 : Room := { frames := 0, cells := 0, slots := 0, locals := 0 }
set_option maxRecDepth 20000 in
theorem cwJ6_bitCount_0f7a4_265 : Jvm.Cond.constant RJ6 265 (1431655765) ∈ wsJ6_bitCount_0f7a4 := by decide +kernel
set_option maxRecDepth 20000 in
theorem cwJ6_bitCount_0f7a4_266 : Jvm.Cond.constant RJ6 266 (858993459) ∈ wsJ6_bitCount_0f7a4 := by decide +kernel
set_option maxRecDepth 20000 in
theorem cwJ6_bitCount_0f7a4_267 : Jvm.Cond.constant RJ6 267 (252645135) ∈ wsJ6_bitCount_0f7a4 := by decide +kernel
set_option maxRecDepth 20000 in
set_option maxHeartbeats 4000000 in
theorem mtJ6_bitCount_0f7a4 {x : Nat} (hx : x < 2 ^ 14) : gz_Si l yJ6_bitCount_0f7a4 wsJ6_bitCount_0f7a4 rmJ6_bitCount_0f7a4 [.int (nI x)] (fun r => r = nI (pg_pop (fun j => Nat.beq (x / 2 ^ j % 2) 1) 14)) := by
  refine gz_sofi (cc := cJ6_bitCount_0f7a4) (maxL := 1) (own := RJ6) (by decide +kernel) rfl rfl rfl (Nat.le_of_ble_eq_true rfl) ?_
  intro z D E ret
  show gz_G z _ 0 [(0, .int (nI x))] []
  refine gz_iload_n E dJ6_bitCount_0f7a4_0 rfl rfl ?_
  refine gz_iload_n E dJ6_bitCount_0f7a4_1 rfl rfl ?_
  refine gz_iconst (v := nI 1) E dJ6_bitCount_0f7a4_2 (by decide) ?_
  refine gz_iushr E dJ6_bitCount_0f7a4_3 ?_
  refine gz_ldcw E dJ6_bitCount_0f7a4_4 cwJ6_bitCount_0f7a4_265 ?_
  refine gz_iand E dJ6_bitCount_0f7a4_7 ?_
  refine gz_isub E dJ6_bitCount_0f7a4_8 ?_
  refine gz_topi (fun y1 e1 => ?_)
  obtain rfl : y1 = nI (x - (x / 2 &&& 1431655765)) := by rw [e1, gz_ushN 1 (by omega) (by omega), show (1431655765 : Int32) = nI 1431655765 from rfl, gz_andN, pk_sub (Nat.le_trans Nat.and_le_left (Nat.div_le_self x 2))]
  have ha : x - (x / 2 &&& 1431655765) < 2 ^ 32 := by omega
  generalize hA : x - (x / 2 &&& 1431655765) = a at ha ⊢
  refine gz_istore_n (lv' := [(0, _)]) E dJ6_bitCount_0f7a4_9 rfl (by decide) rfl ?_
  refine gz_iload_n E dJ6_bitCount_0f7a4_10 rfl rfl ?_
  refine gz_ldcw E dJ6_bitCount_0f7a4_11 cwJ6_bitCount_0f7a4_266 ?_
  refine gz_iand E dJ6_bitCount_0f7a4_14 ?_
  refine gz_iload_n E dJ6_bitCount_0f7a4_15 rfl rfl ?_
  refine gz_iconst (v := nI 2) E dJ6_bitCount_0f7a4_16 (by decide) ?_
  refine gz_iushr E dJ6_bitCount_0f7a4_17 ?_
  refine gz_ldcw E dJ6_bitCount_0f7a4_18 cwJ6_bitCount_0f7a4_266 ?_
  refine gz_iand E dJ6_bitCount_0f7a4_21 ?_
  refine gz_iadd E dJ6_bitCount_0f7a4_22 ?_
  refine gz_topi (fun y2 e2 => ?_)
  obtain rfl : y2 = nI ((a &&& 858993459) + (a / 4 &&& 858993459)) := by rw [e2, gz_ushN 2 (by omega) (by omega), show (858993459 : Int32) = nI 858993459 from rfl, gz_andN, gz_andN, nI_add]
  have b1 : (a &&& 858993459) ≤ 858993459 := Nat.and_le_right
  have b2 : (a / 4 &&& 858993459) ≤ 858993459 := Nat.and_le_right
  have hb : (a &&& 858993459) + (a / 4 &&& 858993459) ≤ 1717986918 := by omega
  generalize hB : (a &&& 858993459) + (a / 4 &&& 858993459) = b at hb ⊢
  refine gz_istore_n (lv' := [(0, _)]) E dJ6_bitCount_0f7a4_23 rfl (by decide) rfl ?_
  refine gz_iload_n E dJ6_bitCount_0f7a4_24 rfl rfl ?_
  refine gz_iload_n E dJ6_bitCount_0f7a4_25 rfl rfl ?_
  refine gz_iconst (v := nI 4) E dJ6_bitCount_0f7a4_26 (by decide) ?_
  refine gz_iushr E dJ6_bitCount_0f7a4_27 ?_
  refine gz_iadd E dJ6_bitCount_0f7a4_28 ?_
  refine gz_ldcw E dJ6_bitCount_0f7a4_29 cwJ6_bitCount_0f7a4_267 ?_
  refine gz_iand E dJ6_bitCount_0f7a4_32 ?_
  refine gz_topi (fun y3 e3 => ?_)
  obtain rfl : y3 = nI ((b + b / 16) &&& 252645135) := by rw [e3, gz_ushN 4 (by omega) (by omega), show (252645135 : Int32) = nI 252645135 from rfl, nI_add, gz_andN]
  have hc : ((b + b / 16) &&& 252645135) ≤ 252645135 := Nat.and_le_right
  generalize hC : (b + b / 16) &&& 252645135 = c at hc ⊢
  refine gz_istore_n (lv' := [(0, _)]) E dJ6_bitCount_0f7a4_33 rfl (by decide) rfl ?_
  refine gz_iload_n E dJ6_bitCount_0f7a4_34 rfl rfl ?_
  refine gz_iload_n E dJ6_bitCount_0f7a4_35 rfl rfl ?_
  refine gz_bipush (v := nI 8) E dJ6_bitCount_0f7a4_36 (by decide) ?_
  refine gz_iushr E dJ6_bitCount_0f7a4_38 ?_
  refine gz_iadd E dJ6_bitCount_0f7a4_39 ?_
  refine gz_topi (fun y4 e4 => ?_)
  obtain rfl : y4 = nI (c + c / 256) := by rw [e4, gz_ushN 8 (by omega) (by omega), nI_add]
  have hd : c + c / 256 ≤ 300000000 := by omega
  generalize hD : c + c / 256 = d at hd ⊢
  refine gz_istore_n (lv' := [(0, _)]) E dJ6_bitCount_0f7a4_40 rfl (by decide) rfl ?_
  refine gz_iload_n E dJ6_bitCount_0f7a4_41 rfl rfl ?_
  refine gz_iload_n E dJ6_bitCount_0f7a4_42 rfl rfl ?_
  refine gz_bipush (v := nI 16) E dJ6_bitCount_0f7a4_43 (by decide) ?_
  refine gz_iushr E dJ6_bitCount_0f7a4_45 ?_
  refine gz_iadd E dJ6_bitCount_0f7a4_46 ?_
  refine gz_topi (fun y5 e5 => ?_)
  obtain rfl : y5 = nI (d + d / 65536) := by rw [e5, gz_ushN 16 (by omega) (by omega), nI_add]
  refine gz_istore_n (lv' := [(0, _)]) E dJ6_bitCount_0f7a4_47 rfl (by decide) rfl ?_
  refine gz_iload_n E dJ6_bitCount_0f7a4_48 rfl rfl ?_
  refine gz_bipush (v := nI 63) E dJ6_bitCount_0f7a4_49 (by decide) ?_
  refine gz_iand E dJ6_bitCount_0f7a4_51 ?_
  exact ret _ _ _ _ dJ6_bitCount_0f7a4_52 rfl (by rw [← pg_bc_ok hx, gz_andN]; subst hD hC hB hA; rfl)
abbrev rmX0_degree : Room := { frames := 1, cells := 0, slots := 0, locals := 21 }
theorem inwX0_degree : ∀ w ∈ wsX00, w ∈ wsX0_degree := fun _ h => List.mem_cons_of_mem _ (List.mem_append_right _ h)
set_option maxRecDepth 20000 in
theorem flX0_degree_26 : Cond.fieldLink RX0 26 RX0 (TX0 5).2.1 (TX0 5).2.2.1 ∈ wsX0_degree := by decide +kernel
set_option maxRecDepth 20000 in
set_option maxHeartbeats 4000000 in
theorem mtX0_degree (hn : n ≤ 14) (hNB : ∀ i, i < n → NB i < 2 ^ 14) (x : Int32) : gz_Ki l yX0_degree wsX0_degree rmX0_degree D [(cI, .int), (cJ, .long)] [.ref (ad 0), .int x] (wC ad cI n X Y tc TT NB RG rc KT kc tl GR) (fun r w1 => ((∃ k, k < n ∧ x = nI k ∧ r = nI (pg_pop (fun j => Nat.beq (NB k / 2 ^ j % 2) 1) 14)) ∨ (¬ gz_Ix x n ∧ r = -1)) ∧ w1 = (wC ad cI n X Y tc TT NB RG rc KT kc tl GR)) := by
  refine gz_ofi (cc := cX0_degree) (maxL := 2) (own := RX0) (by decide +kernel) rfl rfl rfl (Nat.le_of_ble_eq_true rfl) ?_
  intro z E ret
  show gz_G z _ 0 [(0, .ref (ad 0)), (1, .int x)] []
  refine gz_aload_n E dX0_degree_0 rfl rfl ?_
  refine gz_iload_n E dX0_degree_1 rfl rfl ?_
  refine gz_cali (n := 1) E 0 dX0_degree_2 gX0_degree_X0_isSite (mtX0_isSite hn _) rfl rfl ⟨rfl, rfl⟩ (by decide +kernel) ⟨Nat.le_of_ble_eq_true rfl, Nat.le_of_ble_eq_true rfl⟩ rfl rfl rfl rfl (Nat.le_of_ble_eq_true rfl) (fun r2 w2 hr2 => ?_)
  obtain ⟨hr2, rfl⟩ := hr2
  refine gz_ifB_eq (tgt := 20) E hr2 dX0_degree_5 (by decide) (fun q5 => ?_) (fun q5 => ?_)
  · skip
    refine gz_iconst (v := -1) E dX0_degree_20 (by decide) ?_
    first | exact ret _ _ _ _ dX0_degree_21 rfl ⟨Or.inr ⟨q5, rfl⟩, rfl⟩ | exact ret _ _ _ _ dX0_degree_21 rfl ⟨Or.inl ⟨k, hk, rfl, rfl⟩, rfl⟩
  · skip
    obtain ⟨k, hk, rfl⟩ := q5
    refine gz_aload_n E dX0_degree_8 rfl rfl ?_
    refine gz_get E inwX0_degree 0 5 dX0_degree_9 flX0_degree_26 rfl rfl (by decide) rfl rfl ?_
    refine gz_iload_n E dX0_degree_12 rfl rfl ?_
    refine gz_ialdN E 4 0 dX0_degree_13 rfl rfl (by decide) rfl (by omega) ?_
    refine gz_stati (n := 1) E dX0_degree_14 gX0_degree_J6_bitCount_0f7a4 (mtJ6_bitCount_0f7a4 (hNB k hk)) rfl ⟨rfl, rfl⟩ (by decide +kernel) ⟨Nat.le_of_ble_eq_true rfl, Nat.le_of_ble_eq_true rfl⟩ rfl rfl (Nat.le_of_ble_eq_true rfl) (fun r14 hr14 => ?_)
    subst hr14
    refine gz_goto (tgt := 21) E dX0_degree_17 (by decide) ?_
    first | exact ret _ _ _ _ dX0_degree_21 rfl ⟨Or.inr ⟨q5, rfl⟩, rfl⟩ | exact ret _ _ _ _ dX0_degree_21 rfl ⟨Or.inl ⟨k, hk, rfl, rfl⟩, rfl⟩
def pg_BO (n : Nat) (X Y : Nat → Int) (x : Int32) : Prop := ∃ a, a < n ∧ x = nI a ∧ 2 ≤ n ∧ ∀ b, b < n → b ≠ a → ¬ pg_NR n X Y a b
theorem pg_BO_N {n : Nat} {X Y : Nat → Int} {a : Nat} (hn : n ≤ 14) (ha : a < n) : pg_BO n X Y (nI a) ↔ (2 ≤ n ∧ ∀ b, b < n → b ≠ a → ¬ pg_NR n X Y a b) := by
  constructor
  · rintro ⟨a', h1, h2, h3, h4⟩
    rw [nI_eq (by omega) (by omega)] at h2
    subst h2
    exact ⟨h3, h4⟩
  · exact fun h => ⟨a, ha, rfl, h.1, h.2⟩
theorem pg_lt_s0 {k : Nat} {P : Nat → Prop} (h : ∀ d, d < k → P d) (hk : P k) : ∀ d, d < k + 1 → P d := fun d hd => by
  rcases (show d < k ∨ d = k by omega) with e | e
  · exact h d e
  · rw [e]; exact hk
abbrev rmX0_bounded : Room := { frames := 3, cells := 0, slots := 0, locals := 67 }
theorem inwX0_bounded : ∀ w ∈ wsX00, w ∈ wsX0_bounded := fun _ h => List.mem_cons_of_mem _ (List.mem_append_right _ h)
set_option maxRecDepth 20000 in
theorem flX0_bounded_16 : Cond.fieldLink RX0 16 RX0 (TX0 2).2.1 (TX0 2).2.2.1 ∈ wsX0_bounded := by decide +kernel
set_option maxRecDepth 20000 in
set_option maxHeartbeats 4000000 in
theorem mtX0_bounded (SB : pg_ok n X Y) (x : Int32) : gz_Ki l yX0_bounded wsX0_bounded rmX0_bounded D [(cI, .int), (cJ, .long)] [.ref (ad 0), .int x] (wC ad cI n X Y tc TT NB RG rc KT kc tl GR) (fun r w1 => gz_B r (pg_BO n X Y x) ∧ w1 = (wC ad cI n X Y tc TT NB RG rc KT kc tl GR)) := by
  refine gz_ofi (cc := cX0_bounded) (maxL := 3) (own := RX0) (by decide +kernel) rfl rfl rfl (Nat.le_of_ble_eq_true rfl) ?_
  intro z E ret
  have hn := SB.1
  show gz_G z _ 0 [(0, .ref (ad 0)), (1, .int x)] []
  have main : ∀ a, a < n → 2 ≤ n → gz_G z (wC ad cI n X Y tc TT NB RG rc KT kc tl GR) 18 [(0, .ref (ad 0)), (1, .int (nI a))] [] → True := fun _ _ _ _ => trivial
  have loop : ∀ a, a < n → 2 ≤ n → x = nI a → ∀ (f k : Nat), n < f + k → k ≤ n → (∀ b, b < k → b ≠ a → ¬ pg_NR n X Y a b) → gz_G z (wC ad cI n X Y tc TT NB RG rc KT kc tl GR) 20 [(0, .ref (ad 0)), (1, .int (nI a)), (2, .int (nI k))] [] := by
    intro a ha hn2 hxa f
    induction f with
    | zero => intro k h1 h2; exact absurd h1 (by omega)
    | succ f ih =>
      intro k h1 h2 h3
      refine gz_iload_n E dX0_bounded_20 rfl rfl ?_
      refine gz_aload_n E dX0_bounded_21 rfl rfl ?_
      refine gz_get E inwX0_bounded 0 2 dX0_bounded_22 flX0_bounded_16 rfl rfl (by decide) rfl rfl ?_
      refine gz_icN_ge (tgt := 50) E dX0_bounded_25 (by decide) (by omega) (by omega) (fun q25 => ?_) (fun q25 => ?_)
      · skip
        refine gz_iconst (v := 1) E dX0_bounded_50 (by decide) ?_
        first
          | exact ret _ _ _ _ dX0_bounded_51 rfl ⟨gz_B_f (fun q => by rw [hxa, pg_BO_N hn ha] at q; exact q.2 k (by omega) q30 q39), rfl⟩
          | exact ret _ _ _ _ dX0_bounded_51 rfl ⟨gz_B_t (by rw [hxa, pg_BO_N hn ha]; exact ⟨hn2, fun b hb => h3 b (by omega)⟩), rfl⟩
      · skip
        have hk : k < n := by omega
        refine gz_iload_n E dX0_bounded_28 rfl rfl ?_
        refine gz_iload_n E dX0_bounded_29 rfl rfl ?_
        refine gz_icN_eq (tgt := 44) E dX0_bounded_30 (by decide) (by omega) (by omega) (fun q30 => ?_) (fun q30 => ?_)
        · skip
          refine gz_iinc (lv' := [(0, _), (1, _), (2, _)]) E dX0_bounded_44 rfl (gz_nI1 _) (by decide) rfl ?_
          refine gz_goto (tgt := 20) E dX0_bounded_47 (by decide) ?_
          first
            | exact ih (k + 1) (by omega) (by omega) (pg_lt_s h3 (fun hne => absurd q30 hne))
            | exact ih (k + 1) (by omega) (by omega) (pg_lt_s h3 (fun _ => q39))
        · skip
          refine gz_aload_n E dX0_bounded_33 rfl rfl ?_
          refine gz_iload_n E dX0_bounded_34 rfl rfl ?_
          refine gz_iload_n E dX0_bounded_35 rfl rfl ?_
          refine gz_cali (n := 2) E 0 dX0_bounded_36 gX0_bounded_X0_noneTurnsRight (mtX0_noneTurnsRight SB (by assumption) (by assumption)) rfl rfl ⟨rfl, rfl⟩ (by decide +kernel) ⟨Nat.le_of_ble_eq_true rfl, Nat.le_of_ble_eq_true rfl⟩ rfl rfl rfl rfl (Nat.le_of_ble_eq_true rfl) (fun r36 w36 hr36 => ?_)
          obtain ⟨hr36, rfl⟩ := hr36
          refine gz_ifB_eq (tgt := 44) E hr36 dX0_bounded_39 (by decide) (fun q39 => ?_) (fun q39 => ?_)
          · skip
            refine gz_iinc (lv' := [(0, _), (1, _), (2, _)]) E dX0_bounded_44 rfl (gz_nI1 _) (by decide) rfl ?_
            refine gz_goto (tgt := 20) E dX0_bounded_47 (by decide) ?_
            first
              | exact ih (k + 1) (by omega) (by omega) (pg_lt_s h3 (fun hne => absurd q30 hne))
              | exact ih (k + 1) (by omega) (by omega) (pg_lt_s h3 (fun _ => q39))
          · skip
            refine gz_iconst (v := 0) E dX0_bounded_42 (by decide) ?_
            first
              | exact ret _ _ _ _ dX0_bounded_43 rfl ⟨gz_B_f (fun q => by rw [hxa, pg_BO_N hn ha] at q; exact q.2 k (by omega) q30 q39), rfl⟩
              | exact ret _ _ _ _ dX0_bounded_43 rfl ⟨gz_B_t (by rw [hxa, pg_BO_N hn ha]; exact ⟨hn2, fun b hb => h3 b (by omega)⟩), rfl⟩
  refine gz_aload_n E dX0_bounded_0 rfl rfl ?_
  refine gz_iload_n E dX0_bounded_1 rfl rfl ?_
  refine gz_cali (n := 1) E 0 dX0_bounded_2 gX0_bounded_X0_isSite (mtX0_isSite hn _) rfl rfl ⟨rfl, rfl⟩ (by decide +kernel) ⟨Nat.le_of_ble_eq_true rfl, Nat.le_of_ble_eq_true rfl⟩ rfl rfl rfl rfl (Nat.le_of_ble_eq_true rfl) (fun r2 w2 hr2 => ?_)
  obtain ⟨hr2, rfl⟩ := hr2
  refine gz_ifB_eq (tgt := 16) E hr2 dX0_bounded_5 (by decide) (fun q5 => ?_) (fun q5 => ?_)
  · skip
    refine gz_iconst (v := 0) E dX0_bounded_16 (by decide) ?_
    first
      | exact ret _ _ _ _ dX0_bounded_17 rfl ⟨gz_B_f (fun ⟨a, h1, h2, _⟩ => q5 ⟨a, h1, h2⟩), rfl⟩
      | exact ret _ _ _ _ dX0_bounded_17 rfl ⟨gz_B_f (fun ⟨a, h1, h2, h3, _⟩ => absurd h3 (by omega)), rfl⟩
  · skip
    refine gz_aload_n E dX0_bounded_8 rfl rfl ?_
    refine gz_get E inwX0_bounded 0 2 dX0_bounded_9 flX0_bounded_16 rfl rfl (by decide) rfl rfl ?_
    refine gz_iconst (v := nI 2) E dX0_bounded_12 (by decide) ?_
    refine gz_icN_ge (tgt := 18) E dX0_bounded_13 (by decide) (by omega) (by omega) (fun q13 => ?_) (fun q13 => ?_)
    · skip
      obtain ⟨a, ha, rfl⟩ := q5
      refine gz_iconst (v := nI 0) E dX0_bounded_18 (by decide) ?_
      refine gz_istore_n (lv' := [(0, _), (1, _), (2, _)]) E dX0_bounded_19 rfl (by decide) rfl ?_
      exact loop a ha (by omega) rfl (n + 1) 0 (by omega) (by omega) (fun b hb => absurd hb (by omega))
    · skip
      refine gz_iconst (v := 0) E dX0_bounded_16 (by decide) ?_
      first
        | exact ret _ _ _ _ dX0_bounded_17 rfl ⟨gz_B_f (fun ⟨a, h1, h2, _⟩ => q5 ⟨a, h1, h2⟩), rfl⟩
        | exact ret _ _ _ _ dX0_bounded_17 rfl ⟨gz_B_f (fun ⟨a, h1, h2, h3, _⟩ => absurd h3 (by omega)), rfl⟩
theorem gz_Ix3 {x : Int32} (h1 : ¬ x < 0) (h2 : x ≤ nI 2) : gz_Ix x 3 := by
  rcases pk_ix x (n := 3) (by decide) with h | h | h
  · exact absurd h h1
  · have : nI 3 ≤ nI 2 := Int32.le_trans h h2
    exact absurd this (by decide)
  · exact h
theorem gz_Ix3_f {x : Int32} (h : ¬ x ≤ nI 2) : ¬ gz_Ix x 3 := fun ⟨k, h1, h2⟩ => h (by rw [h2]; exact (nI_leI (by omega) (by omega)).mpr (by omega))
def pg_BE (LE MI GE : Nat → Nat) (a k j : Nat) : Prop := j ≠ a ∧ pg_Of LE MI GE j (if k = 0 then MI a else LE a) ∧ pg_Of LE MI GE j (if k = 2 then MI a else GE a)
/-- the rows of the triangles, packed and plain -/
def pg_TTs (n tc : Nat) (TT LE MI GE : Nat → Nat) : Prop := ∀ t, t < tc → TT t = LE t + 16 * MI t + 256 * GE t ∧ LE t < MI t ∧ MI t < GE t ∧ GE t < n
theorem pg_TTs_Of {n tc t a : Nat} {TT LE MI GE : Nat → Nat} (hn : n ≤ 14) (h : pg_TTs n tc TT LE MI GE) (ht : t < tc) : (TT t % 16 = a ∨ TT t / 16 % 16 = a ∨ TT t / 256 % 16 = a) ↔ pg_Of LE MI GE t a := by
  obtain ⟨h1, h2, h3, h4⟩ := h t ht
  unfold pg_Of
  have q1 : TT t % 16 = LE t := by omega
  have q2 : TT t / 16 % 16 = MI t := by omega
  have q3 : TT t / 256 % 16 = GE t := by omega
  rw [q1, q2, q3]
theorem pg_TTs_c {n tc t : Nat} {TT LE MI GE : Nat → Nat} (hn : n ≤ 14) (h : pg_TTs n tc TT LE MI GE) (ht : t < tc) : TT t / 16 ^ 0 % 16 = LE t ∧ TT t / 16 ^ 1 % 16 = MI t ∧ TT t / 16 ^ 2 % 16 = GE t := by
  obtain ⟨h1, h2, h3, h4⟩ := h t ht
  have q1 : TT t % 16 = LE t := by omega
  have q2 : TT t / 16 % 16 = MI t := by omega
  have q3 : TT t / 256 % 16 = GE t := by omega
  exact ⟨by rw [Nat.pow_zero, Nat.div_one]; exact q1, q2, q3⟩
abbrev rmX0_beyond : Room := { frames := 3, cells := 0, slots := 0, locals := 65 }
theorem inwX0_beyond : ∀ w ∈ wsX00, w ∈ wsX0_beyond := fun _ h => List.mem_cons_of_mem _ (List.mem_append_right _ h)
set_option maxRecDepth 20000 in
theorem flX0_beyond_23 : Cond.fieldLink RX0 23 RX0 (TX0 4).2.1 (TX0 4).2.2.1 ∈ wsX0_beyond := by decide +kernel
set_option maxRecDepth 20000 in
set_option maxHeartbeats 4000000 in
theorem mtX0_beyond (hn : n ≤ 14) (ht : tc ≤ 23) (hTT : pg_TTs n tc TT LE MI GE) (i v : Int32) : gz_Ki l yX0_beyond wsX0_beyond rmX0_beyond D [(cI, .int), (cJ, .long)] [.ref (ad 0), .int i, .int v] (wC ad cI n X Y tc TT NB RG rc KT kc tl GR) (fun r w1 => ((∃ a k, a < tc ∧ k < 3 ∧ i = nI a ∧ v = nI k ∧ ((∃ j, j < tc ∧ pg_BE LE MI GE a k j ∧ r = nI j) ∨ (r = -1 ∧ ∀ j, j < tc → ¬ pg_BE LE MI GE a k j))) ∨ (¬ (gz_Ix i tc ∧ gz_Ix v 3) ∧ r = -1)) ∧ w1 = (wC ad cI n X Y tc TT NB RG rc KT kc tl GR)) := by
  refine gz_ofi (cc := cX0_beyond) (maxL := 6) (own := RX0) (by decide +kernel) rfl rfl rfl (Nat.le_of_ble_eq_true rfl) ?_
  intro z E ret
  show gz_G z _ 0 [(0, .ref (ad 0)), (1, .int i), (2, .int v)] []
  have main : ∀ a k, a < tc → k < 3 → i = nI a → v = nI k → gz_G z (wC ad cI n X Y tc TT NB RG rc KT kc tl GR) 19 [(0, .ref (ad 0)), (1, .int (nI a)), (2, .int (nI k))] [] := by
    intro a k ha hk hia hvk
    obtain ⟨t1, t2, t3, t4⟩ := hTT a ha
    have hT4 : TT a < 4096 := by omega
    obtain ⟨c0, c1, c2⟩ := pg_TTs_c hn hTT ha
    have loop : ∀ p q, p < 14 → q < 14 → p = (if k = 0 then MI a else LE a) → q = (if k = 2 then MI a else GE a) → ∀ (f j : Nat), tc < f + j → j ≤ tc → (∀ j', j' < j → ¬ pg_BE LE MI GE a k j') → gz_G z (wC ad cI n X Y tc TT NB RG rc KT kc tl GR) 54 [(0, .ref (ad 0)), (1, .int (nI a)), (3, .int (nI p)), (4, .int (nI q)), (5, .int (nI j))] [] := by
      intro p q hp hq ep eq f
      induction f with
      | zero => intro j h1 h2; exact absurd h1 (by omega)
      | succ f ih =>
        intro j h1 h2 h3
        refine gz_iload E dX0_beyond_54 rfl ?_
        refine gz_aload_n E dX0_beyond_56 rfl rfl ?_
        refine gz_get E inwX0_beyond 0 4 dX0_beyond_57 flX0_beyond_23 rfl rfl (by decide) rfl rfl ?_
        refine gz_icN_ge (tgt := 99) E dX0_beyond_60 (by decide) (by omega) (by omega) (fun q60 => ?_) (fun q60 => ?_)
        · skip
          refine gz_iconst (v := -1) E dX0_beyond_99 (by decide) ?_
          first
            | exact ret _ _ _ _ dX0_beyond_100 rfl ⟨Or.inl ⟨a, k, ha, hk, hia, hvk, Or.inl ⟨j, hj, ⟨q66, by rw [← ep]; exact q76, by rw [← eq]; exact q87⟩, rfl⟩⟩, rfl⟩
            | exact ret _ _ _ _ dX0_beyond_100 rfl ⟨Or.inl ⟨a, k, ha, hk, hia, hvk, Or.inr ⟨rfl, fun j hj => h3 j (by omega)⟩⟩, rfl⟩
        · skip
          have hj : j < tc := by omega
          obtain ⟨s1, s2, s3, s4⟩ := hTT j hj
          have hj4 : TT j < 4096 := by omega
          refine gz_iload E dX0_beyond_63 rfl ?_
          refine gz_iload_n E dX0_beyond_65 rfl rfl ?_
          refine gz_icN_eq (tgt := 93) E dX0_beyond_66 (by decide) (by omega) (by omega) (fun q66 => ?_) (fun q66 => ?_)
          · skip
            refine gz_iinc (lv' := [(0, _), (1, _), (3, _), (4, _), (5, _)]) E dX0_beyond_93 rfl (gz_nI1 _) (by decide) rfl ?_
            refine gz_goto (tgt := 54) E dX0_beyond_96 (by decide) ?_
            first
              | exact ih (j + 1) (by omega) (by omega) (pg_lt_s h3 (fun z => z.1 q66))
              | exact ih (j + 1) (by omega) (by omega) (pg_lt_s h3 (fun z => q76 ((pg_TTs_Of hn hTT hj).mpr (by rw [ep]; exact z.2.1))))
              | exact ih (j + 1) (by omega) (by omega) (pg_lt_s h3 (fun z => q87 ((pg_TTs_Of hn hTT hj).mpr (by rw [eq]; exact z.2.2))))
          · skip
            refine gz_aload_n E dX0_beyond_69 rfl rfl ?_
            refine gz_iload E dX0_beyond_70 rfl ?_
            refine gz_iload_n E dX0_beyond_72 rfl rfl ?_
            refine gz_cali (n := 2) E 0 dX0_beyond_73 gX0_beyond_X0_hasCorner (mtX0_hasCorner ht (by assumption) (by assumption) (by omega)) rfl rfl ⟨rfl, rfl⟩ (by decide +kernel) ⟨Nat.le_of_ble_eq_true rfl, Nat.le_of_ble_eq_true rfl⟩ rfl rfl rfl rfl (Nat.le_of_ble_eq_true rfl) (fun r73 w73 hr73 => ?_)
            obtain ⟨hr73, rfl⟩ := hr73
            refine gz_ifB_eq (tgt := 93) E hr73 dX0_beyond_76 (by decide) (fun q76 => ?_) (fun q76 => ?_)
            · skip
              refine gz_iinc (lv' := [(0, _), (1, _), (3, _), (4, _), (5, _)]) E dX0_beyond_93 rfl (gz_nI1 _) (by decide) rfl ?_
              refine gz_goto (tgt := 54) E dX0_beyond_96 (by decide) ?_
              first
                | exact ih (j + 1) (by omega) (by omega) (pg_lt_s h3 (fun z => z.1 q66))
                | exact ih (j + 1) (by omega) (by omega) (pg_lt_s h3 (fun z => q76 ((pg_TTs_Of hn hTT hj).mpr (by rw [ep]; exact z.2.1))))
                | exact ih (j + 1) (by omega) (by omega) (pg_lt_s h3 (fun z => q87 ((pg_TTs_Of hn hTT hj).mpr (by rw [eq]; exact z.2.2))))
            · skip
              rw [pg_TTs_Of hn hTT hj] at q76
              refine gz_aload_n E dX0_beyond_79 rfl rfl ?_
              refine gz_iload E dX0_beyond_80 rfl ?_
              refine gz_iload E dX0_beyond_82 rfl ?_
              refine gz_cali (n := 2) E 0 dX0_beyond_84 gX0_beyond_X0_hasCorner (mtX0_hasCorner ht (by assumption) (by assumption) (by omega)) rfl rfl ⟨rfl, rfl⟩ (by decide +kernel) ⟨Nat.le_of_ble_eq_true rfl, Nat.le_of_ble_eq_true rfl⟩ rfl rfl rfl rfl (Nat.le_of_ble_eq_true rfl) (fun r84 w84 hr84 => ?_)
              obtain ⟨hr84, rfl⟩ := hr84
              refine gz_ifB_eq (tgt := 93) E hr84 dX0_beyond_87 (by decide) (fun q87 => ?_) (fun q87 => ?_)
              · skip
                refine gz_iinc (lv' := [(0, _), (1, _), (3, _), (4, _), (5, _)]) E dX0_beyond_93 rfl (gz_nI1 _) (by decide) rfl ?_
                refine gz_goto (tgt := 54) E dX0_beyond_96 (by decide) ?_
                first
                  | exact ih (j + 1) (by omega) (by omega) (pg_lt_s h3 (fun z => z.1 q66))
                  | exact ih (j + 1) (by omega) (by omega) (pg_lt_s h3 (fun z => q76 ((pg_TTs_Of hn hTT hj).mpr (by rw [ep]; exact z.2.1))))
                  | exact ih (j + 1) (by omega) (by omega) (pg_lt_s h3 (fun z => q87 ((pg_TTs_Of hn hTT hj).mpr (by rw [eq]; exact z.2.2))))
              · skip
                rw [pg_TTs_Of hn hTT hj] at q87
                refine gz_iload E dX0_beyond_90 rfl ?_
                first
                  | exact ret _ _ _ _ dX0_beyond_92 rfl ⟨Or.inl ⟨a, k, ha, hk, hia, hvk, Or.inl ⟨j, hj, ⟨q66, by rw [← ep]; exact q76, by rw [← eq]; exact q87⟩, rfl⟩⟩, rfl⟩
                  | exact ret _ _ _ _ dX0_beyond_92 rfl ⟨Or.inl ⟨a, k, ha, hk, hia, hvk, Or.inr ⟨rfl, fun j hj => h3 j (by omega)⟩⟩, rfl⟩
    refine gz_aload_n E dX0_beyond_19 rfl rfl ?_
    refine gz_iload_n E dX0_beyond_20 rfl rfl ?_
    refine gz_iload_n E dX0_beyond_21 rfl rfl ?_
    refine gz_ifN_ne (tgt := 29) E dX0_beyond_22 (by decide) (by omega) (fun q22 => ?_) (fun q22 => ?_)
    · skip
      refine gz_iconst (v := nI 0) E dX0_beyond_29 (by decide) ?_
      refine gz_cali (n := 2) E 0 dX0_beyond_30 gX0_beyond_X0_triangleCorner (mtX0_triangleCorner ht (by assumption) (by assumption) (by decide)) rfl rfl ⟨rfl, rfl⟩ (by decide +kernel) ⟨Nat.le_of_ble_eq_true rfl, Nat.le_of_ble_eq_true rfl⟩ rfl rfl rfl rfl (Nat.le_of_ble_eq_true rfl) (fun r30 w30 hr30 => ?_)
      obtain ⟨rfl, rfl⟩ := hr30
      first | rw [c1] | rw [c0]
      refine gz_istore_n (lv' := [(0, _), (1, _), (2, _), (3, _)]) E dX0_beyond_33 rfl (by decide) rfl ?_
      refine gz_aload_n E dX0_beyond_34 rfl rfl ?_
      refine gz_iload_n E dX0_beyond_35 rfl rfl ?_
      refine gz_iload_n E dX0_beyond_36 rfl rfl ?_
      refine gz_iconst (v := nI 2) E dX0_beyond_37 (by decide) ?_
      refine gz_icN_ne (tgt := 45) E dX0_beyond_38 (by decide) (by omega) (by omega) (fun q38 => ?_) (fun q38 => ?_)
      · skip
        refine gz_iconst (v := nI 2) E dX0_beyond_45 (by decide) ?_
        refine gz_cali (n := 2) E 0 dX0_beyond_46 gX0_beyond_X0_triangleCorner (mtX0_triangleCorner ht (by assumption) (by assumption) (by decide)) rfl rfl ⟨rfl, rfl⟩ (by decide +kernel) ⟨Nat.le_of_ble_eq_true rfl, Nat.le_of_ble_eq_true rfl⟩ rfl rfl rfl rfl (Nat.le_of_ble_eq_true rfl) (fun r46 w46 hr46 => ?_)
        obtain ⟨rfl, rfl⟩ := hr46
        first | rw [c1] | rw [c2]
        refine gz_istore (lv' := [(0, _), (1, _), (2, _), (3, _), (4, _)]) E dX0_beyond_49 (by decide) rfl ?_
        refine gz_iconst (v := nI 0) E dX0_beyond_51 (by decide) ?_
        refine gz_istore (lv' := [(0, _), (1, _), (2, _), (3, _), (4, _), (5, _)]) E dX0_beyond_52 (by decide) rfl ?_
        refine gz_sub (lv' := [(0, _), (1, _), (3, _), (4, _), (5, _)]) [0, 1, 3, 4, 5] rfl ?_
        exact loop _ _ (by omega) (by omega) (by first | rw [if_pos q22] | rw [if_neg q22]) (by first | rw [if_pos q38] | rw [if_neg q38]) (tc + 1) 0 (by omega) (by omega) (fun j hj => absurd hj (by omega))
      · skip
        refine gz_iconst (v := nI 1) E dX0_beyond_41 (by decide) ?_
        refine gz_goto (tgt := 46) E dX0_beyond_42 (by decide) ?_
        refine gz_cali (n := 2) E 0 dX0_beyond_46 gX0_beyond_X0_triangleCorner (mtX0_triangleCorner ht (by assumption) (by assumption) (by decide)) rfl rfl ⟨rfl, rfl⟩ (by decide +kernel) ⟨Nat.le_of_ble_eq_true rfl, Nat.le_of_ble_eq_true rfl⟩ rfl rfl rfl rfl (Nat.le_of_ble_eq_true rfl) (fun r46 w46 hr46 => ?_)
        obtain ⟨rfl, rfl⟩ := hr46
        first | rw [c1] | rw [c2]
        refine gz_istore (lv' := [(0, _), (1, _), (2, _), (3, _), (4, _)]) E dX0_beyond_49 (by decide) rfl ?_
        refine gz_iconst (v := nI 0) E dX0_beyond_51 (by decide) ?_
        refine gz_istore (lv' := [(0, _), (1, _), (2, _), (3, _), (4, _), (5, _)]) E dX0_beyond_52 (by decide) rfl ?_
        refine gz_sub (lv' := [(0, _), (1, _), (3, _), (4, _), (5, _)]) [0, 1, 3, 4, 5] rfl ?_
        exact loop _ _ (by omega) (by omega) (by first | rw [if_pos q22] | rw [if_neg q22]) (by first | rw [if_pos q38] | rw [if_neg q38]) (tc + 1) 0 (by omega) (by omega) (fun j hj => absurd hj (by omega))
    · skip
      refine gz_iconst (v := nI 1) E dX0_beyond_25 (by decide) ?_
      refine gz_goto (tgt := 30) E dX0_beyond_26 (by decide) ?_
      refine gz_cali (n := 2) E 0 dX0_beyond_30 gX0_beyond_X0_triangleCorner (mtX0_triangleCorner ht (by assumption) (by assumption) (by decide)) rfl rfl ⟨rfl, rfl⟩ (by decide +kernel) ⟨Nat.le_of_ble_eq_true rfl, Nat.le_of_ble_eq_true rfl⟩ rfl rfl rfl rfl (Nat.le_of_ble_eq_true rfl) (fun r30 w30 hr30 => ?_)
      obtain ⟨rfl, rfl⟩ := hr30
      first | rw [c1] | rw [c0]
      refine gz_istore_n (lv' := [(0, _), (1, _), (2, _), (3, _)]) E dX0_beyond_33 rfl (by decide) rfl ?_
      refine gz_aload_n E dX0_beyond_34 rfl rfl ?_
      refine gz_iload_n E dX0_beyond_35 rfl rfl ?_
      refine gz_iload_n E dX0_beyond_36 rfl rfl ?_
      refine gz_iconst (v := nI 2) E dX0_beyond_37 (by decide) ?_
      refine gz_icN_ne (tgt := 45) E dX0_beyond_38 (by decide) (by omega) (by omega) (fun q38 => ?_) (fun q38 => ?_)
      · skip
        refine gz_iconst (v := nI 2) E dX0_beyond_45 (by decide) ?_
        refine gz_cali (n := 2) E 0 dX0_beyond_46 gX0_beyond_X0_triangleCorner (mtX0_triangleCorner ht (by assumption) (by assumption) (by decide)) rfl rfl ⟨rfl, rfl⟩ (by decide +kernel) ⟨Nat.le_of_ble_eq_true rfl, Nat.le_of_ble_eq_true rfl⟩ rfl rfl rfl rfl (Nat.le_of_ble_eq_true rfl) (fun r46 w46 hr46 => ?_)
        obtain ⟨rfl, rfl⟩ := hr46
        first | rw [c1] | rw [c2]
        refine gz_istore (lv' := [(0, _), (1, _), (2, _), (3, _), (4, _)]) E dX0_beyond_49 (by decide) rfl ?_
        refine gz_iconst (v := nI 0) E dX0_beyond_51 (by decide) ?_
        refine gz_istore (lv' := [(0, _), (1, _), (2, _), (3, _), (4, _), (5, _)]) E dX0_beyond_52 (by decide) rfl ?_
        refine gz_sub (lv' := [(0, _), (1, _), (3, _), (4, _), (5, _)]) [0, 1, 3, 4, 5] rfl ?_
        exact loop _ _ (by omega) (by omega) (by first | rw [if_pos q22] | rw [if_neg q22]) (by first | rw [if_pos q38] | rw [if_neg q38]) (tc + 1) 0 (by omega) (by omega) (fun j hj => absurd hj (by omega))
      · skip
        refine gz_iconst (v := nI 1) E dX0_beyond_41 (by decide) ?_
        refine gz_goto (tgt := 46) E dX0_beyond_42 (by decide) ?_
        refine gz_cali (n := 2) E 0 dX0_beyond_46 gX0_beyond_X0_triangleCorner (mtX0_triangleCorner ht (by assumption) (by assumption) (by decide)) rfl rfl ⟨rfl, rfl⟩ (by decide +kernel) ⟨Nat.le_of_ble_eq_true rfl, Nat.le_of_ble_eq_true rfl⟩ rfl rfl rfl rfl (Nat.le_of_ble_eq_true rfl) (fun r46 w46 hr46 => ?_)
        obtain ⟨rfl, rfl⟩ := hr46
        first | rw [c1] | rw [c2]
        refine gz_istore (lv' := [(0, _), (1, _), (2, _), (3, _), (4, _)]) E dX0_beyond_49 (by decide) rfl ?_
        refine gz_iconst (v := nI 0) E dX0_beyond_51 (by decide) ?_
        refine gz_istore (lv' := [(0, _), (1, _), (2, _), (3, _), (4, _), (5, _)]) E dX0_beyond_52 (by decide) rfl ?_
        refine gz_sub (lv' := [(0, _), (1, _), (3, _), (4, _), (5, _)]) [0, 1, 3, 4, 5] rfl ?_
        exact loop _ _ (by omega) (by omega) (by first | rw [if_pos q22] | rw [if_neg q22]) (by first | rw [if_pos q38] | rw [if_neg q38]) (tc + 1) 0 (by omega) (by omega) (fun j hj => absurd hj (by omega))
  refine gz_aload_n E dX0_beyond_0 rfl rfl ?_
  refine gz_iload_n E dX0_beyond_1 rfl rfl ?_
  refine gz_cali (n := 1) E 0 dX0_beyond_2 gX0_beyond_X0_isTriangle (mtX0_isTriangle ht _) rfl rfl ⟨rfl, rfl⟩ (by decide +kernel) ⟨Nat.le_of_ble_eq_true rfl, Nat.le_of_ble_eq_true rfl⟩ rfl rfl rfl rfl (Nat.le_of_ble_eq_true rfl) (fun r2 w2 hr2 => ?_)
  obtain ⟨hr2, rfl⟩ := hr2
  refine gz_ifB_eq (tgt := 17) E hr2 dX0_beyond_5 (by decide) (fun q5 => ?_) (fun q5 => ?_)
  · skip
    refine gz_iconst (v := -1) E dX0_beyond_17 (by decide) ?_
    first
      | exact ret _ _ _ _ dX0_beyond_18 rfl ⟨Or.inr ⟨fun z => q5 z.1, rfl⟩, rfl⟩
      | exact ret _ _ _ _ dX0_beyond_18 rfl ⟨Or.inr ⟨fun z => gz_Ix_f1 (by decide) q9 z.2, rfl⟩, rfl⟩
      | exact ret _ _ _ _ dX0_beyond_18 rfl ⟨Or.inr ⟨fun z => gz_Ix3_f q14 z.2, rfl⟩, rfl⟩
  · skip
    refine gz_iload_n E dX0_beyond_8 rfl rfl ?_
    refine gz_if_lt (tgt := 17) E dX0_beyond_9 (by decide) (fun q9 => ?_) (fun q9 => ?_)
    · skip
      refine gz_iconst (v := -1) E dX0_beyond_17 (by decide) ?_
      first
        | exact ret _ _ _ _ dX0_beyond_18 rfl ⟨Or.inr ⟨fun z => q5 z.1, rfl⟩, rfl⟩
        | exact ret _ _ _ _ dX0_beyond_18 rfl ⟨Or.inr ⟨fun z => gz_Ix_f1 (by decide) q9 z.2, rfl⟩, rfl⟩
        | exact ret _ _ _ _ dX0_beyond_18 rfl ⟨Or.inr ⟨fun z => gz_Ix3_f q14 z.2, rfl⟩, rfl⟩
    · skip
      refine gz_iload_n E dX0_beyond_12 rfl rfl ?_
      refine gz_iconst (v := nI 2) E dX0_beyond_13 (by decide) ?_
      refine gz_icmp_le (tgt := 19) E dX0_beyond_14 (by decide) (fun q14 => ?_) (fun q14 => ?_)
      · skip
        obtain ⟨a, ha, rfl⟩ := q5
        obtain ⟨k, hk, rfl⟩ := gz_Ix3 q9 q14
        exact main a k ha hk rfl rfl
      · skip
        refine gz_iconst (v := -1) E dX0_beyond_17 (by decide) ?_
        first
          | exact ret _ _ _ _ dX0_beyond_18 rfl ⟨Or.inr ⟨fun z => q5 z.1, rfl⟩, rfl⟩
          | exact ret _ _ _ _ dX0_beyond_18 rfl ⟨Or.inr ⟨fun z => gz_Ix_f1 (by decide) q9 z.2, rfl⟩, rfl⟩
          | exact ret _ _ _ _ dX0_beyond_18 rfl ⟨Or.inr ⟨fun z => gz_Ix3_f q14 z.2, rfl⟩, rfl⟩
end CG
