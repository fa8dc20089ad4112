/-! the constructors -/
section IN
theorem inwX0_init : ∀ w ∈ wsX00, w ∈ wsX0_init := fun _ h => List.mem_cons_of_mem _ (List.mem_append_right _ h)
abbrev rmX0_init : Room := { frames := 1, cells := 7, slots := 106, locals := 12 }
set_option maxHeartbeats 4000000 in
set_option maxRecDepth 100000 in
theorem mtX0_init (l : Launch) (D : va_G) (h0 sz : Nat) : Met l yX0_init wsX0_init rmX0_init (va_Pc [.ref h0] (fun U => U.heap.size = sz ∧ va_P D vwCl [(h0, .inr (0, [.null, .null, .int 0, .null, .int 0, .null, .null, .int 0, .null, .int 0, .long 0, .null]))] U.heap ∧ va_K D vwCl [] U ∧ va_D (fun _ => True) [(h0, .inr (0, [.null, .null, .int 0, .null, .int 0, .null, .null, .int 0, .null, .int 0, .long 0, .null]))])) (va_Qv (fun u : (Nat → Nat) × ClassId × ClassId => u.1 0 = h0) (fun u t => va_P D vwCl (wC u.1 u.2.1 0 (fun _ => 0) (fun _ => 0) 0 (fun _ => 0) (fun _ => 0) (fun _ => 0) 0 (fun _ => 0) 0 0 (fun _ => 0)) t.heap ∧ va_K D vwCl [(u.2.1, .int)] t ∧ va_D (va_A [(h0, .inr (0, [.null, .null, .int 0, .null, .int 0, .null, .null, .int 0, .null, .int 0, .long 0, .null]))] sz) (wC u.1 u.2.1 0 (fun _ => 0) (fun _ => 0) 0 (fun _ => 0) (fun _ => 0) (fun _ => 0) 0 (fun _ => 0) 0 0 (fun _ => 0))) (va_A [(h0, .inr (0, [.null, .null, .int 0, .null, .int 0, .null, .null, .int 0, .null, .int 0, .long 0, .null]))] sz)) 7 106 (va_A [(h0, .inr (0, [.null, .null, .int 0, .null, .int 0, .null, .null, .int 0, .null, .int 0, .long 0, .null]))] sz) := by
  refine Met.ofW (cc := cX0_init) (maxL := 1) (ret := none) (by decide +kernel) rfl ?_
  intro p e s m args below meth c s₁ B hml hv
  obtain ⟨rfl, hsz, hP, hK, hD0⟩ := hv
  have hx := B.exec
  have hb := B.bytes
  have hr := B.returns
  have hts := atoms_spec (ws := wsX0_init) B.pre
  have hown : s.vm.findClass RX0 = some m.cls := findClass_of_methodNamed B.named
  have hlocks := B.notSynchronized
  have hin : meth.name = "<init>" := (name_of_methodNamed B.named B.method).1
  subst hsz
  have hD := hD0.self (sz := s.heap.size)
  generalize hAe : va_A [(h0, .inr (0, [.null, .null, .int 0, .null, .int 0, .null, .null, .int 0, .null, .int 0, .long 0, .null]))] s.heap.size = A at hD ⊢
  have hA : ∀ q : Nat, s.heap.size ≤ q → A q := fun q h => by rw [← hAe]; exact Or.inr h
  have hS : va_S A s.heap s.heap [] := va_S.rf
  have hP : va_P D vwCl [(h0, .inr (0, [.null, .null, .int 0, .null, .int 0, .null, .null, .int 0, .null, .int 0, .long 0, .null]))] s.heap := hP
  have hl := lv_entry ([.ref h0]) (n := 1) (Nat.le_of_ble_eq_true rfl)
  rw [lg_entry_eq]
  generalize (lg_sl ([.ref h0]) ++ List.replicate (1 - (lg_sl ([.ref h0])).length) Slot.unset).toArray = ls at hl ⊢
  have hl : lv_has ls 1 [(0, .ref h0)] := hl
  refine lv_aload_n hx hb dX0_init_0 rfl (lv_at hl 0 rfl) ?_
  refine W.objInit hx hb hown (hts (.methodLink RX0 3 objectInit) (by decide +kernel)) (hts (.instanceMethod objectInit) (by decide +kernel)) (hts _ (List.mem_cons_of_mem _ (List.mem_append_left _ (List.mem_of_getElem? (i := 2) rfl)))) rfl (by rw [hml]; exact hl.1) rfl dX0_init_1 (Nat.le_of_ble_eq_true rfl) (Nat.le_of_ble_eq_true rfl) ?_
  refine W.eq (g2 := F0 m 4 ls []) rfl ?_
  refine lv_aload_n hx hb dX0_init_4 rfl (lv_at hl 0 rfl) ?_
  refine lv_bipush (v := 14) hx hb dX0_init_5 (by decide) ?_
  have hc7 : 0 + 1 ≤ 7 := by omega
  have hs7 : 0 + 14 ≤ 106 := by omega
  refine va_newa (atype := .int) (ty := .int) (N' := 14) (a0 := (14, .inl (fun _ => 0))) hx hb (hts (.arrayClass .int) (by decide +kernel)) rfl hK hP hD hS hA (fun _ => rfl) (by decide) (by decide) (Nat.le_of_ble_eq_true rfl) hc7 hs7 dX0_init_7 (fun q7 c7 H hK hP hD hS => ?_)
  have hP : va_P D vwCl [(h0, .inr (0, [.null, .null, .int 0, .null, .int 0, .null, .null, .int 0, .null, .int 0, .long 0, .null])), (q7, .inl (c7, (14, .inl (fun _ => 0))))] H := hP
  have hD : va_D A [(h0, .inr (0, [.null, .null, .int 0, .null, .int 0, .null, .null, .int 0, .null, .int 0, .long 0, .null])), (q7, .inl (c7, (14, .inl (fun _ => 0))))] := hD
  have hK : va_K D vwCl [(c7, .int)] s := hK
  refine va_putF (D := D) (ci := 0) (v := .ref q7) (ty := .array .int) (C := RX0) (T := TX0) (N := 12) hx hb hts inwX0_init tyX0 tyX0_ok nmX0 hown hK hP hD hS 0 rfl rfl 0 (by decide) (hts (.fieldLink RX0 9 "SiteTriangles" "siteX" "[I") (by decide +kernel)) (fun _ h9 => h9) rfl hin rfl (by decide +kernel) rfl rfl (Nat.le_of_ble_eq_true rfl) dX0_init_9 (fun H locs hP hD hS => ?_)
  have hP : va_P D vwCl [(h0, .inr (0, [.ref q7, .null, .int 0, .null, .int 0, .null, .null, .int 0, .null, .int 0, .long 0, .null])), (q7, .inl (c7, (14, .inl (fun _ => 0))))] H := hP
  have hD : va_D A [(h0, .inr (0, [.ref q7, .null, .int 0, .null, .int 0, .null, .null, .int 0, .null, .int 0, .long 0, .null])), (q7, .inl (c7, (14, .inl (fun _ => 0))))] := hD
  refine lv_aload_n hx hb dX0_init_12 rfl (lv_at hl 0 rfl) ?_
  refine lv_bipush (v := 14) hx hb dX0_init_13 (by decide) ?_
  have hc15 : 1 + 1 ≤ 7 := by omega
  have hs15 : 14 + 14 ≤ 106 := by omega
  refine va_newa (atype := .int) (ty := .int) (N' := 14) (a0 := (14, .inl (fun _ => 0))) hx hb (hts (.arrayClass .int) (by decide +kernel)) rfl hK hP hD hS hA (fun _ => rfl) (by decide) (by decide) (Nat.le_of_ble_eq_true rfl) hc15 hs15 dX0_init_15 (fun q15 c15 H hK hP hD hS => ?_)
  have hP : va_P D vwCl [(h0, .inr (0, [.ref q7, .null, .int 0, .null, .int 0, .null, .null, .int 0, .null, .int 0, .long 0, .null])), (q7, .inl (c7, (14, .inl (fun _ => 0)))), (q15, .inl (c15, (14, .inl (fun _ => 0))))] H := hP
  have hD : va_D A [(h0, .inr (0, [.ref q7, .null, .int 0, .null, .int 0, .null, .null, .int 0, .null, .int 0, .long 0, .null])), (q7, .inl (c7, (14, .inl (fun _ => 0)))), (q15, .inl (c15, (14, .inl (fun _ => 0))))] := hD
  have hK : va_K D vwCl [(c7, .int), (c15, .int)] s := hK
  refine va_putF (D := D) (ci := 0) (v := .ref q15) (ty := .array .int) (C := RX0) (T := TX0) (N := 12) hx hb hts inwX0_init tyX0 tyX0_ok nmX0 hown hK hP hD hS 0 rfl rfl 1 (by decide) (hts (.fieldLink RX0 13 "SiteTriangles" "siteY" "[I") (by decide +kernel)) (fun _ h9 => h9) rfl hin rfl (by decide +kernel) rfl rfl (Nat.le_of_ble_eq_true rfl) dX0_init_17 (fun H locs hP hD hS => ?_)
  have hP : va_P D vwCl [(h0, .inr (0, [.ref q7, .ref q15, .int 0, .null, .int 0, .null, .null, .int 0, .null, .int 0, .long 0, .null])), (q7, .inl (c7, (14, .inl (fun _ => 0)))), (q15, .inl (c15, (14, .inl (fun _ => 0))))] H := hP
  have hD : va_D A [(h0, .inr (0, [.ref q7, .ref q15, .int 0, .null, .int 0, .null, .null, .int 0, .null, .int 0, .long 0, .null])), (q7, .inl (c7, (14, .inl (fun _ => 0)))), (q15, .inl (c15, (14, .inl (fun _ => 0))))] := hD
  refine lv_aload_n hx hb dX0_init_20 rfl (lv_at hl 0 rfl) ?_
  refine lv_iconst (v := 0) hx hb dX0_init_21 (by decide) ?_
  refine va_put (D := D) (ci := 0) (v := .int 0) (ty := .int) (C := RX0) (T := TX0) (N := 12) hx hb hts inwX0_init tyX0 tyX0_ok nmX0 hown hK hP hD hS 0 rfl rfl 2 (by decide) (hts (.fieldLink RX0 16 "SiteTriangles" "siteCount" "I") (by decide +kernel)) (fun _ h9 => h9) rfl (by decide +kernel) rfl rfl (Nat.le_of_ble_eq_true rfl) dX0_init_22 (fun H locs hP hD hS => ?_)
  have hP : va_P D vwCl [(h0, .inr (0, [.ref q7, .ref q15, .int 0, .null, .int 0, .null, .null, .int 0, .null, .int 0, .long 0, .null])), (q7, .inl (c7, (14, .inl (fun _ => 0)))), (q15, .inl (c15, (14, .inl (fun _ => 0))))] H := hP
  have hD : va_D A [(h0, .inr (0, [.ref q7, .ref q15, .int 0, .null, .int 0, .null, .null, .int 0, .null, .int 0, .long 0, .null])), (q7, .inl (c7, (14, .inl (fun _ => 0)))), (q15, .inl (c15, (14, .inl (fun _ => 0))))] := hD
  refine lv_aload_n hx hb dX0_init_25 rfl (lv_at hl 0 rfl) ?_
  refine lv_bipush (v := 23) hx hb dX0_init_26 (by decide) ?_
  have hc28 : 2 + 1 ≤ 7 := by omega
  have hs28 : 28 + 23 ≤ 106 := by omega
  refine va_newa (atype := .int) (ty := .int) (N' := 23) (a0 := (23, .inl (fun _ => 0))) hx hb (hts (.arrayClass .int) (by decide +kernel)) rfl hK hP hD hS hA (fun _ => rfl) (by decide) (by decide) (Nat.le_of_ble_eq_true rfl) hc28 hs28 dX0_init_28 (fun q28 c28 H hK hP hD hS => ?_)
  have hP : va_P D vwCl [(h0, .inr (0, [.ref q7, .ref q15, .int 0, .null, .int 0, .null, .null, .int 0, .null, .int 0, .long 0, .null])), (q7, .inl (c7, (14, .inl (fun _ => 0)))), (q15, .inl (c15, (14, .inl (fun _ => 0)))), (q28, .inl (c28, (23, .inl (fun _ => 0))))] H := hP
  have hD : va_D A [(h0, .inr (0, [.ref q7, .ref q15, .int 0, .null, .int 0, .null, .null, .int 0, .null, .int 0, .long 0, .null])), (q7, .inl (c7, (14, .inl (fun _ => 0)))), (q15, .inl (c15, (14, .inl (fun _ => 0)))), (q28, .inl (c28, (23, .inl (fun _ => 0))))] := hD
  have hK : va_K D vwCl [(c7, .int), (c15, .int), (c28, .int)] s := hK
  refine va_putF (D := D) (ci := 0) (v := .ref q28) (ty := .array .int) (C := RX0) (T := TX0) (N := 12) hx hb hts inwX0_init tyX0 tyX0_ok nmX0 hown hK hP hD hS 0 rfl rfl 3 (by decide) (hts (.fieldLink RX0 20 "SiteTriangles" "packedTriangles" "[I") (by decide +kernel)) (fun _ h9 => h9) rfl hin rfl (by decide +kernel) rfl rfl (Nat.le_of_ble_eq_true rfl) dX0_init_30 (fun H locs hP hD hS => ?_)
  have hP : va_P D vwCl [(h0, .inr (0, [.ref q7, .ref q15, .int 0, .ref q28, .int 0, .null, .null, .int 0, .null, .int 0, .long 0, .null])), (q7, .inl (c7, (14, .inl (fun _ => 0)))), (q15, .inl (c15, (14, .inl (fun _ => 0)))), (q28, .inl (c28, (23, .inl (fun _ => 0))))] H := hP
  have hD : va_D A [(h0, .inr (0, [.ref q7, .ref q15, .int 0, .ref q28, .int 0, .null, .null, .int 0, .null, .int 0, .long 0, .null])), (q7, .inl (c7, (14, .inl (fun _ => 0)))), (q15, .inl (c15, (14, .inl (fun _ => 0)))), (q28, .inl (c28, (23, .inl (fun _ => 0))))] := hD
  refine lv_aload_n hx hb dX0_init_33 rfl (lv_at hl 0 rfl) ?_
  refine lv_iconst (v := 0) hx hb dX0_init_34 (by decide) ?_
  refine va_put (D := D) (ci := 0) (v := .int 0) (ty := .int) (C := RX0) (T := TX0) (N := 12) hx hb hts inwX0_init tyX0 tyX0_ok nmX0 hown hK hP hD hS 0 rfl rfl 4 (by decide) (hts (.fieldLink RX0 23 "SiteTriangles" "triangleCount" "I") (by decide +kernel)) (fun _ h9 => h9) rfl (by decide +kernel) rfl rfl (Nat.le_of_ble_eq_true rfl) dX0_init_35 (fun H locs hP hD hS => ?_)
  have hP : va_P D vwCl [(h0, .inr (0, [.ref q7, .ref q15, .int 0, .ref q28, .int 0, .null, .null, .int 0, .null, .int 0, .long 0, .null])), (q7, .inl (c7, (14, .inl (fun _ => 0)))), (q15, .inl (c15, (14, .inl (fun _ => 0)))), (q28, .inl (c28, (23, .inl (fun _ => 0))))] H := hP
  have hD : va_D A [(h0, .inr (0, [.ref q7, .ref q15, .int 0, .ref q28, .int 0, .null, .null, .int 0, .null, .int 0, .long 0, .null])), (q7, .inl (c7, (14, .inl (fun _ => 0)))), (q15, .inl (c15, (14, .inl (fun _ => 0)))), (q28, .inl (c28, (23, .inl (fun _ => 0))))] := hD
  refine lv_aload_n hx hb dX0_init_38 rfl (lv_at hl 0 rfl) ?_
  refine lv_bipush (v := 14) hx hb dX0_init_39 (by decide) ?_
  have hc41 : 3 + 1 ≤ 7 := by omega
  have hs41 : 51 + 14 ≤ 106 := by omega
  refine va_newa (atype := .int) (ty := .int) (N' := 14) (a0 := (14, .inl (fun _ => 0))) hx hb (hts (.arrayClass .int) (by decide +kernel)) rfl hK hP hD hS hA (fun _ => rfl) (by decide) (by decide) (Nat.le_of_ble_eq_true rfl) hc41 hs41 dX0_init_41 (fun q41 c41 H hK hP hD hS => ?_)
  have hP : va_P D vwCl [(h0, .inr (0, [.ref q7, .ref q15, .int 0, .ref q28, .int 0, .null, .null, .int 0, .null, .int 0, .long 0, .null])), (q7, .inl (c7, (14, .inl (fun _ => 0)))), (q15, .inl (c15, (14, .inl (fun _ => 0)))), (q28, .inl (c28, (23, .inl (fun _ => 0)))), (q41, .inl (c41, (14, .inl (fun _ => 0))))] H := hP
  have hD : va_D A [(h0, .inr (0, [.ref q7, .ref q15, .int 0, .ref q28, .int 0, .null, .null, .int 0, .null, .int 0, .long 0, .null])), (q7, .inl (c7, (14, .inl (fun _ => 0)))), (q15, .inl (c15, (14, .inl (fun _ => 0)))), (q28, .inl (c28, (23, .inl (fun _ => 0)))), (q41, .inl (c41, (14, .inl (fun _ => 0))))] := hD
  have hK : va_K D vwCl [(c7, .int), (c15, .int), (c28, .int), (c41, .int)] s := hK
  refine va_putF (D := D) (ci := 0) (v := .ref q41) (ty := .array .int) (C := RX0) (T := TX0) (N := 12) hx hb hts inwX0_init tyX0 tyX0_ok nmX0 hown hK hP hD hS 0 rfl rfl 5 (by decide) (hts (.fieldLink RX0 26 "SiteTriangles" "neighbours" "[I") (by decide +kernel)) (fun _ h9 => h9) rfl hin rfl (by decide +kernel) rfl rfl (Nat.le_of_ble_eq_true rfl) dX0_init_43 (fun H locs hP hD hS => ?_)
  have hP : va_P D vwCl [(h0, .inr (0, [.ref q7, .ref q15, .int 0, .ref q28, .int 0, .ref q41, .null, .int 0, .null, .int 0, .long 0, .null])), (q7, .inl (c7, (14, .inl (fun _ => 0)))), (q15, .inl (c15, (14, .inl (fun _ => 0)))), (q28, .inl (c28, (23, .inl (fun _ => 0)))), (q41, .inl (c41, (14, .inl (fun _ => 0))))] H := hP
  have hD : va_D A [(h0, .inr (0, [.ref q7, .ref q15, .int 0, .ref q28, .int 0, .ref q41, .null, .int 0, .null, .int 0, .long 0, .null])), (q7, .inl (c7, (14, .inl (fun _ => 0)))), (q15, .inl (c15, (14, .inl (fun _ => 0)))), (q28, .inl (c28, (23, .inl (fun _ => 0)))), (q41, .inl (c41, (14, .inl (fun _ => 0))))] := hD
  refine lv_aload_n hx hb dX0_init_46 rfl (lv_at hl 0 rfl) ?_
  refine lv_bipush (v := 14) hx hb dX0_init_47 (by decide) ?_
  have hc49 : 4 + 1 ≤ 7 := by omega
  have hs49 : 65 + 14 ≤ 106 := by omega
  refine va_newa (atype := .int) (ty := .int) (N' := 14) (a0 := (14, .inl (fun _ => 0))) hx hb (hts (.arrayClass .int) (by decide +kernel)) rfl hK hP hD hS hA (fun _ => rfl) (by decide) (by decide) (Nat.le_of_ble_eq_true rfl) hc49 hs49 dX0_init_49 (fun q49 c49 H hK hP hD hS => ?_)
  have hP : va_P D vwCl [(h0, .inr (0, [.ref q7, .ref q15, .int 0, .ref q28, .int 0, .ref q41, .null, .int 0, .null, .int 0, .long 0, .null])), (q7, .inl (c7, (14, .inl (fun _ => 0)))), (q15, .inl (c15, (14, .inl (fun _ => 0)))), (q28, .inl (c28, (23, .inl (fun _ => 0)))), (q41, .inl (c41, (14, .inl (fun _ => 0)))), (q49, .inl (c49, (14, .inl (fun _ => 0))))] H := hP
  have hD : va_D A [(h0, .inr (0, [.ref q7, .ref q15, .int 0, .ref q28, .int 0, .ref q41, .null, .int 0, .null, .int 0, .long 0, .null])), (q7, .inl (c7, (14, .inl (fun _ => 0)))), (q15, .inl (c15, (14, .inl (fun _ => 0)))), (q28, .inl (c28, (23, .inl (fun _ => 0)))), (q41, .inl (c41, (14, .inl (fun _ => 0)))), (q49, .inl (c49, (14, .inl (fun _ => 0))))] := hD
  have hK : va_K D vwCl [(c7, .int), (c15, .int), (c28, .int), (c41, .int), (c49, .int)] s := hK
  refine va_putF (D := D) (ci := 0) (v := .ref q49) (ty := .array .int) (C := RX0) (T := TX0) (N := 12) hx hb hts inwX0_init tyX0 tyX0_ok nmX0 hown hK hP hD hS 0 rfl rfl 6 (by decide) (hts (.fieldLink RX0 29 "SiteTriangles" "ring" "[I") (by decide +kernel)) (fun _ h9 => h9) rfl hin rfl (by decide +kernel) rfl rfl (Nat.le_of_ble_eq_true rfl) dX0_init_51 (fun H locs hP hD hS => ?_)
  have hP : va_P D vwCl [(h0, .inr (0, [.ref q7, .ref q15, .int 0, .ref q28, .int 0, .ref q41, .ref q49, .int 0, .null, .int 0, .long 0, .null])), (q7, .inl (c7, (14, .inl (fun _ => 0)))), (q15, .inl (c15, (14, .inl (fun _ => 0)))), (q28, .inl (c28, (23, .inl (fun _ => 0)))), (q41, .inl (c41, (14, .inl (fun _ => 0)))), (q49, .inl (c49, (14, .inl (fun _ => 0))))] H := hP
  have hD : va_D A [(h0, .inr (0, [.ref q7, .ref q15, .int 0, .ref q28, .int 0, .ref q41, .ref q49, .int 0, .null, .int 0, .long 0, .null])), (q7, .inl (c7, (14, .inl (fun _ => 0)))), (q15, .inl (c15, (14, .inl (fun _ => 0)))), (q28, .inl (c28, (23, .inl (fun _ => 0)))), (q41, .inl (c41, (14, .inl (fun _ => 0)))), (q49, .inl (c49, (14, .inl (fun _ => 0))))] := hD
  refine lv_aload_n hx hb dX0_init_54 rfl (lv_at hl 0 rfl) ?_
  refine lv_iconst (v := 0) hx hb dX0_init_55 (by decide) ?_
  refine va_put (D := D) (ci := 0) (v := .int 0) (ty := .int) (C := RX0) (T := TX0) (N := 12) hx hb hts inwX0_init tyX0 tyX0_ok nmX0 hown hK hP hD hS 0 rfl rfl 7 (by decide) (hts (.fieldLink RX0 32 "SiteTriangles" "ringCount" "I") (by decide +kernel)) (fun _ h9 => h9) rfl (by decide +kernel) rfl rfl (Nat.le_of_ble_eq_true rfl) dX0_init_56 (fun H locs hP hD hS => ?_)
  have hP : va_P D vwCl [(h0, .inr (0, [.ref q7, .ref q15, .int 0, .ref q28, .int 0, .ref q41, .ref q49, .int 0, .null, .int 0, .long 0, .null])), (q7, .inl (c7, (14, .inl (fun _ => 0)))), (q15, .inl (c15, (14, .inl (fun _ => 0)))), (q28, .inl (c28, (23, .inl (fun _ => 0)))), (q41, .inl (c41, (14, .inl (fun _ => 0)))), (q49, .inl (c49, (14, .inl (fun _ => 0))))] H := hP
  have hD : va_D A [(h0, .inr (0, [.ref q7, .ref q15, .int 0, .ref q28, .int 0, .ref q41, .ref q49, .int 0, .null, .int 0, .long 0, .null])), (q7, .inl (c7, (14, .inl (fun _ => 0)))), (q15, .inl (c15, (14, .inl (fun _ => 0)))), (q28, .inl (c28, (23, .inl (fun _ => 0)))), (q41, .inl (c41, (14, .inl (fun _ => 0)))), (q49, .inl (c49, (14, .inl (fun _ => 0))))] := hD
  refine lv_aload_n hx hb dX0_init_59 rfl (lv_at hl 0 rfl) ?_
  refine lv_bipush (v := 13) hx hb dX0_init_60 (by decide) ?_
  have hc62 : 5 + 1 ≤ 7 := by omega
  have hs62 : 79 + 13 ≤ 106 := by omega
  refine va_newa (atype := .int) (ty := .int) (N' := 13) (a0 := (13, .inl (fun _ => 0))) hx hb (hts (.arrayClass .int) (by decide +kernel)) rfl hK hP hD hS hA (fun _ => rfl) (by decide) (by decide) (Nat.le_of_ble_eq_true rfl) hc62 hs62 dX0_init_62 (fun q62 c62 H hK hP hD hS => ?_)
  have hP : va_P D vwCl [(h0, .inr (0, [.ref q7, .ref q15, .int 0, .ref q28, .int 0, .ref q41, .ref q49, .int 0, .null, .int 0, .long 0, .null])), (q7, .inl (c7, (14, .inl (fun _ => 0)))), (q15, .inl (c15, (14, .inl (fun _ => 0)))), (q28, .inl (c28, (23, .inl (fun _ => 0)))), (q41, .inl (c41, (14, .inl (fun _ => 0)))), (q49, .inl (c49, (14, .inl (fun _ => 0)))), (q62, .inl (c62, (13, .inl (fun _ => 0))))] H := hP
  have hD : va_D A [(h0, .inr (0, [.ref q7, .ref q15, .int 0, .ref q28, .int 0, .ref q41, .ref q49, .int 0, .null, .int 0, .long 0, .null])), (q7, .inl (c7, (14, .inl (fun _ => 0)))), (q15, .inl (c15, (14, .inl (fun _ => 0)))), (q28, .inl (c28, (23, .inl (fun _ => 0)))), (q41, .inl (c41, (14, .inl (fun _ => 0)))), (q49, .inl (c49, (14, .inl (fun _ => 0)))), (q62, .inl (c62, (13, .inl (fun _ => 0))))] := hD
  have hK : va_K D vwCl [(c7, .int), (c15, .int), (c28, .int), (c41, .int), (c49, .int), (c62, .int)] s := hK
  refine va_putF (D := D) (ci := 0) (v := .ref q62) (ty := .array .int) (C := RX0) (T := TX0) (N := 12) hx hb hts inwX0_init tyX0 tyX0_ok nmX0 hown hK hP hD hS 0 rfl rfl 8 (by decide) (hts (.fieldLink RX0 35 "SiteTriangles" "packedTree" "[I") (by decide +kernel)) (fun _ h9 => h9) rfl hin rfl (by decide +kernel) rfl rfl (Nat.le_of_ble_eq_true rfl) dX0_init_64 (fun H locs hP hD hS => ?_)
  have hP : va_P D vwCl [(h0, .inr (0, [.ref q7, .ref q15, .int 0, .ref q28, .int 0, .ref q41, .ref q49, .int 0, .ref q62, .int 0, .long 0, .null])), (q7, .inl (c7, (14, .inl (fun _ => 0)))), (q15, .inl (c15, (14, .inl (fun _ => 0)))), (q28, .inl (c28, (23, .inl (fun _ => 0)))), (q41, .inl (c41, (14, .inl (fun _ => 0)))), (q49, .inl (c49, (14, .inl (fun _ => 0)))), (q62, .inl (c62, (13, .inl (fun _ => 0))))] H := hP
  have hD : va_D A [(h0, .inr (0, [.ref q7, .ref q15, .int 0, .ref q28, .int 0, .ref q41, .ref q49, .int 0, .ref q62, .int 0, .long 0, .null])), (q7, .inl (c7, (14, .inl (fun _ => 0)))), (q15, .inl (c15, (14, .inl (fun _ => 0)))), (q28, .inl (c28, (23, .inl (fun _ => 0)))), (q41, .inl (c41, (14, .inl (fun _ => 0)))), (q49, .inl (c49, (14, .inl (fun _ => 0)))), (q62, .inl (c62, (13, .inl (fun _ => 0))))] := hD
  refine lv_aload_n hx hb dX0_init_67 rfl (lv_at hl 0 rfl) ?_
  refine lv_iconst (v := 0) hx hb dX0_init_68 (by decide) ?_
  refine va_put (D := D) (ci := 0) (v := .int 0) (ty := .int) (C := RX0) (T := TX0) (N := 12) hx hb hts inwX0_init tyX0 tyX0_ok nmX0 hown hK hP hD hS 0 rfl rfl 9 (by decide) (hts (.fieldLink RX0 38 "SiteTriangles" "treeCount" "I") (by decide +kernel)) (fun _ h9 => h9) rfl (by decide +kernel) rfl rfl (Nat.le_of_ble_eq_true rfl) dX0_init_69 (fun H locs hP hD hS => ?_)
  have hP : va_P D vwCl [(h0, .inr (0, [.ref q7, .ref q15, .int 0, .ref q28, .int 0, .ref q41, .ref q49, .int 0, .ref q62, .int 0, .long 0, .null])), (q7, .inl (c7, (14, .inl (fun _ => 0)))), (q15, .inl (c15, (14, .inl (fun _ => 0)))), (q28, .inl (c28, (23, .inl (fun _ => 0)))), (q41, .inl (c41, (14, .inl (fun _ => 0)))), (q49, .inl (c49, (14, .inl (fun _ => 0)))), (q62, .inl (c62, (13, .inl (fun _ => 0))))] H := hP
  have hD : va_D A [(h0, .inr (0, [.ref q7, .ref q15, .int 0, .ref q28, .int 0, .ref q41, .ref q49, .int 0, .ref q62, .int 0, .long 0, .null])), (q7, .inl (c7, (14, .inl (fun _ => 0)))), (q15, .inl (c15, (14, .inl (fun _ => 0)))), (q28, .inl (c28, (23, .inl (fun _ => 0)))), (q41, .inl (c41, (14, .inl (fun _ => 0)))), (q49, .inl (c49, (14, .inl (fun _ => 0)))), (q62, .inl (c62, (13, .inl (fun _ => 0))))] := hD
  refine lv_aload_n hx hb dX0_init_72 rfl (lv_at hl 0 rfl) ?_
  refine lv_lconst (v := 0) hx hb dX0_init_73 (by decide) ?_
  refine va_put (D := D) (ci := 0) (v := .long 0) (ty := .long) (C := RX0) (T := TX0) (N := 12) hx hb hts inwX0_init tyX0 tyX0_ok nmX0 hown hK hP hD hS 0 rfl rfl 10 (by decide) (hts (.fieldLink RX0 41 "SiteTriangles" "treeLength" "J") (by decide +kernel)) (fun _ h9 => h9) rfl (by decide +kernel) rfl rfl (Nat.le_of_ble_eq_true rfl) dX0_init_74 (fun H locs hP hD hS => ?_)
  have hP : va_P D vwCl [(h0, .inr (0, [.ref q7, .ref q15, .int 0, .ref q28, .int 0, .ref q41, .ref q49, .int 0, .ref q62, .int 0, .long 0, .null])), (q7, .inl (c7, (14, .inl (fun _ => 0)))), (q15, .inl (c15, (14, .inl (fun _ => 0)))), (q28, .inl (c28, (23, .inl (fun _ => 0)))), (q41, .inl (c41, (14, .inl (fun _ => 0)))), (q49, .inl (c49, (14, .inl (fun _ => 0)))), (q62, .inl (c62, (13, .inl (fun _ => 0))))] H := hP
  have hD : va_D A [(h0, .inr (0, [.ref q7, .ref q15, .int 0, .ref q28, .int 0, .ref q41, .ref q49, .int 0, .ref q62, .int 0, .long 0, .null])), (q7, .inl (c7, (14, .inl (fun _ => 0)))), (q15, .inl (c15, (14, .inl (fun _ => 0)))), (q28, .inl (c28, (23, .inl (fun _ => 0)))), (q41, .inl (c41, (14, .inl (fun _ => 0)))), (q49, .inl (c49, (14, .inl (fun _ => 0)))), (q62, .inl (c62, (13, .inl (fun _ => 0))))] := hD
  refine lv_aload_n hx hb dX0_init_77 rfl (lv_at hl 0 rfl) ?_
  refine lv_bipush (v := 14) hx hb dX0_init_78 (by decide) ?_
  have hc80 : 6 + 1 ≤ 7 := by omega
  have hs80 : 92 + 14 ≤ 106 := by omega
  refine va_newa (atype := .int) (ty := .int) (N' := 14) (a0 := (14, .inl (fun _ => 0))) hx hb (hts (.arrayClass .int) (by decide +kernel)) rfl hK hP hD hS hA (fun _ => rfl) (by decide) (by decide) (Nat.le_of_ble_eq_true rfl) hc80 hs80 dX0_init_80 (fun q80 c80 H hK hP hD hS => ?_)
  have hP : va_P D vwCl [(h0, .inr (0, [.ref q7, .ref q15, .int 0, .ref q28, .int 0, .ref q41, .ref q49, .int 0, .ref q62, .int 0, .long 0, .null])), (q7, .inl (c7, (14, .inl (fun _ => 0)))), (q15, .inl (c15, (14, .inl (fun _ => 0)))), (q28, .inl (c28, (23, .inl (fun _ => 0)))), (q41, .inl (c41, (14, .inl (fun _ => 0)))), (q49, .inl (c49, (14, .inl (fun _ => 0)))), (q62, .inl (c62, (13, .inl (fun _ => 0)))), (q80, .inl (c80, (14, .inl (fun _ => 0))))] H := hP
  have hD : va_D A [(h0, .inr (0, [.ref q7, .ref q15, .int 0, .ref q28, .int 0, .ref q41, .ref q49, .int 0, .ref q62, .int 0, .long 0, .null])), (q7, .inl (c7, (14, .inl (fun _ => 0)))), (q15, .inl (c15, (14, .inl (fun _ => 0)))), (q28, .inl (c28, (23, .inl (fun _ => 0)))), (q41, .inl (c41, (14, .inl (fun _ => 0)))), (q49, .inl (c49, (14, .inl (fun _ => 0)))), (q62, .inl (c62, (13, .inl (fun _ => 0)))), (q80, .inl (c80, (14, .inl (fun _ => 0))))] := hD
  have hK : va_K D vwCl [(c7, .int), (c15, .int), (c28, .int), (c41, .int), (c49, .int), (c62, .int), (c80, .int)] s := hK
  refine va_putF (D := D) (ci := 0) (v := .ref q80) (ty := .array .int) (C := RX0) (T := TX0) (N := 12) hx hb hts inwX0_init tyX0 tyX0_ok nmX0 hown hK hP hD hS 0 rfl rfl 11 (by decide) (hts (.fieldLink RX0 45 "SiteTriangles" "group" "[I") (by decide +kernel)) (fun _ h9 => h9) rfl hin rfl (by decide +kernel) rfl rfl (Nat.le_of_ble_eq_true rfl) dX0_init_82 (fun H locs hP hD hS => ?_)
  have hP : va_P D vwCl [(h0, .inr (0, [.ref q7, .ref q15, .int 0, .ref q28, .int 0, .ref q41, .ref q49, .int 0, .ref q62, .int 0, .long 0, .ref q80])), (q7, .inl (c7, (14, .inl (fun _ => 0)))), (q15, .inl (c15, (14, .inl (fun _ => 0)))), (q28, .inl (c28, (23, .inl (fun _ => 0)))), (q41, .inl (c41, (14, .inl (fun _ => 0)))), (q49, .inl (c49, (14, .inl (fun _ => 0)))), (q62, .inl (c62, (13, .inl (fun _ => 0)))), (q80, .inl (c80, (14, .inl (fun _ => 0))))] H := hP
  have hD : va_D A [(h0, .inr (0, [.ref q7, .ref q15, .int 0, .ref q28, .int 0, .ref q41, .ref q49, .int 0, .ref q62, .int 0, .long 0, .ref q80])), (q7, .inl (c7, (14, .inl (fun _ => 0)))), (q15, .inl (c15, (14, .inl (fun _ => 0)))), (q28, .inl (c28, (23, .inl (fun _ => 0)))), (q41, .inl (c41, (14, .inl (fun _ => 0)))), (q49, .inl (c49, (14, .inl (fun _ => 0)))), (q62, .inl (c62, (13, .inl (fun _ => 0)))), (q80, .inl (c80, (14, .inl (fun _ => 0))))] := hD
  have ec15 : c15 = c7 := Option.some.inj ((show s.vm.findClass _ = some c15 from (hK.2 1 _ rfl).2).symm.trans (show s.vm.findClass _ = some c7 from (hK.2 0 _ rfl).2))
  have ec28 : c28 = c7 := Option.some.inj ((show s.vm.findClass _ = some c28 from (hK.2 2 _ rfl).2).symm.trans (show s.vm.findClass _ = some c7 from (hK.2 0 _ rfl).2))
  have ec41 : c41 = c7 := Option.some.inj ((show s.vm.findClass _ = some c41 from (hK.2 3 _ rfl).2).symm.trans (show s.vm.findClass _ = some c7 from (hK.2 0 _ rfl).2))
  have ec49 : c49 = c7 := Option.some.inj ((show s.vm.findClass _ = some c49 from (hK.2 4 _ rfl).2).symm.trans (show s.vm.findClass _ = some c7 from (hK.2 0 _ rfl).2))
  have ec62 : c62 = c7 := Option.some.inj ((show s.vm.findClass _ = some c62 from (hK.2 5 _ rfl).2).symm.trans (show s.vm.findClass _ = some c7 from (hK.2 0 _ rfl).2))
  have ec80 : c80 = c7 := Option.some.inj ((show s.vm.findClass _ = some c80 from (hK.2 6 _ rfl).2).symm.trans (show s.vm.findClass _ = some c7 from (hK.2 0 _ rfl).2))
  rw [ec15] at hP hD
  rw [ec28] at hP hD
  rw [ec41] at hP hD
  rw [ec49] at hP hD
  rw [ec62] at hP hD
  rw [ec80] at hP hD
  have hK9 : va_K D vwCl [(c7, .int)] s := hK.sub [0] rfl
  exact W.vret hx hb hr (fun t ht hW => ⟨⟨((fun k => match k with | 0 => h0 | 1 => q7 | 2 => q15 | 3 => q28 | 4 => q41 | 5 => q49 | 6 => q62 | _ => q80), c7, c7), rfl, rfl, by rw [ht]; exact hP, va_K.moved hW.alike hK9, hD⟩, hS.F ht⟩) hS.2.2 dX0_init_85
theorem inwX1_init : ∀ w ∈ wsX10, w ∈ wsX1_init := fun _ h => List.mem_cons_of_mem _ (List.mem_append_right _ h)
abbrev rmX1_init : Room := { frames := 1, cells := 9, slots := 204, locals := 12 }
set_option maxHeartbeats 4000000 in
set_option maxRecDepth 100000 in
theorem mtX1_init (l : Launch) (D : va_G) (h0 sz : Nat) : Met l yX1_init wsX1_init rmX1_init (va_Pc [.ref h0] (fun U => U.heap.size = sz ∧ va_P D vwCl [(h0, .inr (1, [.int 0, .null, .null, .int 0, .null, .null, .null, .int 0, .null, .int 0, .null, .null, .long 0, .null]))] U.heap ∧ va_K D vwCl [] U ∧ va_D (fun _ => True) [(h0, .inr (1, [.int 0, .null, .null, .int 0, .null, .null, .null, .int 0, .null, .int 0, .null, .null, .long 0, .null]))])) (va_Qv (fun u : (Nat → Nat) × ClassId × ClassId => u.1 0 = h0) (fun u t => va_P D vwCl (wM u.1 u.2.1 u.2.2 0 (fun _ => 0) (fun _ => 0) 0 (fun _ => 0) (fun _ => 0) (fun _ => 0) 0 (fun _ => 0) 0 (fun _ => 0) (fun _ => 0) 0 (fun _ => 0)) t.heap ∧ va_K D vwCl [(u.2.1, .int), (u.2.2, .long)] t ∧ va_D (va_A [(h0, .inr (1, [.int 0, .null, .null, .int 0, .null, .null, .null, .int 0, .null, .int 0, .null, .null, .long 0, .null]))] sz) (wM u.1 u.2.1 u.2.2 0 (fun _ => 0) (fun _ => 0) 0 (fun _ => 0) (fun _ => 0) (fun _ => 0) 0 (fun _ => 0) 0 (fun _ => 0) (fun _ => 0) 0 (fun _ => 0))) (va_A [(h0, .inr (1, [.int 0, .null, .null, .int 0, .null, .null, .null, .int 0, .null, .int 0, .null, .null, .long 0, .null]))] sz)) 9 204 (va_A [(h0, .inr (1, [.int 0, .null, .null, .int 0, .null, .null, .null, .int 0, .null, .int 0, .null, .null, .long 0, .null]))] sz) := by
  refine Met.ofW (cc := cX1_init) (maxL := 1) (ret := none) (by decide +kernel) rfl ?_
  intro p e s m args below meth c s₁ B hml hv
  obtain ⟨rfl, hsz, hP, hK, hD0⟩ := hv
  have hx := B.exec
  have hb := B.bytes
  have hr := B.returns
  have hts := atoms_spec (ws := wsX1_init) B.pre
  have hown : s.vm.findClass RX1 = some m.cls := findClass_of_methodNamed B.named
  have hlocks := B.notSynchronized
  have hin : meth.name = "<init>" := (name_of_methodNamed B.named B.method).1
  subst hsz
  have hD := hD0.self (sz := s.heap.size)
  generalize hAe : va_A [(h0, .inr (1, [.int 0, .null, .null, .int 0, .null, .null, .null, .int 0, .null, .int 0, .null, .null, .long 0, .null]))] s.heap.size = A at hD ⊢
  have hA : ∀ q : Nat, s.heap.size ≤ q → A q := fun q h => by rw [← hAe]; exact Or.inr h
  have hS : va_S A s.heap s.heap [] := va_S.rf
  have hP : va_P D vwCl [(h0, .inr (1, [.int 0, .null, .null, .int 0, .null, .null, .null, .int 0, .null, .int 0, .null, .null, .long 0, .null]))] s.heap := hP
  have hl := lv_entry ([.ref h0]) (n := 1) (Nat.le_of_ble_eq_true rfl)
  rw [lg_entry_eq]
  generalize (lg_sl ([.ref h0]) ++ List.replicate (1 - (lg_sl ([.ref h0])).length) Slot.unset).toArray = ls at hl ⊢
  have hl : lv_has ls 1 [(0, .ref h0)] := hl
  refine lv_aload_n hx hb dX1_init_0 rfl (lv_at hl 0 rfl) ?_
  refine W.objInit hx hb hown (hts (.methodLink RX1 1 objectInit) (by decide +kernel)) (hts (.instanceMethod objectInit) (by decide +kernel)) (hts _ (List.mem_cons_of_mem _ (List.mem_append_left _ (List.mem_of_getElem? (i := 2) rfl)))) rfl (by rw [hml]; exact hl.1) rfl dX1_init_1 (Nat.le_of_ble_eq_true rfl) (Nat.le_of_ble_eq_true rfl) ?_
  refine W.eq (g2 := F0 m 4 ls []) rfl ?_
  refine lv_aload_n hx hb dX1_init_4 rfl (lv_at hl 0 rfl) ?_
  refine lv_bipush (v := 14) hx hb dX1_init_5 (by decide) ?_
  have hc7 : 0 + 1 ≤ 9 := by omega
  have hs7 : 0 + 14 ≤ 204 := by omega
  refine va_newa (atype := .long) (ty := .long) (N' := 14) (a0 := (14, .inr (.inl (fun _ => 0)))) hx hb (hts (.arrayClass .long) (by decide +kernel)) rfl hK hP hD hS hA (fun _ => rfl) (by decide) (by decide) (Nat.le_of_ble_eq_true rfl) hc7 hs7 dX1_init_7 (fun q7 c7 H hK hP hD hS => ?_)
  have hP : va_P D vwCl [(h0, .inr (1, [.int 0, .null, .null, .int 0, .null, .null, .null, .int 0, .null, .int 0, .null, .null, .long 0, .null])), (q7, .inl (c7, (14, .inr (.inl (fun _ => 0)))))] H := hP
  have hD : va_D A [(h0, .inr (1, [.int 0, .null, .null, .int 0, .null, .null, .null, .int 0, .null, .int 0, .null, .null, .long 0, .null])), (q7, .inl (c7, (14, .inr (.inl (fun _ => 0)))))] := hD
  have hK : va_K D vwCl [(c7, .long)] s := hK
  refine va_put (D := D) (ci := 1) (v := .ref q7) (ty := .array .long) (C := RX1) (T := TX1) (N := 14) hx hb hts inwX1_init tyX1 tyX1_ok nmX1 hown hK hP hD hS 0 rfl rfl 1 (by decide) (hts (.fieldLink RX1 7 "SiteTrianglesModel" "xs" "[J") (by decide +kernel)) (fun _ h9 => h9) rfl (by decide +kernel) rfl rfl (Nat.le_of_ble_eq_true rfl) dX1_init_9 (fun H locs hP hD hS => ?_)
  have hP : va_P D vwCl [(h0, .inr (1, [.int 0, .ref q7, .null, .int 0, .null, .null, .null, .int 0, .null, .int 0, .null, .null, .long 0, .null])), (q7, .inl (c7, (14, .inr (.inl (fun _ => 0)))))] H := hP
  have hD : va_D A [(h0, .inr (1, [.int 0, .ref q7, .null, .int 0, .null, .null, .null, .int 0, .null, .int 0, .null, .null, .long 0, .null])), (q7, .inl (c7, (14, .inr (.inl (fun _ => 0)))))] := hD
  refine lv_aload_n hx hb dX1_init_12 rfl (lv_at hl 0 rfl) ?_
  refine lv_bipush (v := 14) hx hb dX1_init_13 (by decide) ?_
  have hc15 : 1 + 1 ≤ 9 := by omega
  have hs15 : 14 + 14 ≤ 204 := by omega
  refine va_newa (atype := .long) (ty := .long) (N' := 14) (a0 := (14, .inr (.inl (fun _ => 0)))) hx hb (hts (.arrayClass .long) (by decide +kernel)) rfl hK hP hD hS hA (fun _ => rfl) (by decide) (by decide) (Nat.le_of_ble_eq_true rfl) hc15 hs15 dX1_init_15 (fun q15 c15 H hK hP hD hS => ?_)
  have hP : va_P D vwCl [(h0, .inr (1, [.int 0, .ref q7, .null, .int 0, .null, .null, .null, .int 0, .null, .int 0, .null, .null, .long 0, .null])), (q7, .inl (c7, (14, .inr (.inl (fun _ => 0))))), (q15, .inl (c15, (14, .inr (.inl (fun _ => 0)))))] H := hP
  have hD : va_D A [(h0, .inr (1, [.int 0, .ref q7, .null, .int 0, .null, .null, .null, .int 0, .null, .int 0, .null, .null, .long 0, .null])), (q7, .inl (c7, (14, .inr (.inl (fun _ => 0))))), (q15, .inl (c15, (14, .inr (.inl (fun _ => 0)))))] := hD
  have hK : va_K D vwCl [(c7, .long), (c15, .long)] s := hK
  refine va_put (D := D) (ci := 1) (v := .ref q15) (ty := .array .long) (C := RX1) (T := TX1) (N := 14) hx hb hts inwX1_init tyX1 tyX1_ok nmX1 hown hK hP hD hS 0 rfl rfl 2 (by decide) (hts (.fieldLink RX1 13 "SiteTrianglesModel" "ys" "[J") (by decide +kernel)) (fun _ h9 => h9) rfl (by decide +kernel) rfl rfl (Nat.le_of_ble_eq_true rfl) dX1_init_17 (fun H locs hP hD hS => ?_)
  have hP : va_P D vwCl [(h0, .inr (1, [.int 0, .ref q7, .ref q15, .int 0, .null, .null, .null, .int 0, .null, .int 0, .null, .null, .long 0, .null])), (q7, .inl (c7, (14, .inr (.inl (fun _ => 0))))), (q15, .inl (c15, (14, .inr (.inl (fun _ => 0)))))] H := hP
  have hD : va_D A [(h0, .inr (1, [.int 0, .ref q7, .ref q15, .int 0, .null, .null, .null, .int 0, .null, .int 0, .null, .null, .long 0, .null])), (q7, .inl (c7, (14, .inr (.inl (fun _ => 0))))), (q15, .inl (c15, (14, .inr (.inl (fun _ => 0)))))] := hD
  refine lv_aload_n hx hb dX1_init_20 rfl (lv_at hl 0 rfl) ?_
  refine lv_bipush (v := 40) hx hb dX1_init_21 (by decide) ?_
  have hc23 : 2 + 1 ≤ 9 := by omega
  have hs23 : 28 + 40 ≤ 204 := by omega
  refine va_newa (atype := .int) (ty := .int) (N' := 40) (a0 := (40, .inl (fun _ => 0))) hx hb (hts (.arrayClass .int) (by decide +kernel)) rfl hK hP hD hS hA (fun _ => rfl) (by decide) (by decide) (Nat.le_of_ble_eq_true rfl) hc23 hs23 dX1_init_23 (fun q23 c23 H hK hP hD hS => ?_)
  have hP : va_P D vwCl [(h0, .inr (1, [.int 0, .ref q7, .ref q15, .int 0, .null, .null, .null, .int 0, .null, .int 0, .null, .null, .long 0, .null])), (q7, .inl (c7, (14, .inr (.inl (fun _ => 0))))), (q15, .inl (c15, (14, .inr (.inl (fun _ => 0))))), (q23, .inl (c23, (40, .inl (fun _ => 0))))] H := hP
  have hD : va_D A [(h0, .inr (1, [.int 0, .ref q7, .ref q15, .int 0, .null, .null, .null, .int 0, .null, .int 0, .null, .null, .long 0, .null])), (q7, .inl (c7, (14, .inr (.inl (fun _ => 0))))), (q15, .inl (c15, (14, .inr (.inl (fun _ => 0))))), (q23, .inl (c23, (40, .inl (fun _ => 0))))] := hD
  have hK : va_K D vwCl [(c7, .long), (c15, .long), (c23, .int)] s := hK
  refine va_put (D := D) (ci := 1) (v := .ref q23) (ty := .array .int) (C := RX1) (T := TX1) (N := 14) hx hb hts inwX1_init tyX1 tyX1_ok nmX1 hown hK hP hD hS 0 rfl rfl 4 (by decide) (hts (.fieldLink RX1 16 "SiteTrianglesModel" "least" "[I") (by decide +kernel)) (fun _ h9 => h9) rfl (by decide +kernel) rfl rfl (Nat.le_of_ble_eq_true rfl) dX1_init_25 (fun H locs hP hD hS => ?_)
  have hP : va_P D vwCl [(h0, .inr (1, [.int 0, .ref q7, .ref q15, .int 0, .ref q23, .null, .null, .int 0, .null, .int 0, .null, .null, .long 0, .null])), (q7, .inl (c7, (14, .inr (.inl (fun _ => 0))))), (q15, .inl (c15, (14, .inr (.inl (fun _ => 0))))), (q23, .inl (c23, (40, .inl (fun _ => 0))))] H := hP
  have hD : va_D A [(h0, .inr (1, [.int 0, .ref q7, .ref q15, .int 0, .ref q23, .null, .null, .int 0, .null, .int 0, .null, .null, .long 0, .null])), (q7, .inl (c7, (14, .inr (.inl (fun _ => 0))))), (q15, .inl (c15, (14, .inr (.inl (fun _ => 0))))), (q23, .inl (c23, (40, .inl (fun _ => 0))))] := hD
  refine lv_aload_n hx hb dX1_init_28 rfl (lv_at hl 0 rfl) ?_
  refine lv_bipush (v := 40) hx hb dX1_init_29 (by decide) ?_
  have hc31 : 3 + 1 ≤ 9 := by omega
  have hs31 : 68 + 40 ≤ 204 := by omega
  refine va_newa (atype := .int) (ty := .int) (N' := 40) (a0 := (40, .inl (fun _ => 0))) hx hb (hts (.arrayClass .int) (by decide +kernel)) rfl hK hP hD hS hA (fun _ => rfl) (by decide) (by decide) (Nat.le_of_ble_eq_true rfl) hc31 hs31 dX1_init_31 (fun q31 c31 H hK hP hD hS => ?_)
  have hP : va_P D vwCl [(h0, .inr (1, [.int 0, .ref q7, .ref q15, .int 0, .ref q23, .null, .null, .int 0, .null, .int 0, .null, .null, .long 0, .null])), (q7, .inl (c7, (14, .inr (.inl (fun _ => 0))))), (q15, .inl (c15, (14, .inr (.inl (fun _ => 0))))), (q23, .inl (c23, (40, .inl (fun _ => 0)))), (q31, .inl (c31, (40, .inl (fun _ => 0))))] H := hP
  have hD : va_D A [(h0, .inr (1, [.int 0, .ref q7, .ref q15, .int 0, .ref q23, .null, .null, .int 0, .null, .int 0, .null, .null, .long 0, .null])), (q7, .inl (c7, (14, .inr (.inl (fun _ => 0))))), (q15, .inl (c15, (14, .inr (.inl (fun _ => 0))))), (q23, .inl (c23, (40, .inl (fun _ => 0)))), (q31, .inl (c31, (40, .inl (fun _ => 0))))] := hD
  have hK : va_K D vwCl [(c7, .long), (c15, .long), (c23, .int), (c31, .int)] s := hK
  refine va_put (D := D) (ci := 1) (v := .ref q31) (ty := .array .int) (C := RX1) (T := TX1) (N := 14) hx hb hts inwX1_init tyX1 tyX1_ok nmX1 hown hK hP hD hS 0 rfl rfl 5 (by decide) (hts (.fieldLink RX1 20 "SiteTrianglesModel" "middle" "[I") (by decide +kernel)) (fun _ h9 => h9) rfl (by decide +kernel) rfl rfl (Nat.le_of_ble_eq_true rfl) dX1_init_33 (fun H locs hP hD hS => ?_)
  have hP : va_P D vwCl [(h0, .inr (1, [.int 0, .ref q7, .ref q15, .int 0, .ref q23, .ref q31, .null, .int 0, .null, .int 0, .null, .null, .long 0, .null])), (q7, .inl (c7, (14, .inr (.inl (fun _ => 0))))), (q15, .inl (c15, (14, .inr (.inl (fun _ => 0))))), (q23, .inl (c23, (40, .inl (fun _ => 0)))), (q31, .inl (c31, (40, .inl (fun _ => 0))))] H := hP
  have hD : va_D A [(h0, .inr (1, [.int 0, .ref q7, .ref q15, .int 0, .ref q23, .ref q31, .null, .int 0, .null, .int 0, .null, .null, .long 0, .null])), (q7, .inl (c7, (14, .inr (.inl (fun _ => 0))))), (q15, .inl (c15, (14, .inr (.inl (fun _ => 0))))), (q23, .inl (c23, (40, .inl (fun _ => 0)))), (q31, .inl (c31, (40, .inl (fun _ => 0))))] := hD
  refine lv_aload_n hx hb dX1_init_36 rfl (lv_at hl 0 rfl) ?_
  refine lv_bipush (v := 40) hx hb dX1_init_37 (by decide) ?_
  have hc39 : 4 + 1 ≤ 9 := by omega
  have hs39 : 108 + 40 ≤ 204 := by omega
  refine va_newa (atype := .int) (ty := .int) (N' := 40) (a0 := (40, .inl (fun _ => 0))) hx hb (hts (.arrayClass .int) (by decide +kernel)) rfl hK hP hD hS hA (fun _ => rfl) (by decide) (by decide) (Nat.le_of_ble_eq_true rfl) hc39 hs39 dX1_init_39 (fun q39 c39 H hK hP hD hS => ?_)
  have hP : va_P D vwCl [(h0, .inr (1, [.int 0, .ref q7, .ref q15, .int 0, .ref q23, .ref q31, .null, .int 0, .null, .int 0, .null, .null, .long 0, .null])), (q7, .inl (c7, (14, .inr (.inl (fun _ => 0))))), (q15, .inl (c15, (14, .inr (.inl (fun _ => 0))))), (q23, .inl (c23, (40, .inl (fun _ => 0)))), (q31, .inl (c31, (40, .inl (fun _ => 0)))), (q39, .inl (c39, (40, .inl (fun _ => 0))))] H := hP
  have hD : va_D A [(h0, .inr (1, [.int 0, .ref q7, .ref q15, .int 0, .ref q23, .ref q31, .null, .int 0, .null, .int 0, .null, .null, .long 0, .null])), (q7, .inl (c7, (14, .inr (.inl (fun _ => 0))))), (q15, .inl (c15, (14, .inr (.inl (fun _ => 0))))), (q23, .inl (c23, (40, .inl (fun _ => 0)))), (q31, .inl (c31, (40, .inl (fun _ => 0)))), (q39, .inl (c39, (40, .inl (fun _ => 0))))] := hD
  have hK : va_K D vwCl [(c7, .long), (c15, .long), (c23, .int), (c31, .int), (c39, .int)] s := hK
  refine va_put (D := D) (ci := 1) (v := .ref q39) (ty := .array .int) (C := RX1) (T := TX1) (N := 14) hx hb hts inwX1_init tyX1 tyX1_ok nmX1 hown hK hP hD hS 0 rfl rfl 6 (by decide) (hts (.fieldLink RX1 23 "SiteTrianglesModel" "greatest" "[I") (by decide +kernel)) (fun _ h9 => h9) rfl (by decide +kernel) rfl rfl (Nat.le_of_ble_eq_true rfl) dX1_init_41 (fun H locs hP hD hS => ?_)
  have hP : va_P D vwCl [(h0, .inr (1, [.int 0, .ref q7, .ref q15, .int 0, .ref q23, .ref q31, .ref q39, .int 0, .null, .int 0, .null, .null, .long 0, .null])), (q7, .inl (c7, (14, .inr (.inl (fun _ => 0))))), (q15, .inl (c15, (14, .inr (.inl (fun _ => 0))))), (q23, .inl (c23, (40, .inl (fun _ => 0)))), (q31, .inl (c31, (40, .inl (fun _ => 0)))), (q39, .inl (c39, (40, .inl (fun _ => 0))))] H := hP
  have hD : va_D A [(h0, .inr (1, [.int 0, .ref q7, .ref q15, .int 0, .ref q23, .ref q31, .ref q39, .int 0, .null, .int 0, .null, .null, .long 0, .null])), (q7, .inl (c7, (14, .inr (.inl (fun _ => 0))))), (q15, .inl (c15, (14, .inr (.inl (fun _ => 0))))), (q23, .inl (c23, (40, .inl (fun _ => 0)))), (q31, .inl (c31, (40, .inl (fun _ => 0)))), (q39, .inl (c39, (40, .inl (fun _ => 0))))] := hD
  refine lv_aload_n hx hb dX1_init_44 rfl (lv_at hl 0 rfl) ?_
  refine lv_bipush (v := 14) hx hb dX1_init_45 (by decide) ?_
  have hc47 : 5 + 1 ≤ 9 := by omega
  have hs47 : 148 + 14 ≤ 204 := by omega
  refine va_newa (atype := .int) (ty := .int) (N' := 14) (a0 := (14, .inl (fun _ => 0))) hx hb (hts (.arrayClass .int) (by decide +kernel)) rfl hK hP hD hS hA (fun _ => rfl) (by decide) (by decide) (Nat.le_of_ble_eq_true rfl) hc47 hs47 dX1_init_47 (fun q47 c47 H hK hP hD hS => ?_)
  have hP : va_P D vwCl [(h0, .inr (1, [.int 0, .ref q7, .ref q15, .int 0, .ref q23, .ref q31, .ref q39, .int 0, .null, .int 0, .null, .null, .long 0, .null])), (q7, .inl (c7, (14, .inr (.inl (fun _ => 0))))), (q15, .inl (c15, (14, .inr (.inl (fun _ => 0))))), (q23, .inl (c23, (40, .inl (fun _ => 0)))), (q31, .inl (c31, (40, .inl (fun _ => 0)))), (q39, .inl (c39, (40, .inl (fun _ => 0)))), (q47, .inl (c47, (14, .inl (fun _ => 0))))] H := hP
  have hD : va_D A [(h0, .inr (1, [.int 0, .ref q7, .ref q15, .int 0, .ref q23, .ref q31, .ref q39, .int 0, .null, .int 0, .null, .null, .long 0, .null])), (q7, .inl (c7, (14, .inr (.inl (fun _ => 0))))), (q15, .inl (c15, (14, .inr (.inl (fun _ => 0))))), (q23, .inl (c23, (40, .inl (fun _ => 0)))), (q31, .inl (c31, (40, .inl (fun _ => 0)))), (q39, .inl (c39, (40, .inl (fun _ => 0)))), (q47, .inl (c47, (14, .inl (fun _ => 0))))] := hD
  have hK : va_K D vwCl [(c7, .long), (c15, .long), (c23, .int), (c31, .int), (c39, .int), (c47, .int)] s := hK
  refine va_put (D := D) (ci := 1) (v := .ref q47) (ty := .array .int) (C := RX1) (T := TX1) (N := 14) hx hb hts inwX1_init tyX1 tyX1_ok nmX1 hown hK hP hD hS 0 rfl rfl 8 (by decide) (hts (.fieldLink RX1 26 "SiteTrianglesModel" "corners" "[I") (by decide +kernel)) (fun _ h9 => h9) rfl (by decide +kernel) rfl rfl (Nat.le_of_ble_eq_true rfl) dX1_init_49 (fun H locs hP hD hS => ?_)
  have hP : va_P D vwCl [(h0, .inr (1, [.int 0, .ref q7, .ref q15, .int 0, .ref q23, .ref q31, .ref q39, .int 0, .ref q47, .int 0, .null, .null, .long 0, .null])), (q7, .inl (c7, (14, .inr (.inl (fun _ => 0))))), (q15, .inl (c15, (14, .inr (.inl (fun _ => 0))))), (q23, .inl (c23, (40, .inl (fun _ => 0)))), (q31, .inl (c31, (40, .inl (fun _ => 0)))), (q39, .inl (c39, (40, .inl (fun _ => 0)))), (q47, .inl (c47, (14, .inl (fun _ => 0))))] H := hP
  have hD : va_D A [(h0, .inr (1, [.int 0, .ref q7, .ref q15, .int 0, .ref q23, .ref q31, .ref q39, .int 0, .ref q47, .int 0, .null, .null, .long 0, .null])), (q7, .inl (c7, (14, .inr (.inl (fun _ => 0))))), (q15, .inl (c15, (14, .inr (.inl (fun _ => 0))))), (q23, .inl (c23, (40, .inl (fun _ => 0)))), (q31, .inl (c31, (40, .inl (fun _ => 0)))), (q39, .inl (c39, (40, .inl (fun _ => 0)))), (q47, .inl (c47, (14, .inl (fun _ => 0))))] := hD
  refine lv_aload_n hx hb dX1_init_52 rfl (lv_at hl 0 rfl) ?_
  refine lv_bipush (v := 14) hx hb dX1_init_53 (by decide) ?_
  have hc55 : 6 + 1 ≤ 9 := by omega
  have hs55 : 162 + 14 ≤ 204 := by omega
  refine va_newa (atype := .int) (ty := .int) (N' := 14) (a0 := (14, .inl (fun _ => 0))) hx hb (hts (.arrayClass .int) (by decide +kernel)) rfl hK hP hD hS hA (fun _ => rfl) (by decide) (by decide) (Nat.le_of_ble_eq_true rfl) hc55 hs55 dX1_init_55 (fun q55 c55 H hK hP hD hS => ?_)
  have hP : va_P D vwCl [(h0, .inr (1, [.int 0, .ref q7, .ref q15, .int 0, .ref q23, .ref q31, .ref q39, .int 0, .ref q47, .int 0, .null, .null, .long 0, .null])), (q7, .inl (c7, (14, .inr (.inl (fun _ => 0))))), (q15, .inl (c15, (14, .inr (.inl (fun _ => 0))))), (q23, .inl (c23, (40, .inl (fun _ => 0)))), (q31, .inl (c31, (40, .inl (fun _ => 0)))), (q39, .inl (c39, (40, .inl (fun _ => 0)))), (q47, .inl (c47, (14, .inl (fun _ => 0)))), (q55, .inl (c55, (14, .inl (fun _ => 0))))] H := hP
  have hD : va_D A [(h0, .inr (1, [.int 0, .ref q7, .ref q15, .int 0, .ref q23, .ref q31, .ref q39, .int 0, .ref q47, .int 0, .null, .null, .long 0, .null])), (q7, .inl (c7, (14, .inr (.inl (fun _ => 0))))), (q15, .inl (c15, (14, .inr (.inl (fun _ => 0))))), (q23, .inl (c23, (40, .inl (fun _ => 0)))), (q31, .inl (c31, (40, .inl (fun _ => 0)))), (q39, .inl (c39, (40, .inl (fun _ => 0)))), (q47, .inl (c47, (14, .inl (fun _ => 0)))), (q55, .inl (c55, (14, .inl (fun _ => 0))))] := hD
  have hK : va_K D vwCl [(c7, .long), (c15, .long), (c23, .int), (c31, .int), (c39, .int), (c47, .int), (c55, .int)] s := hK
  refine va_put (D := D) (ci := 1) (v := .ref q55) (ty := .array .int) (C := RX1) (T := TX1) (N := 14) hx hb hts inwX1_init tyX1 tyX1_ok nmX1 hown hK hP hD hS 0 rfl rfl 10 (by decide) (hts (.fieldLink RX1 29 "SiteTrianglesModel" "lesser" "[I") (by decide +kernel)) (fun _ h9 => h9) rfl (by decide +kernel) rfl rfl (Nat.le_of_ble_eq_true rfl) dX1_init_57 (fun H locs hP hD hS => ?_)
  have hP : va_P D vwCl [(h0, .inr (1, [.int 0, .ref q7, .ref q15, .int 0, .ref q23, .ref q31, .ref q39, .int 0, .ref q47, .int 0, .ref q55, .null, .long 0, .null])), (q7, .inl (c7, (14, .inr (.inl (fun _ => 0))))), (q15, .inl (c15, (14, .inr (.inl (fun _ => 0))))), (q23, .inl (c23, (40, .inl (fun _ => 0)))), (q31, .inl (c31, (40, .inl (fun _ => 0)))), (q39, .inl (c39, (40, .inl (fun _ => 0)))), (q47, .inl (c47, (14, .inl (fun _ => 0)))), (q55, .inl (c55, (14, .inl (fun _ => 0))))] H := hP
  have hD : va_D A [(h0, .inr (1, [.int 0, .ref q7, .ref q15, .int 0, .ref q23, .ref q31, .ref q39, .int 0, .ref q47, .int 0, .ref q55, .null, .long 0, .null])), (q7, .inl (c7, (14, .inr (.inl (fun _ => 0))))), (q15, .inl (c15, (14, .inr (.inl (fun _ => 0))))), (q23, .inl (c23, (40, .inl (fun _ => 0)))), (q31, .inl (c31, (40, .inl (fun _ => 0)))), (q39, .inl (c39, (40, .inl (fun _ => 0)))), (q47, .inl (c47, (14, .inl (fun _ => 0)))), (q55, .inl (c55, (14, .inl (fun _ => 0))))] := hD
  refine lv_aload_n hx hb dX1_init_60 rfl (lv_at hl 0 rfl) ?_
  refine lv_bipush (v := 14) hx hb dX1_init_61 (by decide) ?_
  have hc63 : 7 + 1 ≤ 9 := by omega
  have hs63 : 176 + 14 ≤ 204 := by omega
  refine va_newa (atype := .int) (ty := .int) (N' := 14) (a0 := (14, .inl (fun _ => 0))) hx hb (hts (.arrayClass .int) (by decide +kernel)) rfl hK hP hD hS hA (fun _ => rfl) (by decide) (by decide) (Nat.le_of_ble_eq_true rfl) hc63 hs63 dX1_init_63 (fun q63 c63 H hK hP hD hS => ?_)
  have hP : va_P D vwCl [(h0, .inr (1, [.int 0, .ref q7, .ref q15, .int 0, .ref q23, .ref q31, .ref q39, .int 0, .ref q47, .int 0, .ref q55, .null, .long 0, .null])), (q7, .inl (c7, (14, .inr (.inl (fun _ => 0))))), (q15, .inl (c15, (14, .inr (.inl (fun _ => 0))))), (q23, .inl (c23, (40, .inl (fun _ => 0)))), (q31, .inl (c31, (40, .inl (fun _ => 0)))), (q39, .inl (c39, (40, .inl (fun _ => 0)))), (q47, .inl (c47, (14, .inl (fun _ => 0)))), (q55, .inl (c55, (14, .inl (fun _ => 0)))), (q63, .inl (c63, (14, .inl (fun _ => 0))))] H := hP
  have hD : va_D A [(h0, .inr (1, [.int 0, .ref q7, .ref q15, .int 0, .ref q23, .ref q31, .ref q39, .int 0, .ref q47, .int 0, .ref q55, .null, .long 0, .null])), (q7, .inl (c7, (14, .inr (.inl (fun _ => 0))))), (q15, .inl (c15, (14, .inr (.inl (fun _ => 0))))), (q23, .inl (c23, (40, .inl (fun _ => 0)))), (q31, .inl (c31, (40, .inl (fun _ => 0)))), (q39, .inl (c39, (40, .inl (fun _ => 0)))), (q47, .inl (c47, (14, .inl (fun _ => 0)))), (q55, .inl (c55, (14, .inl (fun _ => 0)))), (q63, .inl (c63, (14, .inl (fun _ => 0))))] := hD
  have hK : va_K D vwCl [(c7, .long), (c15, .long), (c23, .int), (c31, .int), (c39, .int), (c47, .int), (c55, .int), (c63, .int)] s := hK
  refine va_put (D := D) (ci := 1) (v := .ref q63) (ty := .array .int) (C := RX1) (T := TX1) (N := 14) hx hb hts inwX1_init tyX1 tyX1_ok nmX1 hown hK hP hD hS 0 rfl rfl 11 (by decide) (hts (.fieldLink RX1 32 "SiteTrianglesModel" "greater" "[I") (by decide +kernel)) (fun _ h9 => h9) rfl (by decide +kernel) rfl rfl (Nat.le_of_ble_eq_true rfl) dX1_init_65 (fun H locs hP hD hS => ?_)
  have hP : va_P D vwCl [(h0, .inr (1, [.int 0, .ref q7, .ref q15, .int 0, .ref q23, .ref q31, .ref q39, .int 0, .ref q47, .int 0, .ref q55, .ref q63, .long 0, .null])), (q7, .inl (c7, (14, .inr (.inl (fun _ => 0))))), (q15, .inl (c15, (14, .inr (.inl (fun _ => 0))))), (q23, .inl (c23, (40, .inl (fun _ => 0)))), (q31, .inl (c31, (40, .inl (fun _ => 0)))), (q39, .inl (c39, (40, .inl (fun _ => 0)))), (q47, .inl (c47, (14, .inl (fun _ => 0)))), (q55, .inl (c55, (14, .inl (fun _ => 0)))), (q63, .inl (c63, (14, .inl (fun _ => 0))))] H := hP
  have hD : va_D A [(h0, .inr (1, [.int 0, .ref q7, .ref q15, .int 0, .ref q23, .ref q31, .ref q39, .int 0, .ref q47, .int 0, .ref q55, .ref q63, .long 0, .null])), (q7, .inl (c7, (14, .inr (.inl (fun _ => 0))))), (q15, .inl (c15, (14, .inr (.inl (fun _ => 0))))), (q23, .inl (c23, (40, .inl (fun _ => 0)))), (q31, .inl (c31, (40, .inl (fun _ => 0)))), (q39, .inl (c39, (40, .inl (fun _ => 0)))), (q47, .inl (c47, (14, .inl (fun _ => 0)))), (q55, .inl (c55, (14, .inl (fun _ => 0)))), (q63, .inl (c63, (14, .inl (fun _ => 0))))] := hD
  refine lv_aload_n hx hb dX1_init_68 rfl (lv_at hl 0 rfl) ?_
  refine lv_bipush (v := 14) hx hb dX1_init_69 (by decide) ?_
  have hc71 : 8 + 1 ≤ 9 := by omega
  have hs71 : 190 + 14 ≤ 204 := by omega
  refine va_newa (atype := .int) (ty := .int) (N' := 14) (a0 := (14, .inl (fun _ => 0))) hx hb (hts (.arrayClass .int) (by decide +kernel)) rfl hK hP hD hS hA (fun _ => rfl) (by decide) (by decide) (Nat.le_of_ble_eq_true rfl) hc71 hs71 dX1_init_71 (fun q71 c71 H hK hP hD hS => ?_)
  have hP : va_P D vwCl [(h0, .inr (1, [.int 0, .ref q7, .ref q15, .int 0, .ref q23, .ref q31, .ref q39, .int 0, .ref q47, .int 0, .ref q55, .ref q63, .long 0, .null])), (q7, .inl (c7, (14, .inr (.inl (fun _ => 0))))), (q15, .inl (c15, (14, .inr (.inl (fun _ => 0))))), (q23, .inl (c23, (40, .inl (fun _ => 0)))), (q31, .inl (c31, (40, .inl (fun _ => 0)))), (q39, .inl (c39, (40, .inl (fun _ => 0)))), (q47, .inl (c47, (14, .inl (fun _ => 0)))), (q55, .inl (c55, (14, .inl (fun _ => 0)))), (q63, .inl (c63, (14, .inl (fun _ => 0)))), (q71, .inl (c71, (14, .inl (fun _ => 0))))] H := hP
  have hD : va_D A [(h0, .inr (1, [.int 0, .ref q7, .ref q15, .int 0, .ref q23, .ref q31, .ref q39, .int 0, .ref q47, .int 0, .ref q55, .ref q63, .long 0, .null])), (q7, .inl (c7, (14, .inr (.inl (fun _ => 0))))), (q15, .inl (c15, (14, .inr (.inl (fun _ => 0))))), (q23, .inl (c23, (40, .inl (fun _ => 0)))), (q31, .inl (c31, (40, .inl (fun _ => 0)))), (q39, .inl (c39, (40, .inl (fun _ => 0)))), (q47, .inl (c47, (14, .inl (fun _ => 0)))), (q55, .inl (c55, (14, .inl (fun _ => 0)))), (q63, .inl (c63, (14, .inl (fun _ => 0)))), (q71, .inl (c71, (14, .inl (fun _ => 0))))] := hD
  have hK : va_K D vwCl [(c7, .long), (c15, .long), (c23, .int), (c31, .int), (c39, .int), (c47, .int), (c55, .int), (c63, .int), (c71, .int)] s := hK
  refine va_put (D := D) (ci := 1) (v := .ref q71) (ty := .array .int) (C := RX1) (T := TX1) (N := 14) hx hb hts inwX1_init tyX1 tyX1_ok nmX1 hown hK hP hD hS 0 rfl rfl 13 (by decide) (hts (.fieldLink RX1 35 "SiteTrianglesModel" "group" "[I") (by decide +kernel)) (fun _ h9 => h9) rfl (by decide +kernel) rfl rfl (Nat.le_of_ble_eq_true rfl) dX1_init_73 (fun H locs hP hD hS => ?_)
  have hP : va_P D vwCl [(h0, .inr (1, [.int 0, .ref q7, .ref q15, .int 0, .ref q23, .ref q31, .ref q39, .int 0, .ref q47, .int 0, .ref q55, .ref q63, .long 0, .ref q71])), (q7, .inl (c7, (14, .inr (.inl (fun _ => 0))))), (q15, .inl (c15, (14, .inr (.inl (fun _ => 0))))), (q23, .inl (c23, (40, .inl (fun _ => 0)))), (q31, .inl (c31, (40, .inl (fun _ => 0)))), (q39, .inl (c39, (40, .inl (fun _ => 0)))), (q47, .inl (c47, (14, .inl (fun _ => 0)))), (q55, .inl (c55, (14, .inl (fun _ => 0)))), (q63, .inl (c63, (14, .inl (fun _ => 0)))), (q71, .inl (c71, (14, .inl (fun _ => 0))))] H := hP
  have hD : va_D A [(h0, .inr (1, [.int 0, .ref q7, .ref q15, .int 0, .ref q23, .ref q31, .ref q39, .int 0, .ref q47, .int 0, .ref q55, .ref q63, .long 0, .ref q71])), (q7, .inl (c7, (14, .inr (.inl (fun _ => 0))))), (q15, .inl (c15, (14, .inr (.inl (fun _ => 0))))), (q23, .inl (c23, (40, .inl (fun _ => 0)))), (q31, .inl (c31, (40, .inl (fun _ => 0)))), (q39, .inl (c39, (40, .inl (fun _ => 0)))), (q47, .inl (c47, (14, .inl (fun _ => 0)))), (q55, .inl (c55, (14, .inl (fun _ => 0)))), (q63, .inl (c63, (14, .inl (fun _ => 0)))), (q71, .inl (c71, (14, .inl (fun _ => 0))))] := hD
  have ec15 : c15 = c7 := Option.some.inj ((show s.vm.findClass _ = some c15 from (hK.2 1 _ rfl).2).symm.trans (show s.vm.findClass _ = some c7 from (hK.2 0 _ rfl).2))
  have ec31 : c31 = c23 := Option.some.inj ((show s.vm.findClass _ = some c31 from (hK.2 3 _ rfl).2).symm.trans (show s.vm.findClass _ = some c23 from (hK.2 2 _ rfl).2))
  have ec39 : c39 = c23 := Option.some.inj ((show s.vm.findClass _ = some c39 from (hK.2 4 _ rfl).2).symm.trans (show s.vm.findClass _ = some c23 from (hK.2 2 _ rfl).2))
  have ec47 : c47 = c23 := Option.some.inj ((show s.vm.findClass _ = some c47 from (hK.2 5 _ rfl).2).symm.trans (show s.vm.findClass _ = some c23 from (hK.2 2 _ rfl).2))
  have ec55 : c55 = c23 := Option.some.inj ((show s.vm.findClass _ = some c55 from (hK.2 6 _ rfl).2).symm.trans (show s.vm.findClass _ = some c23 from (hK.2 2 _ rfl).2))
  have ec63 : c63 = c23 := Option.some.inj ((show s.vm.findClass _ = some c63 from (hK.2 7 _ rfl).2).symm.trans (show s.vm.findClass _ = some c23 from (hK.2 2 _ rfl).2))
  have ec71 : c71 = c23 := Option.some.inj ((show s.vm.findClass _ = some c71 from (hK.2 8 _ rfl).2).symm.trans (show s.vm.findClass _ = some c23 from (hK.2 2 _ rfl).2))
  rw [ec15] at hP hD
  rw [ec31] at hP hD
  rw [ec39] at hP hD
  rw [ec47] at hP hD
  rw [ec55] at hP hD
  rw [ec63] at hP hD
  rw [ec71] at hP hD
  have hK9 : va_K D vwCl [(c23, .int), (c7, .long)] s := hK.sub [2, 0] rfl
  exact W.vret hx hb hr (fun t ht hW => ⟨⟨((fun k => match k with | 0 => h0 | 1 => q7 | 2 => q15 | 3 => q23 | 4 => q31 | 5 => q39 | 6 => q47 | 7 => q55 | 8 => q63 | _ => q71), c23, c7), rfl, rfl, by rw [ht]; exact hP, va_K.moved hW.alike hK9, hD⟩, hS.F ht⟩) hS.2.2 dX1_init_76
end IN
