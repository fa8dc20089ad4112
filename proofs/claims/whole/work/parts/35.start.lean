/-! the law, from its entry -/
theorem lw_cp0 : pg_CP 0 (fun _ => 0) (fun _ => 0) 0 (fun _ => 0) (fun _ => 0) (fun _ => 0) 0 (fun _ => 0) 0 0 0 (fun _ => 0) (fun _ => 0) (fun _ => 0) 0 (fun _ => 0) 0 (fun _ => 0) (fun _ => 0) 0 :=
  ⟨⟨by decide, fun i h => absurd h (by omega), fun i j h => absurd h (by omega)⟩, ⟨rfl, rfl, rfl, rfl⟩, ⟨by decide, by decide, by decide⟩, ⟨fun t h => absurd h (by omega), fun t h => absurd h (by omega), fun a b c h _ => absurd (pg_TR_lt h).2.2 (by omega)⟩, fun t h => absurd h (by omega), fun t h => absurd h (by omega), fun i j h => absurd h (by omega), fun t h => absurd h (by omega), fun t h => absurd h (by omega)⟩
set_option maxHeartbeats 4000000 in
set_option maxRecDepth 100000 in
theorem whole_start {p : Program} {e : Env} {s : State} {m : MethodId} {below : List Frame} {meth : Method} {c : Code} (l : Launch) (hflags : l.flags = flags0) {b L : Nat} {xs : Nat → Int32} (hL : L ≤ 2048) (C0 : lw_At p s m meth c b L xs) : W p l e room_1 s m #[Value.ref b] below meth c s.heap [] 0 0 (lw_Z below #[Value.ref b] s) (entryFrame m ([Value.ref b] : List Value).toArray 8) := by
  obtain ⟨hx, hb, hr, hml, hown, hts, hX, hbl, hlocks, hgv⟩ := id C0
  have hb : c.code = cL_law := hb
  have hown : s.vm.findClass RL = some m.cls := hown
  have htl : ∀ w ∈ wsL_law, w.before #[Value.ref b] s = true := fun w hw => hts w (wsL_law_in w hw)
  have hA : ∀ q : Nat, s.heap.size ≤ q → (fun q : Nat => s.heap.size ≤ q) q := fun _ h => h
  have hbA : ¬ (fun q : Nat => s.heap.size ≤ q) b := Nat.not_le.mpr hbl
  obtain ⟨c0, iS0, hKn0⟩ := u_known (C := RX0) (T := TX0) (N := 12) (n := 12) htl inlX0 (htl (.instantiable RX0 12) (by decide +kernel))
  obtain ⟨c1, iS1, hKn1⟩ := u_known (C := RX1) (T := TX1) (N := 14) (n := 14) htl inlX1 (htl (.instantiable RX1 14) (by decide +kernel))
  obtain ⟨dC, dI, hKc⟩ : ∃ (dC : Nat → ClassId) (dI : Nat → Nat → Nat), ∀ (k : Nat) (q : vw_C), vwCl[k]? = some q → u_Kn s q.1 q.2.1 q.2.2 (dC k) (dI k) := by
    refine ⟨fun k => if k = 0 then c0 else c1, fun k => if k = 0 then iS0 else iS1, ?_⟩
    intro k q hq
    match k, hq with
    | 0, hq => cases hq; exact hKn0
    | 1, hq => cases hq; exact hKn1
    | k + 2, hq => simp [vwCl] at hq
  have hS : va_S (fun q : Nat => s.heap.size ≤ q) s.heap s.heap [] := va_S.rf
  have hK : va_K (dC, dI) vwCl [] s := ⟨hKc, fun k q h => by simp at h⟩
  have hP : va_P (dC, dI) vwCl [] s.heap := fun k q h => by simp at h
  have hD : va_D (fun q : Nat => s.heap.size ≤ q) [] := ⟨fun i j p q h => by simp at h, fun k q h => by simp at h⟩
  have hl := lv_entry ([.ref b]) (n := 8) (Nat.le_of_ble_eq_true rfl)
  rw [lg_entry_eq]
  generalize (lg_sl ([.ref b]) ++ List.replicate (8 - (lg_sl ([.ref b])).length) Slot.unset).toArray = ls at hl ⊢
  have hl : lv_has ls 8 [(0, .ref b)] := hl
  refine va_new (ci := 0) (fs := [.null, .null, .int 0, .null, .int 0, .null, .null, .int 0, .null, .int 0, .long 0, .null]) (C := RX0) (T := TX0) (N := 12) hx hb htl inlX0 tyX0 tyX0_ok hown (htl (.classLink RL 7 RX0) (by decide +kernel)) (htl (.instantiable RX0 12) (by decide +kernel)) (htl (.initialized RX0) (by decide +kernel)) hK hP hD hS hA rfl (fun j hj => match j, hj with | 0, _ => rfl | 1, _ => rfl | 2, _ => rfl | 3, _ => rfl | 4, _ => rfl | 5, _ => rfl | 6, _ => rfl | 7, _ => rfl | 8, _ => rfl | 9, _ => rfl | 10, _ => rfl | 11, _ => rfl | j + 12, h => absurd h (by omega)) (Nat.le_of_ble_eq_true rfl) (Nat.le_of_ble_eq_true rfl) dL_law_0 (fun q0v H hP hD hS => ?_)
  have hP : va_P (dC, dI) vwCl [(q0v, .inr (0, [.null, .null, .int 0, .null, .int 0, .null, .null, .int 0, .null, .int 0, .long 0, .null]))] H := hP
  have hD : va_D (fun q : Nat => s.heap.size ≤ q) [(q0v, .inr (0, [.null, .null, .int 0, .null, .int 0, .null, .null, .int 0, .null, .int 0, .long 0, .null]))] := hD
  refine W.widen (k := 1) (n := 12) (by omega) (by omega) ?_
  refine lv_dup hx hb dL_law_3 rfl ?_
  have hPc := hP.sub (ws' := [(q0v, .inr (0, [.null, .null, .int 0, .null, .int 0, .null, .null, .int 0, .null, .int 0, .long 0, .null]))]) [0] rfl
  have hDc := hD.sub (ws' := [(q0v, .inr (0, [.null, .null, .int 0, .null, .int 0, .null, .null, .int 0, .null, .int 0, .long 0, .null]))]) [0] (by decide) rfl
  have hKc := hK.sub (tys' := []) [] rfl
  have hFc := va_free (wc := [(q0v, .inr (0, [.null, .null, .int 0, .null, .int 0, .null, .null, .int 0, .null, .int 0, .long 0, .null]))]) hD hS hA [0] rfl
  refine va_callv (va_runI (As := []) (rest := [.ref q0v]) ⟨hx, hb, hml, hown, htl⟩ (mtX0_init l (dC, dI) q0v H.size) (cwI 0 htl gL_law_X0_init rfl rfl rfl (htl (.initialized RX0) (by decide +kernel)) (htl (.methodLink RL 9 yX0_init) (by decide +kernel)) (htl (.instanceMethod yX0_init) (by decide +kernel)) rfl (by decide +kernel) ⟨Nat.le_of_ble_eq_true rfl, Nat.le_of_ble_eq_true rfl⟩) ⟨fun a U g mk q => by obtain ⟨q0, q1, qP, qK, qD⟩ := q; exact ⟨q0, q1, qP, va_K.moved (u := U) (U := U.calling g mk a) (Vm.Alike.refl U.vm) qK, qD⟩, fun U hU hW => ⟨rfl, by rw [hU], by rw [hU]; exact hPc, va_K.moved hW.alike hKc, hDc.weaken (fun _ _ _ _ => trivial)⟩⟩ rfl rfl hl.1 rfl (lv_room (Nat.le_of_ble_eq_true rfl)) dL_law_4 ⟨Nat.le_of_ble_eq_true rfl, Nat.le_of_ble_eq_true rfl⟩) hS (fun q _ h => hFc q h) hFc (fun u t H1 locs ht hvm hw hB hz1 hk1 hS => ?_)
  obtain ⟨ad, cI, cx⟩ := u
  obtain ⟨hP1, hK1, hD1⟩ := hB
  rw [ht] at hP1
  have hK1 := va_K.moved hvm.symm hK1
  try dsimp only at hw
  try dsimp only at hP1 hK1 hD1
  have hw : ad 0 = q0v := hw
  subst hw
  obtain ⟨hP, hD⟩ := va_join (wr := []) (w1 := (wC ad cI 0 (fun _ => 0) (fun _ => 0) 0 (fun _ => 0) (fun _ => 0) (fun _ => 0) 0 (fun _ => 0) 0 0 (fun _ => 0))) hP hD [0] [] rfl rfl (by decide) (by decide) hk1 hFc hP1 hD1
  have hK := (hK.sub (tys' := []) [] rfl).app hK1
  generalize H1 = H at hP hS ⊢
  have hP : va_P (dC, dI) vwCl (wC ad cI 0 (fun _ => 0) (fun _ => 0) 0 (fun _ => 0) (fun _ => 0) (fun _ => 0) 0 (fun _ => 0) 0 0 (fun _ => 0)) H := hP
  have hD : va_D (fun q : Nat => s.heap.size ≤ q) (wC ad cI 0 (fun _ => 0) (fun _ => 0) 0 (fun _ => 0) (fun _ => 0) (fun _ => 0) 0 (fun _ => 0) 0 0 (fun _ => 0)) := hD
  have hK : va_K (dC, dI) vwCl [(cI, .int)] s := hK
  refine W.widen (k := 8) (n := 118) (by omega) (by omega) ?_
  refine lv_astore_n (lv' := [(1, .ref (ad 0)), (0, .ref b)]) hx hb dL_law_7 rfl hl (by decide) rfl (fun ls hl => ?_)
  refine va_new (ci := 1) (fs := [.int 0, .null, .null, .int 0, .null, .null, .null, .int 0, .null, .int 0, .null, .null, .long 0, .null]) (C := RX1) (T := TX1) (N := 14) hx hb htl inlX1 tyX1 tyX1_ok hown (htl (.classLink RL 10 RX1) (by decide +kernel)) (htl (.instantiable RX1 14) (by decide +kernel)) (htl (.initialized RX1) (by decide +kernel)) hK hP hD hS hA rfl (fun j hj => match j, hj with | 0, _ => rfl | 1, _ => rfl | 2, _ => rfl | 3, _ => rfl | 4, _ => rfl | 5, _ => rfl | 6, _ => rfl | 7, _ => rfl | 8, _ => rfl | 9, _ => rfl | 10, _ => rfl | 11, _ => rfl | 12, _ => rfl | 13, _ => rfl | j + 14, h => absurd h (by omega)) (Nat.le_of_ble_eq_true rfl) (Nat.le_of_ble_eq_true rfl) dL_law_8 (fun q1v H hP hD hS => ?_)
  refine W.widen (k := 9) (n := 132) (by omega) (by omega) ?_
  refine lv_dup hx hb dL_law_11 rfl ?_
  have hPc := hP.sub (ws' := [(q1v, .inr (1, [.int 0, .null, .null, .int 0, .null, .null, .null, .int 0, .null, .int 0, .null, .null, .long 0, .null]))]) [8] rfl
  have hDc := hD.sub (ws' := [(q1v, .inr (1, [.int 0, .null, .null, .int 0, .null, .null, .null, .int 0, .null, .int 0, .null, .null, .long 0, .null]))]) [8] (by decide) rfl
  have hKc := hK.sub (tys' := []) [] rfl
  have hFc := va_free (wc := [(q1v, .inr (1, [.int 0, .null, .null, .int 0, .null, .null, .null, .int 0, .null, .int 0, .null, .null, .long 0, .null]))]) hD hS hA [8] rfl
  refine va_callv (va_runI (As := []) (rest := [.ref q1v]) ⟨hx, hb, hml, hown, htl⟩ (mtX1_init l (dC, dI) q1v H.size) (cwI 0 htl gL_law_X1_init rfl rfl rfl (htl (.initialized RX1) (by decide +kernel)) (htl (.methodLink RL 12 yX1_init) (by decide +kernel)) (htl (.instanceMethod yX1_init) (by decide +kernel)) rfl (by decide +kernel) ⟨Nat.le_of_ble_eq_true rfl, Nat.le_of_ble_eq_true rfl⟩) ⟨fun a U g mk q => by obtain ⟨q0, q1, qP, qK, qD⟩ := q; exact ⟨q0, q1, qP, va_K.moved (u := U) (U := U.calling g mk a) (Vm.Alike.refl U.vm) qK, qD⟩, fun U hU hW => ⟨rfl, by rw [hU], by rw [hU]; exact hPc, va_K.moved hW.alike hKc, hDc.weaken (fun _ _ _ _ => trivial)⟩⟩ rfl rfl hl.1 rfl (lv_room (Nat.le_of_ble_eq_true rfl)) dL_law_12 ⟨Nat.le_of_ble_eq_true rfl, Nat.le_of_ble_eq_true rfl⟩) hS (fun q _ h => hFc q h) hFc (fun u t H1 locs ht hvm hw hB hz1 hk1 hS => ?_)
  obtain ⟨bd, cI2, cJ⟩ := u
  obtain ⟨hP1, hK1, hD1⟩ := hB
  rw [ht] at hP1
  have hK1 := va_K.moved hvm.symm hK1
  try dsimp only at hw
  try dsimp only at hP1 hK1 hD1
  have hw : bd 0 = q1v := hw
  subst hw
  obtain ⟨hP, hD⟩ := va_join (wr := (wC ad cI 0 (fun _ => 0) (fun _ => 0) 0 (fun _ => 0) (fun _ => 0) (fun _ => 0) 0 (fun _ => 0) 0 0 (fun _ => 0))) (w1 := (wM bd cI2 cJ 0 (fun _ => 0) (fun _ => 0) 0 (fun _ => 0) (fun _ => 0) (fun _ => 0) 0 (fun _ => 0) 0 (fun _ => 0) (fun _ => 0) 0 (fun _ => 0))) hP hD [8] [0, 1, 2, 3, 4, 5, 6, 7] rfl rfl (by decide) (by decide) hk1 hFc hP1 hD1
  have hK := hK.app hK1
  have hK : va_K (dC, dI) vwCl [(cI, .int), (cI2, .int), (cJ, .long)] s := hK
  have e2 : cI2 = cI := Option.some.inj ((show s.vm.findClass _ = some cI2 from (hK.2 1 _ rfl).2).symm.trans (show s.vm.findClass _ = some cI from (hK.2 0 _ rfl).2))
  subst e2
  generalize H1 = H at hP hS ⊢
  have hK := hK.sub (tys' := [(cI2, .int), (cJ, .long)]) [0, 2] rfl
  refine W.widen (k := 18) (n := 336) (by omega) (by omega) ?_
  refine lv_astore_n (lv' := [(2, .ref (bd 0)), (1, .ref (ad 0)), (0, .ref b)]) hx hb dL_law_15 rfl hl (by decide) rfl (fun ls hl => ?_)
  refine lv_iconst (v := nI 0) hx hb dL_law_16 (by decide) ?_
  refine lv_istore_n (lv' := [(3, .int (nI 0)), (2, .ref (bd 0)), (1, .ref (ad 0)), (0, .ref b)]) hx hb dL_law_17 rfl hl (by decide) rfl (fun ls hl => ?_)
  have hret : ∀ (ws : va_W) (lv : List (Nat × Value)), gz_G (p, l, e, room_1, s, m, #[Value.ref b], below, meth, c, (dC, dI), [(cI2, .int), (cJ, .long)], (fun q : Nat => s.heap.size ≤ q), 8, 18, 336, lw_Z below #[Value.ref b] s) ws 617 lv [.int 1] := by
    intro ws lv H locs ls _ _ hS _
    refine va_forget (fun q hq => hS.2.2 q hq) ?_
    exact lw_ret (d0 := s.drawn) (Drawn.sameBut.refl s.drawn lw_cs) hx hb hr hlocks dL_law_617
  have E : gz_E (p, l, e, room_1, s, m, #[Value.ref b], below, meth, c, (dC, dI), [(cI2, .int), (cJ, .long)], (fun q : Nat => s.heap.size ≤ q), 8, 18, 336, lw_Z below #[Value.ref b] s) l (dC, dI) [(cI2, .int), (cJ, .long)] cL_law RL wsL_law 8 room_1 true := ⟨hx, hb, hml, hown, htl, fun _ => hK, fun _ => hA, rfl, rfl, rfl, rfl, rfl, by decide, by decide⟩
  have G := lw_loop E (b := b) (L := L) (xs := xs) ⟨hX, hbl, hbA⟩ hL hret (L + 1) 0 (by omega) (Nat.zero_le L) 0 (fun _ => 0) (fun _ => 0) 0 (fun _ => 0) (fun _ => 0) (fun _ => 0) 0 (fun _ => 0) 0 0 (fun _ => 0) 0 (fun _ => 0) (fun _ => 0) (fun _ => 0) 0 (fun _ => 0) 0 (fun _ => 0) (fun _ => 0) 0 (fun _ => 0) (ad := ad) (bd := bd) lw_cp0
  exact G H _ ls hP hD hS (lv_sub hl [3, 2, 1, 0] rfl)
