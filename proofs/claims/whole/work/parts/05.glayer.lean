/-! gz_G: the walk with the world, the locals and the stack alone in sight; gz_E: what stays fixed in a method -/
section GZ
abbrev gz_Z : Type := Program × Launch × Jvm.Env × Room × State × MethodId × Array Value × List Frame × Method × Code × va_G × List (ClassId × FieldType) × (Nat → Prop) × Nat × Nat × Nat × (State → Prop)
def gz_G (z : gz_Z) (ws : va_W) (pc : Nat) (lv : List (Nat × Value)) (st : List Value) : Prop :=
  match z with
  | (p, l, e, R, s, m, args, below, meth, c, D, _, A, nL, cells, slots, Q) => ∀ (H : Heap) (locs : List Loc) (ls : Array Slot), va_P D vwCl ws H → va_D A ws → va_S A s.heap H locs → lv_has ls nL lv → W p l e R s m args below meth c H locs cells slots Q (F0 m pc ls st)
def gz_E (z : gz_Z) (l' : Launch) (D' : va_G) (tys' : List (ClassId × FieldType)) (cc : ByteArray) (own : String) (Ts : List Cond) (nL' : Nat) (R' : Room) (kb : Bool) : Prop :=
  match z with
  | (p, l, _, R, s, m, args, _, _, c, D, tys, A, nL, cells, slots, _) => p.tables.exec = Jvm.exec ∧ c.code = cc ∧ c.maxLocals = nL ∧ s.vm.findClass own = some m.cls ∧ (∀ w ∈ Ts, w.before args s = true) ∧ (kb = true → va_K D vwCl tys s) ∧ (kb = true → ∀ q : Nat, s.heap.size ≤ q → A q) ∧ l = l' ∧ D = D' ∧ tys = tys' ∧ nL = nL' ∧ R = R' ∧ cells ≤ R.cells ∧ slots ≤ R.slots
/-- a local by its slot -/
def gz_at : List (Nat × Value) → Nat → Option Value
  | [], _ => none
  | q :: r, i => bif Nat.beq q.1 i then some q.2 else gz_at r i
theorem gz_at_mem : ∀ {lv : List (Nat × Value)} {i : Nat} {v : Value}, gz_at lv i = some v → (i, v) ∈ lv
  | q :: r, i, v, h => by
    unfold gz_at at h
    cases hq : Nat.beq q.1 i with
    | true =>
      rw [hq] at h
      have h1 : q.2 = v := Option.some.inj h
      have h2 : q.1 = i := Nat.eq_of_beq_eq_true hq
      rw [← h1, ← h2]
      exact List.mem_cons_self
    | false =>
      rw [hq] at h
      exact List.mem_cons_of_mem _ (gz_at_mem h)
theorem gz_at_ok {ls : Array Slot} {nL : Nat} {lv : List (Nat × Value)} (h : lv_has ls nL lv) {i : Nat} {v : Value} (hg : gz_at lv i = some v) : ls[i]? = some (.val v) := h.2.2 (i, v) (gz_at_mem hg)
theorem gz_at_ix {lv : List (Nat × Value)} {i : Nat} {v : Value} (hg : gz_at lv i = some v) : ∃ k : Nat, lv[k]? = some (i, v) := List.mem_iff_getElem?.mp (gz_at_mem hg)
def gz_ins : List (Nat × Value) → Nat → Value → List (Nat × Value)
  | [], i, v => [(i, v)]
  | q :: r, i, v => bif Nat.blt q.1 i then q :: gz_ins r i v else (i, v) :: q :: r
theorem gz_ins_mem : ∀ {l : List (Nat × Value)} {i : Nat} {v : Value} {x : Nat × Value}, x ∈ gz_ins l i v → x ∈ (i, v) :: l
  | [], _, _, _, h => h
  | q :: r, i, v, x, h => by
    unfold gz_ins at h
    cases hq : Nat.blt q.1 i with
    | true =>
      rw [hq] at h
      rcases List.mem_cons.mp h with h | h
      · exact List.mem_cons_of_mem _ (List.mem_cons.mpr (Or.inl h))
      · rcases List.mem_cons.mp (gz_ins_mem h) with h | h
        · exact List.mem_cons.mpr (Or.inl h)
        · exact List.mem_cons_of_mem _ (List.mem_cons_of_mem _ h)
    | false =>
      rw [hq] at h
      exact h
def gz_st1 (lv : List (Nat × Value)) (i : Nat) (v : Value) : List (Nat × Value) := gz_ins (lv.filter (fun q => !(q.1 == i) && !(q.1 + 1 == i && q.2.category == 2))) i v
def gz_st2 (lv : List (Nat × Value)) (i : Nat) (v : Value) : List (Nat × Value) := gz_ins (lv.filter (fun q => !(q.1 == i) && (!(q.1 == i + 1) && !(q.1 + 1 == i && q.2.category == 2)))) i v
theorem gz_has1 {ls : Array Slot} {nL i : Nat} {lv lv' : List (Nat × Value)} {v : Value} (h : lv_has ls nL ((i, v) :: lv.filter (fun q => !(q.1 == i) && !(q.1 + 1 == i && q.2.category == 2)))) (e : gz_st1 lv i v = lv') : lv_has ls nL lv' := by
  subst e
  exact ⟨h.1, h.2.1, fun q hq => h.2.2 q (gz_ins_mem hq)⟩
theorem gz_has2 {ls : Array Slot} {nL i : Nat} {lv lv' : List (Nat × Value)} {v : Value} (h : lv_has ls nL ((i, v) :: lv.filter (fun q => !(q.1 == i) && (!(q.1 == i + 1) && !(q.1 + 1 == i && q.2.category == 2))))) (e : gz_st2 lv i v = lv') : lv_has ls nL lv' := by
  subst e
  exact ⟨h.1, h.2.1, fun q hq => h.2.2 q (gz_ins_mem hq)⟩
variable {z : gz_Z} {l' : Launch} {D' : va_G} {tys' : List (ClassId × FieldType)} {cc : ByteArray} {own : String} {Ts : List Cond} {nL' : Nat} {R' : Room} {kb : Bool}
variable {ws : va_W} {pc : Nat} {lv lv' : List (Nat × Value)} {rest st : List Value}
/-- fewer locals -/
theorem gz_sub (ks : List Nat) (hl : lv_pick lv ks = lv') (k : gz_G z ws pc lv' st) : gz_G z ws pc lv st := by
  obtain ⟨p, l, e, R, s, m, args, below, meth, c, D, tys, A, nL, cells, slots, Q⟩ := z
  intro H locs ls hP hD hS h
  exact k H locs ls hP hD hS (lv_sub h ks hl)
theorem gz_w {ws' : va_W} (e : ws = ws') (k : gz_G z ws' pc lv st) : gz_G z ws pc lv st := by rw [e]; exact k
theorem gz_s {st' : List Value} (e : st = st') (k : gz_G z ws pc lv st') : gz_G z ws pc lv st := by rw [e]; exact k
theorem gz_iconst (E : gz_E z l' D' tys' cc own Ts nL' R' kb) {n : Int} {v : Int32} (hd : decode cc pc = .ok (.iconst n, 1)) (hv : Int32.ofInt n = v) (k : gz_G z ws (pc + 1) lv (.int v :: rest)) : gz_G z ws pc lv (rest) := by
  obtain ⟨p, l, e, R, s, m, args, below, meth, c, D, tys, A, nL, cells, slots, Q⟩ := z
  obtain ⟨hx, hb, hml, hown, hts, hK, hA, rfl, rfl, rfl, rfl, rfl, hcs, hss⟩ := E
  intro H locs ls hP hD hS h
  exact lv_iconst hx hb hd hv (k H locs ls hP hD hS h)
theorem gz_bipush (E : gz_E z l' D' tys' cc own Ts nL' R' kb) {n : Int} {v : Int32} (hd : decode cc pc = .ok (.bipush n, 2)) (hv : (Int8.ofInt n).toInt32 = v) (k : gz_G z ws (pc + 2) lv (.int v :: rest)) : gz_G z ws pc lv (rest) := by
  obtain ⟨p, l, e, R, s, m, args, below, meth, c, D, tys, A, nL, cells, slots, Q⟩ := z
  obtain ⟨hx, hb, hml, hown, hts, hK, hA, rfl, rfl, rfl, rfl, rfl, hcs, hss⟩ := E
  intro H locs ls hP hD hS h
  exact lv_bipush hx hb hd hv (k H locs ls hP hD hS h)
theorem gz_sipush (E : gz_E z l' D' tys' cc own Ts nL' R' kb) {n : Int} {v : Int32} (hd : decode cc pc = .ok (.sipush n, 3)) (hv : (Int16.ofInt n).toInt32 = v) (k : gz_G z ws (pc + 3) lv (.int v :: rest)) : gz_G z ws pc lv (rest) := by
  obtain ⟨p, l, e, R, s, m, args, below, meth, c, D, tys, A, nL, cells, slots, Q⟩ := z
  obtain ⟨hx, hb, hml, hown, hts, hK, hA, rfl, rfl, rfl, rfl, rfl, hcs, hss⟩ := E
  intro H locs ls hP hD hS h
  exact lv_sipush hx hb hd hv (k H locs ls hP hD hS h)
theorem gz_lconst (E : gz_E z l' D' tys' cc own Ts nL' R' kb) {n : Fin 2} {v : Int64} (hd : decode cc pc = .ok (.lconst n, 1)) (hv : Int64.ofNat (n : Nat) = v) (k : gz_G z ws (pc + 1) lv (.long v :: rest)) : gz_G z ws pc lv (rest) := by
  obtain ⟨p, l, e, R, s, m, args, below, meth, c, D, tys, A, nL, cells, slots, Q⟩ := z
  obtain ⟨hx, hb, hml, hown, hts, hK, hA, rfl, rfl, rfl, rfl, rfl, hcs, hss⟩ := E
  intro H locs ls hP hD hS h
  exact lv_lconst hx hb hd hv (k H locs ls hP hD hS h)
theorem gz_dconst0 (E : gz_E z l' D' tys' cc own Ts nL' R' kb)  (hd : decode cc pc = .ok (.dconst 0, 1))  (k : gz_G z ws (pc + 1) lv (.double FP.dconst0 :: rest)) : gz_G z ws pc lv (rest) := by
  obtain ⟨p, l, e, R, s, m, args, below, meth, c, D, tys, A, nL, cells, slots, Q⟩ := z
  obtain ⟨hx, hb, hml, hown, hts, hK, hA, rfl, rfl, rfl, rfl, rfl, hcs, hss⟩ := E
  intro H locs ls hP hD hS h
  exact lv_dconst0 hx hb hd (k H locs ls hP hD hS h)
theorem gz_ldc2 (E : gz_E z l' D' tys' cc own Ts nL' R' kb) {index : Nat} {v : Int64} (hd : decode cc pc = .ok (.ldc2_w index, 3)) (hc : Jvm.Cond.constantLong own index v ∈ Ts) (k : gz_G z ws (pc + 3) lv (.long v :: rest)) : gz_G z ws pc lv (rest) := by
  obtain ⟨p, l, e, R, s, m, args, below, meth, c, D, tys, A, nL, cells, slots, Q⟩ := z
  obtain ⟨hx, hb, hml, hown, hts, hK, hA, rfl, rfl, rfl, rfl, rfl, hcs, hss⟩ := E
  intro H locs ls hP hD hS h
  exact lv_ldc2 hx hb hown (hts _ hc) hd (k H locs ls hP hD hS h)
theorem gz_ldc2d (E : gz_E z l' D' tys' cc own Ts nL' R' kb) {index : Nat} {v : UInt64} (hd : decode cc pc = .ok (.ldc2_w index, 3)) (hc : Jvm.Cond.constantDouble own index v ∈ Ts) (k : gz_G z ws (pc + 3) lv (.double v :: rest)) : gz_G z ws pc lv (rest) := by
  obtain ⟨p, l, e, R, s, m, args, below, meth, c, D, tys, A, nL, cells, slots, Q⟩ := z
  obtain ⟨hx, hb, hml, hown, hts, hK, hA, rfl, rfl, rfl, rfl, rfl, hcs, hss⟩ := E
  intro H locs ls hP hD hS h
  exact lv_ldc2d hx hb hown (hts _ hc) hd (k H locs ls hP hD hS h)
theorem gz_ldc (E : gz_E z l' D' tys' cc own Ts nL' R' kb) {index : Nat} {v : Int32} (hd : decode cc pc = .ok (.ldc index, 2)) (hc : Jvm.Cond.constant own index v ∈ Ts) (k : gz_G z ws (pc + 2) lv (.int v :: rest)) : gz_G z ws pc lv (rest) := by
  obtain ⟨p, l, e, R, s, m, args, below, meth, c, D, tys, A, nL, cells, slots, Q⟩ := z
  obtain ⟨hx, hb, hml, hown, hts, hK, hA, rfl, rfl, rfl, rfl, rfl, hcs, hss⟩ := E
  intro H locs ls hP hD hS h
  exact lv_ldc hx hb hown (hts _ hc) hd (k H locs ls hP hD hS h)
theorem gz_iload_n (E : gz_E z l' D' tys' cc own Ts nL' R' kb) {j : Fin 4} {i : Nat} {x : Int32} (hd : decode cc pc = .ok (.iload_n j, 1)) (hi : (j : Nat) = i) (hg : gz_at lv i = some (.int x)) (k : gz_G z ws (pc + 1) lv (.int x :: rest)) : gz_G z ws pc lv (rest) := by
  obtain ⟨p, l, e, R, s, m, args, below, meth, c, D, tys, A, nL, cells, slots, Q⟩ := z
  obtain ⟨hx, hb, hml, hown, hts, hK, hA, rfl, rfl, rfl, rfl, rfl, hcs, hss⟩ := E
  intro H locs ls hP hD hS h
  exact lv_iload_n hx hb hd hi (gz_at_ok h hg) (k H locs ls hP hD hS h)
theorem gz_iload (E : gz_E z l' D' tys' cc own Ts nL' R' kb) {i : Nat} {x : Int32} (hd : decode cc pc = .ok (.iload i, 2)) (hg : gz_at lv i = some (.int x)) (k : gz_G z ws (pc + 2) lv (.int x :: rest)) : gz_G z ws pc lv (rest) := by
  obtain ⟨p, l, e, R, s, m, args, below, meth, c, D, tys, A, nL, cells, slots, Q⟩ := z
  obtain ⟨hx, hb, hml, hown, hts, hK, hA, rfl, rfl, rfl, rfl, rfl, hcs, hss⟩ := E
  intro H locs ls hP hD hS h
  exact lv_iload hx hb hd (gz_at_ok h hg) (k H locs ls hP hD hS h)
theorem gz_istore_n (E : gz_E z l' D' tys' cc own Ts nL' R' kb) {j : Fin 4} {i : Nat} {x : Int32} (hd : decode cc pc = .ok (.istore_n j, 1)) (hi : (j : Nat) = i) (hn : i < nL') (hl : gz_st1 lv i (.int x) = lv') (k : gz_G z ws (pc + 1) lv' rest) : gz_G z ws pc lv (.int x :: rest) := by
  obtain ⟨p, l, e, R, s, m, args, below, meth, c, D, tys, A, nL, cells, slots, Q⟩ := z
  obtain ⟨hx, hb, hml, hown, hts, hK, hA, rfl, rfl, rfl, rfl, rfl, hcs, hss⟩ := E
  intro H locs ls hP hD hS h
  exact lv_istore_n hx hb hd hi h hn rfl (fun ls' h' => k H locs ls' hP hD hS (gz_has1 h' hl))
theorem gz_istore (E : gz_E z l' D' tys' cc own Ts nL' R' kb) {i : Nat} {x : Int32} (hd : decode cc pc = .ok (.istore i, 2)) (hn : i < nL') (hl : gz_st1 lv i (.int x) = lv') (k : gz_G z ws (pc + 2) lv' rest) : gz_G z ws pc lv (.int x :: rest) := by
  obtain ⟨p, l, e, R, s, m, args, below, meth, c, D, tys, A, nL, cells, slots, Q⟩ := z
  obtain ⟨hx, hb, hml, hown, hts, hK, hA, rfl, rfl, rfl, rfl, rfl, hcs, hss⟩ := E
  intro H locs ls hP hD hS h
  exact lv_istore hx hb hd h hn rfl (fun ls' h' => k H locs ls' hP hD hS (gz_has1 h' hl))
theorem gz_lload_n (E : gz_E z l' D' tys' cc own Ts nL' R' kb) {j : Fin 4} {i : Nat} {x : Int64} (hd : decode cc pc = .ok (.lload_n j, 1)) (hi : (j : Nat) = i) (hg : gz_at lv i = some (.long x)) (k : gz_G z ws (pc + 1) lv (.long x :: rest)) : gz_G z ws pc lv (rest) := by
  obtain ⟨p, l, e, R, s, m, args, below, meth, c, D, tys, A, nL, cells, slots, Q⟩ := z
  obtain ⟨hx, hb, hml, hown, hts, hK, hA, rfl, rfl, rfl, rfl, rfl, hcs, hss⟩ := E
  intro H locs ls hP hD hS h
  exact lv_lload_n hx hb hd hi (gz_at_ok h hg) (k H locs ls hP hD hS h)
theorem gz_lload (E : gz_E z l' D' tys' cc own Ts nL' R' kb) {i : Nat} {x : Int64} (hd : decode cc pc = .ok (.lload i, 2)) (hg : gz_at lv i = some (.long x)) (k : gz_G z ws (pc + 2) lv (.long x :: rest)) : gz_G z ws pc lv (rest) := by
  obtain ⟨p, l, e, R, s, m, args, below, meth, c, D, tys, A, nL, cells, slots, Q⟩ := z
  obtain ⟨hx, hb, hml, hown, hts, hK, hA, rfl, rfl, rfl, rfl, rfl, hcs, hss⟩ := E
  intro H locs ls hP hD hS h
  exact lv_lload hx hb hd (gz_at_ok h hg) (k H locs ls hP hD hS h)
theorem gz_lstore_n (E : gz_E z l' D' tys' cc own Ts nL' R' kb) {j : Fin 4} {i : Nat} {x : Int64} (hd : decode cc pc = .ok (.lstore_n j, 1)) (hi : (j : Nat) = i) (hn : i + 1 < nL') (hl : gz_st2 lv i (.long x) = lv') (k : gz_G z ws (pc + 1) lv' rest) : gz_G z ws pc lv (.long x :: rest) := by
  obtain ⟨p, l, e, R, s, m, args, below, meth, c, D, tys, A, nL, cells, slots, Q⟩ := z
  obtain ⟨hx, hb, hml, hown, hts, hK, hA, rfl, rfl, rfl, rfl, rfl, hcs, hss⟩ := E
  intro H locs ls hP hD hS h
  exact lv_lstore_n hx hb hd hi h hn rfl (fun ls' h' => k H locs ls' hP hD hS (gz_has2 h' hl))
theorem gz_lstore (E : gz_E z l' D' tys' cc own Ts nL' R' kb) {i : Nat} {x : Int64} (hd : decode cc pc = .ok (.lstore i, 2)) (hn : i + 1 < nL') (hl : gz_st2 lv i (.long x) = lv') (k : gz_G z ws (pc + 2) lv' rest) : gz_G z ws pc lv (.long x :: rest) := by
  obtain ⟨p, l, e, R, s, m, args, below, meth, c, D, tys, A, nL, cells, slots, Q⟩ := z
  obtain ⟨hx, hb, hml, hown, hts, hK, hA, rfl, rfl, rfl, rfl, rfl, hcs, hss⟩ := E
  intro H locs ls hP hD hS h
  exact lv_lstore hx hb hd h hn rfl (fun ls' h' => k H locs ls' hP hD hS (gz_has2 h' hl))
theorem gz_aload_n (E : gz_E z l' D' tys' cc own Ts nL' R' kb) {j : Fin 4} {i : Nat} {x : Nat} (hd : decode cc pc = .ok (.aload_n j, 1)) (hi : (j : Nat) = i) (hg : gz_at lv i = some (.ref x)) (k : gz_G z ws (pc + 1) lv (.ref x :: rest)) : gz_G z ws pc lv (rest) := by
  obtain ⟨p, l, e, R, s, m, args, below, meth, c, D, tys, A, nL, cells, slots, Q⟩ := z
  obtain ⟨hx, hb, hml, hown, hts, hK, hA, rfl, rfl, rfl, rfl, rfl, hcs, hss⟩ := E
  intro H locs ls hP hD hS h
  exact lv_aload_n hx hb hd hi (gz_at_ok h hg) (k H locs ls hP hD hS h)
theorem gz_aload (E : gz_E z l' D' tys' cc own Ts nL' R' kb) {i : Nat} {x : Nat} (hd : decode cc pc = .ok (.aload i, 2)) (hg : gz_at lv i = some (.ref x)) (k : gz_G z ws (pc + 2) lv (.ref x :: rest)) : gz_G z ws pc lv (rest) := by
  obtain ⟨p, l, e, R, s, m, args, below, meth, c, D, tys, A, nL, cells, slots, Q⟩ := z
  obtain ⟨hx, hb, hml, hown, hts, hK, hA, rfl, rfl, rfl, rfl, rfl, hcs, hss⟩ := E
  intro H locs ls hP hD hS h
  exact lv_aload hx hb hd (gz_at_ok h hg) (k H locs ls hP hD hS h)
theorem gz_astore_n (E : gz_E z l' D' tys' cc own Ts nL' R' kb) {j : Fin 4} {i : Nat} {x : Nat} (hd : decode cc pc = .ok (.astore_n j, 1)) (hi : (j : Nat) = i) (hn : i < nL') (hl : gz_st1 lv i (.ref x) = lv') (k : gz_G z ws (pc + 1) lv' rest) : gz_G z ws pc lv (.ref x :: rest) := by
  obtain ⟨p, l, e, R, s, m, args, below, meth, c, D, tys, A, nL, cells, slots, Q⟩ := z
  obtain ⟨hx, hb, hml, hown, hts, hK, hA, rfl, rfl, rfl, rfl, rfl, hcs, hss⟩ := E
  intro H locs ls hP hD hS h
  exact lv_astore_n hx hb hd hi h hn rfl (fun ls' h' => k H locs ls' hP hD hS (gz_has1 h' hl))
theorem gz_astore (E : gz_E z l' D' tys' cc own Ts nL' R' kb) {i : Nat} {x : Nat} (hd : decode cc pc = .ok (.astore i, 2)) (hn : i < nL') (hl : gz_st1 lv i (.ref x) = lv') (k : gz_G z ws (pc + 2) lv' rest) : gz_G z ws pc lv (.ref x :: rest) := by
  obtain ⟨p, l, e, R, s, m, args, below, meth, c, D, tys, A, nL, cells, slots, Q⟩ := z
  obtain ⟨hx, hb, hml, hown, hts, hK, hA, rfl, rfl, rfl, rfl, rfl, hcs, hss⟩ := E
  intro H locs ls hP hD hS h
  exact lv_astore hx hb hd h hn rfl (fun ls' h' => k H locs ls' hP hD hS (gz_has1 h' hl))
theorem gz_dload_n (E : gz_E z l' D' tys' cc own Ts nL' R' kb) {j : Fin 4} {i : Nat} {x : UInt64} (hd : decode cc pc = .ok (.dload_n j, 1)) (hi : (j : Nat) = i) (hg : gz_at lv i = some (.double x)) (k : gz_G z ws (pc + 1) lv (.double x :: rest)) : gz_G z ws pc lv (rest) := by
  obtain ⟨p, l, e, R, s, m, args, below, meth, c, D, tys, A, nL, cells, slots, Q⟩ := z
  obtain ⟨hx, hb, hml, hown, hts, hK, hA, rfl, rfl, rfl, rfl, rfl, hcs, hss⟩ := E
  intro H locs ls hP hD hS h
  exact lv_dload_n hx hb hd hi (gz_at_ok h hg) (k H locs ls hP hD hS h)
theorem gz_dload (E : gz_E z l' D' tys' cc own Ts nL' R' kb) {i : Nat} {x : UInt64} (hd : decode cc pc = .ok (.dload i, 2)) (hg : gz_at lv i = some (.double x)) (k : gz_G z ws (pc + 2) lv (.double x :: rest)) : gz_G z ws pc lv (rest) := by
  obtain ⟨p, l, e, R, s, m, args, below, meth, c, D, tys, A, nL, cells, slots, Q⟩ := z
  obtain ⟨hx, hb, hml, hown, hts, hK, hA, rfl, rfl, rfl, rfl, rfl, hcs, hss⟩ := E
  intro H locs ls hP hD hS h
  exact lv_dload hx hb hd (gz_at_ok h hg) (k H locs ls hP hD hS h)
theorem gz_dstore_n (E : gz_E z l' D' tys' cc own Ts nL' R' kb) {j : Fin 4} {i : Nat} {x : UInt64} (hd : decode cc pc = .ok (.dstore_n j, 1)) (hi : (j : Nat) = i) (hn : i + 1 < nL') (hl : gz_st2 lv i (.double x) = lv') (k : gz_G z ws (pc + 1) lv' rest) : gz_G z ws pc lv (.double x :: rest) := by
  obtain ⟨p, l, e, R, s, m, args, below, meth, c, D, tys, A, nL, cells, slots, Q⟩ := z
  obtain ⟨hx, hb, hml, hown, hts, hK, hA, rfl, rfl, rfl, rfl, rfl, hcs, hss⟩ := E
  intro H locs ls hP hD hS h
  exact lv_dstore_n hx hb hd hi h hn rfl (fun ls' h' => k H locs ls' hP hD hS (gz_has2 h' hl))
theorem gz_dstore (E : gz_E z l' D' tys' cc own Ts nL' R' kb) {i : Nat} {x : UInt64} (hd : decode cc pc = .ok (.dstore i, 2)) (hn : i + 1 < nL') (hl : gz_st2 lv i (.double x) = lv') (k : gz_G z ws (pc + 2) lv' rest) : gz_G z ws pc lv (.double x :: rest) := by
  obtain ⟨p, l, e, R, s, m, args, below, meth, c, D, tys, A, nL, cells, slots, Q⟩ := z
  obtain ⟨hx, hb, hml, hown, hts, hK, hA, rfl, rfl, rfl, rfl, rfl, hcs, hss⟩ := E
  intro H locs ls hP hD hS h
  exact lv_dstore hx hb hd h hn rfl (fun ls' h' => k H locs ls' hP hD hS (gz_has2 h' hl))
theorem gz_iinc (E : gz_E z l' D' tys' cc own Ts nL' R' kb) {i : Nat} {n : Int} {x v : Int32} (hd : decode cc pc = .ok (.iinc i n, 3)) (hg : gz_at lv i = some (.int x)) (hv : x + Int32.ofInt n = v) (hn : i < nL') (hl : gz_st1 lv i (.int v) = lv') (k : gz_G z ws (pc + 3) lv' rest) : gz_G z ws pc lv rest := by
  obtain ⟨p, l, e, R, s, m, args, below, meth, c, D, tys, A, nL, cells, slots, Q⟩ := z
  obtain ⟨hx, hb, hml, hown, hts, hK, hA, rfl, rfl, rfl, rfl, rfl, hcs, hss⟩ := E
  intro H locs ls hP hD hS h
  obtain ⟨j, hj⟩ := gz_at_ix hg
  exact lv_iinc hx hb hd h hj hv hn rfl (fun ls' h' => k H locs ls' hP hD hS (gz_has1 h' hl))
theorem gz_iadd (E : gz_E z l' D' tys' cc own Ts nL' R' kb) {x y : Int32} (hd : decode cc pc = .ok (.iadd, 1))  (k : gz_G z ws (pc + 1) lv (.int (x + y) :: rest)) : gz_G z ws pc lv (.int y :: .int x :: rest) := by
  obtain ⟨p, l, e, R, s, m, args, below, meth, c, D, tys, A, nL, cells, slots, Q⟩ := z
  obtain ⟨hx, hb, hml, hown, hts, hK, hA, rfl, rfl, rfl, rfl, rfl, hcs, hss⟩ := E
  intro H locs ls hP hD hS h
  exact lv_iadd hx hb hd (k H locs ls hP hD hS h)
theorem gz_isub (E : gz_E z l' D' tys' cc own Ts nL' R' kb) {x y : Int32} (hd : decode cc pc = .ok (.isub, 1))  (k : gz_G z ws (pc + 1) lv (.int (x - y) :: rest)) : gz_G z ws pc lv (.int y :: .int x :: rest) := by
  obtain ⟨p, l, e, R, s, m, args, below, meth, c, D, tys, A, nL, cells, slots, Q⟩ := z
  obtain ⟨hx, hb, hml, hown, hts, hK, hA, rfl, rfl, rfl, rfl, rfl, hcs, hss⟩ := E
  intro H locs ls hP hD hS h
  exact lv_isub hx hb hd (k H locs ls hP hD hS h)
theorem gz_imul (E : gz_E z l' D' tys' cc own Ts nL' R' kb) {x y : Int32} (hd : decode cc pc = .ok (.imul, 1))  (k : gz_G z ws (pc + 1) lv (.int (x * y) :: rest)) : gz_G z ws pc lv (.int y :: .int x :: rest) := by
  obtain ⟨p, l, e, R, s, m, args, below, meth, c, D, tys, A, nL, cells, slots, Q⟩ := z
  obtain ⟨hx, hb, hml, hown, hts, hK, hA, rfl, rfl, rfl, rfl, rfl, hcs, hss⟩ := E
  intro H locs ls hP hD hS h
  exact lv_imul hx hb hd (k H locs ls hP hD hS h)
theorem gz_iand (E : gz_E z l' D' tys' cc own Ts nL' R' kb) {x y : Int32} (hd : decode cc pc = .ok (.iand, 1))  (k : gz_G z ws (pc + 1) lv (.int (x &&& y) :: rest)) : gz_G z ws pc lv (.int y :: .int x :: rest) := by
  obtain ⟨p, l, e, R, s, m, args, below, meth, c, D, tys, A, nL, cells, slots, Q⟩ := z
  obtain ⟨hx, hb, hml, hown, hts, hK, hA, rfl, rfl, rfl, rfl, rfl, hcs, hss⟩ := E
  intro H locs ls hP hD hS h
  exact lv_iand hx hb hd (k H locs ls hP hD hS h)
theorem gz_ior (E : gz_E z l' D' tys' cc own Ts nL' R' kb) {x y : Int32} (hd : decode cc pc = .ok (.ior, 1))  (k : gz_G z ws (pc + 1) lv (.int (x ||| y) :: rest)) : gz_G z ws pc lv (.int y :: .int x :: rest) := by
  obtain ⟨p, l, e, R, s, m, args, below, meth, c, D, tys, A, nL, cells, slots, Q⟩ := z
  obtain ⟨hx, hb, hml, hown, hts, hK, hA, rfl, rfl, rfl, rfl, rfl, hcs, hss⟩ := E
  intro H locs ls hP hD hS h
  exact lv_ior hx hb hd (k H locs ls hP hD hS h)
theorem gz_ishl (E : gz_E z l' D' tys' cc own Ts nL' R' kb) {x y : Int32} (hd : decode cc pc = .ok (.ishl, 1))  (k : gz_G z ws (pc + 1) lv (.int (x <<< (y &&& 31)) :: rest)) : gz_G z ws pc lv (.int y :: .int x :: rest) := by
  obtain ⟨p, l, e, R, s, m, args, below, meth, c, D, tys, A, nL, cells, slots, Q⟩ := z
  obtain ⟨hx, hb, hml, hown, hts, hK, hA, rfl, rfl, rfl, rfl, rfl, hcs, hss⟩ := E
  intro H locs ls hP hD hS h
  exact lv_ishl hx hb hd (k H locs ls hP hD hS h)
theorem gz_ishr (E : gz_E z l' D' tys' cc own Ts nL' R' kb) {x y : Int32} (hd : decode cc pc = .ok (.ishr, 1))  (k : gz_G z ws (pc + 1) lv (.int (x >>> (y &&& 31)) :: rest)) : gz_G z ws pc lv (.int y :: .int x :: rest) := by
  obtain ⟨p, l, e, R, s, m, args, below, meth, c, D, tys, A, nL, cells, slots, Q⟩ := z
  obtain ⟨hx, hb, hml, hown, hts, hK, hA, rfl, rfl, rfl, rfl, rfl, hcs, hss⟩ := E
  intro H locs ls hP hD hS h
  exact lv_ishr hx hb hd (k H locs ls hP hD hS h)
theorem gz_iushr (E : gz_E z l' D' tys' cc own Ts nL' R' kb) {x y : Int32} (hd : decode cc pc = .ok (.iushr, 1))  (k : gz_G z ws (pc + 1) lv (.int ((x.toUInt32 >>> (y.toUInt32 &&& Int32.toUInt32 31)).toInt32) :: rest)) : gz_G z ws pc lv (.int y :: .int x :: rest) := by
  obtain ⟨p, l, e, R, s, m, args, below, meth, c, D, tys, A, nL, cells, slots, Q⟩ := z
  obtain ⟨hx, hb, hml, hown, hts, hK, hA, rfl, rfl, rfl, rfl, rfl, hcs, hss⟩ := E
  intro H locs ls hP hD hS h
  exact lv_iushr hx hb hd rfl (k H locs ls hP hD hS h)
theorem gz_ladd (E : gz_E z l' D' tys' cc own Ts nL' R' kb) {x y : Int64} (hd : decode cc pc = .ok (.ladd, 1))  (k : gz_G z ws (pc + 1) lv (.long (x + y) :: rest)) : gz_G z ws pc lv (.long y :: .long x :: rest) := by
  obtain ⟨p, l, e, R, s, m, args, below, meth, c, D, tys, A, nL, cells, slots, Q⟩ := z
  obtain ⟨hx, hb, hml, hown, hts, hK, hA, rfl, rfl, rfl, rfl, rfl, hcs, hss⟩ := E
  intro H locs ls hP hD hS h
  exact lv_ladd hx hb hd (k H locs ls hP hD hS h)
theorem gz_lsub (E : gz_E z l' D' tys' cc own Ts nL' R' kb) {x y : Int64} (hd : decode cc pc = .ok (.lsub, 1))  (k : gz_G z ws (pc + 1) lv (.long (x - y) :: rest)) : gz_G z ws pc lv (.long y :: .long x :: rest) := by
  obtain ⟨p, l, e, R, s, m, args, below, meth, c, D, tys, A, nL, cells, slots, Q⟩ := z
  obtain ⟨hx, hb, hml, hown, hts, hK, hA, rfl, rfl, rfl, rfl, rfl, hcs, hss⟩ := E
  intro H locs ls hP hD hS h
  exact lv_lsub hx hb hd (k H locs ls hP hD hS h)
theorem gz_lmul (E : gz_E z l' D' tys' cc own Ts nL' R' kb) {x y : Int64} (hd : decode cc pc = .ok (.lmul, 1))  (k : gz_G z ws (pc + 1) lv (.long (x * y) :: rest)) : gz_G z ws pc lv (.long y :: .long x :: rest) := by
  obtain ⟨p, l, e, R, s, m, args, below, meth, c, D, tys, A, nL, cells, slots, Q⟩ := z
  obtain ⟨hx, hb, hml, hown, hts, hK, hA, rfl, rfl, rfl, rfl, rfl, hcs, hss⟩ := E
  intro H locs ls hP hD hS h
  exact lv_lmul hx hb hd (k H locs ls hP hD hS h)
theorem gz_land (E : gz_E z l' D' tys' cc own Ts nL' R' kb) {x y : Int64} (hd : decode cc pc = .ok (.land, 1))  (k : gz_G z ws (pc + 1) lv (.long (x &&& y) :: rest)) : gz_G z ws pc lv (.long y :: .long x :: rest) := by
  obtain ⟨p, l, e, R, s, m, args, below, meth, c, D, tys, A, nL, cells, slots, Q⟩ := z
  obtain ⟨hx, hb, hml, hown, hts, hK, hA, rfl, rfl, rfl, rfl, rfl, hcs, hss⟩ := E
  intro H locs ls hP hD hS h
  exact lv_land hx hb hd (k H locs ls hP hD hS h)
theorem gz_ldiv (E : gz_E z l' D' tys' cc own Ts nL' R' kb) {x y : Int64} (hd : decode cc pc = .ok (.ldiv, 1)) (hne : ¬ y = 0) (k : gz_G z ws (pc + 1) lv (.long (x / y) :: rest)) : gz_G z ws pc lv (.long y :: .long x :: rest) := by
  obtain ⟨p, l, e, R, s, m, args, below, meth, c, D, tys, A, nL, cells, slots, Q⟩ := z
  obtain ⟨hx, hb, hml, hown, hts, hK, hA, rfl, rfl, rfl, rfl, rfl, hcs, hss⟩ := E
  intro H locs ls hP hD hS h
  exact lv_ldiv hx hb hd hne (k H locs ls hP hD hS h)
theorem gz_lrem (E : gz_E z l' D' tys' cc own Ts nL' R' kb) {x y : Int64} (hd : decode cc pc = .ok (.lrem, 1)) (hne : ¬ y = 0) (k : gz_G z ws (pc + 1) lv (.long (x - x / y * y) :: rest)) : gz_G z ws pc lv (.long y :: .long x :: rest) := by
  obtain ⟨p, l, e, R, s, m, args, below, meth, c, D, tys, A, nL, cells, slots, Q⟩ := z
  obtain ⟨hx, hb, hml, hown, hts, hK, hA, rfl, rfl, rfl, rfl, rfl, hcs, hss⟩ := E
  intro H locs ls hP hD hS h
  exact lv_lrem hx hb hd hne (k H locs ls hP hD hS h)
theorem gz_lneg (E : gz_E z l' D' tys' cc own Ts nL' R' kb) {x : Int64} (hd : decode cc pc = .ok (.lneg, 1))  (k : gz_G z ws (pc + 1) lv (.long (-x) :: rest)) : gz_G z ws pc lv (.long x :: rest) := by
  obtain ⟨p, l, e, R, s, m, args, below, meth, c, D, tys, A, nL, cells, slots, Q⟩ := z
  obtain ⟨hx, hb, hml, hown, hts, hK, hA, rfl, rfl, rfl, rfl, rfl, hcs, hss⟩ := E
  intro H locs ls hP hD hS h
  exact lv_lneg hx hb hd (k H locs ls hP hD hS h)
theorem gz_lshr (E : gz_E z l' D' tys' cc own Ts nL' R' kb) {x : Int64} {y : Int32} (hd : decode cc pc = .ok (.lshr, 1))  (k : gz_G z ws (pc + 1) lv (.long (x >>> (y.toInt64 &&& 63)) :: rest)) : gz_G z ws pc lv (.int y :: .long x :: rest) := by
  obtain ⟨p, l, e, R, s, m, args, below, meth, c, D, tys, A, nL, cells, slots, Q⟩ := z
  obtain ⟨hx, hb, hml, hown, hts, hK, hA, rfl, rfl, rfl, rfl, rfl, hcs, hss⟩ := E
  intro H locs ls hP hD hS h
  exact lv_lshr hx hb hd rfl (k H locs ls hP hD hS h)
theorem gz_i2l (E : gz_E z l' D' tys' cc own Ts nL' R' kb) {x : Int32} (hd : decode cc pc = .ok (.i2l, 1))  (k : gz_G z ws (pc + 1) lv (.long x.toInt64 :: rest)) : gz_G z ws pc lv (.int x :: rest) := by
  obtain ⟨p, l, e, R, s, m, args, below, meth, c, D, tys, A, nL, cells, slots, Q⟩ := z
  obtain ⟨hx, hb, hml, hown, hts, hK, hA, rfl, rfl, rfl, rfl, rfl, hcs, hss⟩ := E
  intro H locs ls hP hD hS h
  exact lv_i2l hx hb hd rfl (k H locs ls hP hD hS h)
theorem gz_i2d (E : gz_E z l' D' tys' cc own Ts nL' R' kb) {x : Int32} (hd : decode cc pc = .ok (.i2d, 1))  (k : gz_G z ws (pc + 1) lv (.double (FP.i2d x) :: rest)) : gz_G z ws pc lv (.int x :: rest) := by
  obtain ⟨p, l, e, R, s, m, args, below, meth, c, D, tys, A, nL, cells, slots, Q⟩ := z
  obtain ⟨hx, hb, hml, hown, hts, hK, hA, rfl, rfl, rfl, rfl, rfl, hcs, hss⟩ := E
  intro H locs ls hP hD hS h
  exact lv_i2d hx hb hd (k H locs ls hP hD hS h)
theorem gz_l2d (E : gz_E z l' D' tys' cc own Ts nL' R' kb) {x : Int64} (hd : decode cc pc = .ok (.l2d, 1))  (k : gz_G z ws (pc + 1) lv (.double (FP.l2d x) :: rest)) : gz_G z ws pc lv (.long x :: rest) := by
  obtain ⟨p, l, e, R, s, m, args, below, meth, c, D, tys, A, nL, cells, slots, Q⟩ := z
  obtain ⟨hx, hb, hml, hown, hts, hK, hA, rfl, rfl, rfl, rfl, rfl, hcs, hss⟩ := E
  intro H locs ls hP hD hS h
  exact lv_l2d hx hb hd (k H locs ls hP hD hS h)
theorem gz_d2l (E : gz_E z l' D' tys' cc own Ts nL' R' kb) {x : UInt64} (hd : decode cc pc = .ok (.d2l, 1))  (k : gz_G z ws (pc + 1) lv (.long (FP.d2l x) :: rest)) : gz_G z ws pc lv (.double x :: rest) := by
  obtain ⟨p, l, e, R, s, m, args, below, meth, c, D, tys, A, nL, cells, slots, Q⟩ := z
  obtain ⟨hx, hb, hml, hown, hts, hK, hA, rfl, rfl, rfl, rfl, rfl, hcs, hss⟩ := E
  intro H locs ls hP hD hS h
  exact lv_d2l hx hb hd (k H locs ls hP hD hS h)
theorem gz_dadd (E : gz_E z l' D' tys' cc own Ts nL' R' kb) {x y v : UInt64} (hd : decode cc pc = .ok (.dadd, 1)) (hv : FP.dadd x y = v) (hne : vf_n64 v) (k : gz_G z ws (pc + 1) lv (.double v :: rest)) : gz_G z ws pc lv (.double y :: .double x :: rest) := by
  obtain ⟨p, l, e, R, s, m, args, below, meth, c, D, tys, A, nL, cells, slots, Q⟩ := z
  obtain ⟨hx, hb, hml, hown, hts, hK, hA, rfl, rfl, rfl, rfl, rfl, hcs, hss⟩ := E
  intro H locs ls hP hD hS h
  subst hv
  exact lv_dadd hx hb hd hne (k H locs ls hP hD hS h)
theorem gz_dsub (E : gz_E z l' D' tys' cc own Ts nL' R' kb) {x y v : UInt64} (hd : decode cc pc = .ok (.dsub, 1)) (hv : FP.dsub x y = v) (hne : vf_n64 v) (k : gz_G z ws (pc + 1) lv (.double v :: rest)) : gz_G z ws pc lv (.double y :: .double x :: rest) := by
  obtain ⟨p, l, e, R, s, m, args, below, meth, c, D, tys, A, nL, cells, slots, Q⟩ := z
  obtain ⟨hx, hb, hml, hown, hts, hK, hA, rfl, rfl, rfl, rfl, rfl, hcs, hss⟩ := E
  intro H locs ls hP hD hS h
  subst hv
  exact lv_dsub hx hb hd hne (k H locs ls hP hD hS h)
theorem gz_dmul (E : gz_E z l' D' tys' cc own Ts nL' R' kb) {x y v : UInt64} (hd : decode cc pc = .ok (.dmul, 1)) (hv : FP.dmul x y = v) (hne : vf_n64 v) (k : gz_G z ws (pc + 1) lv (.double v :: rest)) : gz_G z ws pc lv (.double y :: .double x :: rest) := by
  obtain ⟨p, l, e, R, s, m, args, below, meth, c, D, tys, A, nL, cells, slots, Q⟩ := z
  obtain ⟨hx, hb, hml, hown, hts, hK, hA, rfl, rfl, rfl, rfl, rfl, hcs, hss⟩ := E
  intro H locs ls hP hD hS h
  subst hv
  exact lv_dmul hx hb hd hne (k H locs ls hP hD hS h)
theorem gz_ddiv (E : gz_E z l' D' tys' cc own Ts nL' R' kb) {x y v : UInt64} (hd : decode cc pc = .ok (.ddiv, 1)) (hv : FP.ddiv x y = v) (hne : vf_n64 v) (k : gz_G z ws (pc + 1) lv (.double v :: rest)) : gz_G z ws pc lv (.double y :: .double x :: rest) := by
  obtain ⟨p, l, e, R, s, m, args, below, meth, c, D, tys, A, nL, cells, slots, Q⟩ := z
  obtain ⟨hx, hb, hml, hown, hts, hK, hA, rfl, rfl, rfl, rfl, rfl, hcs, hss⟩ := E
  intro H locs ls hP hD hS h
  subst hv
  exact lv_ddiv hx hb hd hne (k H locs ls hP hD hS h)
theorem gz_dup (E : gz_E z l' D' tys' cc own Ts nL' R' kb) {va : Value} (hd : decode cc pc = .ok (.dup, 1)) (hva : va.category = 1) (k : gz_G z ws (pc + 1) lv (va :: va :: rest)) : gz_G z ws pc lv (va :: rest) := by
  obtain ⟨p, l, e, R, s, m, args, below, meth, c, D, tys, A, nL, cells, slots, Q⟩ := z
  obtain ⟨hx, hb, hml, hown, hts, hK, hA, rfl, rfl, rfl, rfl, rfl, hcs, hss⟩ := E
  intro H locs ls hP hD hS h
  exact lv_dup hx hb hd hva (k H locs ls hP hD hS h)
theorem gz_dup2_11 (E : gz_E z l' D' tys' cc own Ts nL' R' kb) {va vb : Value} (hd : decode cc pc = .ok (.dup2, 1)) (hva : va.category = 1) (hvb : vb.category = 1) (k : gz_G z ws (pc + 1) lv (va :: vb :: va :: vb :: rest)) : gz_G z ws pc lv (va :: vb :: rest) := by
  obtain ⟨p, l, e, R, s, m, args, below, meth, c, D, tys, A, nL, cells, slots, Q⟩ := z
  obtain ⟨hx, hb, hml, hown, hts, hK, hA, rfl, rfl, rfl, rfl, rfl, hcs, hss⟩ := E
  intro H locs ls hP hD hS h
  exact lv_dup2_11 hx hb hd hva hvb (k H locs ls hP hD hS h)
theorem gz_lcmp (E : gz_E z l' D' tys' cc own Ts nL' R' kb) {x y : Int64} (hd : decode cc pc = .ok (.lcmp, 1)) (k : gz_G z ws (pc + 1) lv (.int (lg_cmp x y) :: rest)) : gz_G z ws pc lv (.long y :: .long x :: rest) := by
  obtain ⟨p, l, e, R, s, m, args, below, meth, c, D, tys, A, nL, cells, slots, Q⟩ := z
  obtain ⟨hx, hb, hml, hown, hts, hK, hA, rfl, rfl, rfl, rfl, rfl, hcs, hss⟩ := E
  intro H locs ls hP hD hS h
  exact W.lcmp hx hb hd (k H locs ls hP hD hS h)
theorem gz_dcmp (E : gz_E z l' D' tys' cc own Ts nL' R' kb) {x y : UInt64} {op : CmpOp} {v : Int32} (hd : decode cc pc = .ok (.dcmp op, 1)) (hv : Op.cmpValue (FP.dcmp x y) op = v) (k : gz_G z ws (pc + 1) lv (.int v :: rest)) : gz_G z ws pc lv (.double y :: .double x :: rest) := by
  obtain ⟨p, l, e, R, s, m, args, below, meth, c, D, tys, A, nL, cells, slots, Q⟩ := z
  obtain ⟨hx, hb, hml, hown, hts, hK, hA, rfl, rfl, rfl, rfl, rfl, hcs, hss⟩ := E
  intro H locs ls hP hD hS h
  subst hv
  exact lv_dcmp hx hb hd (k H locs ls hP hD hS h)
theorem gz_if_eq (E : gz_E z l' D' tys' cc own Ts nL' R' kb) {x : Int32} {off : Int} {tgt : Nat} (hd : decode cc pc = .ok (.ifCond .eq off, 3)) (ht : (pc : Int) + off = (tgt : Int)) (kt : x = 0 → gz_G z ws tgt lv rest) (kf : ¬ x = 0 → gz_G z ws (pc + 3) lv rest) : gz_G z ws pc lv (.int x :: rest) := by
  obtain ⟨p, l, e, R, s, m, args, below, meth, c, D, tys, A, nL, cells, slots, Q⟩ := z
  obtain ⟨hx, hb, hml, hown, hts, hK, hA, rfl, rfl, rfl, rfl, rfl, hcs, hss⟩ := E
  intro H locs ls hP hD hS h
  exact lv_if_eq hx hb hd ht (fun q => kt q H locs ls hP hD hS h) (fun q => kf q H locs ls hP hD hS h)
theorem gz_icmp_eq (E : gz_E z l' D' tys' cc own Ts nL' R' kb) {x y : Int32} {off : Int} {tgt : Nat} (hd : decode cc pc = .ok (.if_icmp .eq off, 3)) (ht : (pc : Int) + off = (tgt : Int)) (kt : x = y → gz_G z ws tgt lv rest) (kf : ¬ x = y → gz_G z ws (pc + 3) lv rest) : gz_G z ws pc lv (.int y :: .int x :: rest) := by
  obtain ⟨p, l, e, R, s, m, args, below, meth, c, D, tys, A, nL, cells, slots, Q⟩ := z
  obtain ⟨hx, hb, hml, hown, hts, hK, hA, rfl, rfl, rfl, rfl, rfl, hcs, hss⟩ := E
  intro H locs ls hP hD hS h
  exact lv_icmp_eq hx hb hd ht (fun q => kt q H locs ls hP hD hS h) (fun q => kf q H locs ls hP hD hS h)
theorem gz_lc_eq (E : gz_E z l' D' tys' cc own Ts nL' R' kb) {x y : Int64} {off : Int} {tgt : Nat} (hd0 : decode cc pc = .ok (.lcmp, 1)) (hd : decode cc (pc + 1) = .ok (.ifCond .eq off, 3)) (ht : ((pc + 1 : Nat) : Int) + off = (tgt : Int)) (kt : x = y → gz_G z ws tgt lv rest) (kf : ¬ x = y → gz_G z ws (pc + 1 + 3) lv rest) : gz_G z ws pc lv (.long y :: .long x :: rest) := by
  refine gz_lcmp E hd0 (gz_if_eq E hd ht (fun q => kt ?_) (fun q => kf ?_))
  · exact (lg_cmp_eq x y).mp q
  · exact fun r => q ((lg_cmp_eq x y).mpr r)
theorem gz_if_ne (E : gz_E z l' D' tys' cc own Ts nL' R' kb) {x : Int32} {off : Int} {tgt : Nat} (hd : decode cc pc = .ok (.ifCond .ne off, 3)) (ht : (pc : Int) + off = (tgt : Int)) (kt : ¬ x = 0 → gz_G z ws tgt lv rest) (kf : x = 0 → gz_G z ws (pc + 3) lv rest) : gz_G z ws pc lv (.int x :: rest) := by
  obtain ⟨p, l, e, R, s, m, args, below, meth, c, D, tys, A, nL, cells, slots, Q⟩ := z
  obtain ⟨hx, hb, hml, hown, hts, hK, hA, rfl, rfl, rfl, rfl, rfl, hcs, hss⟩ := E
  intro H locs ls hP hD hS h
  exact lv_if_ne hx hb hd ht (fun q => kt q H locs ls hP hD hS h) (fun q => kf q H locs ls hP hD hS h)
theorem gz_icmp_ne (E : gz_E z l' D' tys' cc own Ts nL' R' kb) {x y : Int32} {off : Int} {tgt : Nat} (hd : decode cc pc = .ok (.if_icmp .ne off, 3)) (ht : (pc : Int) + off = (tgt : Int)) (kt : ¬ x = y → gz_G z ws tgt lv rest) (kf : x = y → gz_G z ws (pc + 3) lv rest) : gz_G z ws pc lv (.int y :: .int x :: rest) := by
  obtain ⟨p, l, e, R, s, m, args, below, meth, c, D, tys, A, nL, cells, slots, Q⟩ := z
  obtain ⟨hx, hb, hml, hown, hts, hK, hA, rfl, rfl, rfl, rfl, rfl, hcs, hss⟩ := E
  intro H locs ls hP hD hS h
  exact lv_icmp_ne hx hb hd ht (fun q => kt q H locs ls hP hD hS h) (fun q => kf q H locs ls hP hD hS h)
theorem gz_lc_ne (E : gz_E z l' D' tys' cc own Ts nL' R' kb) {x y : Int64} {off : Int} {tgt : Nat} (hd0 : decode cc pc = .ok (.lcmp, 1)) (hd : decode cc (pc + 1) = .ok (.ifCond .ne off, 3)) (ht : ((pc + 1 : Nat) : Int) + off = (tgt : Int)) (kt : ¬ x = y → gz_G z ws tgt lv rest) (kf : x = y → gz_G z ws (pc + 1 + 3) lv rest) : gz_G z ws pc lv (.long y :: .long x :: rest) := by
  refine gz_lcmp E hd0 (gz_if_ne E hd ht (fun q => kt ?_) (fun q => kf ?_))
  · exact fun r => q ((lg_cmp_eq x y).mpr r)
  · exact (lg_cmp_eq x y).mp q
theorem gz_if_lt (E : gz_E z l' D' tys' cc own Ts nL' R' kb) {x : Int32} {off : Int} {tgt : Nat} (hd : decode cc pc = .ok (.ifCond .lt off, 3)) (ht : (pc : Int) + off = (tgt : Int)) (kt : x < 0 → gz_G z ws tgt lv rest) (kf : ¬ x < 0 → gz_G z ws (pc + 3) lv rest) : gz_G z ws pc lv (.int x :: rest) := by
  obtain ⟨p, l, e, R, s, m, args, below, meth, c, D, tys, A, nL, cells, slots, Q⟩ := z
  obtain ⟨hx, hb, hml, hown, hts, hK, hA, rfl, rfl, rfl, rfl, rfl, hcs, hss⟩ := E
  intro H locs ls hP hD hS h
  exact lv_if_lt hx hb hd ht (fun q => kt q H locs ls hP hD hS h) (fun q => kf q H locs ls hP hD hS h)
theorem gz_icmp_lt (E : gz_E z l' D' tys' cc own Ts nL' R' kb) {x y : Int32} {off : Int} {tgt : Nat} (hd : decode cc pc = .ok (.if_icmp .lt off, 3)) (ht : (pc : Int) + off = (tgt : Int)) (kt : x < y → gz_G z ws tgt lv rest) (kf : ¬ x < y → gz_G z ws (pc + 3) lv rest) : gz_G z ws pc lv (.int y :: .int x :: rest) := by
  obtain ⟨p, l, e, R, s, m, args, below, meth, c, D, tys, A, nL, cells, slots, Q⟩ := z
  obtain ⟨hx, hb, hml, hown, hts, hK, hA, rfl, rfl, rfl, rfl, rfl, hcs, hss⟩ := E
  intro H locs ls hP hD hS h
  exact lv_icmp_lt hx hb hd ht (fun q => kt q H locs ls hP hD hS h) (fun q => kf q H locs ls hP hD hS h)
theorem gz_lc_lt (E : gz_E z l' D' tys' cc own Ts nL' R' kb) {x y : Int64} {off : Int} {tgt : Nat} (hd0 : decode cc pc = .ok (.lcmp, 1)) (hd : decode cc (pc + 1) = .ok (.ifCond .lt off, 3)) (ht : ((pc + 1 : Nat) : Int) + off = (tgt : Int)) (kt : x < y → gz_G z ws tgt lv rest) (kf : ¬ x < y → gz_G z ws (pc + 1 + 3) lv rest) : gz_G z ws pc lv (.long y :: .long x :: rest) := by
  refine gz_lcmp E hd0 (gz_if_lt E hd ht (fun q => kt ?_) (fun q => kf ?_))
  · exact (lg_cmp_lt x y).mp q
  · exact fun r => q ((lg_cmp_lt x y).mpr r)
theorem gz_if_ge (E : gz_E z l' D' tys' cc own Ts nL' R' kb) {x : Int32} {off : Int} {tgt : Nat} (hd : decode cc pc = .ok (.ifCond .ge off, 3)) (ht : (pc : Int) + off = (tgt : Int)) (kt : 0 ≤ x → gz_G z ws tgt lv rest) (kf : ¬ 0 ≤ x → gz_G z ws (pc + 3) lv rest) : gz_G z ws pc lv (.int x :: rest) := by
  obtain ⟨p, l, e, R, s, m, args, below, meth, c, D, tys, A, nL, cells, slots, Q⟩ := z
  obtain ⟨hx, hb, hml, hown, hts, hK, hA, rfl, rfl, rfl, rfl, rfl, hcs, hss⟩ := E
  intro H locs ls hP hD hS h
  exact lv_if_ge hx hb hd ht (fun q => kt q H locs ls hP hD hS h) (fun q => kf q H locs ls hP hD hS h)
theorem gz_icmp_ge (E : gz_E z l' D' tys' cc own Ts nL' R' kb) {x y : Int32} {off : Int} {tgt : Nat} (hd : decode cc pc = .ok (.if_icmp .ge off, 3)) (ht : (pc : Int) + off = (tgt : Int)) (kt : y ≤ x → gz_G z ws tgt lv rest) (kf : ¬ y ≤ x → gz_G z ws (pc + 3) lv rest) : gz_G z ws pc lv (.int y :: .int x :: rest) := by
  obtain ⟨p, l, e, R, s, m, args, below, meth, c, D, tys, A, nL, cells, slots, Q⟩ := z
  obtain ⟨hx, hb, hml, hown, hts, hK, hA, rfl, rfl, rfl, rfl, rfl, hcs, hss⟩ := E
  intro H locs ls hP hD hS h
  exact lv_icmp_ge hx hb hd ht (fun q => kt q H locs ls hP hD hS h) (fun q => kf q H locs ls hP hD hS h)
theorem gz_lc_ge (E : gz_E z l' D' tys' cc own Ts nL' R' kb) {x y : Int64} {off : Int} {tgt : Nat} (hd0 : decode cc pc = .ok (.lcmp, 1)) (hd : decode cc (pc + 1) = .ok (.ifCond .ge off, 3)) (ht : ((pc + 1 : Nat) : Int) + off = (tgt : Int)) (kt : y ≤ x → gz_G z ws tgt lv rest) (kf : ¬ y ≤ x → gz_G z ws (pc + 1 + 3) lv rest) : gz_G z ws pc lv (.long y :: .long x :: rest) := by
  refine gz_lcmp E hd0 (gz_if_ge E hd ht (fun q => kt ?_) (fun q => kf ?_))
  · exact (lg_cmp_ge x y).mp q
  · exact fun r => q ((lg_cmp_ge x y).mpr r)
theorem gz_if_gt (E : gz_E z l' D' tys' cc own Ts nL' R' kb) {x : Int32} {off : Int} {tgt : Nat} (hd : decode cc pc = .ok (.ifCond .gt off, 3)) (ht : (pc : Int) + off = (tgt : Int)) (kt : 0 < x → gz_G z ws tgt lv rest) (kf : ¬ 0 < x → gz_G z ws (pc + 3) lv rest) : gz_G z ws pc lv (.int x :: rest) := by
  obtain ⟨p, l, e, R, s, m, args, below, meth, c, D, tys, A, nL, cells, slots, Q⟩ := z
  obtain ⟨hx, hb, hml, hown, hts, hK, hA, rfl, rfl, rfl, rfl, rfl, hcs, hss⟩ := E
  intro H locs ls hP hD hS h
  exact lv_if_gt hx hb hd ht (fun q => kt q H locs ls hP hD hS h) (fun q => kf q H locs ls hP hD hS h)
theorem gz_icmp_gt (E : gz_E z l' D' tys' cc own Ts nL' R' kb) {x y : Int32} {off : Int} {tgt : Nat} (hd : decode cc pc = .ok (.if_icmp .gt off, 3)) (ht : (pc : Int) + off = (tgt : Int)) (kt : y < x → gz_G z ws tgt lv rest) (kf : ¬ y < x → gz_G z ws (pc + 3) lv rest) : gz_G z ws pc lv (.int y :: .int x :: rest) := by
  obtain ⟨p, l, e, R, s, m, args, below, meth, c, D, tys, A, nL, cells, slots, Q⟩ := z
  obtain ⟨hx, hb, hml, hown, hts, hK, hA, rfl, rfl, rfl, rfl, rfl, hcs, hss⟩ := E
  intro H locs ls hP hD hS h
  exact lv_icmp_gt hx hb hd ht (fun q => kt q H locs ls hP hD hS h) (fun q => kf q H locs ls hP hD hS h)
theorem gz_lc_gt (E : gz_E z l' D' tys' cc own Ts nL' R' kb) {x y : Int64} {off : Int} {tgt : Nat} (hd0 : decode cc pc = .ok (.lcmp, 1)) (hd : decode cc (pc + 1) = .ok (.ifCond .gt off, 3)) (ht : ((pc + 1 : Nat) : Int) + off = (tgt : Int)) (kt : y < x → gz_G z ws tgt lv rest) (kf : ¬ y < x → gz_G z ws (pc + 1 + 3) lv rest) : gz_G z ws pc lv (.long y :: .long x :: rest) := by
  refine gz_lcmp E hd0 (gz_if_gt E hd ht (fun q => kt ?_) (fun q => kf ?_))
  · exact (lg_cmp_gt x y).mp q
  · exact fun r => q ((lg_cmp_gt x y).mpr r)
theorem gz_if_le (E : gz_E z l' D' tys' cc own Ts nL' R' kb) {x : Int32} {off : Int} {tgt : Nat} (hd : decode cc pc = .ok (.ifCond .le off, 3)) (ht : (pc : Int) + off = (tgt : Int)) (kt : x ≤ 0 → gz_G z ws tgt lv rest) (kf : ¬ x ≤ 0 → gz_G z ws (pc + 3) lv rest) : gz_G z ws pc lv (.int x :: rest) := by
  obtain ⟨p, l, e, R, s, m, args, below, meth, c, D, tys, A, nL, cells, slots, Q⟩ := z
  obtain ⟨hx, hb, hml, hown, hts, hK, hA, rfl, rfl, rfl, rfl, rfl, hcs, hss⟩ := E
  intro H locs ls hP hD hS h
  exact lv_if_le hx hb hd ht (fun q => kt q H locs ls hP hD hS h) (fun q => kf q H locs ls hP hD hS h)
theorem gz_icmp_le (E : gz_E z l' D' tys' cc own Ts nL' R' kb) {x y : Int32} {off : Int} {tgt : Nat} (hd : decode cc pc = .ok (.if_icmp .le off, 3)) (ht : (pc : Int) + off = (tgt : Int)) (kt : x ≤ y → gz_G z ws tgt lv rest) (kf : ¬ x ≤ y → gz_G z ws (pc + 3) lv rest) : gz_G z ws pc lv (.int y :: .int x :: rest) := by
  obtain ⟨p, l, e, R, s, m, args, below, meth, c, D, tys, A, nL, cells, slots, Q⟩ := z
  obtain ⟨hx, hb, hml, hown, hts, hK, hA, rfl, rfl, rfl, rfl, rfl, hcs, hss⟩ := E
  intro H locs ls hP hD hS h
  exact lv_icmp_le hx hb hd ht (fun q => kt q H locs ls hP hD hS h) (fun q => kf q H locs ls hP hD hS h)
theorem gz_lc_le (E : gz_E z l' D' tys' cc own Ts nL' R' kb) {x y : Int64} {off : Int} {tgt : Nat} (hd0 : decode cc pc = .ok (.lcmp, 1)) (hd : decode cc (pc + 1) = .ok (.ifCond .le off, 3)) (ht : ((pc + 1 : Nat) : Int) + off = (tgt : Int)) (kt : x ≤ y → gz_G z ws tgt lv rest) (kf : ¬ x ≤ y → gz_G z ws (pc + 1 + 3) lv rest) : gz_G z ws pc lv (.long y :: .long x :: rest) := by
  refine gz_lcmp E hd0 (gz_if_le E hd ht (fun q => kt ?_) (fun q => kf ?_))
  · exact (lg_cmp_le x y).mp q
  · exact fun r => q ((lg_cmp_le x y).mpr r)
theorem gz_goto (E : gz_E z l' D' tys' cc own Ts nL' R' kb) {off : Int} {tgt : Nat} (hd : decode cc pc = .ok (.goto off, 3)) (ht : (pc : Int) + off = (tgt : Int)) (k : gz_G z ws tgt lv st) : gz_G z ws pc lv st := by
  obtain ⟨p, l, e, R, s, m, args, below, meth, c, D, tys, A, nL, cells, slots, Q⟩ := z
  obtain ⟨hx, hb, hml, hown, hts, hK, hA, rfl, rfl, rfl, rfl, rfl, hcs, hss⟩ := E
  intro H locs ls hP hD hS h
  exact lv_goto hx hb hd ht (k H locs ls hP hD hS h)
theorem gz_get (E : gz_E z l' D' tys' cc own Ts nL' R' true) {C : String} {T : u_T} {N ci index a : Nat} (hin : ∀ w ∈ u_ws C T N, w ∈ Ts) (q0 : Nat) (f0 : Nat) {fs : List Value} (hd : decode cc pc = .ok (.getfield index, 3)) (hlink : Cond.fieldLink own index C (T f0).2.1 (T f0).2.2.1 ∈ Ts) (he : ws[q0]? = some (a, .inr (ci, fs))) (hc : vwCl[ci]? = some (C, T, N)) (hk : f0 < N) (hC : (T f0).1 = C) {v : Value} (hv : fs[f0]? = some v) (k : gz_G z ws (pc + 3) lv (v :: rest)) : gz_G z ws pc lv (.ref a :: rest) := by
  obtain ⟨p, l, e, R, s, m, args, below, meth, c, D, tys, A, nL, cells, slots, Q⟩ := z
  obtain ⟨hx, hb, hml, hown, hts, hK, hA, rfl, rfl, rfl, rfl, rfl, hcs, hss⟩ := E
  have hK := hK rfl
  have hA := hA rfl
  intro H locs ls hP hD hS h
  exact va_get (D := D) (ci := ci) hx hb hts hin hown hK hP q0 he hc f0 hk (hts _ hlink) (fun x hx => by rw [← hC]; exact hx) hv hd (k H locs ls hP hD hS h)
theorem gz_put (E : gz_E z l' D' tys' cc own Ts nL' R' true) {C : String} {T : u_T} {N ci index a : Nat} (hin : ∀ w ∈ u_ws C T N, w ∈ Ts) (q0 : Nat) (f0 : Nat) {fs : List Value} (hd : decode cc pc = .ok (.putfield index, 3)) (hlink : Cond.fieldLink own index C (T f0).2.1 (T f0).2.2.1 ∈ Ts) (he : ws[q0]? = some (a, .inr (ci, fs))) (hc : vwCl[ci]? = some (C, T, N)) (hk : f0 < N) (hC : (T f0).1 = C) (ty0 : Nat → FieldType) (hty : ∀ k, k < N → parseFieldDescriptor (T k).2.2.1 = some (ty0 k)) (hnm : ∀ a, a < N → ∀ b, b < N → a ≠ b → (T a).2.1 ≠ (T b).2.1) (hfin : (T f0).2.2.2 = false) {v : Value} (hn : narrow (ty0 f0) v = v) (hfit : fits (ty0 f0) v = true) (hl : f0 < fs.length) (k : gz_G z (ws.set q0 (a, .inr (ci, fs.set f0 v))) (pc + 3) lv rest) : gz_G z ws pc lv (v :: .ref a :: rest) := by
  obtain ⟨p, l, e, R, s, m, args, below, meth, c, D, tys, A, nL, cells, slots, Q⟩ := z
  obtain ⟨hx, hb, hml, hown, hts, hK, hA, rfl, rfl, rfl, rfl, rfl, hcs, hss⟩ := E
  have hK := hK rfl
  have hA := hA rfl
  intro H locs ls hP hD hS h
  exact va_put (D := D) (ci := ci) (ty := ty0 f0) hx hb hts hin ty0 hty hnm hown hK hP hD hS q0 he hc f0 hk (hts _ hlink) (fun x hx => by rw [← hC]; exact hx) hfin (hty f0 hk) hn hfit hl hd (fun H1 locs1 hP hD hS => k H1 locs1 ls hP hD hS h)
theorem gz_iald (E : gz_E z l' D' tys' cc own Ts nL' R' true) (q0 t0 : Nat) {a : Nat} {cA : ClassId} {n : Nat} {f : Nat → Int32} {i : Int32} (hd : decode cc pc = .ok (.iaload, 1)) (ha : ws[q0]? = some (a, .inl (cA, n, .inl f))) (ht : tys'[t0]? = some (cA, .int)) (hin : vp_in i n) (k : gz_G z ws (pc + 1) lv (.int (f i.toNatClampNeg) :: rest)) : gz_G z ws pc lv (.int i :: .ref a :: rest) := by
  obtain ⟨p, l, e, R, s, m, args, below, meth, c, D, tys, A, nL, cells, slots, Q⟩ := z
  obtain ⟨hx, hb, hml, hown, hts, hK, hA, rfl, rfl, rfl, rfl, rfl, hcs, hss⟩ := E
  have hK := hK rfl
  have hA := hA rfl
  intro H locs ls hP hD hS h
  exact va_iald hx hb hK hP q0 t0 ha ht hin hd (k H locs ls hP hD hS h)
theorem gz_iast (E : gz_E z l' D' tys' cc own Ts nL' R' true) (q0 t0 : Nat) {a : Nat} {cA : ClassId} {n : Nat} {f : Nat → Int32} {i : Int32} {x : Int32} (hd : decode cc pc = .ok (.iastore, 1)) (ha : ws[q0]? = some (a, .inl (cA, n, .inl f))) (ht : tys'[t0]? = some (cA, .int)) (hin : vp_in i n) (k : gz_G z (ws.set q0 (a, .inl (cA, n, .inl (upd f i.toNatClampNeg x)))) (pc + 1) lv rest) : gz_G z ws pc lv (.int x :: .int i :: .ref a :: rest) := by
  obtain ⟨p, l, e, R, s, m, args, below, meth, c, D, tys, A, nL, cells, slots, Q⟩ := z
  obtain ⟨hx, hb, hml, hown, hts, hK, hA, rfl, rfl, rfl, rfl, rfl, hcs, hss⟩ := E
  have hK := hK rfl
  have hA := hA rfl
  intro H locs ls hP hD hS h
  exact va_iast hx hb hK hP hD hS q0 t0 ha ht hin hd (fun H1 locs1 hP hD hS => k H1 locs1 ls hP hD hS h)
theorem gz_lald (E : gz_E z l' D' tys' cc own Ts nL' R' true) (q0 t0 : Nat) {a : Nat} {cA : ClassId} {n : Nat} {f : Nat → Int64} {i : Int32} (hd : decode cc pc = .ok (.laload, 1)) (ha : ws[q0]? = some (a, .inl (cA, n, .inr (.inl f)))) (ht : tys'[t0]? = some (cA, .long)) (hin : vp_in i n) (k : gz_G z ws (pc + 1) lv (.long (f i.toNatClampNeg) :: rest)) : gz_G z ws pc lv (.int i :: .ref a :: rest) := by
  obtain ⟨p, l, e, R, s, m, args, below, meth, c, D, tys, A, nL, cells, slots, Q⟩ := z
  obtain ⟨hx, hb, hml, hown, hts, hK, hA, rfl, rfl, rfl, rfl, rfl, hcs, hss⟩ := E
  have hK := hK rfl
  have hA := hA rfl
  intro H locs ls hP hD hS h
  exact va_lald hx hb hK hP q0 t0 ha ht hin hd (k H locs ls hP hD hS h)
theorem gz_last (E : gz_E z l' D' tys' cc own Ts nL' R' true) (q0 t0 : Nat) {a : Nat} {cA : ClassId} {n : Nat} {f : Nat → Int64} {i : Int32} {x : Int64} (hd : decode cc pc = .ok (.lastore, 1)) (ha : ws[q0]? = some (a, .inl (cA, n, .inr (.inl f)))) (ht : tys'[t0]? = some (cA, .long)) (hin : vp_in i n) (k : gz_G z (ws.set q0 (a, .inl (cA, n, .inr (.inl (vp_updL f i.toNatClampNeg x))))) (pc + 1) lv rest) : gz_G z ws pc lv (.long x :: .int i :: .ref a :: rest) := by
  obtain ⟨p, l, e, R, s, m, args, below, meth, c, D, tys, A, nL, cells, slots, Q⟩ := z
  obtain ⟨hx, hb, hml, hown, hts, hK, hA, rfl, rfl, rfl, rfl, rfl, hcs, hss⟩ := E
  have hK := hK rfl
  have hA := hA rfl
  intro H locs ls hP hD hS h
  exact va_last hx hb hK hP hD hS q0 t0 ha ht hin hd (fun H1 locs1 hP hD hS => k H1 locs1 ls hP hD hS h)
/-- a contract: ar the arguments, w the world at the start, post: the answer and the world behind -/
def gz_Ki (l : Launch) (y : MethodName) (wl : List Cond) (rm : Room) (D : va_G) (tys : List (ClassId × FieldType)) (ar : List Value) (w : va_W) (post : Int32 → va_W → Prop) : Prop :=
  ∀ sz : Nat, Met l y wl rm (va_Pc ar (fun U => U.heap.size = sz ∧ va_P D vwCl w U.heap ∧ va_K D vwCl tys U ∧ va_D (fun _ => True) w)) (va_Qi post (fun w' t => va_P D vwCl w' t.heap ∧ va_K D vwCl tys t ∧ va_D (va_A w sz) w') (va_A w sz)) 0 0 (va_A w sz)
/-- a static method's contract: no world -/
def gz_Si (l : Launch) (y : MethodName) (wl : List Cond) (rm : Room) (ar : List Value) (post : Int32 → Prop) : Prop :=
  Met l y wl rm (va_Pc ar (fun _ => True)) (va_Qi (fun r (_ : Unit) => post r) (fun _ _ => True) (fun _ => False)) 0 0 (fun _ => False)
/-- a contract: ar the arguments, w the world at the start, post: the answer and the world behind -/
def gz_Kl (l : Launch) (y : MethodName) (wl : List Cond) (rm : Room) (D : va_G) (tys : List (ClassId × FieldType)) (ar : List Value) (w : va_W) (post : Int64 → va_W → Prop) : Prop :=
  ∀ sz : Nat, Met l y wl rm (va_Pc ar (fun U => U.heap.size = sz ∧ va_P D vwCl w U.heap ∧ va_K D vwCl tys U ∧ va_D (fun _ => True) w)) (va_Ql post (fun w' t => va_P D vwCl w' t.heap ∧ va_K D vwCl tys t ∧ va_D (va_A w sz) w') (va_A w sz)) 0 0 (va_A w sz)
/-- a static method's contract: no world -/
def gz_Sl (l : Launch) (y : MethodName) (wl : List Cond) (rm : Room) (ar : List Value) (post : Int64 → Prop) : Prop :=
  Met l y wl rm (va_Pc ar (fun _ => True)) (va_Ql (fun r (_ : Unit) => post r) (fun _ _ => True) (fun _ => False)) 0 0 (fun _ => False)
/-- a contract: ar the arguments, w the world at the start, post: the answer and the world behind -/
def gz_Kd (l : Launch) (y : MethodName) (wl : List Cond) (rm : Room) (D : va_G) (tys : List (ClassId × FieldType)) (ar : List Value) (w : va_W) (post : UInt64 → va_W → Prop) : Prop :=
  ∀ sz : Nat, Met l y wl rm (va_Pc ar (fun U => U.heap.size = sz ∧ va_P D vwCl w U.heap ∧ va_K D vwCl tys U ∧ va_D (fun _ => True) w)) (va_Qd post (fun w' t => va_P D vwCl w' t.heap ∧ va_K D vwCl tys t ∧ va_D (va_A w sz) w') (va_A w sz)) 0 0 (va_A w sz)
/-- a static method's contract: no world -/
def gz_Sd (l : Launch) (y : MethodName) (wl : List Cond) (rm : Room) (ar : List Value) (post : UInt64 → Prop) : Prop :=
  Met l y wl rm (va_Pc ar (fun _ => True)) (va_Qd (fun r (_ : Unit) => post r) (fun _ _ => True) (fun _ => False)) 0 0 (fun _ => False)
def gz_Kv (l : Launch) (y : MethodName) (wl : List Cond) (rm : Room) (D : va_G) (tys : List (ClassId × FieldType)) (ar : List Value) (w : va_W) (post : va_W → Prop) : Prop :=
  ∀ sz : Nat, Met l y wl rm (va_Pc ar (fun U => U.heap.size = sz ∧ va_P D vwCl w U.heap ∧ va_K D vwCl tys U ∧ va_D (fun _ => True) w)) (va_Qv post (fun w' t => va_P D vwCl w' t.heap ∧ va_K D vwCl tys t ∧ va_D (va_A w sz) w') (va_A w sz)) 0 0 (va_A w sz)
theorem gz_map_range : ∀ (w : va_W), (List.range w.length).map (fun i => w[i]?) = w.map some := by
  intro w
  apply List.ext_getElem?
  intro i
  rw [List.getElem?_map, List.getElem?_map]
  by_cases h : i < w.length
  · rw [List.getElem?_range h, List.getElem?_eq_getElem h]
    simp [h]
  · have h1 : (List.range w.length)[i]? = none := by rw [List.getElem?_eq_none_iff]; simp; omega
    have h2 : w[i]? = none := by rw [List.getElem?_eq_none_iff]; omega
    rw [h1, h2]; rfl
theorem gz_calli (E : gz_E z l' D' tys' cc own Ts nL' R' true) {y : MethodName} {wl wl' : List Cond} {rm : Room} {C : String} {T : u_T} {N ci index a n maxL : Nat} {fs : List Value} {bytes : ByteArray} {ret : Option FieldType} {As : List Value} {w wr : va_W} {post : Int32 → va_W → Prop} (q0 : Nat) (isC isR : List Nat) (hd : decode cc pc = .ok (.invokevirtual index, 3)) (hT : GoodIn Ts (wsV own index C y wl)) (hM : gz_Ki l' y wl rm D' tys' (.ref a :: As) w post) (hC : isC.map (fun i => ws[i]?) = w.map some) (hR : isR.map (fun i => ws[i]?) = wr.map some) (hn : va_nd isC = true ∧ va_nd isR = true) (hdis : ∀ i ∈ isR, i ∉ isC) (hw : wl = Cond.code y bytes maxL ret :: wl') (hrm : rm.cells = 0 ∧ rm.slots = 0) (hy : y.cls = C ∧ y.cls ≠ "java/lang/invoke/MethodHandle" ∧ y.cls ≠ "java/lang/invoke/VarHandle" ∧ (parseMethodDescriptor y.desc).map (fun d => d.parameters.length) = some n) (hRm : rm.frames + 1 ≤ R'.frames ∧ 8 + (maxL + 11) + rm.locals ≤ R'.locals) (he : w[q0]? = some (a, .inr (ci, fs))) (hc : vwCl[ci]? = some (C, T, N)) (hnA : As.length = n) (hst : st = As.reverse ++ .ref a :: rest) (hrest : (rest.map fun v => v.category).sum ≤ 8) (k : ∀ (r : Int32) (w1 : va_W), post r w1 → gz_G z (wr ++ w1) (pc + 3) lv (.int r :: rest)) : gz_G z ws pc lv st := by
  obtain ⟨p, l, e, R, s, m, args, below, meth, c, D, tys, A, nL, cells, slots, Q⟩ := z
  obtain ⟨hx, hb, hml, hown, hts, hK, hA, rfl, rfl, rfl, rfl, rfl, hcs, hss⟩ := E
  have hK := hK rfl
  have hA := hA rfl
  subst hst
  intro H locs ls hP hD hS h
  have hPc : va_P D vwCl w H := fun j q hj => by
    have h1 : (isC.map (fun i => ws[i]?))[j]? = some (some q) := by rw [hC, List.getElem?_map, hj]; rfl
    rw [List.getElem?_map] at h1
    cases hi : isC[j]? with
    | none => rw [hi] at h1; cases h1
    | some i => rw [hi] at h1; exact hP i q (Option.some.inj h1)
  have hDc : va_D A w := hD.sub isC hn.1 hC
  have hFc := va_free (wc := w) hD hS hA isC hC
  refine va_calli (va_runV (As := As) (rest := rest) ⟨hx, hb, hml, hown, hts⟩ (hM H.size) (cwV n hts hT hw hrm.1 hrm.2 hy hRm) ⟨fun a2 U g mk q => ?_, va_recv hK hPc hc he, fun U hU hW => ⟨rfl, by rw [hU], by rw [hU]; exact hPc, va_K.moved hW.alike hK, hDc.weaken (fun _ _ _ _ => trivial)⟩⟩ rfl hnA h.1 rfl (lv_room hrest) hd ⟨hcs, hss⟩) hS (fun q _ h => hFc q h) hFc (fun r u t H1 locs1 ht hvm hw hB hz1 hk1 hS => ?_)
  · obtain ⟨e0, e1, qP, qK, qD⟩ := q
    exact ⟨e0, e1, qP, va_K.moved (u := U) (U := U.calling g mk a2) (Vm.Alike.refl U.vm) qK, qD⟩
  · obtain ⟨hP1, hK1, hD1⟩ := hB
    rw [ht] at hP1
    obtain ⟨hP2, hD2⟩ := va_join (wr := wr) hP hD isC isR hC hR hn.2 hdis hk1 hFc hP1 hD1
    exact k r u hw H1 locs1 ls hP2 hD2 hS h
/-- the call that takes the whole world -/
theorem gz_cali (E : gz_E z l' D' tys' cc own Ts nL' R' true) {y : MethodName} {wl wl' : List Cond} {rm : Room} {C : String} {T : u_T} {N ci index a n maxL : Nat} {fs : List Value} {bytes : ByteArray} {ret : Option FieldType} {As : List Value} {post : Int32 → va_W → Prop} (q0 : Nat) (hd : decode cc pc = .ok (.invokevirtual index, 3)) (hT : GoodIn Ts (wsV own index C y wl)) (hM : gz_Ki l' y wl rm D' tys' (.ref a :: As) ws post) (hnd : va_nd (List.range ws.length) = true) (hw : wl = Cond.code y bytes maxL ret :: wl') (hrm : rm.cells = 0 ∧ rm.slots = 0) (hy : y.cls = C ∧ y.cls ≠ "java/lang/invoke/MethodHandle" ∧ y.cls ≠ "java/lang/invoke/VarHandle" ∧ (parseMethodDescriptor y.desc).map (fun d => d.parameters.length) = some n) (hRm : rm.frames + 1 ≤ R'.frames ∧ 8 + (maxL + 11) + rm.locals ≤ R'.locals) (he : ws[q0]? = some (a, .inr (ci, fs))) (hc : vwCl[ci]? = some (C, T, N)) (hnA : As.length = n) (hst : st = As.reverse ++ .ref a :: rest) (hrest : (rest.map fun v => v.category).sum ≤ 8) (k : ∀ (r : Int32) (w1 : va_W), post r w1 → gz_G z w1 (pc + 3) lv (.int r :: rest)) : gz_G z ws pc lv st :=
  gz_calli (wr := []) E q0 (List.range ws.length) [] hd hT hM (gz_map_range ws) rfl ⟨hnd, rfl⟩ (fun _ h => absurd h List.not_mem_nil) hw hrm hy hRm he hc hnA hst hrest k
theorem gz_calll (E : gz_E z l' D' tys' cc own Ts nL' R' true) {y : MethodName} {wl wl' : List Cond} {rm : Room} {C : String} {T : u_T} {N ci index a n maxL : Nat} {fs : List Value} {bytes : ByteArray} {ret : Option FieldType} {As : List Value} {w wr : va_W} {post : Int64 → va_W → Prop} (q0 : Nat) (isC isR : List Nat) (hd : decode cc pc = .ok (.invokevirtual index, 3)) (hT : GoodIn Ts (wsV own index C y wl)) (hM : gz_Kl l' y wl rm D' tys' (.ref a :: As) w post) (hC : isC.map (fun i => ws[i]?) = w.map some) (hR : isR.map (fun i => ws[i]?) = wr.map some) (hn : va_nd isC = true ∧ va_nd isR = true) (hdis : ∀ i ∈ isR, i ∉ isC) (hw : wl = Cond.code y bytes maxL ret :: wl') (hrm : rm.cells = 0 ∧ rm.slots = 0) (hy : y.cls = C ∧ y.cls ≠ "java/lang/invoke/MethodHandle" ∧ y.cls ≠ "java/lang/invoke/VarHandle" ∧ (parseMethodDescriptor y.desc).map (fun d => d.parameters.length) = some n) (hRm : rm.frames + 1 ≤ R'.frames ∧ 8 + (maxL + 11) + rm.locals ≤ R'.locals) (he : w[q0]? = some (a, .inr (ci, fs))) (hc : vwCl[ci]? = some (C, T, N)) (hnA : As.length = n) (hst : st = As.reverse ++ .ref a :: rest) (hrest : (rest.map fun v => v.category).sum ≤ 8) (k : ∀ (r : Int64) (w1 : va_W), post r w1 → gz_G z (wr ++ w1) (pc + 3) lv (.long r :: rest)) : gz_G z ws pc lv st := by
  obtain ⟨p, l, e, R, s, m, args, below, meth, c, D, tys, A, nL, cells, slots, Q⟩ := z
  obtain ⟨hx, hb, hml, hown, hts, hK, hA, rfl, rfl, rfl, rfl, rfl, hcs, hss⟩ := E
  have hK := hK rfl
  have hA := hA rfl
  subst hst
  intro H locs ls hP hD hS h
  have hPc : va_P D vwCl w H := fun j q hj => by
    have h1 : (isC.map (fun i => ws[i]?))[j]? = some (some q) := by rw [hC, List.getElem?_map, hj]; rfl
    rw [List.getElem?_map] at h1
    cases hi : isC[j]? with
    | none => rw [hi] at h1; cases h1
    | some i => rw [hi] at h1; exact hP i q (Option.some.inj h1)
  have hDc : va_D A w := hD.sub isC hn.1 hC
  have hFc := va_free (wc := w) hD hS hA isC hC
  refine va_calll (va_runV (As := As) (rest := rest) ⟨hx, hb, hml, hown, hts⟩ (hM H.size) (cwV n hts hT hw hrm.1 hrm.2 hy hRm) ⟨fun a2 U g mk q => ?_, va_recv hK hPc hc he, fun U hU hW => ⟨rfl, by rw [hU], by rw [hU]; exact hPc, va_K.moved hW.alike hK, hDc.weaken (fun _ _ _ _ => trivial)⟩⟩ rfl hnA h.1 rfl (lv_room hrest) hd ⟨hcs, hss⟩) hS (fun q _ h => hFc q h) hFc (fun r u t H1 locs1 ht hvm hw hB hz1 hk1 hS => ?_)
  · obtain ⟨e0, e1, qP, qK, qD⟩ := q
    exact ⟨e0, e1, qP, va_K.moved (u := U) (U := U.calling g mk a2) (Vm.Alike.refl U.vm) qK, qD⟩
  · obtain ⟨hP1, hK1, hD1⟩ := hB
    rw [ht] at hP1
    obtain ⟨hP2, hD2⟩ := va_join (wr := wr) hP hD isC isR hC hR hn.2 hdis hk1 hFc hP1 hD1
    exact k r u hw H1 locs1 ls hP2 hD2 hS h
/-- the call that takes the whole world -/
theorem gz_call (E : gz_E z l' D' tys' cc own Ts nL' R' true) {y : MethodName} {wl wl' : List Cond} {rm : Room} {C : String} {T : u_T} {N ci index a n maxL : Nat} {fs : List Value} {bytes : ByteArray} {ret : Option FieldType} {As : List Value} {post : Int64 → va_W → Prop} (q0 : Nat) (hd : decode cc pc = .ok (.invokevirtual index, 3)) (hT : GoodIn Ts (wsV own index C y wl)) (hM : gz_Kl l' y wl rm D' tys' (.ref a :: As) ws post) (hnd : va_nd (List.range ws.length) = true) (hw : wl = Cond.code y bytes maxL ret :: wl') (hrm : rm.cells = 0 ∧ rm.slots = 0) (hy : y.cls = C ∧ y.cls ≠ "java/lang/invoke/MethodHandle" ∧ y.cls ≠ "java/lang/invoke/VarHandle" ∧ (parseMethodDescriptor y.desc).map (fun d => d.parameters.length) = some n) (hRm : rm.frames + 1 ≤ R'.frames ∧ 8 + (maxL + 11) + rm.locals ≤ R'.locals) (he : ws[q0]? = some (a, .inr (ci, fs))) (hc : vwCl[ci]? = some (C, T, N)) (hnA : As.length = n) (hst : st = As.reverse ++ .ref a :: rest) (hrest : (rest.map fun v => v.category).sum ≤ 8) (k : ∀ (r : Int64) (w1 : va_W), post r w1 → gz_G z w1 (pc + 3) lv (.long r :: rest)) : gz_G z ws pc lv st :=
  gz_calll (wr := []) E q0 (List.range ws.length) [] hd hT hM (gz_map_range ws) rfl ⟨hnd, rfl⟩ (fun _ h => absurd h List.not_mem_nil) hw hrm hy hRm he hc hnA hst hrest k
theorem gz_calld (E : gz_E z l' D' tys' cc own Ts nL' R' true) {y : MethodName} {wl wl' : List Cond} {rm : Room} {C : String} {T : u_T} {N ci index a n maxL : Nat} {fs : List Value} {bytes : ByteArray} {ret : Option FieldType} {As : List Value} {w wr : va_W} {post : UInt64 → va_W → Prop} (q0 : Nat) (isC isR : List Nat) (hd : decode cc pc = .ok (.invokevirtual index, 3)) (hT : GoodIn Ts (wsV own index C y wl)) (hM : gz_Kd l' y wl rm D' tys' (.ref a :: As) w post) (hC : isC.map (fun i => ws[i]?) = w.map some) (hR : isR.map (fun i => ws[i]?) = wr.map some) (hn : va_nd isC = true ∧ va_nd isR = true) (hdis : ∀ i ∈ isR, i ∉ isC) (hw : wl = Cond.code y bytes maxL ret :: wl') (hrm : rm.cells = 0 ∧ rm.slots = 0) (hy : y.cls = C ∧ y.cls ≠ "java/lang/invoke/MethodHandle" ∧ y.cls ≠ "java/lang/invoke/VarHandle" ∧ (parseMethodDescriptor y.desc).map (fun d => d.parameters.length) = some n) (hRm : rm.frames + 1 ≤ R'.frames ∧ 8 + (maxL + 11) + rm.locals ≤ R'.locals) (he : w[q0]? = some (a, .inr (ci, fs))) (hc : vwCl[ci]? = some (C, T, N)) (hnA : As.length = n) (hst : st = As.reverse ++ .ref a :: rest) (hrest : (rest.map fun v => v.category).sum ≤ 8) (k : ∀ (r : UInt64) (w1 : va_W), post r w1 → gz_G z (wr ++ w1) (pc + 3) lv (.double r :: rest)) : gz_G z ws pc lv st := by
  obtain ⟨p, l, e, R, s, m, args, below, meth, c, D, tys, A, nL, cells, slots, Q⟩ := z
  obtain ⟨hx, hb, hml, hown, hts, hK, hA, rfl, rfl, rfl, rfl, rfl, hcs, hss⟩ := E
  have hK := hK rfl
  have hA := hA rfl
  subst hst
  intro H locs ls hP hD hS h
  have hPc : va_P D vwCl w H := fun j q hj => by
    have h1 : (isC.map (fun i => ws[i]?))[j]? = some (some q) := by rw [hC, List.getElem?_map, hj]; rfl
    rw [List.getElem?_map] at h1
    cases hi : isC[j]? with
    | none => rw [hi] at h1; cases h1
    | some i => rw [hi] at h1; exact hP i q (Option.some.inj h1)
  have hDc : va_D A w := hD.sub isC hn.1 hC
  have hFc := va_free (wc := w) hD hS hA isC hC
  refine va_calld (va_runV (As := As) (rest := rest) ⟨hx, hb, hml, hown, hts⟩ (hM H.size) (cwV n hts hT hw hrm.1 hrm.2 hy hRm) ⟨fun a2 U g mk q => ?_, va_recv hK hPc hc he, fun U hU hW => ⟨rfl, by rw [hU], by rw [hU]; exact hPc, va_K.moved hW.alike hK, hDc.weaken (fun _ _ _ _ => trivial)⟩⟩ rfl hnA h.1 rfl (lv_room hrest) hd ⟨hcs, hss⟩) hS (fun q _ h => hFc q h) hFc (fun r u t H1 locs1 ht hvm hw hB hz1 hk1 hS => ?_)
  · obtain ⟨e0, e1, qP, qK, qD⟩ := q
    exact ⟨e0, e1, qP, va_K.moved (u := U) (U := U.calling g mk a2) (Vm.Alike.refl U.vm) qK, qD⟩
  · obtain ⟨hP1, hK1, hD1⟩ := hB
    rw [ht] at hP1
    obtain ⟨hP2, hD2⟩ := va_join (wr := wr) hP hD isC isR hC hR hn.2 hdis hk1 hFc hP1 hD1
    exact k r u hw H1 locs1 ls hP2 hD2 hS h
/-- the call that takes the whole world -/
theorem gz_cald (E : gz_E z l' D' tys' cc own Ts nL' R' true) {y : MethodName} {wl wl' : List Cond} {rm : Room} {C : String} {T : u_T} {N ci index a n maxL : Nat} {fs : List Value} {bytes : ByteArray} {ret : Option FieldType} {As : List Value} {post : UInt64 → va_W → Prop} (q0 : Nat) (hd : decode cc pc = .ok (.invokevirtual index, 3)) (hT : GoodIn Ts (wsV own index C y wl)) (hM : gz_Kd l' y wl rm D' tys' (.ref a :: As) ws post) (hnd : va_nd (List.range ws.length) = true) (hw : wl = Cond.code y bytes maxL ret :: wl') (hrm : rm.cells = 0 ∧ rm.slots = 0) (hy : y.cls = C ∧ y.cls ≠ "java/lang/invoke/MethodHandle" ∧ y.cls ≠ "java/lang/invoke/VarHandle" ∧ (parseMethodDescriptor y.desc).map (fun d => d.parameters.length) = some n) (hRm : rm.frames + 1 ≤ R'.frames ∧ 8 + (maxL + 11) + rm.locals ≤ R'.locals) (he : ws[q0]? = some (a, .inr (ci, fs))) (hc : vwCl[ci]? = some (C, T, N)) (hnA : As.length = n) (hst : st = As.reverse ++ .ref a :: rest) (hrest : (rest.map fun v => v.category).sum ≤ 8) (k : ∀ (r : UInt64) (w1 : va_W), post r w1 → gz_G z w1 (pc + 3) lv (.double r :: rest)) : gz_G z ws pc lv st :=
  gz_calld (wr := []) E q0 (List.range ws.length) [] hd hT hM (gz_map_range ws) rfl ⟨hnd, rfl⟩ (fun _ h => absurd h List.not_mem_nil) hw hrm hy hRm he hc hnA hst hrest k
theorem gz_callv (E : gz_E z l' D' tys' cc own Ts nL' R' true) {y : MethodName} {wl wl' : List Cond} {rm : Room} {C : String} {T : u_T} {N ci index a n maxL : Nat} {fs : List Value} {bytes : ByteArray} {ret : Option FieldType} {As : List Value} {w wr : va_W} {post : va_W → Prop} (q0 : Nat) (isC isR : List Nat) (hd : decode cc pc = .ok (.invokevirtual index, 3)) (hT : GoodIn Ts (wsV own index C y wl)) (hM : gz_Kv l' y wl rm D' tys' (.ref a :: As) w post) (hC : isC.map (fun i => ws[i]?) = w.map some) (hR : isR.map (fun i => ws[i]?) = wr.map some) (hn : va_nd isC = true ∧ va_nd isR = true) (hdis : ∀ i ∈ isR, i ∉ isC) (hw : wl = Cond.code y bytes maxL ret :: wl') (hrm : rm.cells = 0 ∧ rm.slots = 0) (hy : y.cls = C ∧ y.cls ≠ "java/lang/invoke/MethodHandle" ∧ y.cls ≠ "java/lang/invoke/VarHandle" ∧ (parseMethodDescriptor y.desc).map (fun d => d.parameters.length) = some n) (hRm : rm.frames + 1 ≤ R'.frames ∧ 8 + (maxL + 11) + rm.locals ≤ R'.locals) (he : w[q0]? = some (a, .inr (ci, fs))) (hc : vwCl[ci]? = some (C, T, N)) (hnA : As.length = n) (hst : st = As.reverse ++ .ref a :: rest) (hrest : (rest.map fun v => v.category).sum ≤ 8) (k : ∀ (w1 : va_W), post w1 → gz_G z (wr ++ w1) (pc + 3) lv rest) : gz_G z ws pc lv st := by
  obtain ⟨p, l, e, R, s, m, args, below, meth, c, D, tys, A, nL, cells, slots, Q⟩ := z
  obtain ⟨hx, hb, hml, hown, hts, hK, hA, rfl, rfl, rfl, rfl, rfl, hcs, hss⟩ := E
  have hK := hK rfl
  have hA := hA rfl
  subst hst
  intro H locs ls hP hD hS h
  have hPc : va_P D vwCl w H := fun j q hj => by
    have h1 : (isC.map (fun i => ws[i]?))[j]? = some (some q) := by rw [hC, List.getElem?_map, hj]; rfl
    rw [List.getElem?_map] at h1
    cases hi : isC[j]? with
    | none => rw [hi] at h1; cases h1
    | some i => rw [hi] at h1; exact hP i q (Option.some.inj h1)
  have hDc : va_D A w := hD.sub isC hn.1 hC
  have hFc := va_free (wc := w) hD hS hA isC hC
  refine va_callv (va_runV (As := As) (rest := rest) ⟨hx, hb, hml, hown, hts⟩ (hM H.size) (cwV n hts hT hw hrm.1 hrm.2 hy hRm) ⟨fun a2 U g mk q => ?_, va_recv hK hPc hc he, fun U hU hW => ⟨rfl, by rw [hU], by rw [hU]; exact hPc, va_K.moved hW.alike hK, hDc.weaken (fun _ _ _ _ => trivial)⟩⟩ rfl hnA h.1 rfl (lv_room hrest) hd ⟨hcs, hss⟩) hS (fun q _ h => hFc q h) hFc (fun u t H1 locs1 ht hvm hw hB hz1 hk1 hS => ?_)
  · obtain ⟨e0, e1, qP, qK, qD⟩ := q
    exact ⟨e0, e1, qP, va_K.moved (u := U) (U := U.calling g mk a2) (Vm.Alike.refl U.vm) qK, qD⟩
  · obtain ⟨hP1, hK1, hD1⟩ := hB
    rw [ht] at hP1
    obtain ⟨hP2, hD2⟩ := va_join (wr := wr) hP hD isC isR hC hR hn.2 hdis hk1 hFc hP1 hD1
    exact k u hw H1 locs1 ls hP2 hD2 hS h
/-- the call that takes the whole world -/
theorem gz_calv (E : gz_E z l' D' tys' cc own Ts nL' R' true) {y : MethodName} {wl wl' : List Cond} {rm : Room} {C : String} {T : u_T} {N ci index a n maxL : Nat} {fs : List Value} {bytes : ByteArray} {ret : Option FieldType} {As : List Value} {post : va_W → Prop} (q0 : Nat) (hd : decode cc pc = .ok (.invokevirtual index, 3)) (hT : GoodIn Ts (wsV own index C y wl)) (hM : gz_Kv l' y wl rm D' tys' (.ref a :: As) ws post) (hnd : va_nd (List.range ws.length) = true) (hw : wl = Cond.code y bytes maxL ret :: wl') (hrm : rm.cells = 0 ∧ rm.slots = 0) (hy : y.cls = C ∧ y.cls ≠ "java/lang/invoke/MethodHandle" ∧ y.cls ≠ "java/lang/invoke/VarHandle" ∧ (parseMethodDescriptor y.desc).map (fun d => d.parameters.length) = some n) (hRm : rm.frames + 1 ≤ R'.frames ∧ 8 + (maxL + 11) + rm.locals ≤ R'.locals) (he : ws[q0]? = some (a, .inr (ci, fs))) (hc : vwCl[ci]? = some (C, T, N)) (hnA : As.length = n) (hst : st = As.reverse ++ .ref a :: rest) (hrest : (rest.map fun v => v.category).sum ≤ 8) (k : ∀ (w1 : va_W), post w1 → gz_G z w1 (pc + 3) lv rest) : gz_G z ws pc lv st :=
  gz_callv (wr := []) E q0 (List.range ws.length) [] hd hT hM (gz_map_range ws) rfl ⟨hnd, rfl⟩ (fun _ h => absurd h List.not_mem_nil) hw hrm hy hRm he hc hnA hst hrest k
theorem gz_stati (E : gz_E z l' D' tys' cc own Ts nL' R' kb) {y : MethodName} {wl wl' : List Cond} {rm : Room} {index n maxL : Nat} {bytes : ByteArray} {ret : Option FieldType} {As : List Value} {post : Int32 → Prop} (hd : decode cc pc = .ok (.invokestatic index, 3)) (hT : GoodIn Ts (va_wsS own index y wl)) (hM : gz_Si l' y wl rm As post) (hw : wl = Cond.code y bytes maxL ret :: wl') (hrm : rm.cells = 0 ∧ rm.slots = 0) (hy : y.cls ≠ "java/lang/invoke/MethodHandle" ∧ y.cls ≠ "java/lang/invoke/VarHandle" ∧ (parseMethodDescriptor y.desc).map (fun d => d.parameters.length) = some n) (hRm : rm.frames + 1 ≤ R'.frames ∧ 8 + (maxL + 11) + rm.locals ≤ R'.locals) (hnA : As.length = n) (hst : st = As.reverse ++ rest) (hrest : (rest.map fun v => v.category).sum ≤ 8) (k : ∀ r : Int32, post r → gz_G z ws (pc + 3) lv (.int r :: rest)) : gz_G z ws pc lv st := by
  obtain ⟨p, l, e, R, s, m, args, below, meth, c, D, tys, A, nL, cells, slots, Q⟩ := z
  obtain ⟨hx, hb, hml, hown, hts, hK, hA, rfl, rfl, rfl, rfl, rfl, hcs, hss⟩ := E
  subst hst
  intro H locs ls hP hD hS h
  refine va_calli (va_runS (As := As) (rest := rest) ⟨hx, hb, hml, hown, hts⟩ hM (va_cwS n hts hT hw hrm.1 hrm.2 hy hRm) ⟨fun a2 U g mk q => q, fun U hU hW => ⟨rfl, trivial⟩⟩ rfl hnA h.1 rfl (lv_room hrest) hd ⟨hcs, hss⟩) hS (fun q _ h => h.elim) (fun q h => h.elim) (fun r u t H1 locs1 ht hvm hw2 hB hz1 hk1 hS => ?_)
  exact k r hw2 H1 locs1 ls (hP.kept (fun j q hj => hk1 q.1 (hP j q hj).lt (fun h => h))) hD hS h
theorem gz_statl (E : gz_E z l' D' tys' cc own Ts nL' R' kb) {y : MethodName} {wl wl' : List Cond} {rm : Room} {index n maxL : Nat} {bytes : ByteArray} {ret : Option FieldType} {As : List Value} {post : Int64 → Prop} (hd : decode cc pc = .ok (.invokestatic index, 3)) (hT : GoodIn Ts (va_wsS own index y wl)) (hM : gz_Sl l' y wl rm As post) (hw : wl = Cond.code y bytes maxL ret :: wl') (hrm : rm.cells = 0 ∧ rm.slots = 0) (hy : y.cls ≠ "java/lang/invoke/MethodHandle" ∧ y.cls ≠ "java/lang/invoke/VarHandle" ∧ (parseMethodDescriptor y.desc).map (fun d => d.parameters.length) = some n) (hRm : rm.frames + 1 ≤ R'.frames ∧ 8 + (maxL + 11) + rm.locals ≤ R'.locals) (hnA : As.length = n) (hst : st = As.reverse ++ rest) (hrest : (rest.map fun v => v.category).sum ≤ 8) (k : ∀ r : Int64, post r → gz_G z ws (pc + 3) lv (.long r :: rest)) : gz_G z ws pc lv st := by
  obtain ⟨p, l, e, R, s, m, args, below, meth, c, D, tys, A, nL, cells, slots, Q⟩ := z
  obtain ⟨hx, hb, hml, hown, hts, hK, hA, rfl, rfl, rfl, rfl, rfl, hcs, hss⟩ := E
  subst hst
  intro H locs ls hP hD hS h
  refine va_calll (va_runS (As := As) (rest := rest) ⟨hx, hb, hml, hown, hts⟩ hM (va_cwS n hts hT hw hrm.1 hrm.2 hy hRm) ⟨fun a2 U g mk q => q, fun U hU hW => ⟨rfl, trivial⟩⟩ rfl hnA h.1 rfl (lv_room hrest) hd ⟨hcs, hss⟩) hS (fun q _ h => h.elim) (fun q h => h.elim) (fun r u t H1 locs1 ht hvm hw2 hB hz1 hk1 hS => ?_)
  exact k r hw2 H1 locs1 ls (hP.kept (fun j q hj => hk1 q.1 (hP j q hj).lt (fun h => h))) hD hS h
theorem gz_statd (E : gz_E z l' D' tys' cc own Ts nL' R' kb) {y : MethodName} {wl wl' : List Cond} {rm : Room} {index n maxL : Nat} {bytes : ByteArray} {ret : Option FieldType} {As : List Value} {post : UInt64 → Prop} (hd : decode cc pc = .ok (.invokestatic index, 3)) (hT : GoodIn Ts (va_wsS own index y wl)) (hM : gz_Sd l' y wl rm As post) (hw : wl = Cond.code y bytes maxL ret :: wl') (hrm : rm.cells = 0 ∧ rm.slots = 0) (hy : y.cls ≠ "java/lang/invoke/MethodHandle" ∧ y.cls ≠ "java/lang/invoke/VarHandle" ∧ (parseMethodDescriptor y.desc).map (fun d => d.parameters.length) = some n) (hRm : rm.frames + 1 ≤ R'.frames ∧ 8 + (maxL + 11) + rm.locals ≤ R'.locals) (hnA : As.length = n) (hst : st = As.reverse ++ rest) (hrest : (rest.map fun v => v.category).sum ≤ 8) (k : ∀ r : UInt64, post r → gz_G z ws (pc + 3) lv (.double r :: rest)) : gz_G z ws pc lv st := by
  obtain ⟨p, l, e, R, s, m, args, below, meth, c, D, tys, A, nL, cells, slots, Q⟩ := z
  obtain ⟨hx, hb, hml, hown, hts, hK, hA, rfl, rfl, rfl, rfl, rfl, hcs, hss⟩ := E
  subst hst
  intro H locs ls hP hD hS h
  refine va_calld (va_runS (As := As) (rest := rest) ⟨hx, hb, hml, hown, hts⟩ hM (va_cwS n hts hT hw hrm.1 hrm.2 hy hRm) ⟨fun a2 U g mk q => q, fun U hU hW => ⟨rfl, trivial⟩⟩ rfl hnA h.1 rfl (lv_room hrest) hd ⟨hcs, hss⟩) hS (fun q _ h => h.elim) (fun q h => h.elim) (fun r u t H1 locs1 ht hvm hw2 hB hz1 hk1 hS => ?_)
  exact k r hw2 H1 locs1 ls (hP.kept (fun j q hj => hk1 q.1 (hP j q hj).lt (fun h => h))) hD hS h
theorem gz_ofi {l : Launch} {y : MethodName} {wl wl' : List Cond} {rm : Room} {D : va_G} {tys : List (ClassId × FieldType)} {ar : List Value} {w : va_W} {post : Int32 → va_W → Prop} {cc : ByteArray} {maxL : Nat} {ty : FieldType} {own : String} (hy : plainName y.cls = true) (hw : wl = Cond.code y cc maxL (some ty) :: wl') (hown : y.cls = own) (hroom : (headSpec wl rm).room = rm) (har : (lg_sl ar).length ≤ maxL)
    (body : ∀ z : gz_Z, gz_E z l D tys cc own wl maxL rm true → (∀ (w1 : va_W) (pc : Nat) (lv : List (Nat × Value)) (r : Int32), decode cc pc = .ok (.ireturn, 1) → narrow ty (.int r) = .int r → post r w1 → gz_G z w1 pc lv [.int r]) → gz_G z w 0 (lv_args 0 ar) []) : gz_Ki l y wl rm D tys ar w post := by
  intro sz
  refine Met.ofW (cc := cc) (maxL := maxL) (ret := some ty) hy hw ?_
  intro p e s m args below meth c s₁ B hml hv
  obtain ⟨rfl, hsz, hP, hK, hD0⟩ := hv
  subst hsz
  have hD := hD0.self (sz := s.heap.size)
  have hlocks := B.notSynchronized
  have hE : gz_E (p, l, e, (headSpec wl rm).room, s, m, ar.toArray, below, meth, c, D, tys, va_A w s.heap.size, maxL, 0, 0, MQ below (va_Qi post (fun w' t => va_P D vwCl w' t.heap ∧ va_K D vwCl tys t ∧ va_D (va_A w s.heap.size) w') (va_A w s.heap.size)) ar.toArray s 0 0 (va_A w s.heap.size)) l D tys cc own wl maxL rm true := by
    refine ⟨B.exec, B.bytes, hml, ?_, atoms_spec (ws := wl) B.pre, fun _ => hK, fun _ q h => Or.inr h, rfl, rfl, rfl, rfl, hroom, Nat.zero_le _, Nat.zero_le _⟩
    rw [← hown]
    exact findClass_of_methodNamed B.named
  have K := body _ hE ?_
  · have hl := lv_entry ar (n := maxL) har
    rw [lg_entry_eq]
    exact K s.heap [] _ hP hD va_S.rf hl
  · intro w1 pc lv r hd hn hp H locs ls hP hD hS h
    exact W.zret (v := r) B.exec B.bytes B.returns hn (fun t ht hW => ⟨⟨r, w1, rfl, hp, by rw [ht]; exact hP, va_K.moved hW.alike hK, hD⟩, hS.F ht⟩) hS.2.2 hd
theorem gz_ofl {l : Launch} {y : MethodName} {wl wl' : List Cond} {rm : Room} {D : va_G} {tys : List (ClassId × FieldType)} {ar : List Value} {w : va_W} {post : Int64 → va_W → Prop} {cc : ByteArray} {maxL : Nat}  {own : String} (hy : plainName y.cls = true) (hw : wl = Cond.code y cc maxL (some .long) :: wl') (hown : y.cls = own) (hroom : (headSpec wl rm).room = rm) (har : (lg_sl ar).length ≤ maxL)
    (body : ∀ z : gz_Z, gz_E z l D tys cc own wl maxL rm true → (∀ (w1 : va_W) (pc : Nat) (lv : List (Nat × Value)) (r : Int64), decode cc pc = .ok (.lreturn, 1) → post r w1 → gz_G z w1 pc lv [.long r]) → gz_G z w 0 (lv_args 0 ar) []) : gz_Kl l y wl rm D tys ar w post := by
  intro sz
  refine Met.ofW (cc := cc) (maxL := maxL) (ret := some .long) hy hw ?_
  intro p e s m args below meth c s₁ B hml hv
  obtain ⟨rfl, hsz, hP, hK, hD0⟩ := hv
  subst hsz
  have hD := hD0.self (sz := s.heap.size)
  have hlocks := B.notSynchronized
  have hE : gz_E (p, l, e, (headSpec wl rm).room, s, m, ar.toArray, below, meth, c, D, tys, va_A w s.heap.size, maxL, 0, 0, MQ below (va_Ql post (fun w' t => va_P D vwCl w' t.heap ∧ va_K D vwCl tys t ∧ va_D (va_A w s.heap.size) w') (va_A w s.heap.size)) ar.toArray s 0 0 (va_A w s.heap.size)) l D tys cc own wl maxL rm true := by
    refine ⟨B.exec, B.bytes, hml, ?_, atoms_spec (ws := wl) B.pre, fun _ => hK, fun _ q h => Or.inr h, rfl, rfl, rfl, rfl, hroom, Nat.zero_le _, Nat.zero_le _⟩
    rw [← hown]
    exact findClass_of_methodNamed B.named
  have K := body _ hE ?_
  · have hl := lv_entry ar (n := maxL) har
    rw [lg_entry_eq]
    exact K s.heap [] _ hP hD va_S.rf hl
  · intro w1 pc lv r hd hp H locs ls hP hD hS h
    exact W.lret (v := r) B.exec B.bytes B.returns (fun t ht hW => ⟨⟨r, w1, rfl, hp, by rw [ht]; exact hP, va_K.moved hW.alike hK, hD⟩, hS.F ht⟩) hS.2.2 hd
theorem gz_ofv {l : Launch} {y : MethodName} {wl wl' : List Cond} {rm : Room} {D : va_G} {tys : List (ClassId × FieldType)} {ar : List Value} {w : va_W} {post : va_W → Prop} {cc : ByteArray} {maxL : Nat}  {own : String} (hy : plainName y.cls = true) (hw : wl = Cond.code y cc maxL (none) :: wl') (hown : y.cls = own) (hroom : (headSpec wl rm).room = rm) (har : (lg_sl ar).length ≤ maxL)
    (body : ∀ z : gz_Z, gz_E z l D tys cc own wl maxL rm true → (∀ (w1 : va_W) (pc : Nat) (lv : List (Nat × Value)), decode cc pc = .ok (.return_, 1) → post w1 → gz_G z w1 pc lv []) → gz_G z w 0 (lv_args 0 ar) []) : gz_Kv l y wl rm D tys ar w post := by
  intro sz
  refine Met.ofW (cc := cc) (maxL := maxL) (ret := none) hy hw ?_
  intro p e s m args below meth c s₁ B hml hv
  obtain ⟨rfl, hsz, hP, hK, hD0⟩ := hv
  subst hsz
  have hD := hD0.self (sz := s.heap.size)
  have hlocks := B.notSynchronized
  have hE : gz_E (p, l, e, (headSpec wl rm).room, s, m, ar.toArray, below, meth, c, D, tys, va_A w s.heap.size, maxL, 0, 0, MQ below (va_Qv post (fun w' t => va_P D vwCl w' t.heap ∧ va_K D vwCl tys t ∧ va_D (va_A w s.heap.size) w') (va_A w s.heap.size)) ar.toArray s 0 0 (va_A w s.heap.size)) l D tys cc own wl maxL rm true := by
    refine ⟨B.exec, B.bytes, hml, ?_, atoms_spec (ws := wl) B.pre, fun _ => hK, fun _ q h => Or.inr h, rfl, rfl, rfl, rfl, hroom, Nat.zero_le _, Nat.zero_le _⟩
    rw [← hown]
    exact findClass_of_methodNamed B.named
  have K := body _ hE ?_
  · have hl := lv_entry ar (n := maxL) har
    rw [lg_entry_eq]
    exact K s.heap [] _ hP hD va_S.rf hl
  · intro w1 pc lv hd hp H locs ls hP hD hS h
    exact W.vret B.exec B.bytes B.returns (fun t ht hW => ⟨⟨w1, rfl, hp, by rw [ht]; exact hP, va_K.moved hW.alike hK, hD⟩, hS.F ht⟩) hS.2.2 hd
theorem gz_sofi {l : Launch} {y : MethodName} {wl wl' : List Cond} {rm : Room} {ar : List Value} {post : Int32 → Prop} {cc : ByteArray} {maxL : Nat} {ty : FieldType} {own : String} (hy : plainName y.cls = true) (hw : wl = Cond.code y cc maxL (some ty) :: wl') (hown : y.cls = own) (hroom : (headSpec wl rm).room = rm) (har : (lg_sl ar).length ≤ maxL)
    (body : ∀ (z : gz_Z) (D : va_G), gz_E z l D [] cc own wl maxL rm false → (∀ (w1 : va_W) (pc : Nat) (lv : List (Nat × Value)) (r : Int32), decode cc pc = .ok (.ireturn, 1) → narrow ty (.int r) = .int r → post r → gz_G z w1 pc lv [.int r]) → gz_G z [] 0 (lv_args 0 ar) []) : gz_Si l y wl rm ar post := by
  refine Met.ofW (cc := cc) (maxL := maxL) (ret := some ty) hy hw ?_
  intro p e s m args below meth c s₁ B hml hv
  obtain ⟨rfl, -⟩ := hv
  have hlocks := B.notSynchronized
  have hE : gz_E (p, l, e, (headSpec wl rm).room, s, m, ar.toArray, below, meth, c, (fun _ => m.cls, fun _ _ => 0), [], (fun _ => False), maxL, 0, 0, MQ below (va_Qi (fun r (_ : Unit) => post r) (fun _ _ => True) (fun _ => False)) ar.toArray s 0 0 (fun _ => False)) l (fun _ => m.cls, fun _ _ => 0) [] cc own wl maxL rm false := by
    refine ⟨B.exec, B.bytes, hml, ?_, atoms_spec (ws := wl) B.pre, fun h => absurd h (by decide), fun h => absurd h (by decide), rfl, rfl, rfl, rfl, hroom, Nat.zero_le _, Nat.zero_le _⟩
    rw [← hown]
    exact findClass_of_methodNamed B.named
  have K := body _ _ hE ?_
  · have hl := lv_entry ar (n := maxL) har
    rw [lg_entry_eq]
    exact K s.heap [] _ (fun k q h => by simp at h) ⟨fun i j p q h => by simp at h, fun k q h => by simp at h⟩ va_S.rf hl
  · intro w1 pc lv r hd hn hp H locs ls hP hD hS h
    exact W.zret (v := r) B.exec B.bytes B.returns hn (fun t ht hW => ⟨⟨r, (), rfl, hp, trivial⟩, hS.F ht⟩) hS.2.2 hd
theorem gz_sofl {l : Launch} {y : MethodName} {wl wl' : List Cond} {rm : Room} {ar : List Value} {post : Int64 → Prop} {cc : ByteArray} {maxL : Nat}  {own : String} (hy : plainName y.cls = true) (hw : wl = Cond.code y cc maxL (some .long) :: wl') (hown : y.cls = own) (hroom : (headSpec wl rm).room = rm) (har : (lg_sl ar).length ≤ maxL)
    (body : ∀ (z : gz_Z) (D : va_G), gz_E z l D [] cc own wl maxL rm false → (∀ (w1 : va_W) (pc : Nat) (lv : List (Nat × Value)) (r : Int64), decode cc pc = .ok (.lreturn, 1) → post r → gz_G z w1 pc lv [.long r]) → gz_G z [] 0 (lv_args 0 ar) []) : gz_Sl l y wl rm ar post := by
  refine Met.ofW (cc := cc) (maxL := maxL) (ret := some .long) hy hw ?_
  intro p e s m args below meth c s₁ B hml hv
  obtain ⟨rfl, -⟩ := hv
  have hlocks := B.notSynchronized
  have hE : gz_E (p, l, e, (headSpec wl rm).room, s, m, ar.toArray, below, meth, c, (fun _ => m.cls, fun _ _ => 0), [], (fun _ => False), maxL, 0, 0, MQ below (va_Ql (fun r (_ : Unit) => post r) (fun _ _ => True) (fun _ => False)) ar.toArray s 0 0 (fun _ => False)) l (fun _ => m.cls, fun _ _ => 0) [] cc own wl maxL rm false := by
    refine ⟨B.exec, B.bytes, hml, ?_, atoms_spec (ws := wl) B.pre, fun h => absurd h (by decide), fun h => absurd h (by decide), rfl, rfl, rfl, rfl, hroom, Nat.zero_le _, Nat.zero_le _⟩
    rw [← hown]
    exact findClass_of_methodNamed B.named
  have K := body _ _ hE ?_
  · have hl := lv_entry ar (n := maxL) har
    rw [lg_entry_eq]
    exact K s.heap [] _ (fun k q h => by simp at h) ⟨fun i j p q h => by simp at h, fun k q h => by simp at h⟩ va_S.rf hl
  · intro w1 pc lv r hd hp H locs ls hP hD hS h
    exact W.lret (v := r) B.exec B.bytes B.returns (fun t ht hW => ⟨⟨r, (), rfl, hp, trivial⟩, hS.F ht⟩) hS.2.2 hd
end GZ
