/-! the law: rows of its script and its switch, equal answers -/
section LW
def gz_X (z : gz_Z) (b L : Nat) (xs : Nat → Int32) : Prop :=
  match z with
  | (_, _, _, _, s, _, _, _, _, _, _, _, A, _, _, _, _) => va_X b L xs s s.heap ∧ b < s.heap.size ∧ ¬ A b
variable {z : gz_Z} {l' : Launch} {D' : va_G} {tys' : List (ClassId × FieldType)} {cc : ByteArray} {own : String} {Ts : List Cond} {nL' : Nat} {R' : Room} {kb : Bool}
variable {ws : va_W} {pc : Nat} {lv lv' : List (Nat × Value)} {rest st : List Value}
theorem gz_sld (E : gz_E z l' D' tys' cc own Ts nL' R' kb) {b L j : Nat} {xs : Nat → Int32} (X : gz_X z b L xs) (hj : j < L) (hL : L ≤ 2048) (hd : decode cc pc = .ok (.iaload, 1)) (k : gz_G z ws (pc + 1) lv (.int (xs j) :: rest)) : gz_G z ws pc lv (.int (nI j) :: .ref b :: rest) := by
  obtain ⟨p, l, e, R, s, m, args, below, meth, c, D, tys, A, nL, cells, slots, Q⟩ := z
  obtain ⟨hx, hb, hml, hown, hts, hK, hA, rfl, rfl, rfl, rfl, rfl, hcs, hss⟩ := E
  obtain ⟨x1, x2, x3⟩ := X
  intro H locs ls hP hD hS h
  refine va_sld hx hb x1 x2 x3 hS (vp_in_nI hj (by omega)) hd ?_
  rw [nI_clamp (show j < 2 ^ 31 by omega)]
  exact k H locs ls hP hD hS h
theorem gz_slen (E : gz_E z l' D' tys' cc own Ts nL' R' kb) {b L : Nat} {xs : Nat → Int32} (X : gz_X z b L xs) (hd : decode cc pc = .ok (.arraylength, 1)) (k : gz_G z ws (pc + 1) lv (.int (nI L) :: rest)) : gz_G z ws pc lv (.ref b :: rest) := by
  obtain ⟨p, l, e, R, s, m, args, below, meth, c, D, tys, A, nL, cells, slots, Q⟩ := z
  obtain ⟨hx, hb, hml, hown, hts, hK, hA, rfl, rfl, rfl, rfl, rfl, hcs, hss⟩ := E
  obtain ⟨x1, x2, x3⟩ := X
  intro H locs ls hP hD hS h
  exact va_slen hx hb x1 x2 x3 hS hd (k H locs ls hP hD hS h)
theorem gz_tab (E : gz_E z l' D' tys' cc own Ts nL' R' kb) {dflt lo hi : Int} {offs : Array Int} {len : Nat} {x : Int32} {off : Int} {tgt : Nat} (hd : decode cc pc = .ok (.tableswitch dflt lo hi offs, len)) (h1 : ¬ x.toInt < lo) (h2 : ¬ hi < x.toInt) (ho : offs[(x.toInt - lo).toNat]? = some off) (ht : (pc : Int) + off = (tgt : Int)) (k : gz_G z ws tgt lv rest) : gz_G z ws pc lv (.int x :: rest) := by
  obtain ⟨p, l, e, R, s, m, args, below, meth, c, D, tys, A, nL, cells, slots, Q⟩ := z
  obtain ⟨hx, hb, hml, hown, hts, hK, hA, rfl, rfl, rfl, rfl, rfl, hcs, hss⟩ := E
  intro H locs ls hP hD hS h
  exact lv_tableIn hx hb hd h1 h2 ho ht (k H locs ls hP hD hS h)
theorem lw_room {i L : Nat} (hi : i ≤ L) (hL : L ≤ 2048) (h : ¬ nI L - nI 4 < nI i) : i + 4 ≤ L := by
  rw [Int32.lt_iff_toInt_lt, pk_sub_toInt (by omega) (by omega), nI_toInt (by omega)] at h
  omega
theorem lw_idx {n n' : Nat} {f g : Nat → Nat} {x r r' : Int32} (hn : n ≤ 64) (e : n = n') (hfg : ∀ k, k < n → f k = g k) (h : (∃ k, k < n ∧ x = nI k ∧ r = nI (f k)) ∨ (¬ gz_Ix x n ∧ r = -1)) (h' : (∃ k, k < n' ∧ x = nI k ∧ r' = nI (g k)) ∨ (¬ gz_Ix x n' ∧ r' = -1)) : r = r' := by
  subst e
  rcases h with ⟨k, h1, h2, h3⟩ | ⟨h1, h2⟩ <;> rcases h' with ⟨k', h1', h2', h3'⟩ | ⟨h1', h2'⟩
  · have := (nI_eq (by omega) (by omega)).mp (h2.symm.trans h2')
    subst this
    rw [h3, h3', hfg k h1]
  · exact absurd ⟨k, h1, h2⟩ h1'
  · exact absurd ⟨k', h1', h2'⟩ h1
  · rw [h2, h2']
theorem lw_idx2 {ρ : Type} {n m : Nat} (hn : n ≤ 64) (hm : m ≤ 64) {P Q : Nat → Nat → ρ → Prop} {d r r' : ρ} {i v : Int32} (hPQ : ∀ a k, a < n → k < m → P a k r → Q a k r' → r = r') (h : (∃ a k, a < n ∧ k < m ∧ i = nI a ∧ v = nI k ∧ P a k r) ∨ (¬ (gz_Ix i n ∧ gz_Ix v m) ∧ r = d)) (h' : (∃ a k, a < n ∧ k < m ∧ i = nI a ∧ v = nI k ∧ Q a k r') ∨ (¬ (gz_Ix i n ∧ gz_Ix v m) ∧ r' = d)) : r = r' := by
  rcases h with ⟨a, k, h1, h2, h3, h4, h5⟩ | ⟨h1, h2⟩ <;> rcases h' with ⟨a', k', h1', h2', h3', h4', h5'⟩ | ⟨h1', h2'⟩
  · have e1 := (nI_eq (by omega) (by omega)).mp (h3.symm.trans h3')
    have e2 := (nI_eq (by omega) (by omega)).mp (h4.symm.trans h4')
    subst e1 e2
    exact hPQ a k h1 h2 h5 h5'
  · exact absurd ⟨⟨a, h1, h3⟩, k, h2, h4⟩ h1'
  · exact absurd ⟨⟨a', h1', h3'⟩, k', h2', h4'⟩ h1
  · rw [h2, h2']
theorem lw_idxV {ρ : Type} {n m : Nat} (hn : n ≤ 64) (hm : m ≤ 64) {V : Nat → Nat → ρ} {d r r' : ρ} {i v : Int32} (h : (∃ a k, a < n ∧ k < m ∧ i = nI a ∧ v = nI k ∧ r = V a k) ∨ (¬ (gz_Ix i n ∧ gz_Ix v m) ∧ r = d)) (h' : (∃ a k, a < n ∧ k < m ∧ i = nI a ∧ v = nI k ∧ r' = V a k) ∨ (¬ (gz_Ix i n ∧ gz_Ix v m) ∧ r' = d)) : r = r' :=
  lw_idx2 (P := fun a k r => r = V a k) (Q := fun a k r => r = V a k) hn hm (fun a k _ _ h1 h2 => h1.trans h2.symm) h h'
theorem lw_near {n : Nat} {X Y : Nat → Int} {px py : Int} {r r' : Int32} (h : pg_NE n X Y px py r) (h' : pg_NE n X Y px py r') : r = r' := by
  rcases h with ⟨a, h⟩ | ⟨a, h⟩ <;> rcases h' with ⟨a', h'⟩ | ⟨a', h'⟩
  · rw [h, h']
  · exact absurd a' a
  · exact absurd a a'
  · rcases h with ⟨b, h⟩ | ⟨y, h, e⟩ <;> rcases h' with ⟨b', h'⟩ | ⟨y', h', e'⟩
    · rw [h, h']
    · exact absurd h'.1 (by omega)
    · exact absurd h.1 (by omega)
    · rw [e, e', pg_NS_u h h']
theorem lw_hold {n tc : Nat} {X Y : Nat → Int} {LE MI GE : Nat → Nat} {px py : Int} {r r' : Int32} (h : pg_HR n X Y tc LE MI GE px py r) (h' : pg_HR n X Y tc LE MI GE px py r') : r = r' := by
  rcases h with ⟨a, h⟩ | ⟨a, h⟩ <;> rcases h' with ⟨a', h'⟩ | ⟨a', h'⟩
  · rw [h, h']
  · exact absurd a' a
  · exact absurd a a'
  · rcases h with ⟨y, h1, h2, h3, e⟩ | ⟨e, h⟩ <;> rcases h' with ⟨y', h1', h2', h3', e'⟩ | ⟨e', h'⟩
    · have : y = y' := by
        rcases Nat.lt_trichotomy y y' with q | q | q
        · exact absurd h2 (h3' y q)
        · exact q
        · exact absurd h2' (h3 y' q)
      rw [e, e', this]
    · exact absurd h2 (h' y h1)
    · exact absurd h2' (h y' h1')
    · rw [e, e']
theorem lw_sq {n : Nat} (hn : n ≤ 64) {X Y : Nat → Int} {i : Int32} {px py : Int} {r r' : UInt64} (h : pg_SQ n X Y i px py r) (h' : pg_SQ n X Y i px py r') : ∃ v, fd_D 6 v r ∧ fd_D 6 v r' := by
  obtain ⟨v, d, h⟩ := h
  obtain ⟨v', d', h'⟩ := h'
  have : v = v' := by
    rcases h with ⟨a, h⟩ | ⟨a, h⟩ <;> rcases h' with ⟨a', h'⟩ | ⟨a', h'⟩
    · omega
    · exact absurd a' a
    · exact absurd a a'
    · rcases h with ⟨k, h1, h2, h3⟩ | ⟨h1, h2⟩ <;> rcases h' with ⟨k', h1', h2', h3'⟩ | ⟨h1', h2'⟩
      · have e := (nI_eq (by omega) (by omega)).mp (h2.symm.trans h2')
        subst e
        omega
      · exact absurd ⟨k, h1, h2⟩ h1'
      · exact absurd ⟨k', h1', h2'⟩ h1
      · omega
  subst this
  exact ⟨v, d, d'⟩
theorem lw_pt (x : Int32) : fd_D 3 x.toInt (FP.dmul (FP.i2d x) 4593671619917905920) := by
  have h := fd_mul (fd_i2d x) fd_125 (by decide) (by decide) (by have := Int32.le_toInt x; have := Int32.toInt_lt x; omega)
  rw [Int.mul_one] at h
  exact h
end LW
/-! THE CLAIM OUT OF ONE WALK OF THE LAW'S BODY. Your part is whole_start (and what it stands on); all else here is the same for every law, but numbers. -/
def R_law : String := "SiteTrianglesLaw"
def lw_P (b : Addr) (xs : List Int32) (args : Array Value) (s : State) : Prop := args = #[.ref b] ∧ s.IntsAt b xs ∧ xs.length ≤ 2048 ∧ (Jvm.Cond.and given_1 narrow_1).before args s = true
/-- what a walk over the start with the record d0 says of its end, said of the start itself -/
theorem lw_closed {s t : State} {o : Outcome} {d0 : Drawn} {L : List Loc} {k n : Nat} (hd0 : s.drawn.sameBut d0 lw_cs) (hv : ∃ v, o = .returned v) (hW : (s.setDrawn d0).WarmedH t.vm) (hs : (s.setDrawn d0).sameButNew ({ t with vm := s.vm } : State) L k n) : State.butDraws s t lw_cs (fun t1 => Framed s o t1 L k n) := by
  have h2 : t.drawn = d0 := congrArg State.drawn hs.1
  refine ⟨⟨hv, hW, State.sameButNew.setDrawn hs s.drawn⟩, ?_, by decide⟩
  rw [h2]
  exact hd0
def lw_Q (_ : Array Value) (s : State) (o : Outcome) (t : State) : Prop := o = .returned (some (.int 1)) ∧ State.butDraws s t lw_cs (fun t1 => Framed s o t1 [] 18 336)
def lw_Z (below : List Frame) (a : Array Value) (s : State) : State → Prop := fun t => ∃ o, t.status = .running ∧ Ended t below o ∧ lw_Q a s o t
/-- the law's own end, with 1 on the stack, nothing written that was there before, its room as the claim has it; d0: the record of draws at this point (at the entry s.drawn: begin with 'refine W.base ?_' and 'have hd0 := Drawn.sameBut.refl s.drawn lw_cs') -/
theorem lw_ret {p : Program} {l : Launch} {e : Env} {s : State} {m : MethodId} {below : List Frame} {meth : Method} {c : Code} {b : Nat} {d0 : Drawn} (hd0 : s.drawn.sameBut d0 lw_cs) (hx : p.tables.exec = Jvm.exec) (hb : c.code = code) (hr : meth.sig.returnType = ret) (hlocks : meth.locks = false) {pc : Nat} {H : Heap} {ls : Array Slot} (hdg : decode code pc = .ok (.ireturn, 1)) : W p l e room_1 (s.setDrawn d0) m #[Value.ref b] below meth c H [] 18 336 (lw_Z below #[Value.ref b] s) (F0 m pc ls [.int 1]) := by
  intro T hT X
  obtain ⟨fs, hret, hrun, hended, hW, hframe⟩ := X.leave (v := some (.int 1)) (hlocks := hlocks) (fun h => by rw [hr] at h; cases h)
  have hmeth' : T.vm.method? m = some meth := X.method'
  refine ⟨T.setFrames fs, ?_, .returned (some (.int 1)), hrun, hended, rfl, lw_closed hd0 ⟨_, rfl⟩ hW hframe⟩
  jvm_step X.here [X.here.top, hx, hb, hdg, hmeth', hr, ret, narrow_b1]
  (try refine ⟨rfl, ?_⟩); (try refine ⟨rfl, ?_⟩)
  first | (intro acts; rw [hret _ acts rfl rfl rfl]) | rw [hret _ _ rfl rfl rfl]
  exact Steps.refl _
/-- what holds at the law's entry: the machine, the code, the tables' words (any of lw_tbl by 'hts w (by decide +kernel)'), the script of L ints xs at the cell b, what the Statement gives of the start (any of its parts by flat_of_before) -/
def lw_At (p : Program) (s : State) (m : MethodId) (meth : Method) (c : Code) (b L : Nat) (xs : Nat → Int32) : Prop :=
  p.tables.exec = Jvm.exec ∧ c.code = code ∧ meth.sig.returnType = ret ∧ c.maxLocals = 8 ∧ s.vm.findClass R_law = some m.cls ∧ (∀ w ∈ lw_tbl, w.before #[Value.ref b] s = true) ∧ va_X b L xs s s.heap ∧ b < s.heap.size ∧ meth.locks = false ∧ (Jvm.Cond.and given_1 narrow_1).before #[Value.ref b] s = true
