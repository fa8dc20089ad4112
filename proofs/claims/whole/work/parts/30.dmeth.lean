/-! rows and methods over doubles -/
section DM
variable {z : gz_Z} {l' : Launch} {D' : va_G} {tys' : List (ClassId × FieldType)} {cc : ByteArray} {own : String} {Ts : List Cond} {nL' : Nat} {R' : Room} {kb : Bool}
variable {ws : va_W} {pc : Nat} {lv lv' : List (Nat × Value)} {rest st : List Value}
theorem gz_dc_lt (E : gz_E z l' D' tys' cc own Ts nL' R' kb) {k i j : Int} {x y : UInt64} {op : CmpOp} {off : Int} {tgt : Nat} (hd0 : decode cc pc = .ok (.dcmp op, 1)) (hd : decode cc (pc + 1) = .ok (.ifCond .lt off, 3)) (ht : ((pc + 1 : Nat) : Int) + off = (tgt : Int)) (hx : fd_D k i x) (hy : fd_D k j y) (kt : i < j → gz_G z ws tgt lv rest) (kf : j ≤ i → gz_G z ws (pc + 1 + 3) lv rest) : gz_G z ws pc lv (.double y :: .double x :: rest) := by
  have b := pg_sg_b (i - j)
  have s := pg_sg_neg (x := i - j)
  exact gz_dcmp E hd0 (fd_cv hx hy op) (gz_ifI_lt E hd ht (by omega) (by omega) (fun q => kt (by omega)) (fun q => kf (by omega)))
theorem gz_dc_ge (E : gz_E z l' D' tys' cc own Ts nL' R' kb) {k i j : Int} {x y : UInt64} {op : CmpOp} {off : Int} {tgt : Nat} (hd0 : decode cc pc = .ok (.dcmp op, 1)) (hd : decode cc (pc + 1) = .ok (.ifCond .ge off, 3)) (ht : ((pc + 1 : Nat) : Int) + off = (tgt : Int)) (hx : fd_D k i x) (hy : fd_D k j y) (kt : j ≤ i → gz_G z ws tgt lv rest) (kf : i < j → gz_G z ws (pc + 1 + 3) lv rest) : gz_G z ws pc lv (.double y :: .double x :: rest) := by
  have b := pg_sg_b (i - j)
  have s := pg_sg_neg (x := i - j)
  exact gz_dcmp E hd0 (fd_cv hx hy op) (gz_ifI_ge E hd ht (by omega) (by omega) (fun q => kt (by omega)) (fun q => kf (by omega)))
theorem gz_dc_gt (E : gz_E z l' D' tys' cc own Ts nL' R' kb) {k i j : Int} {x y : UInt64} {op : CmpOp} {off : Int} {tgt : Nat} (hd0 : decode cc pc = .ok (.dcmp op, 1)) (hd : decode cc (pc + 1) = .ok (.ifCond .gt off, 3)) (ht : ((pc + 1 : Nat) : Int) + off = (tgt : Int)) (hx : fd_D k i x) (hy : fd_D k j y) (kt : j < i → gz_G z ws tgt lv rest) (kf : i ≤ j → gz_G z ws (pc + 1 + 3) lv rest) : gz_G z ws pc lv (.double y :: .double x :: rest) := by
  have b := pg_sg_b (i - j)
  have s := pg_sg_pos (x := i - j)
  exact gz_dcmp E hd0 (fd_cv hx hy op) (gz_ifI_gt E hd ht (by omega) (by omega) (fun q => kt (by omega)) (fun q => kf (by omega)))
theorem gz_dc_le (E : gz_E z l' D' tys' cc own Ts nL' R' kb) {k i j : Int} {x y : UInt64} {op : CmpOp} {off : Int} {tgt : Nat} (hd0 : decode cc pc = .ok (.dcmp op, 1)) (hd : decode cc (pc + 1) = .ok (.ifCond .le off, 3)) (ht : ((pc + 1 : Nat) : Int) + off = (tgt : Int)) (hx : fd_D k i x) (hy : fd_D k j y) (kt : i ≤ j → gz_G z ws tgt lv rest) (kf : j < i → gz_G z ws (pc + 1 + 3) lv rest) : gz_G z ws pc lv (.double y :: .double x :: rest) := by
  have b := pg_sg_b (i - j)
  have s := pg_sg_pos (x := i - j)
  exact gz_dcmp E hd0 (fd_cv hx hy op) (gz_ifI_le E hd ht (by omega) (by omega) (fun q => kt (by omega)) (fun q => kf (by omega)))
theorem gz_dc_eq (E : gz_E z l' D' tys' cc own Ts nL' R' kb) {k i j : Int} {x y : UInt64} {op : CmpOp} {off : Int} {tgt : Nat} (hd0 : decode cc pc = .ok (.dcmp op, 1)) (hd : decode cc (pc + 1) = .ok (.ifCond .eq off, 3)) (ht : ((pc + 1 : Nat) : Int) + off = (tgt : Int)) (hx : fd_D k i x) (hy : fd_D k j y) (kt : i = j → gz_G z ws tgt lv rest) (kf : i ≠ j → gz_G z ws (pc + 1 + 3) lv rest) : gz_G z ws pc lv (.double y :: .double x :: rest) := by
  have b := pg_sg_b (i - j)
  have s := pg_sg_0 (x := i - j)
  exact gz_dcmp E hd0 (fd_cv hx hy op) (gz_ifI_eq E hd ht (by omega) (by omega) (fun q => kt (by omega)) (fun q => kf (by omega)))
theorem gz_dc_ne (E : gz_E z l' D' tys' cc own Ts nL' R' kb) {k i j : Int} {x y : UInt64} {op : CmpOp} {off : Int} {tgt : Nat} (hd0 : decode cc pc = .ok (.dcmp op, 1)) (hd : decode cc (pc + 1) = .ok (.ifCond .ne off, 3)) (ht : ((pc + 1 : Nat) : Int) + off = (tgt : Int)) (hx : fd_D k i x) (hy : fd_D k j y) (kt : i ≠ j → gz_G z ws tgt lv rest) (kf : i = j → gz_G z ws (pc + 1 + 3) lv rest) : gz_G z ws pc lv (.double y :: .double x :: rest) := by
  have b := pg_sg_b (i - j)
  have s := pg_sg_0 (x := i - j)
  exact gz_dcmp E hd0 (fd_cv hx hy op) (gz_ifI_ne E hd ht (by omega) (by omega) (fun q => kt (by omega)) (fun q => kf (by omega)))
theorem gz_ofd {l : Launch} {y : MethodName} {wl wl' : List Cond} {rm : Room} {D : va_G} {tys : List (ClassId × FieldType)} {ar : List Value} {w : va_W} {post : UInt64 → va_W → Prop} {cc : ByteArray} {maxL : Nat} {own : String} (hy : plainName y.cls = true) (hw : wl = Cond.code y cc maxL (some .double) :: wl') (hown : y.cls = own) (hroom : (headSpec wl rm).room = rm) (har : (lg_sl ar).length ≤ maxL)
    (body : ∀ z : gz_Z, gz_E z l D tys cc own wl maxL rm true → (∀ (w1 : va_W) (pc : Nat) (lv : List (Nat × Value)) (r : UInt64), decode cc pc = .ok (.dreturn, 1) → post r w1 → gz_G z w1 pc lv [.double r]) → gz_G z w 0 (lv_args 0 ar) []) : gz_Kd l y wl rm D tys ar w post := by
  intro sz
  refine Met.ofW (cc := cc) (maxL := maxL) (ret := some .double) hy hw ?_
  intro p e s m args below meth c s₁ B hml hv
  obtain ⟨rfl, hsz, hP, hK, hD0⟩ := hv
  subst hsz
  have hD := hD0.self (sz := s.heap.size)
  have hlocks := B.notSynchronized
  have hE : gz_E (p, l, e, (headSpec wl rm).room, s, m, ar.toArray, below, meth, c, D, tys, va_A w s.heap.size, maxL, 0, 0, MQ below (va_Qd post (fun w' t => va_P D vwCl w' t.heap ∧ va_K D vwCl tys t ∧ va_D (va_A w s.heap.size) w') (va_A w s.heap.size)) ar.toArray s 0 0 (va_A w s.heap.size)) l D tys cc own wl maxL rm true := by
    refine ⟨B.exec, B.bytes, hml, ?_, atoms_spec (ws := wl) B.pre, fun _ => hK, fun _ q h => Or.inr h, rfl, rfl, rfl, rfl, hroom, Nat.zero_le _, Nat.zero_le _⟩
    rw [← hown]
    exact findClass_of_methodNamed B.named
  have K := body _ hE ?_
  · have hl := lv_entry ar (n := maxL) har
    rw [lg_entry_eq]
    exact K s.heap [] _ hP hD va_S.rf hl
  · intro w1 pc lv r hd hp H locs ls hP hD hS h
    exact W.dret (v := r) B.exec B.bytes B.returns (fun t ht hW => ⟨⟨r, w1, rfl, hp, by rw [ht]; exact hP, va_K.moved hW.alike hK, hD⟩, hS.F ht⟩) hS.2.2 hd
theorem fd_m40 : fd_D 3 (-320000) 13899102408576860160 := by
  have e : FP.Core.val64 13899102408576860160 = .fin true 5497558138880000 (-37) := by decide +kernel
  unfold fd_D
  rw [e]
  show FP.Core.signed true (5497558138880000 * 2 ^ ((-37 : Int) + 3).toNat) = -320000 * ((2 ^ (-((-37 : Int) + 3)).toNat : Nat) : Int)
  decide
theorem fd_40 : fd_D 3 320000 4675730371722084352 := by
  have e : FP.Core.val64 4675730371722084352 = .fin false 5497558138880000 (-37) := by decide +kernel
  unfold fd_D
  rw [e]
  show FP.Core.signed false (5497558138880000 * 2 ^ ((-37 : Int) + 3).toNat) = 320000 * ((2 ^ (-((-37 : Int) + 3)).toNat : Nat) : Int)
  decide
theorem fd_m1 : fd_D 6 (-64) 13830554455654793216 := by
  have e : FP.Core.val64 13830554455654793216 = .fin true 4503599627370496 (-52) := by decide +kernel
  unfold fd_D
  rw [e]
  show FP.Core.signed true (4503599627370496 * 2 ^ ((-52 : Int) + 6).toNat) = -64 * ((2 ^ (-((-52 : Int) + 6)).toNat : Nat) : Int)
  decide
theorem fd_m2 : fd_D 6 (-128) 13835058055282163712 := by
  have e : FP.Core.val64 13835058055282163712 = .fin true 4503599627370496 (-51) := by decide +kernel
  unfold fd_D
  rw [e]
  show FP.Core.signed true (4503599627370496 * 2 ^ ((-51 : Int) + 6).toNat) = -128 * ((2 ^ (-((-51 : Int) + 6)).toNat : Nat) : Int)
  decide
theorem fd_0 : fd_D 3 0 FP.dconst0 := by
  unfold fd_D
  have e : FP.Core.val64 FP.dconst0 = .fin false 0 FP.Core.b64.qmin := FP.Core.val64_dconst0
  rw [e]
  show FP.Core.signed false (0 * 2 ^ (FP.Core.b64.qmin + 3).toNat) = 0 * _
  rw [Nat.zero_mul, Int.zero_mul]
  rfl
/-- a point's numbers, in eighths, are those of a point that is not refused -/
def pg_in (px py : Int) : Prop := -320000 ≤ px ∧ px ≤ 320000 ∧ -320000 ≤ py ∧ py ≤ 320000
/-- the square of the distance in 64ths; the side on which a point lies, in eighths -/
def pg_fa (X Y : Nat → Int) (a : Nat) (px py : Int) : Int := (px - 8 * X a) * (px - 8 * X a) + (py - 8 * Y a) * (py - 8 * Y a)
def pg_sd (X Y : Nat → Int) (a b : Nat) (px py : Int) : Int := (X b - X a) * (py - 8 * Y a) - (Y b - Y a) * (px - 8 * X a)
theorem pg_fa_b {n : Nat} {X Y : Nat → Int} (SB : pg_ok n X Y) {a : Nat} (ha : a < n) {px py : Int} (h : pg_in px py) : 0 ≤ pg_fa X Y a px py ∧ pg_fa X Y a px py ≤ 627200000000 := by
  have a1 := SB.2.1 a ha
  unfold pg_in at h
  have m1 := pg_mulb (a := px - 8 * X a) (b := px - 8 * X a) (A := 560000) (B := 560000) (by omega) (by omega) (by omega) (by omega)
  have m2 := pg_mulb (a := py - 8 * Y a) (b := py - 8 * Y a) (A := 560000) (B := 560000) (by omega) (by omega) (by omega) (by omega)
  have s1 := pg_sqn (px - 8 * X a) (py - 8 * Y a)
  unfold pg_fa
  omega
theorem pg_sd_b {n : Nat} {X Y : Nat → Int} (SB : pg_ok n X Y) {a b : Nat} (ha : a < n) (hb : b < n) {px py : Int} (h : pg_in px py) : -67200000000 ≤ pg_sd X Y a b px py ∧ pg_sd X Y a b px py ≤ 67200000000 := by
  have a1 := SB.2.1 a ha
  have b1 := SB.2.1 b hb
  unfold pg_in at h
  have m1 := pg_mulb (a := X b - X a) (b := py - 8 * Y a) (A := 60000) (B := 560000) (by omega) (by omega) (by omega) (by omega)
  have m2 := pg_mulb (a := Y b - Y a) (b := px - 8 * X a) (A := 60000) (B := 560000) (by omega) (by omega) (by omega) (by omega)
  unfold pg_sd
  omega
theorem pg_sd_s {X Y : Nat → Int} (a b c : Nat) (px py : Int) : pg_sd X Y a b px py + pg_sd X Y b c px py + pg_sd X Y c a px py = 8 * pg_tn X Y a b c := by unfold pg_sd pg_tn; grind
/-- triangle a, b, c holds the point -/
def pg_HO (X Y : Nat → Int) (a b c : Nat) (px py : Int) : Prop := (0 < pg_tn X Y a b c ∧ 0 ≤ pg_sd X Y a b px py ∧ 0 ≤ pg_sd X Y b c px py ∧ 0 ≤ pg_sd X Y c a px py) ∨ (pg_tn X Y a b c < 0 ∧ pg_sd X Y a b px py ≤ 0 ∧ pg_sd X Y b c px py ≤ 0 ∧ pg_sd X Y c a px py ≤ 0)
end DM
section DC
variable {l : Launch} {D : va_G} {ad : Nat → Nat} {cI cJ : ClassId} {n tc rc kc : Nat} {X Y : Nat → Int} {TT NB RG KT GR : Nat → Nat} {tl : Int}
variable {LE MI GE : Nat → Nat}
abbrev rmX0_isRefused : Room := { frames := 0, cells := 0, slots := 0, locals := 0 }
set_option maxRecDepth 20000 in
theorem cwX0_isRefused_121 : Jvm.Cond.constantDouble RX0 121 (13899102408576860160) ∈ wsX0_isRefused := by decide +kernel
set_option maxRecDepth 20000 in
theorem cwX0_isRefused_123 : Jvm.Cond.constantDouble RX0 123 (4675730371722084352) ∈ wsX0_isRefused := by decide +kernel
set_option maxRecDepth 20000 in
set_option maxHeartbeats 4000000 in
theorem mtX0_isRefused {px py : Int} {x y : UInt64} (hx : fd_D 3 px x) (hy : fd_D 3 py y) : gz_Si l yX0_isRefused wsX0_isRefused rmX0_isRefused [.double x, .double y] (fun r => gz_B r (¬ pg_in px py)) := by
  refine gz_sofi (cc := cX0_isRefused) (maxL := 5) (own := RX0) (by decide +kernel) rfl rfl rfl (Nat.le_of_ble_eq_true rfl) ?_
  intro z D E ret
  show gz_G z _ 0 [(0, .double x), (2, .double y)] []
  refine gz_dload_n E dX0_isRefused_0 rfl rfl ?_
  refine gz_ldc2d E dX0_isRefused_1 cwX0_isRefused_121 ?_
  refine gz_dc_lt (tgt := 36) E dX0_isRefused_4 dX0_isRefused_5 (by decide) hx fd_m40 (fun q4 => ?_) (fun q4 => ?_)
  · skip
    refine gz_iconst (v := nI 0) E dX0_isRefused_36 (by decide) ?_
    refine gz_istore (lv' := [(0, _), (2, _), (4, _)]) E dX0_isRefused_37 (by decide) rfl ?_
    refine gz_iload E dX0_isRefused_39 rfl ?_
    refine gz_ifN_ne (tgt := 48) E dX0_isRefused_41 (by decide) (by omega) (fun q41 => ?_) (fun q41 => ?_)
    · skip
      refine gz_iconst (v := 0) E dX0_isRefused_48 (by decide) ?_
      exact ret _ _ _ _ dX0_isRefused_49 rfl (by unfold pg_in; first | exact gz_B_t (by omega) | exact gz_B_f (by omega))
    · skip
      refine gz_iconst (v := 1) E dX0_isRefused_44 (by decide) ?_
      refine gz_goto (tgt := 49) E dX0_isRefused_45 (by decide) ?_
      exact ret _ _ _ _ dX0_isRefused_49 rfl (by unfold pg_in; first | exact gz_B_t (by omega) | exact gz_B_f (by omega))
  · skip
    refine gz_dload_n E dX0_isRefused_8 rfl rfl ?_
    refine gz_ldc2d E dX0_isRefused_9 cwX0_isRefused_123 ?_
    refine gz_dc_gt (tgt := 36) E dX0_isRefused_12 dX0_isRefused_13 (by decide) hx fd_40 (fun q12 => ?_) (fun q12 => ?_)
    · skip
      refine gz_iconst (v := nI 0) E dX0_isRefused_36 (by decide) ?_
      refine gz_istore (lv' := [(0, _), (2, _), (4, _)]) E dX0_isRefused_37 (by decide) rfl ?_
      refine gz_iload E dX0_isRefused_39 rfl ?_
      refine gz_ifN_ne (tgt := 48) E dX0_isRefused_41 (by decide) (by omega) (fun q41 => ?_) (fun q41 => ?_)
      · skip
        refine gz_iconst (v := 0) E dX0_isRefused_48 (by decide) ?_
        exact ret _ _ _ _ dX0_isRefused_49 rfl (by unfold pg_in; first | exact gz_B_t (by omega) | exact gz_B_f (by omega))
      · skip
        refine gz_iconst (v := 1) E dX0_isRefused_44 (by decide) ?_
        refine gz_goto (tgt := 49) E dX0_isRefused_45 (by decide) ?_
        exact ret _ _ _ _ dX0_isRefused_49 rfl (by unfold pg_in; first | exact gz_B_t (by omega) | exact gz_B_f (by omega))
    · skip
      refine gz_dload_n E dX0_isRefused_16 rfl rfl ?_
      refine gz_ldc2d E dX0_isRefused_17 cwX0_isRefused_121 ?_
      refine gz_dc_lt (tgt := 36) E dX0_isRefused_20 dX0_isRefused_21 (by decide) hy fd_m40 (fun q20 => ?_) (fun q20 => ?_)
      · skip
        refine gz_iconst (v := nI 0) E dX0_isRefused_36 (by decide) ?_
        refine gz_istore (lv' := [(0, _), (2, _), (4, _)]) E dX0_isRefused_37 (by decide) rfl ?_
        refine gz_iload E dX0_isRefused_39 rfl ?_
        refine gz_ifN_ne (tgt := 48) E dX0_isRefused_41 (by decide) (by omega) (fun q41 => ?_) (fun q41 => ?_)
        · skip
          refine gz_iconst (v := 0) E dX0_isRefused_48 (by decide) ?_
          exact ret _ _ _ _ dX0_isRefused_49 rfl (by unfold pg_in; first | exact gz_B_t (by omega) | exact gz_B_f (by omega))
        · skip
          refine gz_iconst (v := 1) E dX0_isRefused_44 (by decide) ?_
          refine gz_goto (tgt := 49) E dX0_isRefused_45 (by decide) ?_
          exact ret _ _ _ _ dX0_isRefused_49 rfl (by unfold pg_in; first | exact gz_B_t (by omega) | exact gz_B_f (by omega))
      · skip
        refine gz_dload_n E dX0_isRefused_24 rfl rfl ?_
        refine gz_ldc2d E dX0_isRefused_25 cwX0_isRefused_123 ?_
        refine gz_dc_gt (tgt := 36) E dX0_isRefused_28 dX0_isRefused_29 (by decide) hy fd_40 (fun q28 => ?_) (fun q28 => ?_)
        · skip
          refine gz_iconst (v := nI 0) E dX0_isRefused_36 (by decide) ?_
          refine gz_istore (lv' := [(0, _), (2, _), (4, _)]) E dX0_isRefused_37 (by decide) rfl ?_
          refine gz_iload E dX0_isRefused_39 rfl ?_
          refine gz_ifN_ne (tgt := 48) E dX0_isRefused_41 (by decide) (by omega) (fun q41 => ?_) (fun q41 => ?_)
          · skip
            refine gz_iconst (v := 0) E dX0_isRefused_48 (by decide) ?_
            exact ret _ _ _ _ dX0_isRefused_49 rfl (by unfold pg_in; first | exact gz_B_t (by omega) | exact gz_B_f (by omega))
          · skip
            refine gz_iconst (v := 1) E dX0_isRefused_44 (by decide) ?_
            refine gz_goto (tgt := 49) E dX0_isRefused_45 (by decide) ?_
            exact ret _ _ _ _ dX0_isRefused_49 rfl (by unfold pg_in; first | exact gz_B_t (by omega) | exact gz_B_f (by omega))
        · skip
          refine gz_iconst (v := nI 1) E dX0_isRefused_32 (by decide) ?_
          refine gz_goto (tgt := 37) E dX0_isRefused_33 (by decide) ?_
          refine gz_istore (lv' := [(0, _), (2, _), (4, _)]) E dX0_isRefused_37 (by decide) rfl ?_
          refine gz_iload E dX0_isRefused_39 rfl ?_
          refine gz_ifN_ne (tgt := 48) E dX0_isRefused_41 (by decide) (by omega) (fun q41 => ?_) (fun q41 => ?_)
          · skip
            refine gz_iconst (v := 0) E dX0_isRefused_48 (by decide) ?_
            exact ret _ _ _ _ dX0_isRefused_49 rfl (by unfold pg_in; first | exact gz_B_t (by omega) | exact gz_B_f (by omega))
          · skip
            refine gz_iconst (v := 1) E dX0_isRefused_44 (by decide) ?_
            refine gz_goto (tgt := 49) E dX0_isRefused_45 (by decide) ?_
            exact ret _ _ _ _ dX0_isRefused_49 rfl (by unfold pg_in; first | exact gz_B_t (by omega) | exact gz_B_f (by omega))
abbrev rmX0_gapToPoint : Room := { frames := 1, cells := 0, slots := 0, locals := 21 }
set_option maxRecDepth 20000 in
set_option maxHeartbeats 4000000 in
theorem mtX0_gapToPoint (SB : pg_ok n X Y) {a : Nat} (ha : a < n) {px py : Int} {x y : UInt64} (hx : fd_D 3 px x) (hy : fd_D 3 py y) (hin : pg_in px py) : gz_Kd l yX0_gapToPoint wsX0_gapToPoint rmX0_gapToPoint D [(cI, .int), (cJ, .long)] [.ref (ad 0), .int (nI a), .double x, .double y] (wC ad cI n X Y tc TT NB RG rc KT kc tl GR) (fun r w1 => fd_D 6 (pg_fa X Y a px py) r ∧ w1 = (wC ad cI n X Y tc TT NB RG rc KT kc tl GR)) := by
  refine gz_ofd (cc := cX0_gapToPoint) (maxL := 10) (own := RX0) (by decide +kernel) rfl rfl rfl (Nat.le_of_ble_eq_true rfl) ?_
  intro z E ret
  have hn := SB.1
  have hB := SB.2.1 a ha
  unfold pg_in at hin
  have fb := pg_fa_b SB ha hin
  unfold pg_fa at fb
  have dX : fd_D 3 (px - 8 * X a) (FP.dsub x (FP.l2d (lI (X a)))) := by
    have h0 : fd_D 3 (8 * X a) (FP.l2d (lI (X a))) := by
      have := fd_up 3 (fd_l2d (v := X a) (by omega))
      rw [Int.mul_comm] at this
      exact this
    exact fd_sub hx h0 (by decide) (by decide) (by omega)
  have dY : fd_D 3 (py - 8 * Y a) (FP.dsub y (FP.l2d (lI (Y a)))) := by
    have h0 : fd_D 3 (8 * Y a) (FP.l2d (lI (Y a))) := by
      have := fd_up 3 (fd_l2d (v := Y a) (by omega))
      rw [Int.mul_comm] at this
      exact this
    exact fd_sub hy h0 (by decide) (by decide) (by omega)
  have m1 := pg_sq (px - 8 * X a)
  have m2 := pg_sq (py - 8 * Y a)
  have pX := fd_mul dX dX (by decide) (by decide) (by omega)
  have pY := fd_mul dY dY (by decide) (by decide) (by omega)
  have pS := fd_add pX pY (by decide) (by decide) (by omega)
  show gz_G z _ 0 [(0, .ref (ad 0)), (1, .int (nI a)), (2, .double x), (4, .double y)] []
  refine gz_dload_n E dX0_gapToPoint_0 rfl rfl ?_
  refine gz_aload_n E dX0_gapToPoint_1 rfl rfl ?_
  refine gz_iload_n E dX0_gapToPoint_2 rfl rfl ?_
  refine gz_call (n := 1) E 0 dX0_gapToPoint_3 gX0_gapToPoint_X0_xOf (mtX0_xOf SB (by assumption)) rfl rfl ⟨rfl, rfl⟩ (by decide +kernel) ⟨Nat.le_of_ble_eq_true rfl, Nat.le_of_ble_eq_true rfl⟩ rfl rfl rfl rfl (Nat.le_of_ble_eq_true rfl) (fun r3 w3 hr3 => ?_)
  obtain ⟨rfl, rfl⟩ := hr3
  refine gz_l2d E dX0_gapToPoint_6 ?_
  refine gz_dsub E dX0_gapToPoint_7 rfl (fd_n64 dX) ?_
  refine gz_dstore (lv' := [(0, _), (1, _), (2, _), (4, _), (6, _)]) E dX0_gapToPoint_8 (by decide) rfl ?_
  refine gz_dload E dX0_gapToPoint_10 rfl ?_
  refine gz_aload_n E dX0_gapToPoint_12 rfl rfl ?_
  refine gz_iload_n E dX0_gapToPoint_13 rfl rfl ?_
  refine gz_call (n := 1) E 0 dX0_gapToPoint_14 gX0_gapToPoint_X0_yOf (mtX0_yOf SB (by assumption)) rfl rfl ⟨rfl, rfl⟩ (by decide +kernel) ⟨Nat.le_of_ble_eq_true rfl, Nat.le_of_ble_eq_true rfl⟩ rfl rfl rfl rfl (Nat.le_of_ble_eq_true rfl) (fun r14 w14 hr14 => ?_)
  obtain ⟨rfl, rfl⟩ := hr14
  refine gz_l2d E dX0_gapToPoint_17 ?_
  refine gz_dsub E dX0_gapToPoint_18 rfl (fd_n64 dY) ?_
  refine gz_dstore (lv' := [(0, _), (1, _), (2, _), (4, _), (6, _), (8, _)]) E dX0_gapToPoint_19 (by decide) rfl ?_
  refine gz_dload E dX0_gapToPoint_21 rfl ?_
  refine gz_dload E dX0_gapToPoint_23 rfl ?_
  refine gz_dmul E dX0_gapToPoint_25 rfl (fd_n64 pX) ?_
  refine gz_dload E dX0_gapToPoint_26 rfl ?_
  refine gz_dload E dX0_gapToPoint_28 rfl ?_
  refine gz_dmul E dX0_gapToPoint_30 rfl (fd_n64 pY) ?_
  refine gz_dadd E dX0_gapToPoint_31 rfl (fd_n64 pS) ?_
  exact ret _ _ _ _ dX0_gapToPoint_32 ⟨pS, rfl⟩
abbrev rmX0_turnToPoint : Room := { frames := 1, cells := 0, slots := 0, locals := 21 }
set_option maxRecDepth 20000 in
set_option maxHeartbeats 4000000 in
theorem mtX0_turnToPoint (SB : pg_ok n X Y) {a b : Nat} (ha : a < n) (hb : b < n) {px py : Int} {x y : UInt64} (hx : fd_D 3 px x) (hy : fd_D 3 py y) (hin : pg_in px py) : gz_Kd l yX0_turnToPoint wsX0_turnToPoint rmX0_turnToPoint D [(cI, .int), (cJ, .long)] [.ref (ad 0), .int (nI a), .int (nI b), .double x, .double y] (wC ad cI n X Y tc TT NB RG rc KT kc tl GR) (fun r w1 => fd_D 3 (pg_sd X Y a b px py) r ∧ w1 = (wC ad cI n X Y tc TT NB RG rc KT kc tl GR)) := by
  refine gz_ofd (cc := cX0_turnToPoint) (maxL := 7) (own := RX0) (by decide +kernel) rfl rfl rfl (Nat.le_of_ble_eq_true rfl) ?_
  intro z E ret
  have hn := SB.1
  have hBa := SB.2.1 a ha
  have hBb := SB.2.1 b hb
  unfold pg_in at hin
  have dX : fd_D 3 (px - 8 * X a) (FP.dsub x (FP.l2d (lI (X a)))) := by
    have h0 : fd_D 3 (8 * X a) (FP.l2d (lI (X a))) := by
      have := fd_up 3 (fd_l2d (v := X a) (by omega))
      rw [Int.mul_comm] at this
      exact this
    exact fd_sub hx h0 (by decide) (by decide) (by omega)
  have dY : fd_D 3 (py - 8 * Y a) (FP.dsub y (FP.l2d (lI (Y a)))) := by
    have h0 : fd_D 3 (8 * Y a) (FP.l2d (lI (Y a))) := by
      have := fd_up 3 (fd_l2d (v := Y a) (by omega))
      rw [Int.mul_comm] at this
      exact this
    exact fd_sub hy h0 (by decide) (by decide) (by omega)
  have m1 := pg_mulb (a := X b - X a) (b := py - 8 * Y a) (A := 60000) (B := 560000) (by omega) (by omega) (by omega) (by omega)
  have m2 := pg_mulb (a := Y b - Y a) (b := px - 8 * X a) (A := 60000) (B := 560000) (by omega) (by omega) (by omega) (by omega)
  have pX := fd_mul (fd_l2d (v := X b - X a) (by omega)) dY (by decide) (by decide) (by omega)
  have pY := fd_mul (fd_l2d (v := Y b - Y a) (by omega)) dX (by decide) (by decide) (by omega)
  have pS := fd_sub pX pY (by decide) (by decide) (by omega)
  show gz_G z _ 0 [(0, .ref (ad 0)), (1, .int (nI a)), (2, .int (nI b)), (3, .double x), (5, .double y)] []
  refine gz_aload_n E dX0_turnToPoint_0 rfl rfl ?_
  refine gz_iload_n E dX0_turnToPoint_1 rfl rfl ?_
  refine gz_call (n := 1) E 0 dX0_turnToPoint_2 gX0_turnToPoint_X0_xOf (mtX0_xOf SB (by assumption)) rfl rfl ⟨rfl, rfl⟩ (by decide +kernel) ⟨Nat.le_of_ble_eq_true rfl, Nat.le_of_ble_eq_true rfl⟩ rfl rfl rfl rfl (Nat.le_of_ble_eq_true rfl) (fun r2 w2 hr2 => ?_)
  obtain ⟨rfl, rfl⟩ := hr2
  refine gz_aload_n E dX0_turnToPoint_5 rfl rfl ?_
  refine gz_iload_n E dX0_turnToPoint_6 rfl rfl ?_
  refine gz_call (n := 1) E 0 dX0_turnToPoint_7 gX0_turnToPoint_X0_xOf (mtX0_xOf SB (by assumption)) rfl rfl ⟨rfl, rfl⟩ (by decide +kernel) ⟨Nat.le_of_ble_eq_true rfl, Nat.le_of_ble_eq_true rfl⟩ rfl rfl rfl rfl (Nat.le_of_ble_eq_true rfl) (fun r7 w7 hr7 => ?_)
  obtain ⟨rfl, rfl⟩ := hr7
  refine gz_lsubL E dX0_turnToPoint_10 ?_
  refine gz_l2d E dX0_turnToPoint_11 ?_
  refine gz_dload E dX0_turnToPoint_12 rfl ?_
  refine gz_aload_n E dX0_turnToPoint_14 rfl rfl ?_
  refine gz_iload_n E dX0_turnToPoint_15 rfl rfl ?_
  refine gz_call (n := 1) E 0 dX0_turnToPoint_16 gX0_turnToPoint_X0_yOf (mtX0_yOf SB (by assumption)) rfl rfl ⟨rfl, rfl⟩ (by decide +kernel) ⟨Nat.le_of_ble_eq_true rfl, Nat.le_of_ble_eq_true rfl⟩ rfl rfl rfl rfl (Nat.le_of_ble_eq_true rfl) (fun r16 w16 hr16 => ?_)
  obtain ⟨rfl, rfl⟩ := hr16
  refine gz_l2d E dX0_turnToPoint_19 ?_
  refine gz_dsub E dX0_turnToPoint_20 rfl (fd_n64 dY) ?_
  refine gz_dmul E dX0_turnToPoint_21 rfl (fd_n64 pX) ?_
  refine gz_aload_n E dX0_turnToPoint_22 rfl rfl ?_
  refine gz_iload_n E dX0_turnToPoint_23 rfl rfl ?_
  refine gz_call (n := 1) E 0 dX0_turnToPoint_24 gX0_turnToPoint_X0_yOf (mtX0_yOf SB (by assumption)) rfl rfl ⟨rfl, rfl⟩ (by decide +kernel) ⟨Nat.le_of_ble_eq_true rfl, Nat.le_of_ble_eq_true rfl⟩ rfl rfl rfl rfl (Nat.le_of_ble_eq_true rfl) (fun r24 w24 hr24 => ?_)
  obtain ⟨rfl, rfl⟩ := hr24
  refine gz_aload_n E dX0_turnToPoint_27 rfl rfl ?_
  refine gz_iload_n E dX0_turnToPoint_28 rfl rfl ?_
  refine gz_call (n := 1) E 0 dX0_turnToPoint_29 gX0_turnToPoint_X0_yOf (mtX0_yOf SB (by assumption)) rfl rfl ⟨rfl, rfl⟩ (by decide +kernel) ⟨Nat.le_of_ble_eq_true rfl, Nat.le_of_ble_eq_true rfl⟩ rfl rfl rfl rfl (Nat.le_of_ble_eq_true rfl) (fun r29 w29 hr29 => ?_)
  obtain ⟨rfl, rfl⟩ := hr29
  refine gz_lsubL E dX0_turnToPoint_32 ?_
  refine gz_l2d E dX0_turnToPoint_33 ?_
  refine gz_dload_n E dX0_turnToPoint_34 rfl rfl ?_
  refine gz_aload_n E dX0_turnToPoint_35 rfl rfl ?_
  refine gz_iload_n E dX0_turnToPoint_36 rfl rfl ?_
  refine gz_call (n := 1) E 0 dX0_turnToPoint_37 gX0_turnToPoint_X0_xOf (mtX0_xOf SB (by assumption)) rfl rfl ⟨rfl, rfl⟩ (by decide +kernel) ⟨Nat.le_of_ble_eq_true rfl, Nat.le_of_ble_eq_true rfl⟩ rfl rfl rfl rfl (Nat.le_of_ble_eq_true rfl) (fun r37 w37 hr37 => ?_)
  obtain ⟨rfl, rfl⟩ := hr37
  refine gz_l2d E dX0_turnToPoint_40 ?_
  refine gz_dsub E dX0_turnToPoint_41 rfl (fd_n64 dX) ?_
  refine gz_dmul E dX0_turnToPoint_42 rfl (fd_n64 pY) ?_
  refine gz_dsub E dX0_turnToPoint_43 rfl (fd_n64 pS) ?_
  exact ret _ _ _ _ dX0_turnToPoint_44 ⟨pS, rfl⟩
abbrev rmX0_holds : Room := { frames := 2, cells := 0, slots := 0, locals := 47 }
set_option maxRecDepth 20000 in
set_option maxHeartbeats 4000000 in
theorem mtX0_holds (SB : pg_ok n X Y) (ht : tc ≤ 23) (hTT : pg_TTs n tc TT LE MI GE) (hnl : ∀ t, t < tc → pg_tn X Y (LE t) (MI t) (GE t) ≠ 0) {i : Nat} (hi : i < tc) {px py : Int} {x y : UInt64} (hx : fd_D 3 px x) (hy : fd_D 3 py y) (hin : pg_in px py) : gz_Ki l yX0_holds wsX0_holds rmX0_holds D [(cI, .int), (cJ, .long)] [.ref (ad 0), .int (nI i), .double x, .double y] (wC ad cI n X Y tc TT NB RG rc KT kc tl GR) (fun r w1 => gz_B r (pg_HO X Y (LE i) (MI i) (GE i) px py) ∧ w1 = (wC ad cI n X Y tc TT NB RG rc KT kc tl GR)) := by
  refine gz_ofi (cc := cX0_holds) (maxL := 17) (own := RX0) (by decide +kernel) rfl rfl rfl (Nat.le_of_ble_eq_true rfl) ?_
  intro z E ret
  have hn := SB.1
  obtain ⟨t1, t2, t3, t4⟩ := hTT i hi
  have hT4 : TT i < 4096 := by omega
  obtain ⟨c0, c1, c2⟩ := pg_TTs_c hn hTT hi
  have hnz := hnl i hi
  have ha : LE i < n := by omega
  have hb : MI i < n := by omega
  have hc : GE i < n := by omega
  have ss := pg_sd_s (X := X) (Y := Y) (LE i) (MI i) (GE i) px py
  show gz_G z _ 0 [(0, .ref (ad 0)), (1, .int (nI i)), (2, .double x), (4, .double y)] []
  refine gz_aload_n E dX0_holds_0 rfl rfl ?_
  refine gz_iload_n E dX0_holds_1 rfl rfl ?_
  refine gz_iconst (v := nI 0) E dX0_holds_2 (by decide) ?_
  refine gz_cali (n := 2) E 0 dX0_holds_3 gX0_holds_X0_triangleCorner (mtX0_triangleCorner ht (by assumption) (by assumption) (by decide)) rfl rfl ⟨rfl, rfl⟩ (by decide +kernel) ⟨Nat.le_of_ble_eq_true rfl, Nat.le_of_ble_eq_true rfl⟩ rfl rfl rfl rfl (Nat.le_of_ble_eq_true rfl) (fun r3 w3 hr3 => ?_)
  obtain ⟨rfl, rfl⟩ := hr3
  rw [c0]
  refine gz_istore (lv' := [(0, _), (1, _), (2, _), (4, _), (6, _)]) E dX0_holds_6 (by decide) rfl ?_
  refine gz_aload_n E dX0_holds_8 rfl rfl ?_
  refine gz_iload_n E dX0_holds_9 rfl rfl ?_
  refine gz_iconst (v := nI 1) E dX0_holds_10 (by decide) ?_
  refine gz_cali (n := 2) E 0 dX0_holds_11 gX0_holds_X0_triangleCorner (mtX0_triangleCorner ht (by assumption) (by assumption) (by decide)) rfl rfl ⟨rfl, rfl⟩ (by decide +kernel) ⟨Nat.le_of_ble_eq_true rfl, Nat.le_of_ble_eq_true rfl⟩ rfl rfl rfl rfl (Nat.le_of_ble_eq_true rfl) (fun r11 w11 hr11 => ?_)
  obtain ⟨rfl, rfl⟩ := hr11
  rw [c1]
  refine gz_istore (lv' := [(0, _), (1, _), (2, _), (4, _), (6, _), (7, _)]) E dX0_holds_14 (by decide) rfl ?_
  refine gz_aload_n E dX0_holds_16 rfl rfl ?_
  refine gz_iload_n E dX0_holds_17 rfl rfl ?_
  refine gz_iconst (v := nI 2) E dX0_holds_18 (by decide) ?_
  refine gz_cali (n := 2) E 0 dX0_holds_19 gX0_holds_X0_triangleCorner (mtX0_triangleCorner ht (by assumption) (by assumption) (by decide)) rfl rfl ⟨rfl, rfl⟩ (by decide +kernel) ⟨Nat.le_of_ble_eq_true rfl, Nat.le_of_ble_eq_true rfl⟩ rfl rfl rfl rfl (Nat.le_of_ble_eq_true rfl) (fun r19 w19 hr19 => ?_)
  obtain ⟨rfl, rfl⟩ := hr19
  rw [c2]
  refine gz_istore (lv' := [(0, _), (1, _), (2, _), (4, _), (6, _), (7, _), (8, _)]) E dX0_holds_22 (by decide) rfl ?_
  refine gz_aload_n E dX0_holds_24 rfl rfl ?_
  refine gz_iload E dX0_holds_25 rfl ?_
  refine gz_iload E dX0_holds_27 rfl ?_
  refine gz_dload_n E dX0_holds_29 rfl rfl ?_
  refine gz_dload E dX0_holds_30 rfl ?_
  refine gz_cald (n := 4) E 0 dX0_holds_32 gX0_holds_X0_turnToPoint (mtX0_turnToPoint SB (by assumption) (by assumption) hx hy hin) rfl rfl ⟨rfl, rfl⟩ (by decide +kernel) ⟨Nat.le_of_ble_eq_true rfl, Nat.le_of_ble_eq_true rfl⟩ rfl rfl rfl rfl (Nat.le_of_ble_eq_true rfl) (fun r32 w32 hr32 => ?_)
  obtain ⟨hr32, rfl⟩ := hr32
  refine gz_dstore (lv' := [(0, _), (1, _), (2, _), (4, _), (6, _), (7, _), (8, _), (9, _)]) E dX0_holds_35 (by decide) rfl ?_
  refine gz_aload_n E dX0_holds_37 rfl rfl ?_
  refine gz_iload E dX0_holds_38 rfl ?_
  refine gz_iload E dX0_holds_40 rfl ?_
  refine gz_dload_n E dX0_holds_42 rfl rfl ?_
  refine gz_dload E dX0_holds_43 rfl ?_
  refine gz_cald (n := 4) E 0 dX0_holds_45 gX0_holds_X0_turnToPoint (mtX0_turnToPoint SB (by assumption) (by assumption) hx hy hin) rfl rfl ⟨rfl, rfl⟩ (by decide +kernel) ⟨Nat.le_of_ble_eq_true rfl, Nat.le_of_ble_eq_true rfl⟩ rfl rfl rfl rfl (Nat.le_of_ble_eq_true rfl) (fun r45 w45 hr45 => ?_)
  obtain ⟨hr45, rfl⟩ := hr45
  refine gz_dstore (lv' := [(0, _), (1, _), (2, _), (4, _), (6, _), (7, _), (8, _), (9, _), (11, _)]) E dX0_holds_48 (by decide) rfl ?_
  refine gz_aload_n E dX0_holds_50 rfl rfl ?_
  refine gz_iload E dX0_holds_51 rfl ?_
  refine gz_iload E dX0_holds_53 rfl ?_
  refine gz_dload_n E dX0_holds_55 rfl rfl ?_
  refine gz_dload E dX0_holds_56 rfl ?_
  refine gz_cald (n := 4) E 0 dX0_holds_58 gX0_holds_X0_turnToPoint (mtX0_turnToPoint SB (by assumption) (by assumption) hx hy hin) rfl rfl ⟨rfl, rfl⟩ (by decide +kernel) ⟨Nat.le_of_ble_eq_true rfl, Nat.le_of_ble_eq_true rfl⟩ rfl rfl rfl rfl (Nat.le_of_ble_eq_true rfl) (fun r58 w58 hr58 => ?_)
  obtain ⟨hr58, rfl⟩ := hr58
  refine gz_dstore (lv' := [(0, _), (1, _), (2, _), (4, _), (6, _), (7, _), (8, _), (9, _), (11, _), (13, _)]) E dX0_holds_61 (by decide) rfl ?_
  refine gz_dload E dX0_holds_63 rfl ?_
  refine gz_dconst0 E dX0_holds_65 ?_
  refine gz_dc_gt (tgt := 84) E dX0_holds_66 dX0_holds_67 (by decide) hr32 fd_0 (fun q66 => ?_) (fun q66 => ?_)
  · skip
    refine gz_iconst (v := nI 1) E dX0_holds_84 (by decide) ?_
    refine gz_goto (tgt := 89) E dX0_holds_85 (by decide) ?_
    refine gz_istore (lv' := [(0, _), (1, _), (2, _), (4, _), (6, _), (7, _), (8, _), (9, _), (11, _), (13, _), (15, _)]) E dX0_holds_89 (by decide) rfl ?_
    refine gz_dload E dX0_holds_91 rfl ?_
    refine gz_dconst0 E dX0_holds_93 ?_
    refine gz_dc_lt (tgt := 112) E dX0_holds_94 dX0_holds_95 (by decide) hr32 fd_0 (fun q94 => ?_) (fun q94 => ?_)
    · skip
      refine gz_iconst (v := nI 1) E dX0_holds_112 (by decide) ?_
      refine gz_goto (tgt := 117) E dX0_holds_113 (by decide) ?_
      refine gz_istore (lv' := [(0, _), (1, _), (2, _), (4, _), (6, _), (7, _), (8, _), (9, _), (11, _), (13, _), (15, _), (16, _)]) E dX0_holds_117 (by decide) rfl ?_
      refine gz_iload E dX0_holds_119 rfl ?_
      refine gz_ifN_eq (tgt := 129) E dX0_holds_121 (by decide) (by omega) (fun q121 => ?_) (fun q121 => ?_)
      · skip
        refine gz_iconst (v := 1) E dX0_holds_129 (by decide) ?_
        refine gz_goto (tgt := 134) E dX0_holds_130 (by decide) ?_
        exact ret _ _ _ _ dX0_holds_134 rfl ⟨by unfold pg_HO; first | exact gz_B_t (by omega) | exact gz_B_f (by omega), rfl⟩
      · skip
        refine gz_iload E dX0_holds_124 rfl ?_
        refine gz_ifN_ne (tgt := 133) E dX0_holds_126 (by decide) (by omega) (fun q126 => ?_) (fun q126 => ?_)
        · skip
          refine gz_iconst (v := 0) E dX0_holds_133 (by decide) ?_
          exact ret _ _ _ _ dX0_holds_134 rfl ⟨by unfold pg_HO; first | exact gz_B_t (by omega) | exact gz_B_f (by omega), rfl⟩
        · skip
          refine gz_iconst (v := 1) E dX0_holds_129 (by decide) ?_
          refine gz_goto (tgt := 134) E dX0_holds_130 (by decide) ?_
          exact ret _ _ _ _ dX0_holds_134 rfl ⟨by unfold pg_HO; first | exact gz_B_t (by omega) | exact gz_B_f (by omega), rfl⟩
    · skip
      refine gz_dload E dX0_holds_98 rfl ?_
      refine gz_dconst0 E dX0_holds_100 ?_
      refine gz_dc_lt (tgt := 112) E dX0_holds_101 dX0_holds_102 (by decide) hr45 fd_0 (fun q101 => ?_) (fun q101 => ?_)
      · skip
        refine gz_iconst (v := nI 1) E dX0_holds_112 (by decide) ?_
        refine gz_goto (tgt := 117) E dX0_holds_113 (by decide) ?_
        refine gz_istore (lv' := [(0, _), (1, _), (2, _), (4, _), (6, _), (7, _), (8, _), (9, _), (11, _), (13, _), (15, _), (16, _)]) E dX0_holds_117 (by decide) rfl ?_
        refine gz_iload E dX0_holds_119 rfl ?_
        refine gz_ifN_eq (tgt := 129) E dX0_holds_121 (by decide) (by omega) (fun q121 => ?_) (fun q121 => ?_)
        · skip
          refine gz_iconst (v := 1) E dX0_holds_129 (by decide) ?_
          refine gz_goto (tgt := 134) E dX0_holds_130 (by decide) ?_
          exact ret _ _ _ _ dX0_holds_134 rfl ⟨by unfold pg_HO; first | exact gz_B_t (by omega) | exact gz_B_f (by omega), rfl⟩
        · skip
          refine gz_iload E dX0_holds_124 rfl ?_
          refine gz_ifN_ne (tgt := 133) E dX0_holds_126 (by decide) (by omega) (fun q126 => ?_) (fun q126 => ?_)
          · skip
            refine gz_iconst (v := 0) E dX0_holds_133 (by decide) ?_
            exact ret _ _ _ _ dX0_holds_134 rfl ⟨by unfold pg_HO; first | exact gz_B_t (by omega) | exact gz_B_f (by omega), rfl⟩
          · skip
            refine gz_iconst (v := 1) E dX0_holds_129 (by decide) ?_
            refine gz_goto (tgt := 134) E dX0_holds_130 (by decide) ?_
            exact ret _ _ _ _ dX0_holds_134 rfl ⟨by unfold pg_HO; first | exact gz_B_t (by omega) | exact gz_B_f (by omega), rfl⟩
      · skip
        refine gz_dload E dX0_holds_105 rfl ?_
        refine gz_dconst0 E dX0_holds_107 ?_
        refine gz_dc_ge (tgt := 116) E dX0_holds_108 dX0_holds_109 (by decide) hr58 fd_0 (fun q108 => ?_) (fun q108 => ?_)
        · skip
          refine gz_iconst (v := nI 0) E dX0_holds_116 (by decide) ?_
          refine gz_istore (lv' := [(0, _), (1, _), (2, _), (4, _), (6, _), (7, _), (8, _), (9, _), (11, _), (13, _), (15, _), (16, _)]) E dX0_holds_117 (by decide) rfl ?_
          refine gz_iload E dX0_holds_119 rfl ?_
          refine gz_ifN_eq (tgt := 129) E dX0_holds_121 (by decide) (by omega) (fun q121 => ?_) (fun q121 => ?_)
          · skip
            refine gz_iconst (v := 1) E dX0_holds_129 (by decide) ?_
            refine gz_goto (tgt := 134) E dX0_holds_130 (by decide) ?_
            exact ret _ _ _ _ dX0_holds_134 rfl ⟨by unfold pg_HO; first | exact gz_B_t (by omega) | exact gz_B_f (by omega), rfl⟩
          · skip
            refine gz_iload E dX0_holds_124 rfl ?_
            refine gz_ifN_ne (tgt := 133) E dX0_holds_126 (by decide) (by omega) (fun q126 => ?_) (fun q126 => ?_)
            · skip
              refine gz_iconst (v := 0) E dX0_holds_133 (by decide) ?_
              exact ret _ _ _ _ dX0_holds_134 rfl ⟨by unfold pg_HO; first | exact gz_B_t (by omega) | exact gz_B_f (by omega), rfl⟩
            · skip
              refine gz_iconst (v := 1) E dX0_holds_129 (by decide) ?_
              refine gz_goto (tgt := 134) E dX0_holds_130 (by decide) ?_
              exact ret _ _ _ _ dX0_holds_134 rfl ⟨by unfold pg_HO; first | exact gz_B_t (by omega) | exact gz_B_f (by omega), rfl⟩
        · skip
          refine gz_iconst (v := nI 1) E dX0_holds_112 (by decide) ?_
          refine gz_goto (tgt := 117) E dX0_holds_113 (by decide) ?_
          refine gz_istore (lv' := [(0, _), (1, _), (2, _), (4, _), (6, _), (7, _), (8, _), (9, _), (11, _), (13, _), (15, _), (16, _)]) E dX0_holds_117 (by decide) rfl ?_
          refine gz_iload E dX0_holds_119 rfl ?_
          refine gz_ifN_eq (tgt := 129) E dX0_holds_121 (by decide) (by omega) (fun q121 => ?_) (fun q121 => ?_)
          · skip
            refine gz_iconst (v := 1) E dX0_holds_129 (by decide) ?_
            refine gz_goto (tgt := 134) E dX0_holds_130 (by decide) ?_
            exact ret _ _ _ _ dX0_holds_134 rfl ⟨by unfold pg_HO; first | exact gz_B_t (by omega) | exact gz_B_f (by omega), rfl⟩
          · skip
            refine gz_iload E dX0_holds_124 rfl ?_
            refine gz_ifN_ne (tgt := 133) E dX0_holds_126 (by decide) (by omega) (fun q126 => ?_) (fun q126 => ?_)
            · skip
              refine gz_iconst (v := 0) E dX0_holds_133 (by decide) ?_
              exact ret _ _ _ _ dX0_holds_134 rfl ⟨by unfold pg_HO; first | exact gz_B_t (by omega) | exact gz_B_f (by omega), rfl⟩
            · skip
              refine gz_iconst (v := 1) E dX0_holds_129 (by decide) ?_
              refine gz_goto (tgt := 134) E dX0_holds_130 (by decide) ?_
              exact ret _ _ _ _ dX0_holds_134 rfl ⟨by unfold pg_HO; first | exact gz_B_t (by omega) | exact gz_B_f (by omega), rfl⟩
  · skip
    refine gz_dload E dX0_holds_70 rfl ?_
    refine gz_dconst0 E dX0_holds_72 ?_
    refine gz_dc_gt (tgt := 84) E dX0_holds_73 dX0_holds_74 (by decide) hr45 fd_0 (fun q73 => ?_) (fun q73 => ?_)
    · skip
      refine gz_iconst (v := nI 1) E dX0_holds_84 (by decide) ?_
      refine gz_goto (tgt := 89) E dX0_holds_85 (by decide) ?_
      refine gz_istore (lv' := [(0, _), (1, _), (2, _), (4, _), (6, _), (7, _), (8, _), (9, _), (11, _), (13, _), (15, _)]) E dX0_holds_89 (by decide) rfl ?_
      refine gz_dload E dX0_holds_91 rfl ?_
      refine gz_dconst0 E dX0_holds_93 ?_
      refine gz_dc_lt (tgt := 112) E dX0_holds_94 dX0_holds_95 (by decide) hr32 fd_0 (fun q94 => ?_) (fun q94 => ?_)
      · skip
        refine gz_iconst (v := nI 1) E dX0_holds_112 (by decide) ?_
        refine gz_goto (tgt := 117) E dX0_holds_113 (by decide) ?_
        refine gz_istore (lv' := [(0, _), (1, _), (2, _), (4, _), (6, _), (7, _), (8, _), (9, _), (11, _), (13, _), (15, _), (16, _)]) E dX0_holds_117 (by decide) rfl ?_
        refine gz_iload E dX0_holds_119 rfl ?_
        refine gz_ifN_eq (tgt := 129) E dX0_holds_121 (by decide) (by omega) (fun q121 => ?_) (fun q121 => ?_)
        · skip
          refine gz_iconst (v := 1) E dX0_holds_129 (by decide) ?_
          refine gz_goto (tgt := 134) E dX0_holds_130 (by decide) ?_
          exact ret _ _ _ _ dX0_holds_134 rfl ⟨by unfold pg_HO; first | exact gz_B_t (by omega) | exact gz_B_f (by omega), rfl⟩
        · skip
          refine gz_iload E dX0_holds_124 rfl ?_
          refine gz_ifN_ne (tgt := 133) E dX0_holds_126 (by decide) (by omega) (fun q126 => ?_) (fun q126 => ?_)
          · skip
            refine gz_iconst (v := 0) E dX0_holds_133 (by decide) ?_
            exact ret _ _ _ _ dX0_holds_134 rfl ⟨by unfold pg_HO; first | exact gz_B_t (by omega) | exact gz_B_f (by omega), rfl⟩
          · skip
            refine gz_iconst (v := 1) E dX0_holds_129 (by decide) ?_
            refine gz_goto (tgt := 134) E dX0_holds_130 (by decide) ?_
            exact ret _ _ _ _ dX0_holds_134 rfl ⟨by unfold pg_HO; first | exact gz_B_t (by omega) | exact gz_B_f (by omega), rfl⟩
      · skip
        refine gz_dload E dX0_holds_98 rfl ?_
        refine gz_dconst0 E dX0_holds_100 ?_
        refine gz_dc_lt (tgt := 112) E dX0_holds_101 dX0_holds_102 (by decide) hr45 fd_0 (fun q101 => ?_) (fun q101 => ?_)
        · skip
          refine gz_iconst (v := nI 1) E dX0_holds_112 (by decide) ?_
          refine gz_goto (tgt := 117) E dX0_holds_113 (by decide) ?_
          refine gz_istore (lv' := [(0, _), (1, _), (2, _), (4, _), (6, _), (7, _), (8, _), (9, _), (11, _), (13, _), (15, _), (16, _)]) E dX0_holds_117 (by decide) rfl ?_
          refine gz_iload E dX0_holds_119 rfl ?_
          refine gz_ifN_eq (tgt := 129) E dX0_holds_121 (by decide) (by omega) (fun q121 => ?_) (fun q121 => ?_)
          · skip
            refine gz_iconst (v := 1) E dX0_holds_129 (by decide) ?_
            refine gz_goto (tgt := 134) E dX0_holds_130 (by decide) ?_
            exact ret _ _ _ _ dX0_holds_134 rfl ⟨by unfold pg_HO; first | exact gz_B_t (by omega) | exact gz_B_f (by omega), rfl⟩
          · skip
            refine gz_iload E dX0_holds_124 rfl ?_
            refine gz_ifN_ne (tgt := 133) E dX0_holds_126 (by decide) (by omega) (fun q126 => ?_) (fun q126 => ?_)
            · skip
              refine gz_iconst (v := 0) E dX0_holds_133 (by decide) ?_
              exact ret _ _ _ _ dX0_holds_134 rfl ⟨by unfold pg_HO; first | exact gz_B_t (by omega) | exact gz_B_f (by omega), rfl⟩
            · skip
              refine gz_iconst (v := 1) E dX0_holds_129 (by decide) ?_
              refine gz_goto (tgt := 134) E dX0_holds_130 (by decide) ?_
              exact ret _ _ _ _ dX0_holds_134 rfl ⟨by unfold pg_HO; first | exact gz_B_t (by omega) | exact gz_B_f (by omega), rfl⟩
        · skip
          refine gz_dload E dX0_holds_105 rfl ?_
          refine gz_dconst0 E dX0_holds_107 ?_
          refine gz_dc_ge (tgt := 116) E dX0_holds_108 dX0_holds_109 (by decide) hr58 fd_0 (fun q108 => ?_) (fun q108 => ?_)
          · skip
            refine gz_iconst (v := nI 0) E dX0_holds_116 (by decide) ?_
            refine gz_istore (lv' := [(0, _), (1, _), (2, _), (4, _), (6, _), (7, _), (8, _), (9, _), (11, _), (13, _), (15, _), (16, _)]) E dX0_holds_117 (by decide) rfl ?_
            refine gz_iload E dX0_holds_119 rfl ?_
            refine gz_ifN_eq (tgt := 129) E dX0_holds_121 (by decide) (by omega) (fun q121 => ?_) (fun q121 => ?_)
            · skip
              refine gz_iconst (v := 1) E dX0_holds_129 (by decide) ?_
              refine gz_goto (tgt := 134) E dX0_holds_130 (by decide) ?_
              exact ret _ _ _ _ dX0_holds_134 rfl ⟨by unfold pg_HO; first | exact gz_B_t (by omega) | exact gz_B_f (by omega), rfl⟩
            · skip
              refine gz_iload E dX0_holds_124 rfl ?_
              refine gz_ifN_ne (tgt := 133) E dX0_holds_126 (by decide) (by omega) (fun q126 => ?_) (fun q126 => ?_)
              · skip
                refine gz_iconst (v := 0) E dX0_holds_133 (by decide) ?_
                exact ret _ _ _ _ dX0_holds_134 rfl ⟨by unfold pg_HO; first | exact gz_B_t (by omega) | exact gz_B_f (by omega), rfl⟩
              · skip
                refine gz_iconst (v := 1) E dX0_holds_129 (by decide) ?_
                refine gz_goto (tgt := 134) E dX0_holds_130 (by decide) ?_
                exact ret _ _ _ _ dX0_holds_134 rfl ⟨by unfold pg_HO; first | exact gz_B_t (by omega) | exact gz_B_f (by omega), rfl⟩
          · skip
            refine gz_iconst (v := nI 1) E dX0_holds_112 (by decide) ?_
            refine gz_goto (tgt := 117) E dX0_holds_113 (by decide) ?_
            refine gz_istore (lv' := [(0, _), (1, _), (2, _), (4, _), (6, _), (7, _), (8, _), (9, _), (11, _), (13, _), (15, _), (16, _)]) E dX0_holds_117 (by decide) rfl ?_
            refine gz_iload E dX0_holds_119 rfl ?_
            refine gz_ifN_eq (tgt := 129) E dX0_holds_121 (by decide) (by omega) (fun q121 => ?_) (fun q121 => ?_)
            · skip
              refine gz_iconst (v := 1) E dX0_holds_129 (by decide) ?_
              refine gz_goto (tgt := 134) E dX0_holds_130 (by decide) ?_
              exact ret _ _ _ _ dX0_holds_134 rfl ⟨by unfold pg_HO; first | exact gz_B_t (by omega) | exact gz_B_f (by omega), rfl⟩
            · skip
              refine gz_iload E dX0_holds_124 rfl ?_
              refine gz_ifN_ne (tgt := 133) E dX0_holds_126 (by decide) (by omega) (fun q126 => ?_) (fun q126 => ?_)
              · skip
                refine gz_iconst (v := 0) E dX0_holds_133 (by decide) ?_
                exact ret _ _ _ _ dX0_holds_134 rfl ⟨by unfold pg_HO; first | exact gz_B_t (by omega) | exact gz_B_f (by omega), rfl⟩
              · skip
                refine gz_iconst (v := 1) E dX0_holds_129 (by decide) ?_
                refine gz_goto (tgt := 134) E dX0_holds_130 (by decide) ?_
                exact ret _ _ _ _ dX0_holds_134 rfl ⟨by unfold pg_HO; first | exact gz_B_t (by omega) | exact gz_B_f (by omega), rfl⟩
    · skip
      refine gz_dload E dX0_holds_77 rfl ?_
      refine gz_dconst0 E dX0_holds_79 ?_
      refine gz_dc_le (tgt := 88) E dX0_holds_80 dX0_holds_81 (by decide) hr58 fd_0 (fun q80 => ?_) (fun q80 => ?_)
      · skip
        refine gz_iconst (v := nI 0) E dX0_holds_88 (by decide) ?_
        refine gz_istore (lv' := [(0, _), (1, _), (2, _), (4, _), (6, _), (7, _), (8, _), (9, _), (11, _), (13, _), (15, _)]) E dX0_holds_89 (by decide) rfl ?_
        refine gz_dload E dX0_holds_91 rfl ?_
        refine gz_dconst0 E dX0_holds_93 ?_
        refine gz_dc_lt (tgt := 112) E dX0_holds_94 dX0_holds_95 (by decide) hr32 fd_0 (fun q94 => ?_) (fun q94 => ?_)
        · skip
          refine gz_iconst (v := nI 1) E dX0_holds_112 (by decide) ?_
          refine gz_goto (tgt := 117) E dX0_holds_113 (by decide) ?_
          refine gz_istore (lv' := [(0, _), (1, _), (2, _), (4, _), (6, _), (7, _), (8, _), (9, _), (11, _), (13, _), (15, _), (16, _)]) E dX0_holds_117 (by decide) rfl ?_
          refine gz_iload E dX0_holds_119 rfl ?_
          refine gz_ifN_eq (tgt := 129) E dX0_holds_121 (by decide) (by omega) (fun q121 => ?_) (fun q121 => ?_)
          · skip
            refine gz_iconst (v := 1) E dX0_holds_129 (by decide) ?_
            refine gz_goto (tgt := 134) E dX0_holds_130 (by decide) ?_
            exact ret _ _ _ _ dX0_holds_134 rfl ⟨by unfold pg_HO; first | exact gz_B_t (by omega) | exact gz_B_f (by omega), rfl⟩
          · skip
            refine gz_iload E dX0_holds_124 rfl ?_
            refine gz_ifN_ne (tgt := 133) E dX0_holds_126 (by decide) (by omega) (fun q126 => ?_) (fun q126 => ?_)
            · skip
              refine gz_iconst (v := 0) E dX0_holds_133 (by decide) ?_
              exact ret _ _ _ _ dX0_holds_134 rfl ⟨by unfold pg_HO; first | exact gz_B_t (by omega) | exact gz_B_f (by omega), rfl⟩
            · skip
              refine gz_iconst (v := 1) E dX0_holds_129 (by decide) ?_
              refine gz_goto (tgt := 134) E dX0_holds_130 (by decide) ?_
              exact ret _ _ _ _ dX0_holds_134 rfl ⟨by unfold pg_HO; first | exact gz_B_t (by omega) | exact gz_B_f (by omega), rfl⟩
        · skip
          refine gz_dload E dX0_holds_98 rfl ?_
          refine gz_dconst0 E dX0_holds_100 ?_
          refine gz_dc_lt (tgt := 112) E dX0_holds_101 dX0_holds_102 (by decide) hr45 fd_0 (fun q101 => ?_) (fun q101 => ?_)
          · skip
            refine gz_iconst (v := nI 1) E dX0_holds_112 (by decide) ?_
            refine gz_goto (tgt := 117) E dX0_holds_113 (by decide) ?_
            refine gz_istore (lv' := [(0, _), (1, _), (2, _), (4, _), (6, _), (7, _), (8, _), (9, _), (11, _), (13, _), (15, _), (16, _)]) E dX0_holds_117 (by decide) rfl ?_
            refine gz_iload E dX0_holds_119 rfl ?_
            refine gz_ifN_eq (tgt := 129) E dX0_holds_121 (by decide) (by omega) (fun q121 => ?_) (fun q121 => ?_)
            · skip
              refine gz_iconst (v := 1) E dX0_holds_129 (by decide) ?_
              refine gz_goto (tgt := 134) E dX0_holds_130 (by decide) ?_
              exact ret _ _ _ _ dX0_holds_134 rfl ⟨by unfold pg_HO; first | exact gz_B_t (by omega) | exact gz_B_f (by omega), rfl⟩
            · skip
              refine gz_iload E dX0_holds_124 rfl ?_
              refine gz_ifN_ne (tgt := 133) E dX0_holds_126 (by decide) (by omega) (fun q126 => ?_) (fun q126 => ?_)
              · skip
                refine gz_iconst (v := 0) E dX0_holds_133 (by decide) ?_
                exact ret _ _ _ _ dX0_holds_134 rfl ⟨by unfold pg_HO; first | exact gz_B_t (by omega) | exact gz_B_f (by omega), rfl⟩
              · skip
                refine gz_iconst (v := 1) E dX0_holds_129 (by decide) ?_
                refine gz_goto (tgt := 134) E dX0_holds_130 (by decide) ?_
                exact ret _ _ _ _ dX0_holds_134 rfl ⟨by unfold pg_HO; first | exact gz_B_t (by omega) | exact gz_B_f (by omega), rfl⟩
          · skip
            refine gz_dload E dX0_holds_105 rfl ?_
            refine gz_dconst0 E dX0_holds_107 ?_
            refine gz_dc_ge (tgt := 116) E dX0_holds_108 dX0_holds_109 (by decide) hr58 fd_0 (fun q108 => ?_) (fun q108 => ?_)
            · skip
              refine gz_iconst (v := nI 0) E dX0_holds_116 (by decide) ?_
              refine gz_istore (lv' := [(0, _), (1, _), (2, _), (4, _), (6, _), (7, _), (8, _), (9, _), (11, _), (13, _), (15, _), (16, _)]) E dX0_holds_117 (by decide) rfl ?_
              refine gz_iload E dX0_holds_119 rfl ?_
              refine gz_ifN_eq (tgt := 129) E dX0_holds_121 (by decide) (by omega) (fun q121 => ?_) (fun q121 => ?_)
              · skip
                refine gz_iconst (v := 1) E dX0_holds_129 (by decide) ?_
                refine gz_goto (tgt := 134) E dX0_holds_130 (by decide) ?_
                exact ret _ _ _ _ dX0_holds_134 rfl ⟨by unfold pg_HO; first | exact gz_B_t (by omega) | exact gz_B_f (by omega), rfl⟩
              · skip
                refine gz_iload E dX0_holds_124 rfl ?_
                refine gz_ifN_ne (tgt := 133) E dX0_holds_126 (by decide) (by omega) (fun q126 => ?_) (fun q126 => ?_)
                · skip
                  refine gz_iconst (v := 0) E dX0_holds_133 (by decide) ?_
                  exact ret _ _ _ _ dX0_holds_134 rfl ⟨by unfold pg_HO; first | exact gz_B_t (by omega) | exact gz_B_f (by omega), rfl⟩
                · skip
                  refine gz_iconst (v := 1) E dX0_holds_129 (by decide) ?_
                  refine gz_goto (tgt := 134) E dX0_holds_130 (by decide) ?_
                  exact ret _ _ _ _ dX0_holds_134 rfl ⟨by unfold pg_HO; first | exact gz_B_t (by omega) | exact gz_B_f (by omega), rfl⟩
            · skip
              refine gz_iconst (v := nI 1) E dX0_holds_112 (by decide) ?_
              refine gz_goto (tgt := 117) E dX0_holds_113 (by decide) ?_
              refine gz_istore (lv' := [(0, _), (1, _), (2, _), (4, _), (6, _), (7, _), (8, _), (9, _), (11, _), (13, _), (15, _), (16, _)]) E dX0_holds_117 (by decide) rfl ?_
              refine gz_iload E dX0_holds_119 rfl ?_
              refine gz_ifN_eq (tgt := 129) E dX0_holds_121 (by decide) (by omega) (fun q121 => ?_) (fun q121 => ?_)
              · skip
                refine gz_iconst (v := 1) E dX0_holds_129 (by decide) ?_
                refine gz_goto (tgt := 134) E dX0_holds_130 (by decide) ?_
                exact ret _ _ _ _ dX0_holds_134 rfl ⟨by unfold pg_HO; first | exact gz_B_t (by omega) | exact gz_B_f (by omega), rfl⟩
              · skip
                refine gz_iload E dX0_holds_124 rfl ?_
                refine gz_ifN_ne (tgt := 133) E dX0_holds_126 (by decide) (by omega) (fun q126 => ?_) (fun q126 => ?_)
                · skip
                  refine gz_iconst (v := 0) E dX0_holds_133 (by decide) ?_
                  exact ret _ _ _ _ dX0_holds_134 rfl ⟨by unfold pg_HO; first | exact gz_B_t (by omega) | exact gz_B_f (by omega), rfl⟩
                · skip
                  refine gz_iconst (v := 1) E dX0_holds_129 (by decide) ?_
                  refine gz_goto (tgt := 134) E dX0_holds_130 (by decide) ?_
                  exact ret _ _ _ _ dX0_holds_134 rfl ⟨by unfold pg_HO; first | exact gz_B_t (by omega) | exact gz_B_f (by omega), rfl⟩
      · skip
        refine gz_iconst (v := nI 1) E dX0_holds_84 (by decide) ?_
        refine gz_goto (tgt := 89) E dX0_holds_85 (by decide) ?_
        refine gz_istore (lv' := [(0, _), (1, _), (2, _), (4, _), (6, _), (7, _), (8, _), (9, _), (11, _), (13, _), (15, _)]) E dX0_holds_89 (by decide) rfl ?_
        refine gz_dload E dX0_holds_91 rfl ?_
        refine gz_dconst0 E dX0_holds_93 ?_
        refine gz_dc_lt (tgt := 112) E dX0_holds_94 dX0_holds_95 (by decide) hr32 fd_0 (fun q94 => ?_) (fun q94 => ?_)
        · skip
          refine gz_iconst (v := nI 1) E dX0_holds_112 (by decide) ?_
          refine gz_goto (tgt := 117) E dX0_holds_113 (by decide) ?_
          refine gz_istore (lv' := [(0, _), (1, _), (2, _), (4, _), (6, _), (7, _), (8, _), (9, _), (11, _), (13, _), (15, _), (16, _)]) E dX0_holds_117 (by decide) rfl ?_
          refine gz_iload E dX0_holds_119 rfl ?_
          refine gz_ifN_eq (tgt := 129) E dX0_holds_121 (by decide) (by omega) (fun q121 => ?_) (fun q121 => ?_)
          · skip
            refine gz_iconst (v := 1) E dX0_holds_129 (by decide) ?_
            refine gz_goto (tgt := 134) E dX0_holds_130 (by decide) ?_
            exact ret _ _ _ _ dX0_holds_134 rfl ⟨by unfold pg_HO; first | exact gz_B_t (by omega) | exact gz_B_f (by omega), rfl⟩
          · skip
            refine gz_iload E dX0_holds_124 rfl ?_
            refine gz_ifN_ne (tgt := 133) E dX0_holds_126 (by decide) (by omega) (fun q126 => ?_) (fun q126 => ?_)
            · skip
              refine gz_iconst (v := 0) E dX0_holds_133 (by decide) ?_
              exact ret _ _ _ _ dX0_holds_134 rfl ⟨by unfold pg_HO; first | exact gz_B_t (by omega) | exact gz_B_f (by omega), rfl⟩
            · skip
              refine gz_iconst (v := 1) E dX0_holds_129 (by decide) ?_
              refine gz_goto (tgt := 134) E dX0_holds_130 (by decide) ?_
              exact ret _ _ _ _ dX0_holds_134 rfl ⟨by unfold pg_HO; first | exact gz_B_t (by omega) | exact gz_B_f (by omega), rfl⟩
        · skip
          refine gz_dload E dX0_holds_98 rfl ?_
          refine gz_dconst0 E dX0_holds_100 ?_
          refine gz_dc_lt (tgt := 112) E dX0_holds_101 dX0_holds_102 (by decide) hr45 fd_0 (fun q101 => ?_) (fun q101 => ?_)
          · skip
            refine gz_iconst (v := nI 1) E dX0_holds_112 (by decide) ?_
            refine gz_goto (tgt := 117) E dX0_holds_113 (by decide) ?_
            refine gz_istore (lv' := [(0, _), (1, _), (2, _), (4, _), (6, _), (7, _), (8, _), (9, _), (11, _), (13, _), (15, _), (16, _)]) E dX0_holds_117 (by decide) rfl ?_
            refine gz_iload E dX0_holds_119 rfl ?_
            refine gz_ifN_eq (tgt := 129) E dX0_holds_121 (by decide) (by omega) (fun q121 => ?_) (fun q121 => ?_)
            · skip
              refine gz_iconst (v := 1) E dX0_holds_129 (by decide) ?_
              refine gz_goto (tgt := 134) E dX0_holds_130 (by decide) ?_
              exact ret _ _ _ _ dX0_holds_134 rfl ⟨by unfold pg_HO; first | exact gz_B_t (by omega) | exact gz_B_f (by omega), rfl⟩
            · skip
              refine gz_iload E dX0_holds_124 rfl ?_
              refine gz_ifN_ne (tgt := 133) E dX0_holds_126 (by decide) (by omega) (fun q126 => ?_) (fun q126 => ?_)
              · skip
                refine gz_iconst (v := 0) E dX0_holds_133 (by decide) ?_
                exact ret _ _ _ _ dX0_holds_134 rfl ⟨by unfold pg_HO; first | exact gz_B_t (by omega) | exact gz_B_f (by omega), rfl⟩
              · skip
                refine gz_iconst (v := 1) E dX0_holds_129 (by decide) ?_
                refine gz_goto (tgt := 134) E dX0_holds_130 (by decide) ?_
                exact ret _ _ _ _ dX0_holds_134 rfl ⟨by unfold pg_HO; first | exact gz_B_t (by omega) | exact gz_B_f (by omega), rfl⟩
          · skip
            refine gz_dload E dX0_holds_105 rfl ?_
            refine gz_dconst0 E dX0_holds_107 ?_
            refine gz_dc_ge (tgt := 116) E dX0_holds_108 dX0_holds_109 (by decide) hr58 fd_0 (fun q108 => ?_) (fun q108 => ?_)
            · skip
              refine gz_iconst (v := nI 0) E dX0_holds_116 (by decide) ?_
              refine gz_istore (lv' := [(0, _), (1, _), (2, _), (4, _), (6, _), (7, _), (8, _), (9, _), (11, _), (13, _), (15, _), (16, _)]) E dX0_holds_117 (by decide) rfl ?_
              refine gz_iload E dX0_holds_119 rfl ?_
              refine gz_ifN_eq (tgt := 129) E dX0_holds_121 (by decide) (by omega) (fun q121 => ?_) (fun q121 => ?_)
              · skip
                refine gz_iconst (v := 1) E dX0_holds_129 (by decide) ?_
                refine gz_goto (tgt := 134) E dX0_holds_130 (by decide) ?_
                exact ret _ _ _ _ dX0_holds_134 rfl ⟨by unfold pg_HO; first | exact gz_B_t (by omega) | exact gz_B_f (by omega), rfl⟩
              · skip
                refine gz_iload E dX0_holds_124 rfl ?_
                refine gz_ifN_ne (tgt := 133) E dX0_holds_126 (by decide) (by omega) (fun q126 => ?_) (fun q126 => ?_)
                · skip
                  refine gz_iconst (v := 0) E dX0_holds_133 (by decide) ?_
                  exact ret _ _ _ _ dX0_holds_134 rfl ⟨by unfold pg_HO; first | exact gz_B_t (by omega) | exact gz_B_f (by omega), rfl⟩
                · skip
                  refine gz_iconst (v := 1) E dX0_holds_129 (by decide) ?_
                  refine gz_goto (tgt := 134) E dX0_holds_130 (by decide) ?_
                  exact ret _ _ _ _ dX0_holds_134 rfl ⟨by unfold pg_HO; first | exact gz_B_t (by omega) | exact gz_B_f (by omega), rfl⟩
            · skip
              refine gz_iconst (v := nI 1) E dX0_holds_112 (by decide) ?_
              refine gz_goto (tgt := 117) E dX0_holds_113 (by decide) ?_
              refine gz_istore (lv' := [(0, _), (1, _), (2, _), (4, _), (6, _), (7, _), (8, _), (9, _), (11, _), (13, _), (15, _), (16, _)]) E dX0_holds_117 (by decide) rfl ?_
              refine gz_iload E dX0_holds_119 rfl ?_
              refine gz_ifN_eq (tgt := 129) E dX0_holds_121 (by decide) (by omega) (fun q121 => ?_) (fun q121 => ?_)
              · skip
                refine gz_iconst (v := 1) E dX0_holds_129 (by decide) ?_
                refine gz_goto (tgt := 134) E dX0_holds_130 (by decide) ?_
                exact ret _ _ _ _ dX0_holds_134 rfl ⟨by unfold pg_HO; first | exact gz_B_t (by omega) | exact gz_B_f (by omega), rfl⟩
              · skip
                refine gz_iload E dX0_holds_124 rfl ?_
                refine gz_ifN_ne (tgt := 133) E dX0_holds_126 (by decide) (by omega) (fun q126 => ?_) (fun q126 => ?_)
                · skip
                  refine gz_iconst (v := 0) E dX0_holds_133 (by decide) ?_
                  exact ret _ _ _ _ dX0_holds_134 rfl ⟨by unfold pg_HO; first | exact gz_B_t (by omega) | exact gz_B_f (by omega), rfl⟩
                · skip
                  refine gz_iconst (v := 1) E dX0_holds_129 (by decide) ?_
                  refine gz_goto (tgt := 134) E dX0_holds_130 (by decide) ?_
                  exact ret _ _ _ _ dX0_holds_134 rfl ⟨by unfold pg_HO; first | exact gz_B_t (by omega) | exact gz_B_f (by omega), rfl⟩
def pg_HR (n : Nat) (X Y : Nat → Int) (tc : Nat) (LE MI GE : Nat → Nat) (px py : Int) (r : Int32) : Prop := (¬ pg_in px py ∧ r = -2) ∨ (pg_in px py ∧ ((∃ i, i < tc ∧ pg_HO X Y (LE i) (MI i) (GE i) px py ∧ (∀ j, j < i → ¬ pg_HO X Y (LE j) (MI j) (GE j) px py) ∧ r = nI i) ∨ (r = -1 ∧ ∀ j, j < tc → ¬ pg_HO X Y (LE j) (MI j) (GE j) px py)))
abbrev rmX0_holder : Room := { frames := 3, cells := 0, slots := 0, locals := 83 }
theorem inwX0_holder : ∀ w ∈ wsX00, w ∈ wsX0_holder := fun _ h => List.mem_cons_of_mem _ (List.mem_append_right _ h)
set_option maxRecDepth 20000 in
theorem flX0_holder_23 : Cond.fieldLink RX0 23 RX0 (TX0 4).2.1 (TX0 4).2.2.1 ∈ wsX0_holder := by decide +kernel
set_option maxRecDepth 20000 in
set_option maxHeartbeats 4000000 in
theorem mtX0_holder (SB : pg_ok n X Y) (ht : tc ≤ 23) (hTT : pg_TTs n tc TT LE MI GE) (hnl : ∀ t, t < tc → pg_tn X Y (LE t) (MI t) (GE t) ≠ 0) {px py : Int} {x y : UInt64} (hx : fd_D 3 px x) (hy : fd_D 3 py y) : gz_Ki l yX0_holder wsX0_holder rmX0_holder D [(cI, .int), (cJ, .long)] [.ref (ad 0), .double x, .double y] (wC ad cI n X Y tc TT NB RG rc KT kc tl GR) (fun r w1 => pg_HR n X Y tc LE MI GE px py r ∧ w1 = (wC ad cI n X Y tc TT NB RG rc KT kc tl GR)) := by
  refine gz_ofi (cc := cX0_holder) (maxL := 6) (own := RX0) (by decide +kernel) rfl rfl rfl (Nat.le_of_ble_eq_true rfl) ?_
  intro z E ret
  have hn := SB.1
  show gz_G z _ 0 [(0, .ref (ad 0)), (1, .double x), (3, .double y)] []
  have loop : pg_in px py → ∀ (f k : Nat), tc < f + k → k ≤ tc → (∀ j, j < k → ¬ pg_HO X Y (LE j) (MI j) (GE j) px py) → gz_G z (wC ad cI n X Y tc TT NB RG rc KT kc tl GR) 14 [(0, .ref (ad 0)), (1, .double x), (3, .double y), (5, .int (nI k))] [] := by
    intro hin f
    induction f with
    | zero => intro k h1 h2; exact absurd h1 (by omega)
    | succ f ih =>
      intro k h1 h2 h3
      refine gz_iload E dX0_holder_14 rfl ?_
      refine gz_aload_n E dX0_holder_16 rfl rfl ?_
      refine gz_get E inwX0_holder 0 4 dX0_holder_17 flX0_holder_23 rfl rfl (by decide) rfl rfl ?_
      refine gz_icN_ge (tgt := 43) E dX0_holder_20 (by decide) (by omega) (by omega) (fun q20 => ?_) (fun q20 => ?_)
      · skip
        refine gz_iconst (v := -1) E dX0_holder_43 (by decide) ?_
        first
          | exact ret _ _ _ _ dX0_holder_44 rfl ⟨Or.inr ⟨hin, Or.inl ⟨k, hk, q31, h3, rfl⟩⟩, rfl⟩
          | exact ret _ _ _ _ dX0_holder_44 rfl ⟨Or.inr ⟨hin, Or.inr ⟨rfl, fun j hj => h3 j (by omega)⟩⟩, rfl⟩
      · skip
        have hk : k < tc := by omega
        refine gz_aload_n E dX0_holder_23 rfl rfl ?_
        refine gz_iload E dX0_holder_24 rfl ?_
        refine gz_dload_n E dX0_holder_26 rfl rfl ?_
        refine gz_dload_n E dX0_holder_27 rfl rfl ?_
        refine gz_cali (n := 3) E 0 dX0_holder_28 gX0_holder_X0_holds (mtX0_holds SB ht hTT hnl (by assumption) hx hy hin) rfl rfl ⟨rfl, rfl⟩ (by decide +kernel) ⟨Nat.le_of_ble_eq_true rfl, Nat.le_of_ble_eq_true rfl⟩ rfl rfl rfl rfl (Nat.le_of_ble_eq_true rfl) (fun r28 w28 hr28 => ?_)
        obtain ⟨hr28, rfl⟩ := hr28
        refine gz_ifB_eq (tgt := 37) E hr28 dX0_holder_31 (by decide) (fun q31 => ?_) (fun q31 => ?_)
        · skip
          refine gz_iinc (lv' := [(0, _), (1, _), (3, _), (5, _)]) E dX0_holder_37 rfl (gz_nI1 _) (by decide) rfl ?_
          refine gz_goto (tgt := 14) E dX0_holder_40 (by decide) ?_
          exact ih (k + 1) (by omega) (by omega) (pg_lt_s h3 q31)
        · skip
          refine gz_iload E dX0_holder_34 rfl ?_
          first
            | exact ret _ _ _ _ dX0_holder_36 rfl ⟨Or.inr ⟨hin, Or.inl ⟨k, hk, q31, h3, rfl⟩⟩, rfl⟩
            | exact ret _ _ _ _ dX0_holder_36 rfl ⟨Or.inr ⟨hin, Or.inr ⟨rfl, fun j hj => h3 j (by omega)⟩⟩, rfl⟩
  refine gz_dload_n E dX0_holder_0 rfl rfl ?_
  refine gz_dload_n E dX0_holder_1 rfl rfl ?_
  refine gz_stati (n := 2) E dX0_holder_2 gX0_holder_X0_isRefused (mtX0_isRefused hx hy) rfl ⟨rfl, rfl⟩ (by decide +kernel) ⟨Nat.le_of_ble_eq_true rfl, Nat.le_of_ble_eq_true rfl⟩ rfl rfl (Nat.le_of_ble_eq_true rfl) (fun r2 hr2 => ?_)
  refine gz_ifB_eq (tgt := 11) E hr2 dX0_holder_5 (by decide) (fun q5 => ?_) (fun q5 => ?_)
  · skip
    refine gz_iconst (v := nI 0) E dX0_holder_11 (by decide) ?_
    refine gz_istore (lv' := [(0, _), (1, _), (3, _), (5, _)]) E dX0_holder_12 (by decide) rfl ?_
    exact loop (Classical.not_not.mp q5) (tc + 1) 0 (by omega) (by omega) (fun j hj => absurd hj (by omega))
  · skip
    refine gz_bipush (v := -2) E dX0_holder_8 (by decide) ?_
    exact ret _ _ _ _ dX0_holder_10 rfl ⟨Or.inl ⟨q5, rfl⟩, rfl⟩
def pg_NS (X Y : Nat → Int) (px py : Int) (k y : Nat) : Prop := y < k ∧ ∀ j, j < k → pg_fa X Y y px py < pg_fa X Y j px py ∨ (pg_fa X Y y px py = pg_fa X Y j px py ∧ y ≤ j)
def pg_NE (n : Nat) (X Y : Nat → Int) (px py : Int) (r : Int32) : Prop := (¬ pg_in px py ∧ r = -2) ∨ (pg_in px py ∧ ((n = 0 ∧ r = -1) ∨ ∃ y, pg_NS X Y px py n y ∧ r = nI y))
theorem pg_NS_keep {X Y : Nat → Int} {px py : Int} {k y : Nat} (h : pg_NS X Y px py k y) (hk : pg_fa X Y y px py ≤ pg_fa X Y k px py) : pg_NS X Y px py (k + 1) y := ⟨by have := h.1; omega, fun j hj => by
  rcases (show j < k ∨ j = k by omega) with e | e
  · exact h.2 j e
  · rw [e]; have := h.1; omega⟩
theorem pg_NS_new {X Y : Nat → Int} {px py : Int} {k y : Nat} (h : pg_NS X Y px py k y) (hk : pg_fa X Y k px py < pg_fa X Y y px py) : pg_NS X Y px py (k + 1) k := ⟨by omega, fun j hj => by
  rcases (show j < k ∨ j = k by omega) with e | e
  · have := h.2 j e; omega
  · rw [e]; omega⟩
theorem pg_NS_1 {X Y : Nat → Int} {px py : Int} : pg_NS X Y px py 1 0 := ⟨by omega, fun j hj => by
  have e : j = 0 := by omega
  rw [e]; omega⟩
theorem pg_NS_u {X Y : Nat → Int} {px py : Int} {k y y' : Nat} (h : pg_NS X Y px py k y) (h' : pg_NS X Y px py k y') : y = y' := by
  have a := h.2 y' h'.1
  have b := h'.2 y h.1
  omega
abbrev rmX0_nearest : Room := { frames := 2, cells := 0, slots := 0, locals := 50 }
theorem inwX0_nearest : ∀ w ∈ wsX00, w ∈ wsX0_nearest := fun _ h => List.mem_cons_of_mem _ (List.mem_append_right _ h)
set_option maxRecDepth 20000 in
theorem flX0_nearest_16 : Cond.fieldLink RX0 16 RX0 (TX0 2).2.1 (TX0 2).2.2.1 ∈ wsX0_nearest := by decide +kernel
set_option maxRecDepth 20000 in
set_option maxHeartbeats 4000000 in
theorem mtX0_nearest (SB : pg_ok n X Y) {px py : Int} {x y : UInt64} (hx : fd_D 3 px x) (hy : fd_D 3 py y) : gz_Ki l yX0_nearest wsX0_nearest rmX0_nearest D [(cI, .int), (cJ, .long)] [.ref (ad 0), .double x, .double y] (wC ad cI n X Y tc TT NB RG rc KT kc tl GR) (fun r w1 => pg_NE n X Y px py r ∧ w1 = (wC ad cI n X Y tc TT NB RG rc KT kc tl GR)) := by
  refine gz_ofi (cc := cX0_nearest) (maxL := 11) (own := RX0) (by decide +kernel) rfl rfl rfl (Nat.le_of_ble_eq_true rfl) ?_
  intro z E ret
  have hn := SB.1
  show gz_G z _ 0 [(0, .ref (ad 0)), (1, .double x), (3, .double y)] []
  have loop : pg_in px py → ∀ (f k : Nat) (u : Int32) (g : UInt64), n < f + k → k ≤ n → ((k = 0 ∧ u = -1 ∧ fd_D 3 0 g) ∨ (∃ y, pg_NS X Y px py k y ∧ u = nI y ∧ fd_D 6 (pg_fa X Y y px py) g)) → gz_G z (wC ad cI n X Y tc TT NB RG rc KT kc tl GR) 20 [(0, .ref (ad 0)), (1, .double x), (3, .double y), (5, .int u), (6, .double g), (8, .int (nI k))] [] := by
    intro hin f
    induction f with
    | zero => intro k u g h1 h2; exact absurd h1 (by omega)
    | succ f ih =>
      intro k u g h1 h2 h3
      rcases h3 with ⟨rfl, rfl, hg⟩ | ⟨v, hv, rfl, hg⟩
      · skip
        refine gz_iload E dX0_nearest_20 rfl ?_
        refine gz_aload_n E dX0_nearest_22 rfl rfl ?_
        refine gz_get E inwX0_nearest 0 2 dX0_nearest_23 flX0_nearest_16 rfl rfl (by decide) rfl rfl ?_
        refine gz_icN_ge (tgt := 66) E dX0_nearest_26 (by decide) (by omega) (by omega) (fun q26 => ?_) (fun q26 => ?_)
        · skip
          refine gz_iload E dX0_nearest_66 rfl ?_
          exact ret _ _ _ _ dX0_nearest_68 rfl ⟨Or.inr ⟨hin, Or.inl ⟨by omega, rfl⟩⟩, rfl⟩
        · skip
          have hk : 0 < n := by omega
          refine gz_aload_n E dX0_nearest_29 rfl rfl ?_
          refine gz_iload E dX0_nearest_30 rfl ?_
          refine gz_dload_n E dX0_nearest_32 rfl rfl ?_
          refine gz_dload_n E dX0_nearest_33 rfl rfl ?_
          refine gz_cald (n := 3) E 0 dX0_nearest_34 gX0_nearest_X0_gapToPoint (mtX0_gapToPoint SB (by assumption) hx hy hin) rfl rfl ⟨rfl, rfl⟩ (by decide +kernel) ⟨Nat.le_of_ble_eq_true rfl, Nat.le_of_ble_eq_true rfl⟩ rfl rfl rfl rfl (Nat.le_of_ble_eq_true rfl) (fun r34 w34 hr34 => ?_)
          obtain ⟨hr34, rfl⟩ := hr34
          refine gz_dstore (lv' := [(0, _), (1, _), (3, _), (5, _), (6, _), (8, _), (9, _)]) E dX0_nearest_37 (by decide) rfl ?_
          refine gz_iload E dX0_nearest_39 rfl ?_
          refine gz_if_lt (tgt := 52) E dX0_nearest_41 (by decide) (fun q41 => ?_) (fun q41 => ?_)
          · skip
            refine gz_iload E dX0_nearest_52 rfl ?_
            refine gz_istore (lv' := [(0, _), (1, _), (3, _), (5, _), (6, _), (8, _), (9, _)]) E dX0_nearest_54 (by decide) rfl ?_
            refine gz_dload E dX0_nearest_56 rfl ?_
            refine gz_dstore (lv' := [(0, _), (1, _), (3, _), (5, _), (6, _), (8, _), (9, _)]) E dX0_nearest_58 (by decide) rfl ?_
            refine gz_iinc (lv' := [(0, _), (1, _), (3, _), (5, _), (6, _), (8, _), (9, _)]) E dX0_nearest_60 rfl (gz_nI1 _) (by decide) rfl ?_
            refine gz_goto (tgt := 20) E dX0_nearest_63 (by decide) ?_
            refine gz_sub (lv' := [(0, _), (1, _), (3, _), (5, _), (6, _), (8, _)]) [0, 1, 2, 3, 4, 5] rfl ?_
            exact ih 1 _ _ (by omega) (by omega) (Or.inr ⟨0, pg_NS_1, rfl, hr34⟩)
          · exact absurd (by decide) q41
      · skip
        refine gz_iload E dX0_nearest_20 rfl ?_
        refine gz_aload_n E dX0_nearest_22 rfl rfl ?_
        refine gz_get E inwX0_nearest 0 2 dX0_nearest_23 flX0_nearest_16 rfl rfl (by decide) rfl rfl ?_
        refine gz_icN_ge (tgt := 66) E dX0_nearest_26 (by decide) (by omega) (by omega) (fun q26 => ?_) (fun q26 => ?_)
        · skip
          refine gz_iload E dX0_nearest_66 rfl ?_
          have e : k = n := by omega
          subst e
          exact ret _ _ _ _ dX0_nearest_68 rfl ⟨Or.inr ⟨hin, Or.inr ⟨v, hv, rfl⟩⟩, rfl⟩
        · skip
          have hk : k < n := by omega
          refine gz_aload_n E dX0_nearest_29 rfl rfl ?_
          refine gz_iload E dX0_nearest_30 rfl ?_
          refine gz_dload_n E dX0_nearest_32 rfl rfl ?_
          refine gz_dload_n E dX0_nearest_33 rfl rfl ?_
          refine gz_cald (n := 3) E 0 dX0_nearest_34 gX0_nearest_X0_gapToPoint (mtX0_gapToPoint SB (by assumption) hx hy hin) rfl rfl ⟨rfl, rfl⟩ (by decide +kernel) ⟨Nat.le_of_ble_eq_true rfl, Nat.le_of_ble_eq_true rfl⟩ rfl rfl rfl rfl (Nat.le_of_ble_eq_true rfl) (fun r34 w34 hr34 => ?_)
          obtain ⟨hr34, rfl⟩ := hr34
          refine gz_dstore (lv' := [(0, _), (1, _), (3, _), (5, _), (6, _), (8, _), (9, _)]) E dX0_nearest_37 (by decide) rfl ?_
          have v1 := hv.1
          refine gz_iload E dX0_nearest_39 rfl ?_
          refine gz_ifN_lt E dX0_nearest_41 52 (by decide) (by omega) ?_
          refine gz_dload E dX0_nearest_44 rfl ?_
          refine gz_dload E dX0_nearest_46 rfl ?_
          refine gz_dc_ge (tgt := 60) E dX0_nearest_48 dX0_nearest_49 (by decide) hr34 hg (fun q48 => ?_) (fun q48 => ?_)
          · skip
            refine gz_iinc (lv' := [(0, _), (1, _), (3, _), (5, _), (6, _), (8, _), (9, _)]) E dX0_nearest_60 rfl (gz_nI1 _) (by decide) rfl ?_
            refine gz_goto (tgt := 20) E dX0_nearest_63 (by decide) ?_
            refine gz_sub (lv' := [(0, _), (1, _), (3, _), (5, _), (6, _), (8, _)]) [0, 1, 2, 3, 4, 5] rfl ?_
            first
              | exact ih (k + 1) _ _ (by omega) (by omega) (Or.inr ⟨v, pg_NS_keep hv q48, rfl, hg⟩)
              | exact ih (k + 1) _ _ (by omega) (by omega) (Or.inr ⟨k, pg_NS_new hv q48, rfl, hr34⟩)
          · skip
            refine gz_iload E dX0_nearest_52 rfl ?_
            refine gz_istore (lv' := [(0, _), (1, _), (3, _), (5, _), (6, _), (8, _), (9, _)]) E dX0_nearest_54 (by decide) rfl ?_
            refine gz_dload E dX0_nearest_56 rfl ?_
            refine gz_dstore (lv' := [(0, _), (1, _), (3, _), (5, _), (6, _), (8, _), (9, _)]) E dX0_nearest_58 (by decide) rfl ?_
            refine gz_iinc (lv' := [(0, _), (1, _), (3, _), (5, _), (6, _), (8, _), (9, _)]) E dX0_nearest_60 rfl (gz_nI1 _) (by decide) rfl ?_
            refine gz_goto (tgt := 20) E dX0_nearest_63 (by decide) ?_
            refine gz_sub (lv' := [(0, _), (1, _), (3, _), (5, _), (6, _), (8, _)]) [0, 1, 2, 3, 4, 5] rfl ?_
            first
              | exact ih (k + 1) _ _ (by omega) (by omega) (Or.inr ⟨v, pg_NS_keep hv q48, rfl, hg⟩)
              | exact ih (k + 1) _ _ (by omega) (by omega) (Or.inr ⟨k, pg_NS_new hv q48, rfl, hr34⟩)
  refine gz_dload_n E dX0_nearest_0 rfl rfl ?_
  refine gz_dload_n E dX0_nearest_1 rfl rfl ?_
  refine gz_stati (n := 2) E dX0_nearest_2 gX0_nearest_X0_isRefused (mtX0_isRefused hx hy) rfl ⟨rfl, rfl⟩ (by decide +kernel) ⟨Nat.le_of_ble_eq_true rfl, Nat.le_of_ble_eq_true rfl⟩ rfl rfl (Nat.le_of_ble_eq_true rfl) (fun r2 hr2 => ?_)
  refine gz_ifB_eq (tgt := 11) E hr2 dX0_nearest_5 (by decide) (fun q5 => ?_) (fun q5 => ?_)
  · skip
    refine gz_iconst (v := -1) E dX0_nearest_11 (by decide) ?_
    refine gz_istore (lv' := [(0, _), (1, _), (3, _), (5, _)]) E dX0_nearest_12 (by decide) rfl ?_
    refine gz_dconst0 E dX0_nearest_14 ?_
    refine gz_dstore (lv' := [(0, _), (1, _), (3, _), (5, _), (6, _)]) E dX0_nearest_15 (by decide) rfl ?_
    refine gz_iconst (v := nI 0) E dX0_nearest_17 (by decide) ?_
    refine gz_istore (lv' := [(0, _), (1, _), (3, _), (5, _), (6, _), (8, _)]) E dX0_nearest_18 (by decide) rfl ?_
    exact loop (Classical.not_not.mp q5) (n + 1) 0 _ _ (by omega) (by omega) (Or.inl ⟨rfl, rfl, fd_0⟩)
  · skip
    refine gz_bipush (v := -2) E dX0_nearest_8 (by decide) ?_
    exact ret _ _ _ _ dX0_nearest_10 rfl ⟨Or.inl ⟨q5, rfl⟩, rfl⟩
def pg_SQ (n : Nat) (X Y : Nat → Int) (i : Int32) (px py : Int) (r : UInt64) : Prop := ∃ v : Int, fd_D 6 v r ∧ ((¬ pg_in px py ∧ v = -128) ∨ (pg_in px py ∧ ((∃ k, k < n ∧ i = nI k ∧ v = pg_fa X Y k px py) ∨ (¬ gz_Ix i n ∧ v = -64))))
abbrev rmX0_square : Room := { frames := 2, cells := 0, slots := 0, locals := 50 }
set_option maxRecDepth 20000 in
theorem cwX0_square_116 : Jvm.Cond.constantDouble RX0 116 (13830554455654793216) ∈ wsX0_square := by decide +kernel
set_option maxRecDepth 20000 in
theorem cwX0_square_114 : Jvm.Cond.constantDouble RX0 114 (13835058055282163712) ∈ wsX0_square := by decide +kernel
set_option maxRecDepth 20000 in
set_option maxHeartbeats 4000000 in
theorem mtX0_square (SB : pg_ok n X Y) (i : Int32) {px py : Int} {x y : UInt64} (hx : fd_D 3 px x) (hy : fd_D 3 py y) : gz_Kd l yX0_square wsX0_square rmX0_square D [(cI, .int), (cJ, .long)] [.ref (ad 0), .int i, .double x, .double y] (wC ad cI n X Y tc TT NB RG rc KT kc tl GR) (fun r w1 => pg_SQ n X Y i px py r ∧ w1 = (wC ad cI n X Y tc TT NB RG rc KT kc tl GR)) := by
  refine gz_ofd (cc := cX0_square) (maxL := 6) (own := RX0) (by decide +kernel) rfl rfl rfl (Nat.le_of_ble_eq_true rfl) ?_
  intro z E ret
  have hn := SB.1
  show gz_G z _ 0 [(0, .ref (ad 0)), (1, .int i), (2, .double x), (4, .double y)] []
  refine gz_dload_n E dX0_square_0 rfl rfl ?_
  refine gz_dload E dX0_square_1 rfl ?_
  refine gz_stati (n := 2) E dX0_square_3 gX0_square_X0_isRefused (mtX0_isRefused hx hy) rfl ⟨rfl, rfl⟩ (by decide +kernel) ⟨Nat.le_of_ble_eq_true rfl, Nat.le_of_ble_eq_true rfl⟩ rfl rfl (Nat.le_of_ble_eq_true rfl) (fun r3 hr3 => ?_)
  refine gz_ifB_eq (tgt := 13) E hr3 dX0_square_6 (by decide) (fun q6 => ?_) (fun q6 => ?_)
  · skip
    refine gz_aload_n E dX0_square_13 rfl rfl ?_
    refine gz_iload_n E dX0_square_14 rfl rfl ?_
    refine gz_cali (n := 1) E 0 dX0_square_15 gX0_square_X0_isSite (mtX0_isSite hn _) rfl rfl ⟨rfl, rfl⟩ (by decide +kernel) ⟨Nat.le_of_ble_eq_true rfl, Nat.le_of_ble_eq_true rfl⟩ rfl rfl rfl rfl (Nat.le_of_ble_eq_true rfl) (fun r15 w15 hr15 => ?_)
    obtain ⟨hr15, rfl⟩ := hr15
    refine gz_ifB_eq (tgt := 32) E hr15 dX0_square_18 (by decide) (fun q18 => ?_) (fun q18 => ?_)
    · skip
      refine gz_ldc2d E dX0_square_32 cwX0_square_116 ?_
      first
        | exact ret _ _ _ _ dX0_square_35 ⟨⟨_, fd_m2, Or.inl ⟨q6, rfl⟩⟩, rfl⟩
        | exact ret _ _ _ _ dX0_square_35 ⟨⟨_, fd_m1, Or.inr ⟨Classical.not_not.mp q6, Or.inr ⟨q18, rfl⟩⟩⟩, rfl⟩
        | exact ret _ _ _ _ dX0_square_35 ⟨⟨_, hr26, Or.inr ⟨Classical.not_not.mp q6, Or.inl ⟨k, hk, rfl, rfl⟩⟩⟩, rfl⟩
    · skip
      obtain ⟨k, hk, rfl⟩ := q18
      refine gz_aload_n E dX0_square_21 rfl rfl ?_
      refine gz_iload_n E dX0_square_22 rfl rfl ?_
      refine gz_dload_n E dX0_square_23 rfl rfl ?_
      refine gz_dload E dX0_square_24 rfl ?_
      refine gz_cald (n := 3) E 0 dX0_square_26 gX0_square_X0_gapToPoint (mtX0_gapToPoint SB (by assumption) hx hy (Classical.not_not.mp q6)) rfl rfl ⟨rfl, rfl⟩ (by decide +kernel) ⟨Nat.le_of_ble_eq_true rfl, Nat.le_of_ble_eq_true rfl⟩ rfl rfl rfl rfl (Nat.le_of_ble_eq_true rfl) (fun r26 w26 hr26 => ?_)
      obtain ⟨hr26, rfl⟩ := hr26
      refine gz_goto (tgt := 35) E dX0_square_29 (by decide) ?_
      first
        | exact ret _ _ _ _ dX0_square_35 ⟨⟨_, fd_m2, Or.inl ⟨q6, rfl⟩⟩, rfl⟩
        | exact ret _ _ _ _ dX0_square_35 ⟨⟨_, fd_m1, Or.inr ⟨Classical.not_not.mp q6, Or.inr ⟨q18, rfl⟩⟩⟩, rfl⟩
        | exact ret _ _ _ _ dX0_square_35 ⟨⟨_, hr26, Or.inr ⟨Classical.not_not.mp q6, Or.inl ⟨k, hk, rfl, rfl⟩⟩⟩, rfl⟩
  · skip
    refine gz_ldc2d E dX0_square_9 cwX0_square_114 ?_
    first
      | exact ret _ _ _ _ dX0_square_12 ⟨⟨_, fd_m2, Or.inl ⟨q6, rfl⟩⟩, rfl⟩
      | exact ret _ _ _ _ dX0_square_12 ⟨⟨_, fd_m1, Or.inr ⟨Classical.not_not.mp q6, Or.inr ⟨q18, rfl⟩⟩⟩, rfl⟩
      | exact ret _ _ _ _ dX0_square_12 ⟨⟨_, hr26, Or.inr ⟨Classical.not_not.mp q6, Or.inl ⟨k, hk, rfl, rfl⟩⟩⟩, rfl⟩
end DC
