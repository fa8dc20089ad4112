/-! rows over numbers: nI k a Nat as an int, iI x an Int as an int, lI x an Int as a long; gz_B r P: r is the truth of P -/
section NR
def iI (x : Int) : Int32 := Int32.ofInt x
def lI (x : Int) : Int64 := Int64.ofInt x
def gz_B (r : Int32) (P : Prop) : Prop := (r = 1 ∧ P) ∨ (r = 0 ∧ ¬ P)
theorem gz_bnar {r : Int32} {P : Prop} (h : gz_B r P) : narrow .boolean (.int r) = .int r := by
  rcases h with ⟨rfl, -⟩ | ⟨rfl, -⟩ <;> rfl
theorem gz_B_t {P : Prop} (h : P) : gz_B 1 P := Or.inl ⟨rfl, h⟩
theorem gz_B_f {P : Prop} (h : ¬ P) : gz_B 0 P := Or.inr ⟨rfl, h⟩
theorem gz_B_c {r : Int32} {P Q : Prop} (h : gz_B r P) (e : P ↔ Q) : gz_B r Q := by
  rcases h with ⟨h, p⟩ | ⟨h, p⟩
  · exact Or.inl ⟨h, e.mp p⟩
  · exact Or.inr ⟨h, fun q => p (e.mpr q)⟩
theorem gz_B_u {r r' : Int32} {P Q : Prop} (h : gz_B r P) (h' : gz_B r' Q) (e : P ↔ Q) : r = r' := by
  rcases h with ⟨h, p⟩ | ⟨h, p⟩ <;> rcases h' with ⟨h', p'⟩ | ⟨h', p'⟩
  · rw [h, h']
  · exact absurd (e.mp p) p'
  · exact absurd (e.mpr p') p
  · rw [h, h']
theorem lI_add (x y : Int) : lI x + lI y = lI (x + y) := (Int64.ofInt_add x y).symm
theorem lI_sub (x y : Int) : lI x - lI y = lI (x - y) := (Int64.ofInt_sub x y).symm
theorem lI_mul (x y : Int) : lI x * lI y = lI (x * y) := (Int64.ofInt_mul x y).symm
theorem lI_neg (x : Int) : - lI x = lI (-x) := (Int64.ofInt_neg x).symm
theorem lI_toInt {x : Int} (h1 : -9223372036854775808 ≤ x) (h2 : x < 9223372036854775808) : (lI x).toInt = x := Int64.toInt_ofInt_of_le (by omega) (by omega)
theorem iI_toInt {x : Int} (h1 : -2147483648 ≤ x) (h2 : x < 2147483648) : (iI x).toInt = x := Int32.toInt_ofInt_of_le (by omega) (by omega)
theorem iI_l {x : Int} (h1 : -2147483648 ≤ x) (h2 : x < 2147483648) : (iI x).toInt64 = lI x := by
  rw [← Int64.toInt_inj, Int32.toInt_toInt64, iI_toInt h1 h2, lI_toInt (by omega) (by omega)]
theorem iI_of (x : Int32) : x = iI x.toInt := (Int32.ofInt_toInt x).symm
theorem lI_eq {x y : Int} (a1 : -9223372036854775808 ≤ x) (a2 : x < 9223372036854775808) (b1 : -9223372036854775808 ≤ y) (b2 : y < 9223372036854775808) : lI x = lI y ↔ x = y := by
  rw [← Int64.toInt_inj, lI_toInt a1 a2, lI_toInt b1 b2]
theorem lI_lt {x y : Int} (a1 : -9223372036854775808 ≤ x) (a2 : x < 9223372036854775808) (b1 : -9223372036854775808 ≤ y) (b2 : y < 9223372036854775808) : lI x < lI y ↔ x < y := by
  rw [Int64.lt_iff_toInt_lt, lI_toInt a1 a2, lI_toInt b1 b2]
theorem lI_le {x y : Int} (a1 : -9223372036854775808 ≤ x) (a2 : x < 9223372036854775808) (b1 : -9223372036854775808 ≤ y) (b2 : y < 9223372036854775808) : lI x ≤ lI y ↔ x ≤ y := by
  rw [Int64.le_iff_toInt_le, lI_toInt a1 a2, lI_toInt b1 b2]
theorem iI_eq {x y : Int} (a1 : -2147483648 ≤ x) (a2 : x < 2147483648) (b1 : -2147483648 ≤ y) (b2 : y < 2147483648) : iI x = iI y ↔ x = y := by
  rw [← Int32.toInt_inj, iI_toInt a1 a2, iI_toInt b1 b2]
theorem iI_lt {x y : Int} (a1 : -2147483648 ≤ x) (a2 : x < 2147483648) (b1 : -2147483648 ≤ y) (b2 : y < 2147483648) : iI x < iI y ↔ x < y := by
  rw [Int32.lt_iff_toInt_lt, iI_toInt a1 a2, iI_toInt b1 b2]
theorem iI_le {x y : Int} (a1 : -2147483648 ≤ x) (a2 : x < 2147483648) (b1 : -2147483648 ≤ y) (b2 : y < 2147483648) : iI x ≤ iI y ↔ x ≤ y := by
  rw [Int32.le_iff_toInt_le, iI_toInt a1 a2, iI_toInt b1 b2]
theorem gz_nI1 (k : Nat) : nI k + Int32.ofInt 1 = nI (k + 1) := nI_1 k
theorem gz_upN (T : Nat → Nat) (k v : Nat) : upd (fun i => nI (T i)) k (nI v) = fun i => nI (if i = k then v else T i) := by
  funext j
  unfold upd
  by_cases h : j = k
  · rw [if_pos h, if_pos h]
  · rw [if_neg h, if_neg h]
variable {z : gz_Z} {l' : Launch} {D' : va_G} {tys' : List (ClassId × FieldType)} {cc : ByteArray} {own : String} {Ts : List Cond} {nL' : Nat} {R' : Room} {kb : Bool}
variable {ws : va_W} {pc : Nat} {lv lv' : List (Nat × Value)} {rest st : List Value}
theorem gz_iaddN (E : gz_E z l' D' tys' cc own Ts nL' R' kb) {a b : Nat} (hd : decode cc pc = .ok (.iadd, 1)) (k : gz_G z ws (pc + 1) lv (.int (nI (a + b)) :: rest)) : gz_G z ws pc lv (.int (nI b) :: .int (nI a) :: rest) := by
  refine gz_iadd E hd ?_
  rw [nI_add]
  exact k
theorem gz_imulN (E : gz_E z l' D' tys' cc own Ts nL' R' kb) {a b : Nat} (hd : decode cc pc = .ok (.imul, 1)) (k : gz_G z ws (pc + 1) lv (.int (nI (a * b)) :: rest)) : gz_G z ws pc lv (.int (nI b) :: .int (nI a) :: rest) := by
  refine gz_imul E hd ?_
  rw [pk_mul]
  exact k
theorem gz_isubN (E : gz_E z l' D' tys' cc own Ts nL' R' kb) {a b : Nat} (hd : decode cc pc = .ok (.isub, 1)) (hab : b ≤ a) (k : gz_G z ws (pc + 1) lv (.int (nI (a - b)) :: rest)) : gz_G z ws pc lv (.int (nI b) :: .int (nI a) :: rest) := by
  refine gz_isub E hd ?_
  rw [pk_sub hab]
  exact k
theorem gz_laddL (E : gz_E z l' D' tys' cc own Ts nL' R' kb) {x y : Int} (hd : decode cc pc = .ok (.ladd, 1)) (k : gz_G z ws (pc + 1) lv (.long (lI (x + y)) :: rest)) : gz_G z ws pc lv (.long (lI y) :: .long (lI x) :: rest) := by
  refine gz_ladd E hd ?_
  rw [lI_add]
  exact k
theorem gz_lsubL (E : gz_E z l' D' tys' cc own Ts nL' R' kb) {x y : Int} (hd : decode cc pc = .ok (.lsub, 1)) (k : gz_G z ws (pc + 1) lv (.long (lI (x - y)) :: rest)) : gz_G z ws pc lv (.long (lI y) :: .long (lI x) :: rest) := by
  refine gz_lsub E hd ?_
  rw [lI_sub]
  exact k
theorem gz_lmulL (E : gz_E z l' D' tys' cc own Ts nL' R' kb) {x y : Int} (hd : decode cc pc = .ok (.lmul, 1)) (k : gz_G z ws (pc + 1) lv (.long (lI (x * y)) :: rest)) : gz_G z ws pc lv (.long (lI y) :: .long (lI x) :: rest) := by
  refine gz_lmul E hd ?_
  rw [lI_mul]
  exact k
theorem gz_lnegL (E : gz_E z l' D' tys' cc own Ts nL' R' kb) {x : Int} (hd : decode cc pc = .ok (.lneg, 1)) (k : gz_G z ws (pc + 1) lv (.long (lI (-x)) :: rest)) : gz_G z ws pc lv (.long (lI x) :: rest) := by
  refine gz_lneg E hd ?_
  rw [lI_neg]
  exact k
theorem gz_i2lI (E : gz_E z l' D' tys' cc own Ts nL' R' kb) {x : Int} (hd : decode cc pc = .ok (.i2l, 1)) (h1 : -2147483648 ≤ x) (h2 : x < 2147483648) (k : gz_G z ws (pc + 1) lv (.long (lI x) :: rest)) : gz_G z ws pc lv (.int (iI x) :: rest) := by
  refine gz_i2l E hd ?_
  rw [iI_l h1 h2]
  exact k
theorem gz_ialdN (E : gz_E z l' D' tys' cc own Ts nL' R' true) (q0 t0 : Nat) {a : Nat} {cA : ClassId} {n k : Nat} {f : Nat → Int32} {v : Int32} (hd : decode cc pc = .ok (.iaload, 1)) (ha : ws[q0]? = some (a, .inl (cA, n, .inl f))) (ht : tys'[t0]? = some (cA, .int)) (hn : n ≤ 64) (hv : f k = v) (hk : k < n) (kk : gz_G z ws (pc + 1) lv (.int v :: rest)) : gz_G z ws pc lv (.int (nI k) :: .ref a :: rest) := by
  refine gz_iald E q0 t0 hd ha ht (vp_in_nI hk (by omega)) ?_
  rw [nI_clamp (by omega), hv]
  exact kk
theorem gz_iastN (E : gz_E z l' D' tys' cc own Ts nL' R' true) (q0 t0 : Nat) {a : Nat} {cA : ClassId} {n k : Nat} {f : Nat → Int32} {x : Int32} (hd : decode cc pc = .ok (.iastore, 1)) (ha : ws[q0]? = some (a, .inl (cA, n, .inl f))) (ht : tys'[t0]? = some (cA, .int)) (hn : n ≤ 64) (hk : k < n) (kk : gz_G z (ws.set q0 (a, .inl (cA, n, .inl (upd f k x)))) (pc + 1) lv rest) : gz_G z ws pc lv (.int x :: .int (nI k) :: .ref a :: rest) := by
  refine gz_iast E q0 t0 hd ha ht (vp_in_nI hk (by omega)) ?_
  rw [nI_clamp (by omega)]
  exact kk
theorem gz_laldN (E : gz_E z l' D' tys' cc own Ts nL' R' true) (q0 t0 : Nat) {a : Nat} {cA : ClassId} {n k : Nat} {f : Nat → Int64} {v : Int64} (hd : decode cc pc = .ok (.laload, 1)) (ha : ws[q0]? = some (a, .inl (cA, n, .inr (.inl f)))) (ht : tys'[t0]? = some (cA, .long)) (hn : n ≤ 64) (hv : f k = v) (hk : k < n) (kk : gz_G z ws (pc + 1) lv (.long v :: rest)) : gz_G z ws pc lv (.int (nI k) :: .ref a :: rest) := by
  refine gz_lald E q0 t0 hd ha ht (vp_in_nI hk (by omega)) ?_
  rw [nI_clamp (by omega), hv]
  exact kk
theorem gz_lastN (E : gz_E z l' D' tys' cc own Ts nL' R' true) (q0 t0 : Nat) {a : Nat} {cA : ClassId} {n k : Nat} {f : Nat → Int64} {x : Int64} (hd : decode cc pc = .ok (.lastore, 1)) (ha : ws[q0]? = some (a, .inl (cA, n, .inr (.inl f)))) (ht : tys'[t0]? = some (cA, .long)) (hn : n ≤ 64) (hk : k < n) (kk : gz_G z (ws.set q0 (a, .inl (cA, n, .inr (.inl (vp_updL f k x))))) (pc + 1) lv rest) : gz_G z ws pc lv (.long x :: .int (nI k) :: .ref a :: rest) := by
  refine gz_last E q0 t0 hd ha ht (vp_in_nI hk (by omega)) ?_
  rw [nI_clamp (by omega)]
  exact kk
theorem gz_icN_eq (E : gz_E z l' D' tys' cc own Ts nL' R' kb) {a b : Nat} {off : Int} {tgt : Nat} (hd : decode cc pc = .ok (.if_icmp .eq off, 3)) (ht : (pc : Int) + off = (tgt : Int)) (ha : a < 2 ^ 31) (hb : b < 2 ^ 31) (kt : a = b → gz_G z ws tgt lv rest) (kf : a ≠ b → gz_G z ws (pc + 3) lv rest) : gz_G z ws pc lv (.int (nI b) :: .int (nI a) :: rest) :=
  gz_icmp_eq E hd ht (fun q => kt ((nI_eq ha hb).mp q)) (fun q => kf (fun r => q ((nI_eq ha hb).mpr r)))
theorem gz_lcL_eq (E : gz_E z l' D' tys' cc own Ts nL' R' kb) {x y : Int} {off : Int} {tgt : Nat} (hd0 : decode cc pc = .ok (.lcmp, 1)) (hd : decode cc (pc + 1) = .ok (.ifCond .eq off, 3)) (ht : ((pc + 1 : Nat) : Int) + off = (tgt : Int)) (a1 : -9223372036854775808 ≤ x) (a2 : x < 9223372036854775808) (b1 : -9223372036854775808 ≤ y) (b2 : y < 9223372036854775808) (kt : x = y → gz_G z ws tgt lv rest) (kf : ¬ x = y → gz_G z ws (pc + 1 + 3) lv rest) : gz_G z ws pc lv (.long (lI y) :: .long (lI x) :: rest) :=
  gz_lc_eq E hd0 hd ht (fun q => kt ((lI_eq a1 a2 b1 b2).mp q)) (fun q => kf (fun r => q ((lI_eq a1 a2 b1 b2).mpr r)))
theorem gz_icN_ne (E : gz_E z l' D' tys' cc own Ts nL' R' kb) {a b : Nat} {off : Int} {tgt : Nat} (hd : decode cc pc = .ok (.if_icmp .ne off, 3)) (ht : (pc : Int) + off = (tgt : Int)) (ha : a < 2 ^ 31) (hb : b < 2 ^ 31) (kt : a ≠ b → gz_G z ws tgt lv rest) (kf : a = b → gz_G z ws (pc + 3) lv rest) : gz_G z ws pc lv (.int (nI b) :: .int (nI a) :: rest) :=
  gz_icmp_ne E hd ht (fun q => kt (fun r => q ((nI_eq ha hb).mpr r))) (fun q => kf ((nI_eq ha hb).mp q))
theorem gz_lcL_ne (E : gz_E z l' D' tys' cc own Ts nL' R' kb) {x y : Int} {off : Int} {tgt : Nat} (hd0 : decode cc pc = .ok (.lcmp, 1)) (hd : decode cc (pc + 1) = .ok (.ifCond .ne off, 3)) (ht : ((pc + 1 : Nat) : Int) + off = (tgt : Int)) (a1 : -9223372036854775808 ≤ x) (a2 : x < 9223372036854775808) (b1 : -9223372036854775808 ≤ y) (b2 : y < 9223372036854775808) (kt : ¬ x = y → gz_G z ws tgt lv rest) (kf : x = y → gz_G z ws (pc + 1 + 3) lv rest) : gz_G z ws pc lv (.long (lI y) :: .long (lI x) :: rest) :=
  gz_lc_ne E hd0 hd ht (fun q => kt (fun r => q ((lI_eq a1 a2 b1 b2).mpr r))) (fun q => kf ((lI_eq a1 a2 b1 b2).mp q))
theorem gz_icN_lt (E : gz_E z l' D' tys' cc own Ts nL' R' kb) {a b : Nat} {off : Int} {tgt : Nat} (hd : decode cc pc = .ok (.if_icmp .lt off, 3)) (ht : (pc : Int) + off = (tgt : Int)) (ha : a < 2 ^ 31) (hb : b < 2 ^ 31) (kt : a < b → gz_G z ws tgt lv rest) (kf : b ≤ a → gz_G z ws (pc + 3) lv rest) : gz_G z ws pc lv (.int (nI b) :: .int (nI a) :: rest) :=
  gz_icmp_lt E hd ht (fun q => kt ((nI_ltI ha hb).mp q)) (fun q => kf (Nat.not_lt.mp (fun r => q ((nI_ltI ha hb).mpr r))))
theorem gz_lcL_lt (E : gz_E z l' D' tys' cc own Ts nL' R' kb) {x y : Int} {off : Int} {tgt : Nat} (hd0 : decode cc pc = .ok (.lcmp, 1)) (hd : decode cc (pc + 1) = .ok (.ifCond .lt off, 3)) (ht : ((pc + 1 : Nat) : Int) + off = (tgt : Int)) (a1 : -9223372036854775808 ≤ x) (a2 : x < 9223372036854775808) (b1 : -9223372036854775808 ≤ y) (b2 : y < 9223372036854775808) (kt : x < y → gz_G z ws tgt lv rest) (kf : y ≤ x → gz_G z ws (pc + 1 + 3) lv rest) : gz_G z ws pc lv (.long (lI y) :: .long (lI x) :: rest) :=
  gz_lc_lt E hd0 hd ht (fun q => kt ((lI_lt a1 a2 b1 b2).mp q)) (fun q => kf (Int.not_lt.mp (fun r => q ((lI_lt a1 a2 b1 b2).mpr r))))
theorem gz_icN_ge (E : gz_E z l' D' tys' cc own Ts nL' R' kb) {a b : Nat} {off : Int} {tgt : Nat} (hd : decode cc pc = .ok (.if_icmp .ge off, 3)) (ht : (pc : Int) + off = (tgt : Int)) (ha : a < 2 ^ 31) (hb : b < 2 ^ 31) (kt : b ≤ a → gz_G z ws tgt lv rest) (kf : a < b → gz_G z ws (pc + 3) lv rest) : gz_G z ws pc lv (.int (nI b) :: .int (nI a) :: rest) :=
  gz_icmp_ge E hd ht (fun q => kt ((nI_leI hb ha).mp q)) (fun q => kf (Nat.not_le.mp (fun r => q ((nI_leI hb ha).mpr r))))
theorem gz_lcL_ge (E : gz_E z l' D' tys' cc own Ts nL' R' kb) {x y : Int} {off : Int} {tgt : Nat} (hd0 : decode cc pc = .ok (.lcmp, 1)) (hd : decode cc (pc + 1) = .ok (.ifCond .ge off, 3)) (ht : ((pc + 1 : Nat) : Int) + off = (tgt : Int)) (a1 : -9223372036854775808 ≤ x) (a2 : x < 9223372036854775808) (b1 : -9223372036854775808 ≤ y) (b2 : y < 9223372036854775808) (kt : y ≤ x → gz_G z ws tgt lv rest) (kf : x < y → gz_G z ws (pc + 1 + 3) lv rest) : gz_G z ws pc lv (.long (lI y) :: .long (lI x) :: rest) :=
  gz_lc_ge E hd0 hd ht (fun q => kt ((lI_le b1 b2 a1 a2).mp q)) (fun q => kf (Int.not_le.mp (fun r => q ((lI_le b1 b2 a1 a2).mpr r))))
theorem gz_icN_gt (E : gz_E z l' D' tys' cc own Ts nL' R' kb) {a b : Nat} {off : Int} {tgt : Nat} (hd : decode cc pc = .ok (.if_icmp .gt off, 3)) (ht : (pc : Int) + off = (tgt : Int)) (ha : a < 2 ^ 31) (hb : b < 2 ^ 31) (kt : b < a → gz_G z ws tgt lv rest) (kf : a ≤ b → gz_G z ws (pc + 3) lv rest) : gz_G z ws pc lv (.int (nI b) :: .int (nI a) :: rest) :=
  gz_icmp_gt E hd ht (fun q => kt ((nI_ltI hb ha).mp q)) (fun q => kf (Nat.not_lt.mp (fun r => q ((nI_ltI hb ha).mpr r))))
theorem gz_lcL_gt (E : gz_E z l' D' tys' cc own Ts nL' R' kb) {x y : Int} {off : Int} {tgt : Nat} (hd0 : decode cc pc = .ok (.lcmp, 1)) (hd : decode cc (pc + 1) = .ok (.ifCond .gt off, 3)) (ht : ((pc + 1 : Nat) : Int) + off = (tgt : Int)) (a1 : -9223372036854775808 ≤ x) (a2 : x < 9223372036854775808) (b1 : -9223372036854775808 ≤ y) (b2 : y < 9223372036854775808) (kt : y < x → gz_G z ws tgt lv rest) (kf : x ≤ y → gz_G z ws (pc + 1 + 3) lv rest) : gz_G z ws pc lv (.long (lI y) :: .long (lI x) :: rest) :=
  gz_lc_gt E hd0 hd ht (fun q => kt ((lI_lt b1 b2 a1 a2).mp q)) (fun q => kf (Int.not_lt.mp (fun r => q ((lI_lt b1 b2 a1 a2).mpr r))))
theorem gz_icN_le (E : gz_E z l' D' tys' cc own Ts nL' R' kb) {a b : Nat} {off : Int} {tgt : Nat} (hd : decode cc pc = .ok (.if_icmp .le off, 3)) (ht : (pc : Int) + off = (tgt : Int)) (ha : a < 2 ^ 31) (hb : b < 2 ^ 31) (kt : a ≤ b → gz_G z ws tgt lv rest) (kf : b < a → gz_G z ws (pc + 3) lv rest) : gz_G z ws pc lv (.int (nI b) :: .int (nI a) :: rest) :=
  gz_icmp_le E hd ht (fun q => kt ((nI_leI ha hb).mp q)) (fun q => kf (Nat.not_le.mp (fun r => q ((nI_leI ha hb).mpr r))))
theorem gz_lcL_le (E : gz_E z l' D' tys' cc own Ts nL' R' kb) {x y : Int} {off : Int} {tgt : Nat} (hd0 : decode cc pc = .ok (.lcmp, 1)) (hd : decode cc (pc + 1) = .ok (.ifCond .le off, 3)) (ht : ((pc + 1 : Nat) : Int) + off = (tgt : Int)) (a1 : -9223372036854775808 ≤ x) (a2 : x < 9223372036854775808) (b1 : -9223372036854775808 ≤ y) (b2 : y < 9223372036854775808) (kt : x ≤ y → gz_G z ws tgt lv rest) (kf : y < x → gz_G z ws (pc + 1 + 3) lv rest) : gz_G z ws pc lv (.long (lI y) :: .long (lI x) :: rest) :=
  gz_lc_le E hd0 hd ht (fun q => kt ((lI_le a1 a2 b1 b2).mp q)) (fun q => kf (Int.not_le.mp (fun r => q ((lI_le a1 a2 b1 b2).mpr r))))
theorem gz_ifN_lt (E : gz_E z l' D' tys' cc own Ts nL' R' kb) {a : Nat} {off : Int} (hd : decode cc pc = .ok (.ifCond .lt off, 3)) (tgt : Nat) (ht : (pc : Int) + off = (tgt : Int)) (ha : a < 2 ^ 31) (kf : gz_G z ws (pc + 3) lv rest) : gz_G z ws pc lv (.int (nI a) :: rest) :=
  gz_if_lt (tgt := tgt) E hd ht (fun q => absurd q (nI_pos ha)) (fun _ => kf)
theorem gz_ifN_ge (E : gz_E z l' D' tys' cc own Ts nL' R' kb) {a : Nat} {off : Int} (hd : decode cc pc = .ok (.ifCond .ge off, 3)) (tgt : Nat) (ht : (pc : Int) + off = (tgt : Int)) (ha : a < 2 ^ 31) (kt : gz_G z ws tgt lv rest) : gz_G z ws pc lv (.int (nI a) :: rest) :=
  gz_if_ge (tgt := tgt) E hd ht (fun _ => kt) (fun q => absurd (nI_pos' ha) q)
theorem gz_ifN_eq (E : gz_E z l' D' tys' cc own Ts nL' R' kb) {a : Nat} {off : Int} {tgt : Nat} (hd : decode cc pc = .ok (.ifCond .eq off, 3)) (ht : (pc : Int) + off = (tgt : Int)) (ha : a < 2 ^ 31) (kt : a = 0 → gz_G z ws tgt lv rest) (kf : a ≠ 0 → gz_G z ws (pc + 3) lv rest) : gz_G z ws pc lv (.int (nI a) :: rest) :=
  gz_if_eq E hd ht (fun q => kt ((nI_eq ha (by decide : 0 < 2 ^ 31)).mp (q.trans nI_0.symm))) (fun q => kf (fun r => q (by rw [r]; exact nI_0)))
theorem gz_ifN_ne (E : gz_E z l' D' tys' cc own Ts nL' R' kb) {a : Nat} {off : Int} {tgt : Nat} (hd : decode cc pc = .ok (.ifCond .ne off, 3)) (ht : (pc : Int) + off = (tgt : Int)) (ha : a < 2 ^ 31) (kt : a ≠ 0 → gz_G z ws tgt lv rest) (kf : a = 0 → gz_G z ws (pc + 3) lv rest) : gz_G z ws pc lv (.int (nI a) :: rest) :=
  gz_if_ne E hd ht (fun q => kt (fun r => q (by rw [r]; exact nI_0))) (fun q => kf ((nI_eq ha (by decide : 0 < 2 ^ 31)).mp (q.trans nI_0.symm)))
theorem gz_ifB_eq (E : gz_E z l' D' tys' cc own Ts nL' R' kb) {r : Int32} {P : Prop} (hr : gz_B r P) {off : Int} {tgt : Nat} (hd : decode cc pc = .ok (.ifCond .eq off, 3)) (ht : (pc : Int) + off = (tgt : Int)) (kt : ¬ P → gz_G z ws tgt lv rest) (kf : P → gz_G z ws (pc + 3) lv rest) : gz_G z ws pc lv (.int r :: rest) := by
  rcases hr with ⟨rfl, hp⟩ | ⟨rfl, hp⟩
  · exact gz_if_eq E hd ht (fun q => absurd q (by decide)) (fun _ => kf hp)
  · exact gz_if_eq E hd ht (fun _ => kt hp) (fun q => absurd rfl q)
theorem gz_ifB_ne (E : gz_E z l' D' tys' cc own Ts nL' R' kb) {r : Int32} {P : Prop} (hr : gz_B r P) {off : Int} {tgt : Nat} (hd : decode cc pc = .ok (.ifCond .ne off, 3)) (ht : (pc : Int) + off = (tgt : Int)) (kt : P → gz_G z ws tgt lv rest) (kf : ¬ P → gz_G z ws (pc + 3) lv rest) : gz_G z ws pc lv (.int r :: rest) := by
  rcases hr with ⟨rfl, hp⟩ | ⟨rfl, hp⟩
  · exact gz_if_ne E hd ht (fun _ => kt hp) (fun q => absurd q (by decide))
  · exact gz_if_ne E hd ht (fun q => absurd rfl q) (fun _ => kf hp)
theorem gz_ifI_eq (E : gz_E z l' D' tys' cc own Ts nL' R' kb) {x : Int} {off : Int} {tgt : Nat} (hd : decode cc pc = .ok (.ifCond .eq off, 3)) (ht : (pc : Int) + off = (tgt : Int)) (a1 : -2147483648 ≤ x) (a2 : x < 2147483648) (kt : x = 0 → gz_G z ws tgt lv rest) (kf : ¬ x = 0 → gz_G z ws (pc + 3) lv rest) : gz_G z ws pc lv (.int (iI x) :: rest) :=
  gz_if_eq E hd ht (fun q => kt ((iI_eq a1 a2 (by decide : (-2147483648 : Int) ≤ 0) (by decide : (0 : Int) < 2147483648)).mp q)) (fun q => kf (fun r => q ((iI_eq a1 a2 (by decide : (-2147483648 : Int) ≤ 0) (by decide : (0 : Int) < 2147483648)).mpr r)))
theorem gz_icI_eq (E : gz_E z l' D' tys' cc own Ts nL' R' kb) {x y : Int} {off : Int} {tgt : Nat} (hd : decode cc pc = .ok (.if_icmp .eq off, 3)) (ht : (pc : Int) + off = (tgt : Int)) (a1 : -2147483648 ≤ x) (a2 : x < 2147483648) (b1 : -2147483648 ≤ y) (b2 : y < 2147483648) (kt : x = y → gz_G z ws tgt lv rest) (kf : ¬ x = y → gz_G z ws (pc + 3) lv rest) : gz_G z ws pc lv (.int (iI y) :: .int (iI x) :: rest) :=
  gz_icmp_eq E hd ht (fun q => kt ((iI_eq a1 a2 b1 b2).mp q)) (fun q => kf (fun r => q ((iI_eq a1 a2 b1 b2).mpr r)))
theorem gz_ifI_ne (E : gz_E z l' D' tys' cc own Ts nL' R' kb) {x : Int} {off : Int} {tgt : Nat} (hd : decode cc pc = .ok (.ifCond .ne off, 3)) (ht : (pc : Int) + off = (tgt : Int)) (a1 : -2147483648 ≤ x) (a2 : x < 2147483648) (kt : ¬ x = 0 → gz_G z ws tgt lv rest) (kf : x = 0 → gz_G z ws (pc + 3) lv rest) : gz_G z ws pc lv (.int (iI x) :: rest) :=
  gz_if_ne E hd ht (fun q => kt (fun r => q ((iI_eq a1 a2 (by decide : (-2147483648 : Int) ≤ 0) (by decide : (0 : Int) < 2147483648)).mpr r))) (fun q => kf ((iI_eq a1 a2 (by decide : (-2147483648 : Int) ≤ 0) (by decide : (0 : Int) < 2147483648)).mp q))
theorem gz_icI_ne (E : gz_E z l' D' tys' cc own Ts nL' R' kb) {x y : Int} {off : Int} {tgt : Nat} (hd : decode cc pc = .ok (.if_icmp .ne off, 3)) (ht : (pc : Int) + off = (tgt : Int)) (a1 : -2147483648 ≤ x) (a2 : x < 2147483648) (b1 : -2147483648 ≤ y) (b2 : y < 2147483648) (kt : ¬ x = y → gz_G z ws tgt lv rest) (kf : x = y → gz_G z ws (pc + 3) lv rest) : gz_G z ws pc lv (.int (iI y) :: .int (iI x) :: rest) :=
  gz_icmp_ne E hd ht (fun q => kt (fun r => q ((iI_eq a1 a2 b1 b2).mpr r))) (fun q => kf ((iI_eq a1 a2 b1 b2).mp q))
theorem gz_ifI_lt (E : gz_E z l' D' tys' cc own Ts nL' R' kb) {x : Int} {off : Int} {tgt : Nat} (hd : decode cc pc = .ok (.ifCond .lt off, 3)) (ht : (pc : Int) + off = (tgt : Int)) (a1 : -2147483648 ≤ x) (a2 : x < 2147483648) (kt : x < 0 → gz_G z ws tgt lv rest) (kf : 0 ≤ x → gz_G z ws (pc + 3) lv rest) : gz_G z ws pc lv (.int (iI x) :: rest) :=
  gz_if_lt E hd ht (fun q => kt ((iI_lt a1 a2 (by decide : (-2147483648 : Int) ≤ 0) (by decide : (0 : Int) < 2147483648)).mp q)) (fun q => kf (Int.not_lt.mp (fun r => q ((iI_lt a1 a2 (by decide : (-2147483648 : Int) ≤ 0) (by decide : (0 : Int) < 2147483648)).mpr r))))
theorem gz_icI_lt (E : gz_E z l' D' tys' cc own Ts nL' R' kb) {x y : Int} {off : Int} {tgt : Nat} (hd : decode cc pc = .ok (.if_icmp .lt off, 3)) (ht : (pc : Int) + off = (tgt : Int)) (a1 : -2147483648 ≤ x) (a2 : x < 2147483648) (b1 : -2147483648 ≤ y) (b2 : y < 2147483648) (kt : x < y → gz_G z ws tgt lv rest) (kf : y ≤ x → gz_G z ws (pc + 3) lv rest) : gz_G z ws pc lv (.int (iI y) :: .int (iI x) :: rest) :=
  gz_icmp_lt E hd ht (fun q => kt ((iI_lt a1 a2 b1 b2).mp q)) (fun q => kf (Int.not_lt.mp (fun r => q ((iI_lt a1 a2 b1 b2).mpr r))))
theorem gz_ifI_ge (E : gz_E z l' D' tys' cc own Ts nL' R' kb) {x : Int} {off : Int} {tgt : Nat} (hd : decode cc pc = .ok (.ifCond .ge off, 3)) (ht : (pc : Int) + off = (tgt : Int)) (a1 : -2147483648 ≤ x) (a2 : x < 2147483648) (kt : 0 ≤ x → gz_G z ws tgt lv rest) (kf : x < 0 → gz_G z ws (pc + 3) lv rest) : gz_G z ws pc lv (.int (iI x) :: rest) :=
  gz_if_ge E hd ht (fun q => kt ((iI_le (by decide : (-2147483648 : Int) ≤ 0) (by decide : (0 : Int) < 2147483648) a1 a2).mp q)) (fun q => kf (Int.not_le.mp (fun r => q ((iI_le (by decide : (-2147483648 : Int) ≤ 0) (by decide : (0 : Int) < 2147483648) a1 a2).mpr r))))
theorem gz_icI_ge (E : gz_E z l' D' tys' cc own Ts nL' R' kb) {x y : Int} {off : Int} {tgt : Nat} (hd : decode cc pc = .ok (.if_icmp .ge off, 3)) (ht : (pc : Int) + off = (tgt : Int)) (a1 : -2147483648 ≤ x) (a2 : x < 2147483648) (b1 : -2147483648 ≤ y) (b2 : y < 2147483648) (kt : y ≤ x → gz_G z ws tgt lv rest) (kf : x < y → gz_G z ws (pc + 3) lv rest) : gz_G z ws pc lv (.int (iI y) :: .int (iI x) :: rest) :=
  gz_icmp_ge E hd ht (fun q => kt ((iI_le b1 b2 a1 a2).mp q)) (fun q => kf (Int.not_le.mp (fun r => q ((iI_le b1 b2 a1 a2).mpr r))))
theorem gz_ifI_gt (E : gz_E z l' D' tys' cc own Ts nL' R' kb) {x : Int} {off : Int} {tgt : Nat} (hd : decode cc pc = .ok (.ifCond .gt off, 3)) (ht : (pc : Int) + off = (tgt : Int)) (a1 : -2147483648 ≤ x) (a2 : x < 2147483648) (kt : 0 < x → gz_G z ws tgt lv rest) (kf : x ≤ 0 → gz_G z ws (pc + 3) lv rest) : gz_G z ws pc lv (.int (iI x) :: rest) :=
  gz_if_gt E hd ht (fun q => kt ((iI_lt (by decide : (-2147483648 : Int) ≤ 0) (by decide : (0 : Int) < 2147483648) a1 a2).mp q)) (fun q => kf (Int.not_lt.mp (fun r => q ((iI_lt (by decide : (-2147483648 : Int) ≤ 0) (by decide : (0 : Int) < 2147483648) a1 a2).mpr r))))
theorem gz_icI_gt (E : gz_E z l' D' tys' cc own Ts nL' R' kb) {x y : Int} {off : Int} {tgt : Nat} (hd : decode cc pc = .ok (.if_icmp .gt off, 3)) (ht : (pc : Int) + off = (tgt : Int)) (a1 : -2147483648 ≤ x) (a2 : x < 2147483648) (b1 : -2147483648 ≤ y) (b2 : y < 2147483648) (kt : y < x → gz_G z ws tgt lv rest) (kf : x ≤ y → gz_G z ws (pc + 3) lv rest) : gz_G z ws pc lv (.int (iI y) :: .int (iI x) :: rest) :=
  gz_icmp_gt E hd ht (fun q => kt ((iI_lt b1 b2 a1 a2).mp q)) (fun q => kf (Int.not_lt.mp (fun r => q ((iI_lt b1 b2 a1 a2).mpr r))))
theorem gz_ifI_le (E : gz_E z l' D' tys' cc own Ts nL' R' kb) {x : Int} {off : Int} {tgt : Nat} (hd : decode cc pc = .ok (.ifCond .le off, 3)) (ht : (pc : Int) + off = (tgt : Int)) (a1 : -2147483648 ≤ x) (a2 : x < 2147483648) (kt : x ≤ 0 → gz_G z ws tgt lv rest) (kf : 0 < x → gz_G z ws (pc + 3) lv rest) : gz_G z ws pc lv (.int (iI x) :: rest) :=
  gz_if_le E hd ht (fun q => kt ((iI_le a1 a2 (by decide : (-2147483648 : Int) ≤ 0) (by decide : (0 : Int) < 2147483648)).mp q)) (fun q => kf (Int.not_le.mp (fun r => q ((iI_le a1 a2 (by decide : (-2147483648 : Int) ≤ 0) (by decide : (0 : Int) < 2147483648)).mpr r))))
theorem gz_icI_le (E : gz_E z l' D' tys' cc own Ts nL' R' kb) {x y : Int} {off : Int} {tgt : Nat} (hd : decode cc pc = .ok (.if_icmp .le off, 3)) (ht : (pc : Int) + off = (tgt : Int)) (a1 : -2147483648 ≤ x) (a2 : x < 2147483648) (b1 : -2147483648 ≤ y) (b2 : y < 2147483648) (kt : x ≤ y → gz_G z ws tgt lv rest) (kf : y < x → gz_G z ws (pc + 3) lv rest) : gz_G z ws pc lv (.int (iI y) :: .int (iI x) :: rest) :=
  gz_icmp_le E hd ht (fun q => kt ((iI_le a1 a2 b1 b2).mp q)) (fun q => kf (Int.not_le.mp (fun r => q ((iI_le a1 a2 b1 b2).mpr r))))
theorem iI_mul (x y : Int) : iI x * iI y = iI (x * y) := (Int32.ofInt_mul x y).symm
theorem iI_sub (x y : Int) : iI x - iI y = iI (x - y) := (Int32.ofInt_sub x y).symm
theorem iI_add (x y : Int) : iI x + iI y = iI (x + y) := (Int32.ofInt_add x y).symm
theorem gz_imulI (E : gz_E z l' D' tys' cc own Ts nL' R' kb) {x y : Int} (hd : decode cc pc = .ok (.imul, 1)) (k : gz_G z ws (pc + 1) lv (.int (iI (x * y)) :: rest)) : gz_G z ws pc lv (.int (iI y) :: .int (iI x) :: rest) := by
  refine gz_imul E hd ?_
  rw [iI_mul]
  exact k
theorem lI_shr {x : Int} (h1 : -9223372036854775808 ≤ x) (h2 : x < 9223372036854775808) {y : Int32} (k : Nat) (hk : k < 63) (hy : ((y.toInt64 &&& 63).toBitVec.smod 64).toNat = k) : lI x >>> (y.toInt64 &&& 63) = lI (x / 2 ^ k) := by
  rw [← Int64.toInt_inj]
  have hp : (0 : Int) < 2 ^ k := Int.pow_pos (by decide)
  have b1 : -9223372036854775808 ≤ x / 2 ^ k := by
    rw [Int.le_ediv_iff_mul_le hp]
    have : (1 : Int) ≤ 2 ^ k := hp
    have := Int.mul_le_mul_of_nonneg_left this (show (0 : Int) ≤ 9223372036854775808 by decide)
    rw [Int.neg_mul]
    omega
  have b2 : x / 2 ^ k < 9223372036854775808 := by
    rw [Int.ediv_lt_iff_lt_mul hp]
    have : (1 : Int) ≤ 2 ^ k := hp
    have := Int.mul_le_mul_of_nonneg_left this (show (0 : Int) ≤ 9223372036854775808 by decide)
    omega
  rw [lI_toInt b1 b2]
  show ((lI x).toBitVec.sshiftRight' ((y.toInt64 &&& 63).toBitVec.smod 64)).toInt = _
  rw [BitVec.toInt_sshiftRight', hy]
  show (lI x).toInt >>> k = _
  rw [lI_toInt h1 h2, Int.shiftRight_eq_div_pow]
  rfl
theorem lI_and {x : Int} (k : Nat) (hk : k < 63) : lI x &&& lI (2 ^ k - 1) = lI (x % 2 ^ k) := by
  apply Int64.toBitVec.inj
  show BitVec.ofInt 64 x &&& BitVec.ofInt 64 (2 ^ k - 1) = BitVec.ofInt 64 (x % 2 ^ k)
  have hp : (0 : Nat) < 2 ^ k := Nat.pow_pos (by decide)
  have hlt : (2 : Nat) ^ k < 2 ^ 64 := Nat.pow_lt_pow_right (by decide) (by omega)
  have e1 : (2 ^ k - 1 : Int) = ((2 ^ k - 1 : Nat) : Int) := by
    rw [Int.natCast_sub hp]
    simp
  apply BitVec.eq_of_toNat_eq
  rw [BitVec.toNat_and, BitVec.toNat_ofInt, BitVec.toNat_ofInt, BitVec.toNat_ofInt, e1]
  have e2 : (((2 ^ k - 1 : Nat) : Int) % ((2 ^ 64 : Nat) : Int)).toNat = 2 ^ k - 1 := by
    rw [Int.emod_eq_of_lt (by omega) (by omega)]
    simp
  rw [e2, Nat.and_two_pow_sub_one_eq_mod]
  have e3 : ((2 ^ k : Nat) : Int) = (2 : Int) ^ k := by simp
  have a0 : 0 ≤ x % ((2 ^ 64 : Nat) : Int) := Int.emod_nonneg _ (by decide)
  have b0 : 0 ≤ x % (2 : Int) ^ k := Int.emod_nonneg _ (by rw [← e3]; omega)
  have b1 : x % (2 : Int) ^ k < ((2 ^ k : Nat) : Int) := by rw [← e3]; exact Int.emod_lt_of_pos _ (by omega)
  apply Int.natCast_inj.mp
  rw [Int.natCast_emod, Int.toNat_of_nonneg a0, Int.toNat_of_nonneg (Int.emod_nonneg _ (by decide)), e3]
  have hd : (2 : Int) ^ k ∣ ((2 ^ 64 : Nat) : Int) := ⟨2 ^ (64 - k), by
    rw [← Int.pow_add]
    have : k + (64 - k) = 64 := by omega
    rw [this]
    rfl⟩
  rw [Int.emod_emod_of_dvd _ hd, Int.emod_eq_of_lt b0 (by omega)]
theorem gz_lshrI (E : gz_E z l' D' tys' cc own Ts nL' R' kb) (k : Nat) {x : Int} (hd : decode cc pc = .ok (.lshr, 1)) (hk : k < 63) (hy : (((nI k).toInt64 &&& 63).toBitVec.smod 64).toNat = k) (h1 : -9223372036854775808 ≤ x) (h2 : x < 9223372036854775808) (kk : gz_G z ws (pc + 1) lv (.long (lI (x / 2 ^ k)) :: rest)) : gz_G z ws pc lv (.int (nI k) :: .long (lI x) :: rest) := by
  refine gz_lshr E hd ?_
  rw [lI_shr h1 h2 k hk hy]
  exact kk
theorem gz_landI (E : gz_E z l' D' tys' cc own Ts nL' R' kb) (k : Nat) {x m : Int} (hd : decode cc pc = .ok (.land, 1)) (hk : k < 63) (hm : m = 2 ^ k - 1) (kk : gz_G z ws (pc + 1) lv (.long (lI (x % 2 ^ k)) :: rest)) : gz_G z ws pc lv (.long (lI m) :: .long (lI x) :: rest) := by
  refine gz_land E hd ?_
  rw [hm, lI_and k hk]
  exact kk
theorem lI_nat {a : Nat} (h : a < 2 ^ 63) : lI (a : Int) = lN a := by
  rw [← Int64.toInt_inj, pk_lT h, lI_toInt (by omega) (by omega)]
theorem lI_rem {a b : Nat} (ha : a < 2 ^ 63) (h0 : 0 < b) (hb : b < 2 ^ 63) : lI (a : Int) - lI (a : Int) / lI (b : Int) * lI (b : Int) = lI ((a % b : Nat) : Int) := by
  rw [lI_nat ha, lI_nat hb, pk_lRem ha h0 hb, lI_nat (Nat.lt_of_le_of_lt (Nat.mod_le _ _) ha)]
theorem lI_ne0 {x : Int} (h1 : -9223372036854775808 ≤ x) (h2 : x < 9223372036854775808) (h : x ≠ 0) : ¬ lI x = 0 := fun q => h ((lI_eq h1 h2 (by decide) (by decide)).mp (q.trans (by decide : (0 : Int64) = lI 0)))
theorem lI_absI {x : Int} (h1 : -9223372036854775807 ≤ x) (h2 : x < 9223372036854775808) : (if 0 < lI x then lI x else - lI x) = lI (x.natAbs : Int) := by
  have e : (0 < lI x) ↔ 0 < x := by
    rw [show (0 : Int64) = lI 0 by decide]
    exact lI_lt (by decide) (by decide) (by omega) h2
  by_cases h : 0 < x
  · rw [if_pos (e.mpr h)]
    congr 1
    omega
  · rw [if_neg (fun q => h (e.mp q)), lI_neg]
    congr 1
    omega
theorem gz_lremN (E : gz_E z l' D' tys' cc own Ts nL' R' kb) {a b : Nat} (hd : decode cc pc = .ok (.lrem, 1)) (ha : a < 2 ^ 63) (h0 : 0 < b) (hb : b < 2 ^ 63) (k : gz_G z ws (pc + 1) lv (.long (lI ((a % b : Nat) : Int)) :: rest)) : gz_G z ws pc lv (.long (lI (b : Int)) :: .long (lI (a : Int)) :: rest) := by
  refine gz_lrem E hd (lI_ne0 (by omega) (by omega) (by omega)) ?_
  rw [lI_rem ha h0 hb]
  exact k
theorem gz_absI (E : gz_E z l' D' tys' cc own Ts nL' R' kb) {index : Nat} {x : Int} (hd : decode cc pc = .ok (.invokestatic index, 3)) (h1 : Cond.methodLink own index Lib.MathLoose.abs_long.x ∈ Ts) (h2 : Cond.static Lib.MathLoose.abs_long.x ∈ Ts) (h3 : Cond.initialized "java/lang/Math" ∈ Ts) (h4 : Cond.code Lib.MathLoose.abs_long.x Lib.MathLoose.abs_long.code 2 (some .long) ∈ Ts) (hf : 1 ≤ R'.frames) (hl : (rest.map fun v => v.category).sum + 13 ≤ R'.locals) (b1 : -9223372036854775807 ≤ x) (b2 : x < 9223372036854775808) (k : gz_G z ws (pc + 3) lv (.long (lI (x.natAbs : Int)) :: rest)) : gz_G z ws pc lv (.long (lI x) :: rest) := by
  obtain ⟨p, l, e, R, s, m, args, below, meth, c, D, tys, A, nL, cells, slots, Q⟩ := z
  obtain ⟨hx, hb, hml, hown, hts, hK, hA, rfl, rfl, rfl, rfl, rfl, hcs, hss⟩ := E
  intro H locs ls hP hD hS h
  refine va_mabs_long hx hb (hml.trans h.1.symm) hown (hts _ h1) (hts _ h2) (hts _ h3) (hts _ h4) hf hl hcs hss hd ?_
  rw [lI_absI b1 b2]
  exact k H locs ls hP hD hS h
theorem gz_ifN_le (E : gz_E z l' D' tys' cc own Ts nL' R' kb) {a : Nat} {off : Int} {tgt : Nat} (hd : decode cc pc = .ok (.ifCond .le off, 3)) (ht : (pc : Int) + off = (tgt : Int)) (ha : a < 2 ^ 31) (kt : a = 0 → gz_G z ws tgt lv rest) (kf : 0 < a → gz_G z ws (pc + 3) lv rest) : gz_G z ws pc lv (.int (nI a) :: rest) :=
  gz_if_le E hd ht (fun q => kt (by rcases Nat.eq_zero_or_pos a with h | h; exact h; exact absurd q (nI_nle h ha))) (fun q => kf (by rcases Nat.eq_zero_or_pos a with h | h; exact absurd (by rw [h, nI_0]; decide) q; exact h))
theorem gz_ifN_gt (E : gz_E z l' D' tys' cc own Ts nL' R' kb) {a : Nat} {off : Int} {tgt : Nat} (hd : decode cc pc = .ok (.ifCond .gt off, 3)) (ht : (pc : Int) + off = (tgt : Int)) (ha : a < 2 ^ 31) (kt : 0 < a → gz_G z ws tgt lv rest) (kf : a = 0 → gz_G z ws (pc + 3) lv rest) : gz_G z ws pc lv (.int (nI a) :: rest) :=
  gz_if_gt E hd ht (fun q => kt (by rcases Nat.eq_zero_or_pos a with h | h; exact absurd q (by rw [h, nI_0]; decide); exact h)) (fun q => kf (by rcases Nat.eq_zero_or_pos a with h | h; exact h; exact absurd (Int32.not_le.mp (nI_nle h ha)) q))
theorem gz_topi {x : Int32} (k : ∀ y : Int32, y = x → gz_G z ws pc lv (.int y :: rest)) : gz_G z ws pc lv (.int x :: rest) := k x rfl
theorem gz_topl {x : Int64} (k : ∀ y : Int64, y = x → gz_G z ws pc lv (.long y :: rest)) : gz_G z ws pc lv (.long x :: rest) := k x rfl
theorem gz_ldcw (E : gz_E z l' D' tys' cc own Ts nL' R' kb) {index : Nat} {v : Int32} (hd : decode cc pc = .ok (.ldc_w index, 3)) (hc : Jvm.Cond.constant own index v ∈ Ts) (k : gz_G z ws (pc + 3) lv (.int v :: rest)) : gz_G z ws pc lv rest := by
  obtain ⟨p, l, e, R, s, m, args, below, meth, c, D, tys, A, nL, cells, slots, Q⟩ := z
  obtain ⟨hx, hb, hml, hown, hts, hK, hA, rfl, rfl, rfl, rfl, rfl, hcs, hss⟩ := E
  intro H locs ls hP hD hS h
  exact lv_ldcw hx hb hown (hts _ hc) hd (k H locs ls hP hD hS h)
theorem gz_upLI (T : Nat → Int) (k : Nat) (v : Int) : vp_updL (fun i => lI (T i)) k (lI v) = fun i => lI (if i = k then v else T i) := by
  funext j
  unfold vp_updL
  by_cases h : j = k
  · rw [if_pos h, if_pos h]
  · rw [if_neg h, if_neg h]
end NR
