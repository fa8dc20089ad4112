/-! the worlds: the class and the reference, as cells over numbers -/
def wC (ad : Nat → Nat) (cI : ClassId) (n : Nat) (X Y : Nat → Int) (tc : Nat) (TT NB RG : Nat → Nat) (rc : Nat) (KT : Nat → Nat) (kc : Nat) (tl : Int) (GR : Nat → Nat) : va_W :=
  [(ad 0, .inr (0, [.ref (ad 1), .ref (ad 2), .int (nI n), .ref (ad 3), .int (nI tc), .ref (ad 4), .ref (ad 5), .int (nI rc), .ref (ad 6), .int (nI kc), .long (lI tl), .ref (ad 7)])),
   (ad 1, .inl (cI, 14, .inl (fun i => iI (X i)))), (ad 2, .inl (cI, 14, .inl (fun i => iI (Y i)))), (ad 3, .inl (cI, 23, .inl (fun i => nI (TT i)))), (ad 4, .inl (cI, 14, .inl (fun i => nI (NB i)))), (ad 5, .inl (cI, 14, .inl (fun i => nI (RG i)))), (ad 6, .inl (cI, 13, .inl (fun i => nI (KT i)))), (ad 7, .inl (cI, 14, .inl (fun i => nI (GR i))))]
def wM (bd : Nat → Nat) (cI cJ : ClassId) (n : Nat) (X Y : Nat → Int) (mc : Nat) (LE MI GE : Nat → Nat) (ec : Nat) (CO : Nat → Nat) (kc : Nat) (LS GT : Nat → Nat) (tl : Int) (GP : Nat → Nat) : va_W :=
  [(bd 0, .inr (1, [.int (nI n), .ref (bd 1), .ref (bd 2), .int (nI mc), .ref (bd 3), .ref (bd 4), .ref (bd 5), .int (nI ec), .ref (bd 6), .int (nI kc), .ref (bd 7), .ref (bd 8), .long (lI tl), .ref (bd 9)])),
   (bd 1, .inl (cJ, 14, .inr (.inl (fun i => lI (X i))))), (bd 2, .inl (cJ, 14, .inr (.inl (fun i => lI (Y i))))), (bd 3, .inl (cI, 40, .inl (fun i => nI (LE i)))), (bd 4, .inl (cI, 40, .inl (fun i => nI (MI i)))), (bd 5, .inl (cI, 40, .inl (fun i => nI (GE i)))), (bd 6, .inl (cI, 14, .inl (fun i => nI (CO i)))), (bd 7, .inl (cI, 14, .inl (fun i => nI (LS i)))), (bd 8, .inl (cI, 14, .inl (fun i => nI (GT i)))), (bd 9, .inl (cI, 14, .inl (fun i => nI (GP i))))]
/-- x is the number of something below n -/
def gz_Ix (x : Int32) (n : Nat) : Prop := ∃ k : Nat, k < n ∧ x = nI k
theorem gz_Ix_t {x : Int32} {n : Nat} (hn : n ≤ 64) (h1 : ¬ x < 0) (h2 : ¬ nI n ≤ x) : gz_Ix x n := ((pk_ix x (n := n) (by omega)).resolve_left h1).resolve_left h2
theorem gz_Ix_f1 {x : Int32} {n : Nat} (hn : n ≤ 64) (h : x < 0) : ¬ gz_Ix x n := fun ⟨k, h1, h2⟩ => nI_pos (n := k) (by omega) (h2 ▸ h)
theorem gz_Ix_f2 {x : Int32} {n : Nat} (hn : n ≤ 64) (h : nI n ≤ x) : ¬ gz_Ix x n := fun ⟨k, h1, h2⟩ => by
  rw [h2, nI_leI (by omega) (by omega)] at h
  omega
theorem gz_Ix_N {k n : Nat} (hk : k < 2 ^ 31) (hn : n < 2 ^ 31) : gz_Ix (nI k) n ↔ k < n := ⟨fun ⟨j, h1, h2⟩ => by rw [nI_eq hk (by omega)] at h2; omega, fun h => ⟨k, h, rfl⟩⟩
