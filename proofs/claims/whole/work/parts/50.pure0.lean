/-! numbers, loops: the rows that the functions' laws rest on -/
theorem lup {α : Type} (G : Nat → Nat → α) (N : Nat) (R : α) (hs : ∀ n i, i < N → G (n + 1) i = G n (i + 1)) (he : ∀ n, G (n + 1) N = R) : ∀ n i, i ≤ N → N < n + i → G n i = R := by
  intro n
  induction n with
  | zero => intro i h1 h2; omega
  | succ n ih =>
    intro i h1 h2
    by_cases h : i = N
    · subst h; exact he n
    · rw [hs n i (by omega)]; exact ih (i + 1) (by omega) (by omega)
theorem lupP {α : Type} (P : Nat → Prop) (G : Nat → Nat → α) (N : Nat) (R : α) (hs : ∀ n i, i < N → P i → G (n + 1) i = R ∨ (P (i + 1) ∧ G (n + 1) i = G n (i + 1))) (he : ∀ n, P N → G (n + 1) N = R) : ∀ n i, i ≤ N → N < n + i → P i → G n i = R := by
  intro n
  induction n with
  | zero => intro i h1 h2; omega
  | succ n ih =>
    intro i h1 h2 hp
    by_cases h : i = N
    · subst h; exact he n hp
    · rcases hs n i (by omega) hp with e | ⟨hp', e⟩
      · exact e
      · rw [e]; exact ih (i + 1) (by omega) (by omega) hp'
theorem lupR {σ α : Type} (I : Nat → σ → Prop) (G : Nat → Nat → σ → α) (N : Nat) (Q : α → Prop) (hs : ∀ n i s, i < N → I i s → (∃ s', I (i + 1) s' ∧ G (n + 1) i s = G n (i + 1) s') ∨ Q (G (n + 1) i s)) (he : ∀ n s, I N s → Q (G (n + 1) N s)) : ∀ n i s, i ≤ N → N < n + i → I i s → Q (G n i s) := by
  intro n
  induction n with
  | zero => intro i s h1 h2; omega
  | succ n ih =>
    intro i s h1 h2 hp
    by_cases h : i = N
    · subst h; exact he n s hp
    · rcases hs n i s (by omega) hp with ⟨s', hp', e⟩ | e
      · rw [e]; exact ih (i + 1) s' (by omega) (by omega) hp'
      · exact e
theorem fU_gt {n : Nat} (h : n < 100000) : n < fU := h
theorem zl (n : Nat) : (OfNat.ofNat n : Int32) = nI n := rfl
theorem zl_0 : (0 : Int32) = nI 0 := rfl
theorem zl_1 : (1 : Int32) = nI 1 := rfl
theorem zl_2 : (2 : Int32) = nI 2 := rfl
theorem zl_3 : (3 : Int32) = nI 3 := rfl
theorem zl_4 : (4 : Int32) = nI 4 := rfl
theorem zl_5 : (5 : Int32) = nI 5 := rfl
theorem zl_6 : (6 : Int32) = nI 6 := rfl
theorem zl_7 : (7 : Int32) = nI 7 := rfl
theorem zl_8 : (8 : Int32) = nI 8 := rfl
theorem zl_9 : (9 : Int32) = nI 9 := rfl
theorem zl_10 : (10 : Int32) = nI 10 := rfl
theorem zl_11 : (11 : Int32) = nI 11 := rfl
theorem zl_12 : (12 : Int32) = nI 12 := rfl
theorem zl_15 : (15 : Int32) = nI 15 := rfl
theorem zl_16 : (16 : Int32) = nI 16 := rfl
theorem zl_20 : (20 : Int32) = nI 20 := rfl
theorem zl_40 : (40 : Int32) = nI 40 := rfl
theorem zl_48 : (48 : Int32) = nI 48 := rfl
theorem zl_60 : (60 : Int32) = nI 60 := rfl
theorem zl_78 : (78 : Int32) = nI 78 := rfl
theorem zl_80 : (80 : Int32) = nI 80 := rfl
theorem zl_84 : (84 : Int32) = nI 84 := rfl
theorem zl_99 : (99 : Int32) = nI 99 := rfl
theorem zl_100 : (100 : Int32) = nI 100 := rfl
theorem zl_128 : (128 : Int32) = nI 128 := rfl
theorem zl_160 : (160 : Int32) = nI 160 := rfl
theorem zl_255 : (255 : Int32) = nI 255 := rfl
theorem zl_999 : (999 : Int32) = nI 999 := rfl
theorem zl_1000 : (1000 : Int32) = nI 1000 := rfl
theorem zl_1023 : (1023 : Int32) = nI 1023 := rfl
theorem z_lt (a b : Int32) : a < b ↔ a.toInt < b.toInt := Int32.lt_iff_toInt_lt
theorem z_le (a b : Int32) : a ≤ b ↔ a.toInt ≤ b.toInt := Int32.le_iff_toInt_le
theorem z_eq (a b : Int32) : a = b ↔ a.toInt = b.toInt := Int32.toInt_inj.symm
theorem z_wide (a : Int32) : a.toInt64.toInt = a.toInt := by simp
theorem z_lt64 (a b : Int64) : a < b ↔ a.toInt < b.toInt := Int64.lt_iff_toInt_lt
theorem z_le64 (a b : Int64) : a ≤ b ↔ a.toInt ≤ b.toInt := Int64.le_iff_toInt_le
theorem z_lit (n : Nat) (h : n < 2 ^ 31) : (OfNat.ofNat n : Int32).toInt = (n : Int) := nI_toInt h
theorem z_m1 : (nI 0 - 1 : Int32) = -1 := by decide
theorem z_pm (m : Nat) : (nI (m + 1) - 1 : Int32) = nI m := nI_pred m
theorem z_sm (x : Int32) : x + (-1) = x - 1 := (Int32.sub_eq_add_neg x 1).symm
theorem nI_lt0 {n : Nat} (h : n < 2 ^ 31) : ¬ nI n < 0 := nI_pos h
/-- an index that lies inside -/
theorem ix_ok {i N : Nat} (h : i < N) (hN : N < 2 ^ 31) : ¬ (nI i < 0 ∨ N ≤ (nI i).toNatClampNeg) := vp_in_nI h hN
theorem bnd1_k {α β : Type} (a : α) (f : α → Option β) : bnd1 (some a) f = f a := rfl
theorem bnd2_k {α1 α2 β : Type} (a1 : α1) (a2 : α2) (f : α1 → α2 → Option β) : bnd2 (some (a1, a2)) f = f a1 a2 := rfl
theorem bnd3_k {α1 α2 α3 β : Type} (a1 : α1) (a2 : α2) (a3 : α3) (f : α1 → α2 → α3 → Option β) : bnd3 (some (a1, a2, a3)) f = f a1 a2 a3 := rfl
theorem bnd4_k {α1 α2 α3 α4 β : Type} (a1 : α1) (a2 : α2) (a3 : α3) (a4 : α4) (f : α1 → α2 → α3 → α4 → Option β) : bnd4 (some (a1, a2, a3, a4)) f = f a1 a2 a3 a4 := rfl
/-- model's in over ints -/
theorem in_spec (p : Int32) (a b : Int64) : X11_in p.toInt64 a b = if a.toInt ≤ p.toInt ∧ p.toInt ≤ b.toInt then 1 else 0 := by
  unfold X11_in
  simp only [lg_cmp_lt, lg_cmp_gt, z_lt64, z_wide]
  by_cases h1 : p.toInt < a.toInt
  · rw [if_pos h1, if_neg (by omega)]
  · by_cases h2 : b.toInt < p.toInt
    · rw [if_neg h1, if_pos h2, if_neg (by omega)]
    · rw [if_neg h1, if_neg h2, if_pos (by omega)]
theorem num_spec (p : Int32) : X10_isNumber p = if 0 ≤ p.toInt ∧ p.toInt < 10 then 1 else 0 := by
  unfold X10_isNumber
  simp only [z_lt, z_le]
  have e0 : (0 : Int32).toInt = 0 := rfl
  have e1 : (10 : Int32).toInt = 10 := rfl
  rw [e0, e1]
  by_cases h1 : p.toInt < 0
  · rw [if_pos h1, if_neg (by omega)]
  · by_cases h2 : 10 ≤ p.toInt
    · rw [if_neg h1, if_pos h2, if_neg (by omega)]
    · rw [if_neg h1, if_neg h2, if_pos (by omega)]
/-- an int is below, above, or a number below n -/
theorem nat_of (x : Int32) (h : 0 ≤ x.toInt) : ∃ j : Nat, j < 2 ^ 31 ∧ x = nI j := nI_of (x := x) (by rw [z_lt]; show ¬ x.toInt < 0; omega)
/-! the text -/
def TX (L : Nat) (tx : Nat → Nat) (len : Int32) (f : Nat → Int32) : Prop := L ≤ 40 ∧ len = nI L ∧ ∀ j, j < L → tx j < 256 ∧ f j = nI (tx j)
def byE (v : Int64) (i : Nat) : Int32 := (v.toUInt64 >>> (((8 : Int32) * nI i).toInt64.toUInt64 &&& Int64.toUInt64 63)).toInt64.toInt32 &&& (255 : Int32)
def byN (v : Int64) (i : Nat) : Nat := (v.toUInt64 >>> (((8 : Int32) * nI i).toInt64.toUInt64 &&& Int64.toUInt64 63)).toInt64.toInt32.toBitVec.toNat % 2 ^ 8
theorem byE_N (v : Int64) (i : Nat) : byE v i = nI (byN v i) := pk_and _ 8 (by decide)
theorem byN_lt (v : Int64) (i : Nat) : byN v i < 256 := Nat.mod_lt _ (by decide)
theorem by_same (v : Int64) : ∀ i, i < 8 → ((v >>> (((8 : Int32) * nI i).toInt64 &&& 63)) &&& (255 : Int64)).toInt32 = byE v i := by
  intro i hi
  have key : ∀ k : Nat, k < 8 → ((v.toBitVec.sshiftRight (8 * k)) &&& 255#64).setWidth 32 = ((v.toBitVec >>> (8 * k)).setWidth 32) &&& 255#32 := by
    intro k hk
    apply BitVec.eq_of_getLsbD_eq
    intro j hj
    have hb : ∀ (w : Nat), (255 : Nat).testBit w = decide (w < 8) := by
      intro w
      have := Nat.testBit_two_pow_sub_one 8 w
      simpa using this
    have h64 : (255#64).getLsbD j = decide (j < 8) := by
      simp only [BitVec.getLsbD_ofNat, hb]; simp; omega
    have h32 : (255#32).getLsbD j = decide (j < 8) := by
      simp only [BitVec.getLsbD_ofNat, hb]; simp; omega
    simp only [BitVec.getLsbD_setWidth, BitVec.getLsbD_and, BitVec.getLsbD_sshiftRight, BitVec.getLsbD_ushiftRight, h64, h32]
    by_cases h8 : j < 8
    · simp only [h8, hj, decide_true, Bool.true_and, Bool.and_true]
      rw [if_pos (by omega)]
      have : ¬ 64 ≤ j := by omega
      simp [this]
    · simp [h8]
  have hs : ∀ k : Nat, k < 8 → (((((8 : Int32) * nI k).toInt64 &&& 63).toBitVec.smod 64).toNat = 8 * k) ∧ ((((8 : Int32) * nI k).toInt64.toUInt64 &&& Int64.toUInt64 63).toBitVec % 64).toNat = 8 * k := by decide +kernel
  apply Int32.toBitVec_inj.mp
  unfold byE
  have e1 : (v >>> (((8 : Int32) * nI i).toInt64 &&& 63)).toBitVec = v.toBitVec.sshiftRight (8 * i) := by
    rw [← (hs i hi).1]; rfl
  have e2 : (v.toUInt64 >>> (((8 : Int32) * nI i).toInt64.toUInt64 &&& Int64.toUInt64 63)).toInt64.toBitVec = v.toBitVec >>> (8 * i) := by
    rw [← (hs i hi).2]; rfl
  rw [Int32.toBitVec_and, Int64.toBitVec_toInt32, Int64.toBitVec_toInt32, Int64.toBitVec_and, e1, e2]
  rw [BitVec.signExtend_eq_setWidth_of_le _ (by decide), BitVec.signExtend_eq_setWidth_of_le _ (by decide)]
  exact key i hi
