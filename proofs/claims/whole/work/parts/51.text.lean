/-! write, wipe -/
def ntx (L N : Nat) (tx : Nat → Nat) (v : Int64) : Nat → Nat := fun q => if q < L then tx q else byN v (N - 1 - (q - L))
theorem ntx_step {L N j m : Nat} {tx : Nat → Nat} {v : Int64} {g : Nat → Int32} (hm : N - j = m + 1) (hI : ∀ q, q < L + j → ntx L N tx v q < 256 ∧ g q = nI (ntx L N tx v q)) : ∀ q, q < L + (j + 1) → ntx L N tx v q < 256 ∧ upd g (L + j) (byE v m) q = nI (ntx L N tx v q) := by
  intro q hq
  by_cases h : q = L + j
  · subst h
    rw [pk_us, byE_N]
    have e : ntx L N tx v (L + j) = byN v m := by
      unfold ntx
      rw [if_neg (by omega)]
      have : N - 1 - (L + j - L) = m := by omega
      rw [this]
    rw [e]
    exact ⟨byN_lt v m, rfl⟩
  · rw [pk_un h]
    exact hI q (by omega)
theorem C_add {L N : Nat} {tx : Nat → Nat} {f : Nat → Int32} (v : Int64) (hL : L + N ≤ 40) (hN : N ≤ 8) (hf : ∀ j, j < L → tx j < 256 ∧ f j = nI (tx j)) : ∃ f', X9_add_b5 fU (nI L) f v (nI N - 1) = some (nI (L + N), f') ∧ ∀ q, q < L + N → ntx L N tx v q < 256 ∧ f' q = nI (ntx L N tx v q) := by
  refine lupR (fun j g => ∀ q, q < L + j → ntx L N tx v q < 256 ∧ g q = nI (ntx L N tx v q)) (fun n j g => X9_add_b5 n (nI (L + j)) g v (nI (N - j) - 1)) N (fun r => ∃ f', r = some (nI (L + N), f') ∧ ∀ q, q < L + N → ntx L N tx v q < 256 ∧ f' q = nI (ntx L N tx v q)) ?_ ?_ fU 0 f (Nat.zero_le _) (fU_gt (by omega)) ?_
  · intro n j g hj hI
    obtain ⟨m, hm⟩ : ∃ m, N - j = m + 1 := ⟨N - j - 1, by omega⟩
    left
    refine ⟨upd g (L + j) (byE v m), ntx_step hm hI, ?_⟩
    show X9_add_b5_s (X9_add_b5 n) (nI (L + j)) g v (nI (N - j) - 1) = X9_add_b5 n (nI (L + (j + 1))) (upd g (L + j) (byE v m)) v (nI (N - (j + 1)) - 1)
    unfold X9_add_b5_s
    have e : N - (j + 1) = m := by omega
    rw [hm, nI_pred, e, z_sm]
    unfold byE
    simp (disch := omega) only [zl_0, zl_1, zl_2, zl_3, zl_4, zl_5, zl_6, zl_7, zl_8, zl_9, zl_10, zl_11, zl_12, zl_15, zl_16, zl_20, zl_40, zl_48, zl_60, zl_78, zl_80, zl_84, zl_99, zl_100, zl_128, zl_160, zl_255, zl_999, zl_1000, zl_1023, nI_leI, nI_ltI, nI_eq, nI_clamp, nI_add, bnd1_k, bnd2_k, bnd3_k, bnd4_k, if_pos, if_neg, if_true, if_false, Nat.not_lt_zero, false_or, or_false, Nat.add_assoc]
  · intro n g hI
    refine ⟨g, ?_, hI⟩
    show X9_add_b5_s (X9_add_b5 n) (nI (L + N)) g v (nI (N - N) - 1) = _
    unfold X9_add_b5_s
    rw [Nat.sub_self, z_m1, if_pos (by decide)]
  · intro q hq
    have e : ntx L N tx v q = tx q := by unfold ntx; rw [if_pos (by omega)]
    rw [e]
    exact hf q (by omega)
theorem M_add {L N : Nat} {tx : Nat → Nat} {f : Nat → Int32} (v : Int64) (hL : L + N ≤ 40) (hN : N ≤ 8) (hf : ∀ j, j < L → tx j < 256 ∧ f j = nI (tx j)) : ∃ f', X11_write_b34 fU (nI L) f v (nI N - 1) = some (nI (L + N), nI (L + N), f') ∧ ∀ q, q < L + N → ntx L N tx v q < 256 ∧ f' q = nI (ntx L N tx v q) := by
  refine lupR (fun j g => ∀ q, q < L + j → ntx L N tx v q < 256 ∧ g q = nI (ntx L N tx v q)) (fun n j g => X11_write_b34 n (nI (L + j)) g v (nI (N - j) - 1)) N (fun r => ∃ f', r = some (nI (L + N), nI (L + N), f') ∧ ∀ q, q < L + N → ntx L N tx v q < 256 ∧ f' q = nI (ntx L N tx v q)) ?_ ?_ fU 0 f (Nat.zero_le _) (fU_gt (by omega)) ?_
  · intro n j g hj hI
    obtain ⟨m, hm⟩ : ∃ m, N - j = m + 1 := ⟨N - j - 1, by omega⟩
    left
    refine ⟨upd g (L + j) (byE v m), ntx_step hm hI, ?_⟩
    show X11_write_b34_s (X11_write_b34 n) (nI (L + j)) g v (nI (N - j) - 1) = X11_write_b34 n (nI (L + (j + 1))) (upd g (L + j) (byE v m)) v (nI (N - (j + 1)) - 1)
    unfold X11_write_b34_s
    have e : N - (j + 1) = m := by omega
    rw [hm, nI_pred, e, z_sm, by_same v m (by omega)]
    unfold byE
    simp (disch := omega) only [zl_0, zl_1, zl_2, zl_3, zl_4, zl_5, zl_6, zl_7, zl_8, zl_9, zl_10, zl_11, zl_12, zl_15, zl_16, zl_20, zl_40, zl_48, zl_60, zl_78, zl_80, zl_84, zl_99, zl_100, zl_128, zl_160, zl_255, zl_999, zl_1000, zl_1023, nI_leI, nI_ltI, nI_eq, nI_clamp, nI_add, bnd1_k, bnd2_k, bnd3_k, bnd4_k, if_pos, if_neg, if_true, if_false, Nat.not_lt_zero, false_or, or_false, Nat.add_assoc]
  · intro n g hI
    refine ⟨g, ?_, hI⟩
    show X11_write_b34_s (X11_write_b34 n) (nI (L + N)) g v (nI (N - N) - 1) = _
    unfold X11_write_b34_s
    rw [Nat.sub_self, z_m1, if_pos (by decide)]
    rfl
  · intro q hq
    have e : ntx L N tx v q = tx q := by unfold ntx; rw [if_pos (by omega)]
    rw [e]
    exact hf q (by omega)
theorem J_write {L : Nat} {tx : Nat → Nat} {lC lM : Int32} {fC fM : Nat → Int32} (hC : TX L tx lC fC) (hM : TX L tx lM fM) (n : Int32) (v : Int64) : ∃ r L' tx' lC' fC' lM' fM', X10_write lC fC n v = some (r, lC', fC') ∧ X11_write lM fM n v = some (r, lM', fM') ∧ TX L' tx' lC' fC' ∧ TX L' tx' lM' fM' := by
  obtain ⟨hL, eC, hfC⟩ := id hC
  obtain ⟨-, eM, hfM⟩ := id hM
  subst eC eM
  unfold X10_write X11_write X9_length
  rw [in_spec]
  have e1 : (1 : Int64).toInt = 1 := rfl
  have e8 : (8 : Int64).toInt = 8 := rfl
  rw [e1, e8]
  by_cases h1 : n.toInt < 1
  · have c1 : n < 1 := by rw [z_lt]; exact h1
    simp only [if_pos c1, if_neg (show ¬ (1 ≤ n.toInt ∧ n.toInt ≤ 8) by omega), if_true]
    exact ⟨_, L, tx, _, _, _, _, rfl, rfl, hC, hM⟩
  by_cases h2 : n.toInt ≤ 8
  · obtain ⟨N, hN, rfl⟩ := nat_of n (by omega)
    rw [nI_toInt hN] at h1 h2 ⊢
    have e40 : nI 40 - nI L = nI (40 - L) := pk_sub hL
    simp (disch := omega) only [zl_0, zl_1, zl_2, zl_3, zl_4, zl_5, zl_6, zl_7, zl_8, zl_9, zl_10, zl_11, zl_12, zl_15, zl_16, zl_20, zl_40, zl_48, zl_60, zl_78, zl_80, zl_84, zl_99, zl_100, zl_128, zl_160, zl_255, zl_999, zl_1000, zl_1023, nI_leI, nI_ltI, nI_eq, nI_clamp, nI_add, bnd1_k, bnd2_k, bnd3_k, bnd4_k, if_pos, if_neg, if_true, if_false, Nat.not_lt_zero, false_or, or_false, e40]
    by_cases h3 : L + N ≤ 40
    · obtain ⟨f1, a1, b1⟩ := C_add (tx := tx) v h3 (by omega) hfC
      obtain ⟨f2, a2, b2⟩ := M_add (tx := tx) v h3 (by omega) hfM
      unfold X9_add
      simp only [zl_1] at a1 a2
      simp (disch := omega) only [zl_0, zl_1, zl_2, zl_3, zl_4, zl_5, zl_6, zl_7, zl_8, zl_9, zl_10, zl_11, zl_12, zl_15, zl_16, zl_20, zl_40, zl_48, zl_60, zl_78, zl_80, zl_84, zl_99, zl_100, zl_128, zl_160, zl_255, zl_999, zl_1000, zl_1023, nI_leI, nI_ltI, nI_eq, nI_clamp, nI_add, bnd1_k, bnd2_k, bnd3_k, bnd4_k, if_pos, if_neg, if_true, if_false, Nat.not_lt_zero, false_or, or_false, a1, a2, bnd2_k]
      exact ⟨nI (L + N), L + N, ntx L N tx v, _, _, _, _, rfl, rfl, ⟨h3, rfl, b1⟩, ⟨h3, rfl, b2⟩⟩
    · simp (disch := omega) only [zl_0, zl_1, zl_2, zl_3, zl_4, zl_5, zl_6, zl_7, zl_8, zl_9, zl_10, zl_11, zl_12, zl_15, zl_16, zl_20, zl_40, zl_48, zl_60, zl_78, zl_80, zl_84, zl_99, zl_100, zl_128, zl_160, zl_255, zl_999, zl_1000, zl_1023, nI_leI, nI_ltI, nI_eq, nI_clamp, nI_add, bnd1_k, bnd2_k, bnd3_k, bnd4_k, if_pos, if_neg, if_true, if_false, Nat.not_lt_zero, false_or, or_false]
      exact ⟨_, L, tx, _, _, _, _, rfl, rfl, hC, hM⟩
  · have c1 : ¬ n < 1 := by rw [z_lt]; exact h1
    have c2 : ¬ n ≤ 8 := by rw [z_le]; exact h2
    simp only [if_neg c1, if_neg c2, if_neg (show ¬ (1 ≤ n.toInt ∧ n.toInt ≤ 8) by omega), if_true]
    exact ⟨_, L, tx, _, _, _, _, rfl, rfl, hC, hM⟩
theorem J_wipe {L : Nat} {tx : Nat → Nat} {lC lM : Int32} {fC fM : Nat → Int32} (hC : TX L tx lC fC) (hM : TX L tx lM fM) : ∃ r L' tx' lC' lM', X10_wipe lC = some (r, lC') ∧ X11_wipe lM = some (r, lM') ∧ TX L' tx' lC' fC ∧ TX L' tx' lM' fM := by
  obtain ⟨hL, eC, hfC⟩ := id hC
  obtain ⟨-, eM, hfM⟩ := id hM
  subst eC eM
  exact ⟨nI L, 0, tx, 0, 0, rfl, rfl, ⟨Nat.zero_le _, rfl, fun j h => absurd h (Nat.not_lt_zero j)⟩, ⟨Nat.zero_le _, rfl, fun j h => absurd h (Nat.not_lt_zero j)⟩⟩
