/-! people in one long; acts and slots -/
def pvl : List Nat → Nat
  | [] => 0
  | a :: t => a + 16 * pvl t
def pkN (ps : List Nat) : Nat := pvl ps * 16 + ps.length
theorem pvl_lt {ps : List Nat} (h : ∀ x ∈ ps, x < 10) : pvl ps < 16 ^ ps.length := by
  induction ps with
  | nil => simp [pvl]
  | cons a t ih =>
    have := ih (fun x hx => h x (by simp [hx]))
    have := h a (by simp)
    rw [List.length_cons, Nat.pow_succ]
    unfold pvl
    omega
theorem pow_le9 {n : Nat} (h : n ≤ 9) : 16 ^ n ≤ 16 ^ 9 := Nat.pow_le_pow_right (by decide) h
theorem pkN_lt {ps : List Nat} (hn : ps.length ≤ 9) (h : ∀ x ∈ ps, x < 10) : pkN ps < 2 ^ 40 := by
  have h1 := pvl_lt h
  have h2 := pow_le9 hn
  unfold pkN
  omega
theorem pvl_dig {ps : List Nat} (h : ∀ x ∈ ps, x < 10) : ∀ j, j < ps.length → pvl ps / 16 ^ j % 16 = ps.getD j 0 := by
  induction ps with
  | nil => intro j hj; simp at hj
  | cons a t ih =>
    intro j hj
    have ha := h a (by simp)
    cases j with
    | zero =>
      show (a + 16 * pvl t) / 16 ^ 0 % 16 = a
      rw [Nat.pow_zero, Nat.div_one]
      omega
    | succ j =>
      show (a + 16 * pvl t) / 16 ^ (j + 1) % 16 = t.getD j 0
      rw [Nat.pow_succ, Nat.mul_comm (16 ^ j) 16, ← Nat.div_div_eq_div_mul]
      have e : (a + 16 * pvl t) / 16 = pvl t := by omega
      rw [e]
      exact ih (fun x hx => h x (by simp [hx])) j (by simp at hj; omega)
theorem pkN_dig {ps : List Nat} (hn : ps.length ≤ 9) (h : ∀ x ∈ ps, x < 10) {i : Nat} (hi : i < ps.length) : pkN ps / 2 ^ (4 * (i + 1)) % 16 = ps.getD i 0 := by
  have e : 2 ^ (4 * (i + 1)) = 16 * 16 ^ i := by
    rw [Nat.pow_mul]
    show 16 ^ (i + 1) = _
    rw [Nat.pow_succ, Nat.mul_comm]
  rw [e, ← Nat.div_div_eq_div_mul]
  have e2 : pkN ps / 16 = pvl ps := by unfold pkN; omega
  rw [e2]
  exact pvl_dig h i hi
theorem drop_s {ps : List Nat} {i : Nat} (h : i < ps.length) : ps.drop i = ps.getD i 0 :: ps.drop (i + 1) := by
  rw [List.getD_eq_getElem?_getD, List.getElem?_eq_getElem h]
  exact List.drop_eq_getElem_cons h
theorem mem_drop {ps : List Nat} {i x : Nat} (h : x ∈ ps.drop i) : x ∈ ps := List.mem_of_mem_drop h
theorem or_step {a d : Nat} (h : a * 16 + d < 2 ^ 64) (hd : d < 16) : (lN a <<< ((4 : Int32).toInt64 &&& 63)) ||| (nI d).toInt64 = lN (a * 16 + d) := by
  have e1 : lN a <<< ((4 : Int32).toInt64 &&& 63) = lN (a * 16) := wb_shl a (k := 4) (by decide)
  rw [e1, nI_l (by omega)]
  exact g_or (k := 4) (p := 16) (by decide) hd h
theorem pack_spec {ps : List Nat} {size : Int32} {nm : Nat → Int32} (h : PM ps size nm) : X5_pack size nm = some (lN (pkN ps)) := by
  obtain ⟨hn, hx, e, hr⟩ := id h
  have hb : ∀ i, pvl (ps.drop i) < 16 ^ 9 := fun i => Nat.lt_of_lt_of_le (pvl_lt (fun x hxm => hx x (mem_drop hxm))) (pow_le9 (by rw [List.length_drop]; omega))
  unfold X5_pack
  rw [e]
  have e0 : (0 : Int64) = lN (pvl (ps.drop (ps.length - 0))) := by
    rw [Nat.sub_zero, List.drop_length]; rfl
  rw [e0]
  refine lup (fun n j => X5_pack_b9 n (nI ps.length) nm (lN (pvl (ps.drop (ps.length - j)))) (nI (ps.length - j) - 1)) ps.length _ ?_ ?_ fU 0 (by omega) (fU_gt (by omega))
  · intro n j hj
    obtain ⟨m, hm⟩ : ∃ m, ps.length - j = m + 1 := ⟨ps.length - j - 1, by omega⟩
    have e2 : ps.length - (j + 1) = m := by omega
    have hml : m < ps.length := by omega
    show X5_pack_b9_s (X5_pack_b9 n) _ _ _ _ = X5_pack_b9 n _ _ (lN (pvl (ps.drop (ps.length - (j + 1))))) (nI (ps.length - (j + 1)) - 1)
    unfold X5_pack_b9_s
    rw [hm, e2, nI_pred, z_sm, drop_s hml]
    have hg := hx _ (gd_mem hml)
    have e3 := or_step (a := pvl (ps.drop (m + 1))) (d := ps.getD m 0) (by have := hb (m + 1); omega) (by omega)
    have e4 : pvl (ps.getD m 0 :: ps.drop (m + 1)) = pvl (ps.drop (m + 1)) * 16 + ps.getD m 0 := by
      show _ + 16 * _ = _
      omega
    rw [e4, ← e3]
    rw [if_neg (nI_pos (by omega)), if_neg (ix_ok (by omega) (by omega)), nI_clamp (by omega), hr m hml]
  · intro n
    show X5_pack_b9_s (X5_pack_b9 n) _ _ _ _ = _
    unfold X5_pack_b9_s X5_pack_b31
    rw [Nat.sub_self, z_m1, if_pos (by decide), List.drop_zero]
    rw [or_step (by have := hb 0; rw [List.drop_zero] at this; omega) (by omega)]
    rfl
theorem cnt_app (ps : List Nat) (d x : Nat) : (ps ++ [d]).count x = ps.count x + if x = d then 1 else 0 := by
  rw [List.count_append]
  by_cases h : x = d
  · subst h; simp
  · have : ¬ d = x := fun q => h q.symm
    simp [this, h]
theorem gd_app_lt {ps : List Nat} {d j : Nat} (h : j < ps.length) : (ps ++ [d]).getD j 0 = ps.getD j 0 := by
  rw [List.getD_eq_getElem?_getD, List.getD_eq_getElem?_getD, List.getElem?_append_left h]
theorem gd_app_eq {ps : List Nat} {d : Nat} : (ps ++ [d]).getD ps.length 0 = d := by
  rw [List.getD_eq_getElem?_getD, List.getElem?_append_right (Nat.le_refl _)]
  simp
theorem PM_app {ps : List Nat} {size : Int32} {nm : Nat → Int32} {d : Nat} (h : PM ps size nm) (hn : ps.length < 9) (hd : d < 10) : PM (ps ++ [d]) (nI (ps.length + 1)) (upd nm ps.length (nI d)) := by
  obtain ⟨h9, hx, e, hr⟩ := h
  refine ⟨by rw [List.length_append]; simp; omega, fun x hxm => ?_, by rw [List.length_append]; rfl, fun j hj => ?_⟩
  · rcases List.mem_append.mp hxm with q | q
    · exact hx x q
    · rw [List.mem_singleton.mp q]; exact hd
  · rw [List.length_append] at hj
    simp at hj
    by_cases ej : j = ps.length
    · subst ej; rw [pk_us, gd_app_eq]
    · rw [pk_un ej, gd_app_lt (by omega)]; exact hr j (by omega)
theorem add_spec {ps : List Nat} {size : Int32} {nm ct : Nat → Int32} {d : Nat} (h : PC ps size nm ct) (hn : ps.length < 9) (hd : d < 10) : ∃ nm' ct', X5_add size nm ct (nI d) = some (nI (ps.length + 1), nm', ct') ∧ PC (ps ++ [d]) (nI (ps.length + 1)) nm' ct' := by
  refine ⟨upd nm ps.length (nI d), upd ct d (nI (ps.count d + 1)), ?_, PM_app h.1 hn hd, fun x hx => ?_⟩
  · unfold X5_add
    rw [h.1.2.2.1, num_spec, nI_toInt (by omega), if_pos (show (0 : Int) ≤ d ∧ (d : Int) < 10 by omega)]
    simp (disch := omega) only [zl_0, zl_1, zl_2, zl_3, zl_4, zl_5, zl_6, zl_7, zl_8, zl_9, zl_10, zl_11, zl_12, zl_15, zl_16, zl_20, zl_40, zl_48, zl_60, zl_78, zl_80, zl_84, zl_99, zl_100, zl_128, zl_160, zl_255, zl_999, zl_1000, zl_1023, nI_leI, nI_ltI, nI_eq, nI_clamp, nI_add, bnd1_k, bnd2_k, bnd3_k, bnd4_k, if_pos, if_neg, if_true, if_false, Nat.not_lt_zero, false_or, or_false, h.2]
  · rw [cnt_app]
    by_cases e : x = d
    · subst e; rw [pk_us, if_pos rfl]
    · rw [pk_un e, if_neg e]; exact h.2 x hx
theorem clear_spec (size : Int32) (nm ct : Nat → Int32) : ∃ ct', X5_clear size ct = some (0, ct') ∧ PC [] 0 nm ct' := by
  refine ⟨fillI 10 ct 0, rfl, ⟨by simp, by simp, rfl, fun j hj => by simp at hj⟩, fun d hd => ?_⟩
  unfold fillI
  rw [if_pos hd]; rfl
theorem lw4 {P : Nat} (hP : P < 2 ^ 40) {i : Nat} (hi : i < 10) : ((lN P).toUInt64 >>> (((4 : Int32) * nI i).toInt64.toUInt64 &&& Int64.toUInt64 63)).toInt64.toInt32 &&& (15 : Int32) = nI (P / 2 ^ (4 * i) % 16) := by
  have e1 : (4 : Int32) * nI i = nI (4 * i) := pk_mul 4 i
  rw [e1, wb_shr (by omega) (by omega), lN_i]
  exact fa_mask (P / 2 ^ (4 * i)) 4
theorem lw0 {P : Nat} (hP : P < 2 ^ 40) : (lN P &&& (15 : Int64)).toInt32 = nI (P % 16) := by
  have e : lN P &&& (15 : Int64) = lN (P % 16) := wb_mask (k := 4) (by omega) (by decide)
  rw [e, lN_i]
theorem unpack_spec {ps : List Nat} (hn : ps.length ≤ 9) (hx : ∀ x ∈ ps, x < 10) (size : Int32) (nm ct : Nat → Int32) : ∃ nm' ct', X5_unpack size nm ct (lN (pkN ps)) = some (nI ps.length, nm', ct') ∧ PC ps (nI ps.length) nm' ct' := by
  obtain ⟨ct0, a0, hP0⟩ := clear_spec size nm ct
  have hlt := pkN_lt hn hx
  unfold X5_unpack
  rw [a0, bnd2_k, lw0 hlt]
  have em : pkN ps % 16 = ps.length := by unfold pkN; omega
  rw [em]
  have main := lupR (σ := (Nat → Int32) × (Nat → Int32)) (fun i g => PC (ps.take i) (nI i) g.1 g.2) (fun n i g => X5_unpack_b14 n (nI i) g.1 g.2 (lN (pkN ps)) (nI ps.length) (nI (i + 1))) ps.length (fun r => ∃ nm' ct', r = some (nI ps.length, nm', ct') ∧ PC ps (nI ps.length) nm' ct') ?_ ?_ fU 0 (nm, ct0) (by omega) (fU_gt (by omega)) ?_
  · exact main
  · intro n i g hi hI
    left
    have hlen : (ps.take i).length = i := by rw [List.length_take]; omega
    have hg := hx _ (gd_mem hi)
    obtain ⟨nm1, ct1, a1, hP1⟩ := add_spec hI (by omega) hg
    rw [hlen] at a1 hP1
    refine ⟨(nm1, ct1), ?_, ?_⟩
    · show PC (ps.take (i + 1)) (nI (i + 1)) nm1 ct1
      rw [take_s hi]; exact hP1
    · show X5_unpack_b14_s (X5_unpack_b14 n) _ _ _ _ _ _ = X5_unpack_b14 n (nI (i + 1)) nm1 ct1 _ _ (nI (i + 1 + 1))
      unfold X5_unpack_b14_s
      rw [lw4 hlt (by omega), pkN_dig hn hx hi, a1]
      simp (disch := omega) only [zl_0, zl_1, zl_2, zl_3, zl_4, zl_5, zl_6, zl_7, zl_8, zl_9, zl_10, zl_11, zl_12, zl_15, zl_16, zl_20, zl_40, zl_48, zl_60, zl_78, zl_80, zl_84, zl_99, zl_100, zl_128, zl_160, zl_255, zl_999, zl_1000, zl_1023, nI_leI, nI_ltI, nI_eq, nI_clamp, nI_add, bnd1_k, bnd2_k, bnd3_k, bnd4_k, if_pos, if_neg, if_true, if_false, Nat.not_lt_zero, false_or, or_false]
  · intro n g hI
    have hI' : PC (ps.take ps.length) (nI ps.length) g.1 g.2 := hI
    rw [List.take_length] at hI'
    refine ⟨g.1, g.2, ?_, hI'⟩
    show X5_unpack_b14_s (X5_unpack_b14 n) _ _ _ _ _ _ = _
    unfold X5_unpack_b14_s
    simp (disch := omega) only [zl_0, zl_1, zl_2, zl_3, zl_4, zl_5, zl_6, zl_7, zl_8, zl_9, zl_10, zl_11, zl_12, zl_15, zl_16, zl_20, zl_40, zl_48, zl_60, zl_78, zl_80, zl_84, zl_99, zl_100, zl_128, zl_160, zl_255, zl_999, zl_1000, zl_1023, nI_leI, nI_ltI, nI_eq, nI_clamp, nI_add, bnd1_k, bnd2_k, bnd3_k, bnd4_k, if_pos, if_neg, if_true, if_false, Nat.not_lt_zero, false_or, or_false]
  · exact hP0
