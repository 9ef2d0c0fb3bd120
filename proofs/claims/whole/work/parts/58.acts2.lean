/-! come, leave, undo, keep, again -/
theorem OK_app {b : Nat} {ps : List Nat} {d : Nat} (h : OK b ps) (hn : ps.length < 9) (hd : d < 10) (ho : bb b d = 0) : OK b (ps ++ [d]) := ⟨by rw [List.length_append, List.length_singleton]; omega, fun x hx => by
  rcases List.mem_append.mp hx with q | q
  · exact h.2 x q
  · rw [List.mem_singleton.mp q]; exact ⟨hd, ho⟩⟩
theorem J_come {ps : List Nat} {as : List (List Nat)} {size many aC aM next : Int32} {nm ct sl bf : Nat → Int32} {row : Nat → Int64} {b : Nat} (hb : b < 1024) (hC : PC ps size nm ct) (hM : PM ps many sl) (hok : OK b ps) (hmC : MC as aC row) (hmM : MM as aM next bf) (hA : AS b as) (d : Int32) : ∃ r ps' as' size' nm' ct' aC' row' many' aM' next' sl' bf', X10_come (nI b) size nm ct aC row d = some (r, size', nm', ct', aC', row') ∧ X11_come many (nI b) aM next sl bf d = some (r, many', aM', next', sl', bf') ∧ PC ps' size' nm' ct' ∧ PM ps' many' sl' ∧ OK b ps' ∧ MC as' aC' row' ∧ MM as' aM' next' bf' ∧ AS b as' := by
  have hn := hM.1
  have c10 : ¬ (1 : Int32) = 0 := by decide
  unfold X10_come X11_come X5_size
  rw [refusal_spec hb, in_spec]
  have e0 : (0 : Int64).toInt = 0 := rfl
  have e9 : (9 : Int64).toInt = 9 := rfl
  rw [e0, e9]
  by_cases h1 : 0 ≤ d.toInt ∧ d.toInt < 10
  · obtain ⟨k, hk, -, rfl⟩ := person_nat (n := 10) h1
    simp only [if_pos h1, if_pos (show 0 ≤ (nI k).toInt ∧ (nI k).toInt ≤ 9 by omega), if_neg c10]
    rw [open_spec hb hk, bar_spec hb hk]
    by_cases h2 : bb b k = 0
    · simp only [if_pos h2, if_neg c10, if_true]
      by_cases h3 : ps.length < 9
      · obtain ⟨a1, row1, p1, q1⟩ := addAct_spec hmC ps
        obtain ⟨nm1, ct1, p2, q2⟩ := add_spec hC h3 hk
        obtain ⟨a2, n2, bf2, p3, q3⟩ := keepAct_spec hM hmM (fun l hl => (hA l hl).1)
        have q4 := PM_app hM h3 hk
        rw [pack_spec hC.1, bnd1_k, p1, bnd2_k, p2, bnd3_k, p3, bnd3_k, hC.1.2.2.1, hM.2.2.1]
        refine ⟨nI ps.length, ps ++ [k], psh as ps, nI (ps.length + 1), nm1, ct1, a1, row1, nI (ps.length + 1), a2, n2, upd sl ps.length (nI k), bf2, ?_, ?_, q2, q4, OK_app hok h3 hk h2, q1, q3, AS_psh hA hok⟩
        · have e1 : nI (ps.length + 1) - nI 1 = nI ps.length := pk_sub (by omega)
          simp (disch := omega) only [zl_0, zl_1, zl_2, zl_3, zl_4, zl_5, zl_6, zl_7, zl_8, zl_9, zl_10, zl_11, zl_12, zl_15, zl_16, zl_20, zl_40, zl_48, zl_60, zl_78, zl_80, zl_84, zl_99, zl_100, zl_128, zl_160, zl_255, zl_999, zl_1000, zl_1023, nI_leI, nI_ltI, nI_eq, nI_clamp, nI_add, bnd1_k, bnd2_k, bnd3_k, bnd4_k, if_pos, if_neg, if_true, if_false, Nat.not_lt_zero, false_or, or_false, e1]
        · have e1 : nI (ps.length + 1) - nI 1 = nI ps.length := pk_sub (by omega)
          simp (disch := omega) only [zl_0, zl_1, zl_2, zl_3, zl_4, zl_5, zl_6, zl_7, zl_8, zl_9, zl_10, zl_11, zl_12, zl_15, zl_16, zl_20, zl_40, zl_48, zl_60, zl_78, zl_80, zl_84, zl_99, zl_100, zl_128, zl_160, zl_255, zl_999, zl_1000, zl_1023, nI_leI, nI_ltI, nI_eq, nI_clamp, nI_add, bnd1_k, bnd2_k, bnd3_k, bnd4_k, if_pos, if_neg, if_true, if_false, Nat.not_lt_zero, false_or, or_false, e1]
      · rw [hC.1.2.2.1, hM.2.2.1]
        have h9 : ps.length = 9 := by omega
        rw [h9]
        simp (disch := omega) only [zl_0, zl_1, zl_2, zl_3, zl_4, zl_5, zl_6, zl_7, zl_8, zl_9, zl_10, zl_11, zl_12, zl_15, zl_16, zl_20, zl_40, zl_48, zl_60, zl_78, zl_80, zl_84, zl_99, zl_100, zl_128, zl_160, zl_255, zl_999, zl_1000, zl_1023, nI_leI, nI_ltI, nI_eq, nI_clamp, nI_add, bnd1_k, bnd2_k, bnd3_k, bnd4_k, if_pos, if_neg, if_true, if_false, Nat.not_lt_zero, false_or, or_false]
        refine ⟨_, ps, as, nI 9, nm, ct, aC, row, nI 9, aM, next, sl, bf, rfl, rfl, ?_, ?_, hok, hmC, hmM, hA⟩
        · rw [← h9, ← hC.1.2.2.1]; exact hC
        · rw [← h9, ← hM.2.2.1]; exact hM
    · simp only [if_neg h2, if_true, if_neg c10, if_neg (show ¬ (-3 : Int32) = 0 by decide)]
      exact ⟨_, ps, as, _, _, _, _, _, _, _, _, _, _, rfl, rfl, hC, hM, hok, hmC, hmM, hA⟩
  · simp only [if_neg h1, if_neg (show ¬ (0 ≤ d.toInt ∧ d.toInt ≤ 9) by omega), if_true, if_neg (show ¬ (-2 : Int32) = 0 by decide)]
    exact ⟨_, ps, as, _, _, _, _, _, _, _, _, _, _, rfl, rfl, hC, hM, hok, hmC, hmM, hA⟩
/-! leave -/
def ers (ps : List Nat) (p : Nat) : List Nat := ps.take p ++ ps.drop (p + 1)
theorem ers_len {ps : List Nat} {p : Nat} (hp : p < ps.length) : (ers ps p).length = ps.length - 1 := by
  unfold ers
  rw [List.length_append, List.length_take, List.length_drop]
  omega
theorem ers_gd {ps : List Nat} {p j : Nat} (hp : p < ps.length) : (ers ps p).getD j 0 = if j < p then ps.getD j 0 else ps.getD (j + 1) 0 := by
  unfold ers
  have hl : (ps.take p).length = p := by rw [List.length_take]; omega
  rw [List.getD_eq_getElem?_getD]
  by_cases h : j < p
  · rw [List.getElem?_append_left (by omega), List.getElem?_take_of_lt h, if_pos h, List.getD_eq_getElem?_getD]
  · rw [List.getElem?_append_right (by omega), hl, List.getElem?_drop, if_neg h, List.getD_eq_getElem?_getD]
    have : p + 1 + (j - p) = j + 1 := by omega
    rw [this]
theorem ers_mem {ps : List Nat} {p x : Nat} (h : x ∈ ers ps p) : x ∈ ps := by
  rcases List.mem_append.mp h with q | q
  · exact List.mem_of_mem_take q
  · exact List.mem_of_mem_drop q
theorem ers_cnt {ps : List Nat} {p : Nat} (hp : p < ps.length) (x : Nat) : (ers ps p).count x = co (fun y => ps.count y) (ps.getD p 0) x := by
  have e : ps = ps.take p ++ (ps.getD p 0 :: ps.drop (p + 1)) := by
    rw [← drop_s hp, List.take_append_drop]
  have e2 : ps.count x = (ps.take p).count x + ((ps.getD p 0 :: ps.drop (p + 1)).count x) := by
    rw [← List.count_append, ← e]
  unfold ers co
  rw [List.count_append]
  rw [List.count_cons] at e2
  by_cases h : x = ps.getD p 0
  · rw [if_pos h]
    have : (ps.getD p 0 == x) = true := by simp [h]
    rw [this] at e2
    simp only [if_true] at e2
    dsimp only
    omega
  · rw [if_neg h]
    have : (ps.getD p 0 == x) = false := by
      rw [beq_eq_false_iff_ne]; exact fun q => h q.symm
    rw [this] at e2
    simp only [Bool.false_eq_true, if_false] at e2
    dsimp only
    omega
theorem PM_ers {ps : List Nat} {many : Int32} {sl g : Nat → Int32} {p : Nat} (h : PM ps many sl) (hp : p < ps.length) (hg : ∀ j, j < ps.length - 1 → g j = nI ((ers ps p).getD j 0)) : PM (ers ps p) (nI (ps.length - 1)) g := by
  refine ⟨by rw [ers_len hp]; have := h.1; omega, fun x hx => h.2.1 x (ers_mem hx), by rw [ers_len hp], fun j hj => ?_⟩
  rw [ers_len hp] at hj
  exact hg j hj
theorem drop_spec {ps : List Nat} {size : Int32} {nm ct : Nat → Int32} {p : Nat} (h : PC ps size nm ct) (hp : p < ps.length) : ∃ nm' ct', X5_drop size nm ct (nI p) = some (nI (ps.length - 1), nm', ct') ∧ PC (ers ps p) (nI (ps.length - 1)) nm' ct' := by
  obtain ⟨⟨hn, hx, e, hr⟩, hct⟩ := id h
  have hown := hx _ (gd_mem hp)
  have hcpos : 0 < ps.count (ps.getD p 0) := List.count_pos_iff.mpr (gd_mem hp)
  have hc9 := cnt_le hn
  have e1 : nI (ps.count (ps.getD p 0)) - nI 1 = nI (ps.count (ps.getD p 0) - 1) := pk_sub (by omega)
  have e2 : nI ps.length - nI 1 = nI (ps.length - 1) := pk_sub (by omega)
  unfold X5_drop
  rw [e, has_spec hn, nI_toInt (by omega), if_pos (show (0 : Int) ≤ p ∧ (p : Int) < ps.length by omega)]
  simp (disch := omega) only [zl_0, zl_1, zl_2, zl_3, zl_4, zl_5, zl_6, zl_7, zl_8, zl_9, zl_10, zl_11, zl_12, zl_15, zl_16, zl_20, zl_40, zl_48, zl_60, zl_78, zl_80, zl_84, zl_99, zl_100, zl_128, zl_160, zl_255, zl_999, zl_1000, zl_1023, nI_leI, nI_ltI, nI_eq, nI_clamp, nI_add, bnd1_k, bnd2_k, bnd3_k, bnd4_k, if_pos, if_neg, if_true, if_false, Nat.not_lt_zero, false_or, or_false, hr, hct, e1, e2]
  have hcn : ∀ d, d < 10 → upd ct (ps.getD p 0) (nI (ps.count (ps.getD p 0) - 1)) d = nI ((ers ps p).count d) := by
    intro d hd
    rw [ers_cnt hp]
    unfold co
    by_cases h1 : d = ps.getD p 0
    · rw [if_pos h1, ← h1, pk_us]
    · rw [if_neg h1, pk_un h1]; exact hct d hd
  refine lupR (fun k g => (∀ j, j < p + k → j < ps.length - 1 → g j = nI ((ers ps p).getD j 0)) ∧ ∀ j, p + k ≤ j → j < ps.length → g j = nI (ps.getD j 0)) (fun n k g => X5_drop_b35 n (nI (ps.length - 1)) g (upd ct (ps.getD p 0) (nI (ps.count (ps.getD p 0) - 1))) (nI (p + k))) (ps.length - 1 - p) (fun r => ∃ nm' ct', r = some (nI (ps.length - 1), nm', ct') ∧ PC (ers ps p) (nI (ps.length - 1)) nm' ct') ?_ ?_ fU 0 nm (by omega) (fU_gt (by omega)) ⟨fun j hj hj2 => by rw [hr j (by omega), ers_gd hp, if_pos (by omega)], fun j _ hj => hr j hj⟩
  · intro n k g hk hI
    left
    refine ⟨upd g (p + k) (nI (ps.getD (p + k + 1) 0)), ⟨fun j hj hj2 => ?_, fun j hj hj2 => ?_⟩, ?_⟩
    · by_cases ej : j = p + k
      · subst ej; rw [pk_us, ers_gd hp, if_neg (by omega)]
      · rw [pk_un ej]; exact hI.1 j (by omega) hj2
    · rw [pk_un (by omega)]; exact hI.2 j (by omega) hj2
    · show X5_drop_b35_s (X5_drop_b35 n) _ _ _ _ = _
      unfold X5_drop_b35_s
      have e3 := hI.2 (p + k + 1) (by omega) (by omega)
      simp (disch := omega) only [zl_0, zl_1, zl_2, zl_3, zl_4, zl_5, zl_6, zl_7, zl_8, zl_9, zl_10, zl_11, zl_12, zl_15, zl_16, zl_20, zl_40, zl_48, zl_60, zl_78, zl_80, zl_84, zl_99, zl_100, zl_128, zl_160, zl_255, zl_999, zl_1000, zl_1023, nI_leI, nI_ltI, nI_eq, nI_clamp, nI_add, bnd1_k, bnd2_k, bnd3_k, bnd4_k, if_pos, if_neg, if_true, if_false, Nat.not_lt_zero, false_or, or_false, e3]
      rfl
  · intro n g hI
    refine ⟨g, _, ?_, PM_ers h.1 hp (fun j hj => hI.1 j (by omega) hj), hcn⟩
    show X5_drop_b35_s (X5_drop_b35 n) _ _ _ _ = _
    unfold X5_drop_b35_s
    simp (disch := omega) only [zl_0, zl_1, zl_2, zl_3, zl_4, zl_5, zl_6, zl_7, zl_8, zl_9, zl_10, zl_11, zl_12, zl_15, zl_16, zl_20, zl_40, zl_48, zl_60, zl_78, zl_80, zl_84, zl_99, zl_100, zl_128, zl_160, zl_255, zl_999, zl_1000, zl_1023, nI_leI, nI_ltI, nI_eq, nI_clamp, nI_add, bnd1_k, bnd2_k, bnd3_k, bnd4_k, if_pos, if_neg, if_true, if_false, Nat.not_lt_zero, false_or, or_false]
theorem OK_ers {b : Nat} {ps : List Nat} {p : Nat} (h : OK b ps) (hp : p < ps.length) : OK b (ers ps p) := ⟨by rw [ers_len hp]; have := h.1; omega, fun x hx => h.2 x (ers_mem hx)⟩
theorem leaveM_spec {ps : List Nat} {many a next : Int32} {sl bf : Nat → Int32} {p : Nat} (h : PM ps many sl) (hp : p < ps.length) : ∃ sl', X11_leave_b33 fU (many - 1) a next sl bf (nI (ps.getD p 0)) (nI p) = some (nI (ps.getD p 0), nI (ps.length - 1), a, next, sl', bf) ∧ PM (ers ps p) (nI (ps.length - 1)) sl' := by
  obtain ⟨hn, hx, e, hr⟩ := id h
  have e2 : many - 1 = nI (ps.length - 1) := by rw [e]; exact pk_sub (b := 1) (by omega)
  rw [e2]
  refine lupR (fun k g => (∀ j, j < p + k → j < ps.length - 1 → g j = nI ((ers ps p).getD j 0)) ∧ ∀ j, p + k ≤ j → j < ps.length → g j = nI (ps.getD j 0)) (fun n k g => X11_leave_b33 n (nI (ps.length - 1)) a next g bf (nI (ps.getD p 0)) (nI (p + k))) (ps.length - 1 - p) (fun r => ∃ sl', r = some (nI (ps.getD p 0), nI (ps.length - 1), a, next, sl', bf) ∧ PM (ers ps p) (nI (ps.length - 1)) sl') ?_ ?_ fU 0 sl (by omega) (fU_gt (by omega)) ⟨fun j hj hj2 => by rw [hr j (by omega), ers_gd hp, if_pos (by omega)], fun j _ hj => hr j hj⟩
  · intro n k g hk hI
    left
    refine ⟨upd g (p + k) (nI (ps.getD (p + k + 1) 0)), ⟨fun j hj hj2 => ?_, fun j hj hj2 => ?_⟩, ?_⟩
    · by_cases ej : j = p + k
      · subst ej; rw [pk_us, ers_gd hp, if_neg (by omega)]
      · rw [pk_un ej]; exact hI.1 j (by omega) hj2
    · rw [pk_un (by omega)]; exact hI.2 j (by omega) hj2
    · show X11_leave_b33_s (X11_leave_b33 n) _ _ _ _ _ _ _ = _
      unfold X11_leave_b33_s
      have e3 := hI.2 (p + k + 1) (by omega) (by omega)
      simp (disch := omega) only [zl_0, zl_1, zl_2, zl_3, zl_4, zl_5, zl_6, zl_7, zl_8, zl_9, zl_10, zl_11, zl_12, zl_15, zl_16, zl_20, zl_40, zl_48, zl_60, zl_78, zl_80, zl_84, zl_99, zl_100, zl_128, zl_160, zl_255, zl_999, zl_1000, zl_1023, nI_leI, nI_ltI, nI_eq, nI_clamp, nI_add, bnd1_k, bnd2_k, bnd3_k, bnd4_k, if_pos, if_neg, if_true, if_false, Nat.not_lt_zero, false_or, or_false, e3]
      rfl
  · intro n g hI
    refine ⟨g, ?_, PM_ers h hp (fun j hj => hI.1 j (by omega) hj)⟩
    show X11_leave_b33_s (X11_leave_b33 n) _ _ _ _ _ _ _ = _
    unfold X11_leave_b33_s
    simp (disch := omega) only [zl_0, zl_1, zl_2, zl_3, zl_4, zl_5, zl_6, zl_7, zl_8, zl_9, zl_10, zl_11, zl_12, zl_15, zl_16, zl_20, zl_40, zl_48, zl_60, zl_78, zl_80, zl_84, zl_99, zl_100, zl_128, zl_160, zl_255, zl_999, zl_1000, zl_1023, nI_leI, nI_ltI, nI_eq, nI_clamp, nI_add, bnd1_k, bnd2_k, bnd3_k, bnd4_k, if_pos, if_neg, if_true, if_false, Nat.not_lt_zero, false_or, or_false]
theorem J_leave {ps : List Nat} {as : List (List Nat)} {size many aC aM next : Int32} {nm ct sl bf : Nat → Int32} {row : Nat → Int64} {b : Nat} (hC : PC ps size nm ct) (hM : PM ps many sl) (hok : OK b ps) (hmC : MC as aC row) (hmM : MM as aM next bf) (hA : AS b as) (p : Int32) : ∃ r ps' as' size' nm' ct' aC' row' many' aM' next' sl' bf', X10_leave size nm ct aC row p = some (r, size', nm', ct', aC', row') ∧ X11_leave many aM next sl bf p = some (r, many', aM', next', sl', bf') ∧ PC ps' size' nm' ct' ∧ PM ps' many' sl' ∧ OK b ps' ∧ MC as' aC' row' ∧ MM as' aM' next' bf' ∧ AS b as' := by
  have hn := hM.1
  have c10 : ¬ (1 : Int32) = 0 := by decide
  unfold X10_leave X11_leave
  rw [hC.1.2.2.1, has_spec hn, ← hC.1.2.2.1, hM.2.2.1, isPerson_spec hn, ← hM.2.2.1]
  by_cases h0 : 0 ≤ p.toInt ∧ p.toInt < ps.length
  · obtain ⟨j, hj, -, rfl⟩ := person_nat h0
    simp only [if_pos h0, if_neg c10]
    obtain ⟨a1, row1, p1, q1⟩ := addAct_spec hmC ps
    obtain ⟨nm1, ct1, p2, q2⟩ := drop_spec hC hj
    obtain ⟨a2, n2, bf2, p3, q3⟩ := keepAct_spec hM hmM (fun l hl => (hA l hl).1)
    obtain ⟨sl1, p4, q4⟩ := leaveM_spec (a := a2) (next := n2) (bf := bf2) hM hj
    rw [numberOf_spec hC.1 hj, bnd1_k, pack_spec hC.1, bnd1_k, p1, bnd2_k, p2, bnd3_k, p3, bnd3_k]
    refine ⟨nI (ps.getD j 0), ers ps j, psh as ps, nI (ps.length - 1), nm1, ct1, a1, row1, nI (ps.length - 1), a2, n2, sl1, bf2, rfl, ?_, q2, q4, OK_ers hok hj, q1, q3, AS_psh hA hok⟩
    rw [← p4, ← hM.2.2.2 j hj, if_neg (ix_ok (by omega) (by omega)), nI_clamp (by omega)]
  · simp only [if_neg h0, if_true]
    exact ⟨_, ps, as, _, _, _, _, _, _, _, _, _, _, rfl, rfl, hC, hM, hok, hmC, hmM, hA⟩
