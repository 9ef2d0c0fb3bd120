/-! person, wrote -/
theorem takeSlips_spec {ps : List Nat} {many : Int32} {sl : Nat → Int32} (h : PM ps many sl) (rm : Int32) (row : Nat → Int32) : ∃ row', X11_takeSlips many rm sl row = some (many, row') ∧ PM ps many row' := by
  obtain ⟨hn, hx, e, hr⟩ := id h
  unfold X11_takeSlips
  refine lupR (fun i g => ∀ j, j < i → g j = nI (ps.getD j 0)) (fun n i g => X11_takeSlips_b10 n many many sl g (nI i)) ps.length (fun r => ∃ row', r = some (many, row') ∧ PM ps many row') ?_ ?_ fU 0 row (by omega) (fU_gt (by omega)) (fun j hj => absurd hj (Nat.not_lt_zero j))
  · intro n i g hi hI
    left
    refine ⟨upd g i (nI (ps.getD i 0)), fun j hj => ?_, ?_⟩
    · by_cases e : j = i
      · subst e; rw [pk_us]
      · rw [pk_un e]; exact hI j (by omega)
    · show X11_takeSlips_b10_s (X11_takeSlips_b10 n) _ _ _ _ _ = _
      unfold X11_takeSlips_b10_s
      rw [e]
      simp (disch := omega) only [zl_0, zl_1, zl_2, zl_3, zl_4, zl_5, zl_6, zl_7, zl_8, zl_9, zl_10, zl_11, zl_12, zl_15, zl_16, zl_20, zl_40, zl_48, zl_60, zl_78, zl_80, zl_84, zl_99, zl_100, zl_128, zl_160, zl_255, zl_999, zl_1000, zl_1023, nI_leI, nI_ltI, nI_eq, nI_clamp, nI_add, bnd1_k, bnd2_k, bnd3_k, bnd4_k, if_pos, if_neg, if_true, if_false, Nat.not_lt_zero, false_or, or_false, hr]
  · intro n g hI
    refine ⟨g, ?_, hn, hx, e, hI⟩
    show X11_takeSlips_b10_s (X11_takeSlips_b10 n) _ _ _ _ _ = _
    unfold X11_takeSlips_b10_s
    rw [e]
    simp (disch := omega) only [zl_0, zl_1, zl_2, zl_3, zl_4, zl_5, zl_6, zl_7, zl_8, zl_9, zl_10, zl_11, zl_12, zl_15, zl_16, zl_20, zl_40, zl_48, zl_60, zl_78, zl_80, zl_84, zl_99, zl_100, zl_128, zl_160, zl_255, zl_999, zl_1000, zl_1023, nI_leI, nI_ltI, nI_eq, nI_clamp, nI_add, bnd1_k, bnd2_k, bnd3_k, bnd4_k, if_pos, if_neg, if_true, if_false, Nat.not_lt_zero, false_or, or_false]
theorem wantOf_spec {ps : List Nat} {many : Int32} {row : Nat → Int32} {law share pot b p : Nat} (hl : law ≤ 2) (hs : share ≤ 1) (hpot : pot ≤ 999) (hb : b < 1024) (h : PM ps many row) (hp : p < ps.length) : ∃ row', X11_wantOf (nI b) (nI law) (nI share) (nI pot) many row (nI p) = some (nI (wn law share pot b (fun y => ps.count y) (ps.getD p 0)), row') ∧ PM ps many row' := by
  obtain ⟨hn, hx, e, hr⟩ := id h
  have hown := hx _ (gd_mem hp)
  have hcpos : 0 < ps.count (ps.getD p 0) := List.count_pos_iff.mpr (gd_mem hp)
  unfold X11_wantOf
  rw [getsOf_spec hl hs hpot h hp, bnd1_k]
  simp (disch := omega) only [zl_0, zl_1, zl_2, zl_3, zl_4, zl_5, zl_6, zl_7, zl_8, zl_9, zl_10, zl_11, zl_12, zl_15, zl_16, zl_20, zl_40, zl_48, zl_60, zl_78, zl_80, zl_84, zl_99, zl_100, zl_128, zl_160, zl_255, zl_999, zl_1000, zl_1023, nI_leI, nI_ltI, nI_eq, nI_clamp, nI_add, bnd1_k, bnd2_k, bnd3_k, bnd4_k, if_pos, if_neg, if_true, if_false, Nat.not_lt_zero, false_or, or_false, hr]
  have hg : ∀ d, d < 10 → gv law share pot (fun y => ps.count y) (ps.getD p 0) d ≤ 8991 := fun d hd => gn_le hpot hd
  have eg : gt law share pot ps (ps.getD p 0) = gv law share pot (fun y => ps.count y) (ps.getD p 0) (ps.getD p 0) := by
    unfold gt gv
    rw [cs_self (c := fun y => ps.count y) (own := ps.getD p 0) hcpos]
  rw [eg]
  unfold wn
  refine lupR (fun i g => ∀ j, j < ps.length → j ≠ p → g j = nI (ps.getD j 0)) (fun n i g => X11_wantOf_b19 n (nI b) (nI law) (nI share) (nI pot) many g (nI p) (nI (ps.getD p 0)) (nI (wst b (gv law share pot (fun y => ps.count y) (ps.getD p 0)) (ps.getD p 0) (gv law share pot (fun y => ps.count y) (ps.getD p 0) (ps.getD p 0)) i).1) (nI (wst b (gv law share pot (fun y => ps.count y) (ps.getD p 0)) (ps.getD p 0) (gv law share pot (fun y => ps.count y) (ps.getD p 0) (ps.getD p 0)) i).2) (nI i)) 10 (fun r => ∃ row', r = some (nI (wst b (gv law share pot (fun y => ps.count y) (ps.getD p 0)) (ps.getD p 0) (gv law share pot (fun y => ps.count y) (ps.getD p 0) (ps.getD p 0)) 10).1, row') ∧ PM ps many row') ?_ ?_ fU 0 row (by omega) (fU_gt (by omega)) (fun j hj _ => hr j hj)
  · intro n i g hi hI
    left
    have hw := wst_in b hown (hg _ hown) hg i (by omega)
    have hgi := hg i hi
    by_cases h0 : bb b i = 0
    · refine ⟨upd g p (nI i), fun j hj hne => by rw [pk_un hne]; exact hI j hj hne, ?_⟩
      show X11_wantOf_b19_s (X11_wantOf_b19 n) _ _ _ _ _ _ _ _ _ _ _ = _
      unfold X11_wantOf_b19_s X11_wantOf_b63 X11_wantOf_b78 X11_wantOf_b80
      rw [bar_spec hb hi]
      have hP : PM (ps.set p i) many (upd g p (nI i)) := PM_set hn hx e hp hi hI
      have hgs := getsOf_spec hl hs hpot hP (p := p) (by rw [List.length_set]; exact hp)
      rw [gd_set hp, if_pos rfl, gt_set hp] at hgs
      simp (disch := omega) only [zl_0, zl_1, zl_2, zl_3, zl_4, zl_5, zl_6, zl_7, zl_8, zl_9, zl_10, zl_11, zl_12, zl_15, zl_16, zl_20, zl_40, zl_48, zl_60, zl_78, zl_80, zl_84, zl_99, zl_100, zl_128, zl_160, zl_255, zl_999, zl_1000, zl_1023, nI_leI, nI_ltI, nI_eq, nI_clamp, nI_add, bnd1_k, bnd2_k, bnd3_k, bnd4_k, if_pos, if_neg, if_true, if_false, Nat.not_lt_zero, false_or, or_false, h0]
      rw [hgs]
      by_cases h1 : (wst b (gv law share pot (fun y => ps.count y) (ps.getD p 0)) (ps.getD p 0) (gv law share pot (fun y => ps.count y) (ps.getD p 0) (ps.getD p 0)) i).2 < gv law share pot (fun y => ps.count y) (ps.getD p 0) i
      · have es : wst b (gv law share pot (fun y => ps.count y) (ps.getD p 0)) (ps.getD p 0) (gv law share pot (fun y => ps.count y) (ps.getD p 0) (ps.getD p 0)) (i + 1) = (i, gv law share pot (fun y => ps.count y) (ps.getD p 0) i) := by
          show (if _ then _ else _) = _
          rw [if_pos ⟨h0, h1⟩]
        rw [es]
        simp (disch := omega) only [zl_0, zl_1, zl_2, zl_3, zl_4, zl_5, zl_6, zl_7, zl_8, zl_9, zl_10, zl_11, zl_12, zl_15, zl_16, zl_20, zl_40, zl_48, zl_60, zl_78, zl_80, zl_84, zl_99, zl_100, zl_128, zl_160, zl_255, zl_999, zl_1000, zl_1023, nI_leI, nI_ltI, nI_eq, nI_clamp, nI_add, bnd1_k, bnd2_k, bnd3_k, bnd4_k, if_pos, if_neg, if_true, if_false, Nat.not_lt_zero, false_or, or_false]
      · have es : wst b (gv law share pot (fun y => ps.count y) (ps.getD p 0)) (ps.getD p 0) (gv law share pot (fun y => ps.count y) (ps.getD p 0) (ps.getD p 0)) (i + 1) = wst b (gv law share pot (fun y => ps.count y) (ps.getD p 0)) (ps.getD p 0) (gv law share pot (fun y => ps.count y) (ps.getD p 0) (ps.getD p 0)) i := by
          show (if _ then _ else _) = _
          rw [if_neg (fun q => h1 q.2)]
        rw [es]
        simp (disch := omega) only [zl_0, zl_1, zl_2, zl_3, zl_4, zl_5, zl_6, zl_7, zl_8, zl_9, zl_10, zl_11, zl_12, zl_15, zl_16, zl_20, zl_40, zl_48, zl_60, zl_78, zl_80, zl_84, zl_99, zl_100, zl_128, zl_160, zl_255, zl_999, zl_1000, zl_1023, nI_leI, nI_ltI, nI_eq, nI_clamp, nI_add, bnd1_k, bnd2_k, bnd3_k, bnd4_k, if_pos, if_neg, if_true, if_false, Nat.not_lt_zero, false_or, or_false]
    · refine ⟨g, hI, ?_⟩
      show X11_wantOf_b19_s (X11_wantOf_b19 n) _ _ _ _ _ _ _ _ _ _ _ = _
      unfold X11_wantOf_b19_s X11_wantOf_b80
      rw [bar_spec hb hi]
      have es : wst b (gv law share pot (fun y => ps.count y) (ps.getD p 0)) (ps.getD p 0) (gv law share pot (fun y => ps.count y) (ps.getD p 0) (ps.getD p 0)) (i + 1) = wst b (gv law share pot (fun y => ps.count y) (ps.getD p 0)) (ps.getD p 0) (gv law share pot (fun y => ps.count y) (ps.getD p 0) (ps.getD p 0)) i := by
        show (if _ then _ else _) = _
        rw [if_neg (fun q => h0 q.1)]
      rw [es]
      simp only [if_neg h0]
      simp (disch := omega) only [zl_0, zl_1, zl_2, zl_3, zl_4, zl_5, zl_6, zl_7, zl_8, zl_9, zl_10, zl_11, zl_12, zl_15, zl_16, zl_20, zl_40, zl_48, zl_60, zl_78, zl_80, zl_84, zl_99, zl_100, zl_128, zl_160, zl_255, zl_999, zl_1000, zl_1023, nI_leI, nI_ltI, nI_eq, nI_clamp, nI_add, bnd1_k, bnd2_k, bnd3_k, bnd4_k, if_pos, if_neg, if_true, if_false, Nat.not_lt_zero, false_or, or_false]
  · intro n g hI
    have hP : PM (ps.set p (ps.getD p 0)) many (upd g p (nI (ps.getD p 0))) := PM_set hn hx e hp hown hI
    have ese : ps.set p (ps.getD p 0) = ps := by
      rw [List.getD_eq_getElem?_getD, List.getElem?_eq_getElem hp]
      exact List.set_getElem_self hp
    rw [ese] at hP
    refine ⟨upd g p (nI (ps.getD p 0)), ?_, hP⟩
    show X11_wantOf_b19_s (X11_wantOf_b19 n) _ _ _ _ _ _ _ _ _ _ _ = _
    unfold X11_wantOf_b19_s X11_wantOf_b86
    simp (disch := omega) only [zl_0, zl_1, zl_2, zl_3, zl_4, zl_5, zl_6, zl_7, zl_8, zl_9, zl_10, zl_11, zl_12, zl_15, zl_16, zl_20, zl_40, zl_48, zl_60, zl_78, zl_80, zl_84, zl_99, zl_100, zl_128, zl_160, zl_255, zl_999, zl_1000, zl_1023, nI_leI, nI_ltI, nI_eq, nI_clamp, nI_add, bnd1_k, bnd2_k, bnd3_k, bnd4_k, if_pos, if_neg, if_true, if_false, Nat.not_lt_zero, false_or, or_false]
def RU (law share pot b : Nat) : Prop := law ≤ 2 ∧ share ≤ 1 ∧ pot ≤ 999 ∧ b < 1024 ∧ ∃ d, d < 10 ∧ bb b d = 0
theorem numberOf_spec {ps : List Nat} {size : Int32} {nm : Nat → Int32} (h : PM ps size nm) {p : Nat} (hp : p < ps.length) : X5_numberOf size nm (nI p) = some (nI (ps.getD p 0)) := by
  obtain ⟨hn, hx, e, hr⟩ := id h
  unfold X5_numberOf
  rw [e, has_spec hn, nI_toInt (by omega), if_pos (show (0 : Int) ≤ p ∧ (p : Int) < ps.length by omega)]
  simp (disch := omega) only [zl_0, zl_1, zl_2, zl_3, zl_4, zl_5, zl_6, zl_7, zl_8, zl_9, zl_10, zl_11, zl_12, zl_15, zl_16, zl_20, zl_40, zl_48, zl_60, zl_78, zl_80, zl_84, zl_99, zl_100, zl_128, zl_160, zl_255, zl_999, zl_1000, zl_1023, nI_leI, nI_ltI, nI_eq, nI_clamp, nI_add, bnd1_k, bnd2_k, bnd3_k, bnd4_k, if_pos, if_neg, if_true, if_false, Nat.not_lt_zero, false_or, or_false, hr]
theorem many_spec {ps : List Nat} {size : Int32} {nm ct : Nat → Int32} (h : PC ps size nm ct) {d : Nat} (hd : d < 10) : X5_many ct (nI d) = some (nI (ps.count d)) := by
  unfold X5_many
  rw [num_spec, nI_toInt (by omega), if_pos (show (0 : Int) ≤ d ∧ (d : Int) < 10 by omega)]
  simp (disch := omega) only [zl_0, zl_1, zl_2, zl_3, zl_4, zl_5, zl_6, zl_7, zl_8, zl_9, zl_10, zl_11, zl_12, zl_15, zl_16, zl_20, zl_40, zl_48, zl_60, zl_78, zl_80, zl_84, zl_99, zl_100, zl_128, zl_160, zl_255, zl_999, zl_1000, zl_1023, nI_leI, nI_ltI, nI_eq, nI_clamp, nI_add, bnd1_k, bnd2_k, bnd3_k, bnd4_k, if_pos, if_neg, if_true, if_false, Nat.not_lt_zero, false_or, or_false, h.2]
theorem PC_c {ps : List Nat} {size : Int32} {nm ct : Nat → Int32} (h : PC ps size nm ct) : ∀ d, d < 10 → ps.count d ≤ 9 ∧ ct d = nI (ps.count d) := fun d hd => ⟨cnt_le h.1.1 d, h.2 d hd⟩
theorem gainOf_spec {ps : List Nat} {size : Int32} {nm ct : Nat → Int32} {law share pot p : Nat} (hl : law ≤ 2) (hs : share ≤ 1) (hpot : pot ≤ 999) (h : PC ps size nm ct) (hp : p < ps.length) : X10_gainOf (nI law) (nI share) (nI pot) size nm ct (nI p) = some (nI (gt law share pot ps (ps.getD p 0))) := by
  have hown := h.1.2.1 _ (gd_mem hp)
  have hc := PC_c h
  have b1 := dn_le (law := law) (share := share) (c := fun d => ps.count d) (fun x hx => Nat.le_trans (hc x hx).1 (by omega))
  unfold X10_gainOf
  rw [numberOf_spec h.1 hp, bnd1_k, many_spec h hown, bnd1_k, claims_spec hl hs (c := fun d => ps.count d) (fun d hd => ⟨by have := (hc d hd).1; show ps.count d < 1000; omega, (hc d hd).2⟩), bnd1_k, gain_spec hl hs hpot hown (by have := (hc _ hown).1; omega) (by omega)]
  rfl
theorem J_person {ps : List Nat} {size many : Int32} {nm ct sl : Nat → Int32} {law share pot b : Nat} (hR : RU law share pot b) (hC : PC ps size nm ct) (hM : PM ps many sl) (p what : Int32) (rm : Int32) (row : Nat → Int32) : ∃ r rm' row', X10_person (nI law) (nI share) (nI pot) (nI b) size nm ct p what = some r ∧ X11_person many (nI b) (nI law) (nI share) (nI pot) rm sl row p what = some (r, rm', row') := by
  obtain ⟨hl, hs, hpot, hb, -⟩ := hR
  have hn := hM.1
  unfold X10_person X11_person
  rw [hC.1.2.2.1, has_spec hn, ← hC.1.2.2.1, hM.2.2.1, isPerson_spec hn, ← hM.2.2.1]
  by_cases h0 : 0 ≤ p.toInt ∧ p.toInt < ps.length
  · obtain ⟨j, hj, -, rfl⟩ := person_nat h0
    simp only [if_pos h0]
    have hown := hM.2.1 _ (gd_mem hj)
    have hc9 := cnt_le hn (ps.getD j 0)
    have hcpos : 0 < ps.count (ps.getD j 0) := List.count_pos_iff.mpr (gd_mem hj)
    obtain ⟨row1, a1, hP1⟩ := takeSlips_spec hM rm row
    rw [numberOf_spec hC.1 hj, a1]
    have c10 : ¬ (1 : Int32) = 0 := by decide
    simp only [if_neg c10, bnd1_k, bnd2_k]
    by_cases w0 : what = 0
    · simp only [if_pos w0]
      refine ⟨nI (ps.getD j 0), many, row1, rfl, ?_⟩
      simp (disch := omega) only [zl_0, zl_1, zl_2, zl_3, zl_4, zl_5, zl_6, zl_7, zl_8, zl_9, zl_10, zl_11, zl_12, zl_15, zl_16, zl_20, zl_40, zl_48, zl_60, zl_78, zl_80, zl_84, zl_99, zl_100, zl_128, zl_160, zl_255, zl_999, zl_1000, zl_1023, nI_leI, nI_ltI, nI_eq, nI_clamp, nI_add, bnd1_k, bnd2_k, bnd3_k, bnd4_k, if_pos, if_neg, if_true, if_false, Nat.not_lt_zero, false_or, or_false, hM.2.2.2]
    simp only [if_neg w0]
    by_cases w1 : what = 1
    · simp only [if_pos w1]
      rw [many_spec hC hown, bnd1_k, suits_spec hl (by omega) (by omega), isRight_spec hl hP1 hj, bnd1_k]
      unfold rt
      by_cases hsu : su law (ps.getD j 0) (ps.count (ps.getD j 0)) = true
      · simp only [if_pos hsu, if_neg c10]
        exact ⟨1, _, _, rfl, rfl⟩
      · simp only [if_neg hsu, if_true]
        exact ⟨0, _, _, rfl, rfl⟩
    simp only [if_neg w1]
    by_cases w2 : what = 2
    · simp only [if_pos w2]
      rw [gainOf_spec hl hs hpot hC hj, getsOf_spec hl hs hpot hP1 hj]
      exact ⟨_, _, _, rfl, rfl⟩
    simp only [if_neg w2]
    by_cases w3 : what = 3
    · simp only [if_pos w3]
      obtain ⟨row2, a2, hP2⟩ := wantOf_spec hl hs hpot hb hP1 hj
      rw [wanted_spec hl hs hpot hb (c := fun y => ps.count y) (PC_c hC) hown hcpos, a2]
      exact ⟨_, _, _, rfl, rfl⟩
    · simp only [if_neg w3]
      exact ⟨_, _, _, rfl, rfl⟩
  · simp only [if_neg h0, if_true]
    exact ⟨_, _, _, rfl, rfl⟩
theorem J_wrote {ps : List Nat} {size many : Int32} {nm ct sl : Nat → Int32} (hC : PC ps size nm ct) (hM : PM ps many sl) (d : Int32) (rm : Int32) (row : Nat → Int32) : ∃ r rm' row', X10_wrote ct d = some r ∧ X11_wrote many rm sl row d = some (r, rm', row') := by
  unfold X10_wrote X11_wrote
  rw [num_spec, in_spec]
  have e0 : (0 : Int64).toInt = 0 := rfl
  have e9 : (9 : Int64).toInt = 9 := rfl
  rw [e0, e9]
  have c10 : ¬ (1 : Int32) = 0 := by decide
  by_cases h0 : 0 ≤ d.toInt ∧ d.toInt < 10
  · obtain ⟨j, hj, -, rfl⟩ := person_nat (n := 10) h0
    simp only [if_pos h0, if_pos (show 0 ≤ (nI j).toInt ∧ (nI j).toInt ≤ 9 by omega), if_neg c10]
    obtain ⟨row1, a1, hP1⟩ := takeSlips_spec hM rm row
    rw [many_spec hC hj, a1]
    simp only [bnd1_k, bnd2_k]
    rw [wroteIn_spec hP1 (by omega)]
    exact ⟨_, _, _, rfl, rfl⟩
  · simp only [if_neg h0, if_neg (show ¬ (0 ≤ d.toInt ∧ d.toInt ≤ 9) by omega), if_true]
    exact ⟨_, _, _, rfl, rfl⟩
