/-! round, settled -/
def cur (f : Nat → Nat) (ps : List Nat) (i : Nat) : List Nat := (ps.take i).map f ++ ps.drop i
theorem cur_0 (f : Nat → Nat) (ps : List Nat) : cur f ps 0 = ps := rfl
theorem cur_end (f : Nat → Nat) (ps : List Nat) : cur f ps ps.length = ps.map f := by
  unfold cur
  rw [List.take_length, List.drop_length, List.append_nil]
theorem cur_len (f : Nat → Nat) (ps : List Nat) {i : Nat} (h : i ≤ ps.length) : (cur f ps i).length = ps.length := by
  unfold cur
  rw [List.length_append, List.length_map, List.length_take, List.length_drop]
  omega
theorem cur_gd (f : Nat → Nat) {ps : List Nat} {i : Nat} (h : i < ps.length) : (cur f ps i).getD i 0 = ps.getD i 0 := by
  unfold cur
  have hl : ((ps.take i).map f).length = i := by rw [List.length_map, List.length_take]; omega
  rw [List.getD_eq_getElem?_getD, List.getElem?_append_right (by omega), hl, Nat.sub_self, drop_s h]
  rfl
theorem cur_s (f : Nat → Nat) {ps : List Nat} {i : Nat} (h : i < ps.length) : (cur f ps i).set i (f (ps.getD i 0)) = cur f ps (i + 1) := by
  unfold cur
  have hl : ((ps.take i).map f).length = i := by rw [List.length_map, List.length_take]; omega
  rw [List.set_append_right _ _ (by omega), hl, Nat.sub_self, drop_s h, take_s h, List.map_append, List.append_assoc]
  rfl
theorem cpy10 (f g : Nat → Int32) {d : Nat} (hd : d < 10) : va_cpy f g (0 : Int32).toNatClampNeg (0 : Int32).toNatClampNeg (10 : Int32).toNatClampNeg d = f d := by
  have e0 : (0 : Int32).toNatClampNeg = 0 := rfl
  have e1 : (10 : Int32).toNatClampNeg = 10 := rfl
  rw [e0, e1, pk_cpy_in (by omega) (by omega)]
  congr 1
  omega
theorem correct_spec {ps : List Nat} {size : Int32} {nm ct : Nat → Int32} {law b : Nat} (hl : law ≤ 2) (hb : b < 1024) (h : PC ps size nm ct) (now : Nat → Int32) : ∃ now' nm' ct', X3_correct now (nI law) (nI b) size nm ct = some (nI (chg law b ps), now', nm', ct') ∧ PC (nps law b ps) size nm' ct' := by
  obtain ⟨⟨hn, hx, e, hr⟩, hct⟩ := id h
  unfold X3_correct
  have hnow : ∀ d, d < 10 → ps.count d ≤ 9 ∧ va_cpy ct now (0 : Int32).toNatClampNeg (0 : Int32).toNatClampNeg (10 : Int32).toNatClampNeg d = nI (ps.count d) := fun d hd => ⟨cnt_le hn d, by rw [cpy10 _ _ hd]; exact hct d hd⟩
  generalize va_cpy ct now (0 : Int32).toNatClampNeg (0 : Int32).toNatClampNeg (10 : Int32).toNatClampNeg = nw at hnow ⊢
  refine lupR (σ := (Nat → Int32) × (Nat → Int32)) (fun i g => PC (cur (crf law b ps) ps i) size g.1 g.2) (fun n i g => X3_correct_b20 n nw (nI law) (nI b) size g.1 g.2 (nI (((ps.take i).map (cin law b ps)).sum)) (nI i)) ps.length (fun r => ∃ now' nm' ct', r = some (nI (chg law b ps), now', nm', ct') ∧ PC (nps law b ps) size nm' ct') ?_ ?_ fU 0 (nm, ct) (by omega) (fU_gt (by omega)) h
  · intro n i g hi hI
    left
    have hown := hx _ (gd_mem hi)
    have hlen := cur_len (crf law b ps) ps (show i ≤ ps.length by omega)
    have hno := numberOf_spec hI.1 (p := i) (by rw [hlen]; exact hi)
    rw [cur_gd _ hi] at hno
    have hcpos : 0 < ps.count (ps.getD i 0) := List.count_pos_iff.mpr (gd_mem hi)
    have hco := corrected_spec hl hb (c := fun y => ps.count y) hnow hown hcpos
    have hlt : crf law b ps (ps.getD i 0) < 10 := cor_lt hown
    have hcr : cor law b (fun y => ps.count y) (ps.getD i 0) = crf law b ps (ps.getD i 0) := rfl
    rw [hcr] at hco
    by_cases hq : crf law b ps (ps.getD i 0) = ps.getD i 0
    · have ecur : cur (crf law b ps) ps (i + 1) = cur (crf law b ps) ps i := by
        rw [← cur_s _ hi, hq, ← cur_gd (crf law b ps) hi, List.getD_eq_getElem?_getD, List.getElem?_eq_getElem (by omega)]
        exact List.set_getElem_self (by omega)
      refine ⟨g, by rw [ecur]; exact hI, ?_⟩
      show X3_correct_b20_s (X3_correct_b20 n) _ _ _ _ _ _ _ _ = _
      unfold X3_correct_b20_s X3_correct_b67 X5_size
      have hci : cin law b ps (ps.getD i 0) = 0 := by unfold cin; rw [if_pos hq]
      rw [hno, bnd1_k, hco, bnd1_k, take_sum hi, hci, e, hq]
      simp (disch := omega) only [zl_0, zl_1, zl_2, zl_3, zl_4, zl_5, zl_6, zl_7, zl_8, zl_9, zl_10, zl_11, zl_12, zl_15, zl_16, zl_20, zl_40, zl_48, zl_60, zl_78, zl_80, zl_84, zl_99, zl_100, zl_128, zl_160, zl_255, zl_999, zl_1000, zl_1023, nI_leI, nI_ltI, nI_eq, nI_clamp, nI_add, bnd1_k, bnd2_k, bnd3_k, bnd4_k, if_pos, if_neg, if_true, if_false, Nat.not_lt_zero, false_or, or_false]
      rfl
    · obtain ⟨nm1, ct1, p1, q1⟩ := rewrite_spec hI (p := i) (by rw [hlen]; exact hi) hlt
      rw [cur_s _ hi] at q1
      refine ⟨(nm1, ct1), q1, ?_⟩
      show X3_correct_b20_s (X3_correct_b20 n) _ _ _ _ _ _ _ _ = X3_correct_b20 n _ _ _ _ nm1 ct1 _ _
      unfold X3_correct_b20_s X3_correct_b67 X5_size
      have hci : cin law b ps (ps.getD i 0) = 1 := by unfold cin; rw [if_neg hq]
      rw [hno, bnd1_k, hco, bnd1_k, p1, bnd2_k, take_sum hi, hci, e]
      simp (disch := omega) only [zl_0, zl_1, zl_2, zl_3, zl_4, zl_5, zl_6, zl_7, zl_8, zl_9, zl_10, zl_11, zl_12, zl_15, zl_16, zl_20, zl_40, zl_48, zl_60, zl_78, zl_80, zl_84, zl_99, zl_100, zl_128, zl_160, zl_255, zl_999, zl_1000, zl_1023, nI_leI, nI_ltI, nI_eq, nI_clamp, nI_add, bnd1_k, bnd2_k, bnd3_k, bnd4_k, if_pos, if_neg, if_true, if_false, Nat.not_lt_zero, false_or, or_false]
  · intro n g hI
    have hI' : PC (cur (crf law b ps) ps ps.length) size g.1 g.2 := hI
    rw [cur_end] at hI'
    refine ⟨nw, g.1, g.2, ?_, hI'⟩
    show X3_correct_b20_s (X3_correct_b20 n) _ _ _ _ _ _ _ _ = _
    unfold X3_correct_b20_s X5_size
    rw [List.take_length, e, if_pos (nI_le (Nat.le_refl _) (by omega))]
    rfl
theorem OK_nps {b : Nat} {ps : List Nat} (law : Nat) (h : OK b ps) : OK b (nps law b ps) := by
  refine ⟨by rw [nps_len]; exact h.1, fun x hx => ?_⟩
  unfold nps at hx
  obtain ⟨y, hy, rfl⟩ := List.mem_map.mp hx
  exact ⟨cor_lt (h.2 y hy).1, cor_open (h.2 y hy).2⟩
theorem J_round {ps : List Nat} {as : List (List Nat)} {size many aC aM next : Int32} {nm ct sl bf : Nat → Int32} {row : Nat → Int64} {law share pot b : Nat} (hR : RU law share pot b) (hC : PC ps size nm ct) (hM : PM ps many sl) (hok : OK b ps) (hmC : MC as aC row) (hmM : MM as aM next bf) (hA : AS b as) (now : Nat → Int32) (rm : Int32) (mrow an : Nat → Int32) : ∃ r ps' as' nm' ct' aC' row' now' rm' aM' next' sl' mrow' bf' an', X10_round (nI law) (nI b) size nm ct aC row now = some (r, nm', ct', aC', row', now') ∧ X11_round many (nI b) (nI law) rm aM next sl mrow bf an = some (r, rm', aM', next', sl', mrow', bf', an') ∧ PC ps' size nm' ct' ∧ PM ps' many sl' ∧ OK b ps' ∧ MC as' aC' row' ∧ MM as' aM' next' bf' ∧ AS b as' := by
  obtain ⟨hl, hs, hpot, hb, ho⟩ := hR
  obtain ⟨a1, row1, p1, q1⟩ := addAct_spec hmC ps
  obtain ⟨now1, nm1, ct1, p2, q2⟩ := correct_spec hl hb hC now
  obtain ⟨a2, n2, bf2, p3, q3⟩ := keepAct_spec hM hmM (fun l hl => (hA l hl).1)
  obtain ⟨mr1, p4, q4⟩ := takeSlips_spec hM rm mrow
  obtain ⟨mr2, an2, p5, q5⟩ := goRound_spec hl hb q4 an
  have hn := hM.1
  unfold X10_round X11_round
  rw [pack_spec hC.1, bnd1_k, p1, bnd2_k, p2, bnd4_k, p3, bnd3_k, p4, bnd2_k, p5, bnd3_k]
  have key : ∃ sl', X11_round_b15 fU many (nI b) (nI law) many a2 n2 sl mr2 bf2 an2 (nI (chg law b ps)) 0 = some (nI (chg law b ps), many, a2, n2, sl', mr2, bf2, an2) ∧ PM (nps law b ps) many sl' := by
    refine lupR (fun i r => ∀ j, j < i → r j = nI ((nps law b ps).getD j 0)) (fun n i r => X11_round_b15 n many (nI b) (nI law) many a2 n2 r mr2 bf2 an2 (nI (chg law b ps)) (nI i)) ps.length (fun r => ∃ sl', r = some (nI (chg law b ps), many, a2, n2, sl', mr2, bf2, an2) ∧ PM (nps law b ps) many sl') ?_ ?_ fU 0 sl (by omega) (fU_gt (by omega)) (fun j hj => absurd hj (Nat.not_lt_zero j))
    · intro n i r hi hI
      left
      refine ⟨upd r i (mr2 i), fun j hj => ?_, ?_⟩
      · by_cases ej : j = i
        · subst ej; rw [pk_us]; exact q5.2.2.2 j (by rw [nps_len]; exact hi)
        · rw [pk_un ej]; exact hI j (by omega)
      · show X11_round_b15_s (X11_round_b15 n) _ _ _ _ _ _ _ _ _ _ _ _ = _
        unfold X11_round_b15_s
        rw [hM.2.2.1]
        simp (disch := omega) only [zl_0, zl_1, zl_2, zl_3, zl_4, zl_5, zl_6, zl_7, zl_8, zl_9, zl_10, zl_11, zl_12, zl_15, zl_16, zl_20, zl_40, zl_48, zl_60, zl_78, zl_80, zl_84, zl_99, zl_100, zl_128, zl_160, zl_255, zl_999, zl_1000, zl_1023, nI_leI, nI_ltI, nI_eq, nI_clamp, nI_add, bnd1_k, bnd2_k, bnd3_k, bnd4_k, if_pos, if_neg, if_true, if_false, Nat.not_lt_zero, false_or, or_false]
    · intro n r hI
      refine ⟨r, ?_, q5.1, q5.2.1, q5.2.2.1, fun j hj => hI j (by rw [nps_len] at hj; exact hj)⟩
      show X11_round_b15_s (X11_round_b15 n) _ _ _ _ _ _ _ _ _ _ _ _ = _
      unfold X11_round_b15_s
      rw [hM.2.2.1]
      simp (disch := omega) only [zl_0, zl_1, zl_2, zl_3, zl_4, zl_5, zl_6, zl_7, zl_8, zl_9, zl_10, zl_11, zl_12, zl_15, zl_16, zl_20, zl_40, zl_48, zl_60, zl_78, zl_80, zl_84, zl_99, zl_100, zl_128, zl_160, zl_255, zl_999, zl_1000, zl_1023, nI_leI, nI_ltI, nI_eq, nI_clamp, nI_add, bnd1_k, bnd2_k, bnd3_k, bnd4_k, if_pos, if_neg, if_true, if_false, Nat.not_lt_zero, false_or, or_false]
  obtain ⟨sl1, p6, q6⟩ := key
  rw [p6]
  exact ⟨_, nps law b ps, psh as ps, _, _, _, _, _, _, _, _, _, _, _, _, rfl, rfl, q2, q6, OK_nps law hok, q1, q3, AS_psh hA hok⟩
/-! settled -/
theorem map_cnt (f : Nat → Nat) (ps : List Nat) (d : Nat) : (ps.map f).count d = (ps.map (fun x => if f x = d then 1 else 0)).sum := by
  induction ps with
  | nil => rfl
  | cons a t ih =>
    rw [List.map_cons, List.map_cons, List.sum_cons, List.count_cons, ih]
    by_cases h : f a = d
    · simp [h]; omega
    · simp [h]
theorem nps_cnt {law b : Nat} {ps : List Nat} (hx : ∀ x ∈ ps, x < 10) (d : Nat) : (nps law b ps).count d = sr 10 (fun x => ps.count x * if crf law b ps x = d then 1 else 0) := by
  unfold nps
  rw [map_cnt, sum_cnt ps 10 _ hx]
theorem chg_sr {law b : Nat} {ps : List Nat} (hx : ∀ x ∈ ps, x < 10) : chg law b ps = sr 10 (fun x => ps.count x * cin law b ps x) := sum_cnt ps 10 _ hx
theorem changes_spec {ps : List Nat} {law b : Nat} {now : Nat → Int32} (hl : law ≤ 2) (hb : b < 1024) (hn : ps.length ≤ 9) (hx : ∀ x ∈ ps, x < 10) (hc : ∀ d, d < 10 → now d = nI (ps.count d)) (nx : Nat → Int32) : ∃ nx', X3_changes now nx (nI law) (nI b) = some (if chg law b ps = 0 then 0 else 1, nx') ∧ ∀ d, d < 10 → nx' d = nI ((nps law b ps).count d) := by
  have hc9 : ∀ d, d < 10 → ps.count d ≤ 9 ∧ now d = nI (ps.count d) := fun d hd => ⟨cnt_le hn d, hc d hd⟩
  unfold X3_changes
  have start : ∀ d, d < 10 → fillI 10 nx 0 d = nI (sr 0 (fun x => ps.count x * if crf law b ps x = d then 1 else 0)) := fun d hd => by unfold fillI; rw [if_pos hd]; rfl
  refine lupR (fun i g => ∀ d, d < 10 → g d = nI (sr i (fun x => ps.count x * if crf law b ps x = d then 1 else 0))) (fun n i g => X3_changes_b12 n now g (nI law) (nI b) (if sr i (fun x => ps.count x * cin law b ps x) = 0 then 0 else 1) (nI i)) 10 (fun r => ∃ nx', r = some (if chg law b ps = 0 then 0 else 1, nx') ∧ ∀ d, d < 10 → nx' d = nI ((nps law b ps).count d)) ?_ ?_ fU 0 (fillI 10 nx 0) (by omega) (fU_gt (by omega)) start
  · intro n i g hi hI
    left
    have h9 := (hc9 i hi).1
    have hni := hc i hi
    by_cases h0 : ps.count i = 0
    · refine ⟨g, fun d hd => by rw [sr_s, h0, Nat.zero_mul, Nat.add_zero]; exact hI d hd, ?_⟩
      show X3_changes_b12_s (X3_changes_b12 n) _ _ _ _ _ _ = X3_changes_b12 n _ _ _ _ (if sr i (fun x => ps.count x * cin law b ps x) + ps.count i * cin law b ps i = 0 then 0 else 1) _
      unfold X3_changes_b12_s X3_changes_b78
      rw [h0] at hni
      simp (disch := omega) only [zl_0, zl_1, zl_2, zl_3, zl_4, zl_5, zl_6, zl_7, zl_8, zl_9, zl_10, zl_11, zl_12, zl_15, zl_16, zl_20, zl_40, zl_48, zl_60, zl_78, zl_80, zl_84, zl_99, zl_100, zl_128, zl_160, zl_255, zl_999, zl_1000, zl_1023, nI_leI, nI_ltI, nI_eq, nI_clamp, nI_add, bnd1_k, bnd2_k, bnd3_k, bnd4_k, if_pos, if_neg, if_true, if_false, Nat.not_lt_zero, false_or, or_false, hni, h0, Nat.zero_mul, Nat.add_zero]
    · have hco := corrected_spec hl hb (c := fun y => ps.count y) hc9 hi (by show 0 < ps.count i; omega)
      have hcr : cor law b (fun y => ps.count y) i = crf law b ps i := rfl
      rw [hcr] at hco
      have hlt : crf law b ps i < 10 := cor_lt hi
      refine ⟨upd g (crf law b ps i) (nI (sr i (fun x => ps.count x * if crf law b ps x = crf law b ps i then 1 else 0) + ps.count i)), fun d hd => ?_, ?_⟩
      · rw [sr_s]
        by_cases ed : d = crf law b ps i
        · rw [ed, pk_us, if_pos rfl, Nat.mul_one]
        · rw [pk_un ed, if_neg (fun q => ed q.symm), Nat.mul_zero, Nat.add_zero]; exact hI d hd
      · show X3_changes_b12_s (X3_changes_b12 n) _ _ _ _ _ _ = X3_changes_b12 n _ _ _ _ (if sr i (fun x => ps.count x * cin law b ps x) + ps.count i * cin law b ps i = 0 then 0 else 1) _
        unfold X3_changes_b12_s X3_changes_b72 X3_changes_b77 X3_changes_b78
        rw [hco, bnd1_k, num_spec, nI_toInt (by omega), if_pos (show (0 : Int) ≤ crf law b ps i ∧ (crf law b ps i : Int) < 10 by omega)]
        have hg := hI _ hlt
        have e10 : ¬ (1 : Int32) = 0 := by decide
        by_cases hq : crf law b ps i = i
        · have hci : cin law b ps i = 0 := by unfold cin; rw [if_pos hq]
          rw [hci, Nat.mul_zero, Nat.add_zero]
          by_cases hs : sr i (fun x => ps.count x * cin law b ps x) = 0
          · rw [if_pos hs, if_pos (show (0 : Int32) = 0 from rfl)]
            simp (disch := omega) only [zl_0, zl_1, zl_2, zl_3, zl_4, zl_5, zl_6, zl_7, zl_8, zl_9, zl_10, zl_11, zl_12, zl_15, zl_16, zl_20, zl_40, zl_48, zl_60, zl_78, zl_80, zl_84, zl_99, zl_100, zl_128, zl_160, zl_255, zl_999, zl_1000, zl_1023, nI_leI, nI_ltI, nI_eq, nI_clamp, nI_add, bnd1_k, bnd2_k, bnd3_k, bnd4_k, if_pos, if_neg, if_true, if_false, Nat.not_lt_zero, false_or, or_false, hg, hni]
          · rw [if_neg hs, if_neg e10]
            simp (disch := omega) only [zl_0, zl_1, zl_2, zl_3, zl_4, zl_5, zl_6, zl_7, zl_8, zl_9, zl_10, zl_11, zl_12, zl_15, zl_16, zl_20, zl_40, zl_48, zl_60, zl_78, zl_80, zl_84, zl_99, zl_100, zl_128, zl_160, zl_255, zl_999, zl_1000, zl_1023, nI_leI, nI_ltI, nI_eq, nI_clamp, nI_add, bnd1_k, bnd2_k, bnd3_k, bnd4_k, if_pos, if_neg, if_true, if_false, Nat.not_lt_zero, false_or, or_false, hg, hni]
        · have hci : cin law b ps i = 1 := by unfold cin; rw [if_neg hq]
          rw [hci, Nat.mul_one, if_neg (show ¬ sr i (fun x => ps.count x * cin law b ps x) + ps.count i = 0 by omega)]
          by_cases hs : sr i (fun x => ps.count x * cin law b ps x) = 0
          · rw [if_pos hs, if_pos (show (0 : Int32) = 0 from rfl)]
            simp (disch := omega) only [zl_0, zl_1, zl_2, zl_3, zl_4, zl_5, zl_6, zl_7, zl_8, zl_9, zl_10, zl_11, zl_12, zl_15, zl_16, zl_20, zl_40, zl_48, zl_60, zl_78, zl_80, zl_84, zl_99, zl_100, zl_128, zl_160, zl_255, zl_999, zl_1000, zl_1023, nI_leI, nI_ltI, nI_eq, nI_clamp, nI_add, bnd1_k, bnd2_k, bnd3_k, bnd4_k, if_pos, if_neg, if_true, if_false, Nat.not_lt_zero, false_or, or_false, hg, hni]
          · rw [if_neg hs, if_neg e10]
            simp (disch := omega) only [zl_0, zl_1, zl_2, zl_3, zl_4, zl_5, zl_6, zl_7, zl_8, zl_9, zl_10, zl_11, zl_12, zl_15, zl_16, zl_20, zl_40, zl_48, zl_60, zl_78, zl_80, zl_84, zl_99, zl_100, zl_128, zl_160, zl_255, zl_999, zl_1000, zl_1023, nI_leI, nI_ltI, nI_eq, nI_clamp, nI_add, bnd1_k, bnd2_k, bnd3_k, bnd4_k, if_pos, if_neg, if_true, if_false, Nat.not_lt_zero, false_or, or_false, hg, hni]
  · intro n g hI
    refine ⟨g, ?_, fun d hd => by rw [nps_cnt hx]; exact hI d hd⟩
    show X3_changes_b12_s (X3_changes_b12 n) _ _ _ _ _ _ = _
    unfold X3_changes_b12_s
    rw [← chg_sr hx]
    by_cases hq : chg law b ps = 0
    · rw [if_pos (show (10 : Int32) ≤ nI 10 by decide)]
      simp only [hq, if_true]
      rw [if_neg (show ¬ ¬ ((0 : Int32) &&& 1 = 0) by decide)]
    · rw [if_pos (show (10 : Int32) ≤ nI 10 by decide)]
      simp only [hq, if_false]
      rw [if_neg (show ¬ ¬ ((1 : Int32) &&& 1 = 1) by decide)]
def itn (law b : Nat) (ps : List Nat) : Nat → List Nat
  | 0 => ps
  | k + 1 => nps law b (itn law b ps k)
theorem itn_ok {law b : Nat} {ps : List Nat} (hn : ps.length ≤ 9) (hx : ∀ x ∈ ps, x < 10) : ∀ k, (itn law b ps k).length ≤ 9 ∧ ∀ x ∈ itn law b ps k, x < 10 := by
  intro k
  induction k with
  | zero => exact ⟨hn, hx⟩
  | succ k ih => exact ⟨by unfold itn; rw [nps_len]; exact ih.1, nps_mem ih.2⟩
def stl (law b : Nat) (ps : List Nat) (k : Nat) : Bool := decide (chg law b (itn law b ps k) = 0)
theorem J_settled {ps : List Nat} {size many : Int32} {nm ct sl : Nat → Int32} {law share pot b : Nat} (hR : RU law share pot b) (hC : PC ps size nm ct) (hM : PM ps many sl) (now nx : Nat → Int32) (rm : Int32) (mrow an : Nat → Int32) : ∃ r now' nx' rm' mrow' an', X10_settled (nI law) (nI b) ct now nx = some (r, now', nx') ∧ X11_settled many (nI b) (nI law) rm sl mrow an = some (r, rm', mrow', an') := by
  obtain ⟨hl, hs, hpot, hb, ho⟩ := hR
  have hn := hM.1
  have hx := hM.2.1
  obtain ⟨RR, hRR⟩ : ∃ R, srch (stl law b ps) (fun k => nI k) (-9) 0 61 = R := ⟨_, rfl⟩
  have A : ∃ now' nx', X3_roundsTillRest_b14 fU (va_cpy ct now (0 : Int32).toNatClampNeg (0 : Int32).toNatClampNeg (10 : Int32).toNatClampNeg) nx (nI law) (nI b) ct 0 = some (RR, now', nx') := by
    refine lupR (σ := (Nat → Int32) × (Nat → Int32)) (fun k g => (∀ d, d < 10 → g.1 d = nI ((itn law b ps k).count d)) ∧ srch (stl law b ps) (fun k => nI k) (-9) k (61 - k) = RR) (fun n k g => X3_roundsTillRest_b14 n g.1 g.2 (nI law) (nI b) ct (nI k)) 61 (fun r => ∃ now' nx', r = some (RR, now', nx')) ?_ ?_ fU 0 (va_cpy ct now (0 : Int32).toNatClampNeg (0 : Int32).toNatClampNeg (10 : Int32).toNatClampNeg, nx) (by omega) (fU_gt (by omega)) ⟨fun d hd => by show va_cpy ct now _ _ _ d = _; rw [cpy10 _ _ hd]; exact hC.2 d hd, hRR⟩
    · intro n k g hk hI
      obtain ⟨hi1, hi2⟩ := itn_ok (law := law) (b := b) hn hx k
      obtain ⟨nx1, p1, q1⟩ := changes_spec hl hb hi1 hi2 hI.1 g.2
      have es := hI.2
      obtain ⟨m, hm⟩ : ∃ m, 61 - k = m + 1 := ⟨61 - k - 1, by omega⟩
      have e2 : 61 - (k + 1) = m := by omega
      rw [hm] at es
      unfold srch at es
      have e60 : ¬ (60 : Int32) < nI k := nI_nlt (a := 60) (b := k) (by omega) (by omega)
      by_cases hq : chg law b (itn law b ps k) = 0
      · right
        have hst : stl law b ps k = true := by unfold stl; exact decide_eq_true hq
        rw [if_pos hst] at es
        refine ⟨g.1, nx1, ?_⟩
        show X3_roundsTillRest_b14_s (X3_roundsTillRest_b14 n) _ _ _ _ _ _ = _
        unfold X3_roundsTillRest_b14_s
        rw [if_neg e60, p1, bnd2_k, ← es]
        simp only [if_pos hq, if_true]
      · left
        have hst : ¬ stl law b ps k = true := by unfold stl; simp [hq]
        rw [if_neg hst] at es
        refine ⟨(va_cpy nx1 g.1 (0 : Int32).toNatClampNeg (0 : Int32).toNatClampNeg (10 : Int32).toNatClampNeg, nx1), ⟨fun d hd => ?_, by rw [e2]; exact es⟩, ?_⟩
        · show va_cpy nx1 g.1 _ _ _ d = _
          rw [cpy10 _ _ hd]; exact q1 d hd
        · show X3_roundsTillRest_b14_s (X3_roundsTillRest_b14 n) _ _ _ _ _ _ = _
          unfold X3_roundsTillRest_b14_s
          rw [if_neg e60, p1, bnd2_k, nI_1]
          simp only [if_neg hq]
          rw [if_neg (show ¬ (1 : Int32) = 0 by decide)]
    · intro n g hI
      refine ⟨g.1, g.2, ?_⟩
      have es := hI.2
      rw [Nat.sub_self] at es
      show X3_roundsTillRest_b14_s (X3_roundsTillRest_b14 n) _ _ _ _ _ _ = _
      unfold X3_roundsTillRest_b14_s
      rw [if_pos (show (60 : Int32) < nI 61 by decide), ← es]
      rfl
  obtain ⟨mr1, p4, q4⟩ := takeSlips_spec hM rm mrow
  have B : ∃ mrow' an', X11_settled_b6 fU many (nI b) (nI law) many sl mr1 an 0 = some (RR, many, mrow', an') := by
    refine lupR (σ := (Nat → Int32) × (Nat → Int32)) (fun k g => PM (itn law b ps k) many g.1 ∧ srch (stl law b ps) (fun k => nI k) (-9) k (61 - k) = RR) (fun n k g => X11_settled_b6 n many (nI b) (nI law) many sl g.1 g.2 (nI k)) 61 (fun r => ∃ mrow' an', r = some (RR, many, mrow', an')) ?_ ?_ fU 0 (mr1, an) (by omega) (fU_gt (by omega)) ⟨q4, hRR⟩
    · intro n k g hk hI
      obtain ⟨mr2, an2, p1, q1⟩ := goRound_spec hl hb hI.1 g.2
      have hcb : chg law b (itn law b ps k) ≤ 9 * 1 := by
        have h1 := sum_le (l := itn law b ps k) (g := cin law b (itn law b ps k)) (k := 1) (fun x _ => by unfold cin; split <;> omega)
        have h2 := hI.1.1
        unfold chg
        omega
      have es := hI.2
      obtain ⟨m, hm⟩ : ∃ m, 61 - k = m + 1 := ⟨61 - k - 1, by omega⟩
      have e2 : 61 - (k + 1) = m := by omega
      rw [hm] at es
      unfold srch at es
      have e60 : ¬ (60 : Int32) < nI k := nI_nlt (a := 60) (b := k) (by omega) (by omega)
      by_cases hq : chg law b (itn law b ps k) = 0
      · right
        have hst : stl law b ps k = true := by unfold stl; exact decide_eq_true hq
        rw [if_pos hst] at es
        refine ⟨mr2, an2, ?_⟩
        show X11_settled_b6_s (X11_settled_b6 n) _ _ _ _ _ _ _ _ = _
        unfold X11_settled_b6_s
        rw [if_neg e60, p1, bnd3_k, ← es, if_pos (show nI (chg law b (itn law b ps k)) = 0 by rw [hq]; rfl)]
      · left
        have hst : ¬ stl law b ps k = true := by unfold stl; simp [hq]
        rw [if_neg hst] at es
        refine ⟨(mr2, an2), ⟨q1, by rw [e2]; exact es⟩, ?_⟩
        show X11_settled_b6_s (X11_settled_b6 n) _ _ _ _ _ _ _ _ = _
        unfold X11_settled_b6_s
        rw [if_neg e60, p1, bnd3_k, nI_1, if_neg (nI_ne0 (by omega) (by omega))]
    · intro n g hI
      refine ⟨g.1, g.2, ?_⟩
      have es := hI.2
      rw [Nat.sub_self] at es
      show X11_settled_b6_s (X11_settled_b6 n) _ _ _ _ _ _ _ _ = _
      unfold X11_settled_b6_s
      rw [if_pos (show (60 : Int32) < nI 61 by decide), ← es]
      rfl
  obtain ⟨now1, nx1, a⟩ := A
  obtain ⟨mr2, an2, c⟩ := B
  unfold X10_settled X11_settled X3_roundsTillRest
  rw [a, p4, bnd2_k, c]
  exact ⟨_, _, _, _, _, _, rfl, rfl⟩
