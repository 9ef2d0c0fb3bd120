/-! rounds -/
def cfit (law b : Nat) (c : Nat → Nat) (own i : Nat) : Bool := decide (bb b i = 0) && su law i (co c own i + 1)
def cfind (law b : Nat) (c : Nat → Nat) (own : Nat) : Nat := srch (cfit law b c own) (fun i => i) own 0 10
def cor (law b : Nat) (c : Nat → Nat) (own : Nat) : Nat := if su law own (c own) then own else cfind law b c own
theorem srch_prop {α : Type} {c : Nat → Bool} {V : Nat → α} {E : α} {P : α → Prop} (hE : P E) : ∀ m i, (∀ j, i ≤ j → j < i + m → c j = true → P (V j)) → P (srch c V E i m) := by
  intro m
  induction m with
  | zero => intro i _; exact hE
  | succ m ih =>
    intro i h
    unfold srch
    split
    · exact h i (Nat.le_refl _) (by omega) (by assumption)
    · exact ih (i + 1) (fun j h1 h2 h3 => h j (by omega) (by omega) h3)
theorem cfind_lt {law b : Nat} {c : Nat → Nat} {own : Nat} (ho : own < 10) : cfind law b c own < 10 := srch_prop (P := fun x => x < 10) ho 10 0 (fun j _ h _ => by show j < 10; omega)
theorem cor_lt {law b : Nat} {c : Nat → Nat} {own : Nat} (ho : own < 10) : cor law b c own < 10 := by
  unfold cor
  split
  · exact ho
  · exact cfind_lt ho
theorem cor_open {law b : Nat} {c : Nat → Nat} {own : Nat} (ho : bb b own = 0) : bb b (cor law b c own) = 0 := by
  unfold cor
  split
  · exact ho
  · refine srch_prop (P := fun x => bb b x = 0) ho 10 0 (fun j _ _ h => ?_)
    unfold cfit at h
    simp at h
    exact h.1
theorem corrected_spec {law b own : Nat} {c : Nat → Nat} {f : Nat → Int32} (hl : law ≤ 2) (hb : b < 1024) (hc : ∀ d, d < 10 → c d ≤ 9 ∧ f d = nI (c d)) (ho : own < 10) (hp : 0 < c own) : X8_corrected (nI law) (nI b) f (nI own) = some (nI (cor law b c own)) := by
  have h9 := (hc own ho).1
  have ec : co c own own + 1 = c own := by unfold co; rw [if_pos rfl]; omega
  unfold X8_corrected
  rw [others_spec hc ho hp ho, bnd1_k, nI_1, ec, suits_spec hl (by omega) (by omega)]
  unfold cor
  by_cases h : su law own (c own) = true
  · simp only [if_pos h]; rw [if_neg (show ¬ (1 : Int32) = 0 by decide)]
  · simp only [if_neg h, if_true]
    unfold cfind
    rw [← srch_map (fun r => some (nI r))]
    refine lupF (cfit law b c own) (fun i => some (nI i)) (some (nI own)) (fun n i => X8_corrected_b21 n (nI law) (nI b) f (nI own) (nI i)) 10 ?_ ?_ fU 0 (by omega) (fU_gt (by omega))
    · intro n i hi
      show X8_corrected_b21_s (X8_corrected_b21 n) _ _ _ _ _ = _
      unfold X8_corrected_b21_s X8_corrected_b54
      have h1 := co_le (own := own) (hc i hi).1
      rw [open_spec hb hi, others_spec hc ho hp hi, bnd1_k, nI_1, nI_1, suits_spec hl (by omega) (by omega), if_neg (show ¬ (10 : Int32) ≤ nI i from nI_ge (b := 10) (by omega) (by omega))]
      unfold cfit
      by_cases h0 : bb b i = 0
      · by_cases h2 : su law i (co c own i + 1) = true
        · simp only [h0, h2, decide_true, Bool.and_true, if_true, if_neg (show ¬ (1 : Int32) = 0 by decide)]
        · have h3 : su law i (co c own i + 1) = false := by simpa using h2
          simp only [h0, h3, Bool.and_false, if_true, Bool.false_eq_true, if_false]
          rw [if_neg (show ¬ (1 : Int32) = 0 by decide)]
      · simp only [h0, decide_false, Bool.false_and, if_false, if_true, Bool.false_eq_true]
    · intro n
      show X8_corrected_b21_s (X8_corrected_b21 n) _ _ _ _ _ = _
      unfold X8_corrected_b21_s
      simp (disch := omega) only [zl_0, zl_1, zl_2, zl_3, zl_4, zl_5, zl_6, zl_7, zl_8, zl_9, zl_10, zl_11, zl_12, zl_15, zl_16, zl_20, zl_40, zl_48, zl_60, zl_78, zl_80, zl_84, zl_99, zl_100, zl_128, zl_160, zl_255, zl_999, zl_1000, zl_1023, nI_leI, nI_ltI, nI_eq, nI_clamp, nI_add, bnd1_k, bnd2_k, bnd3_k, bnd4_k, if_pos, if_neg, if_true, if_false, Nat.not_lt_zero, false_or, or_false]
theorem rightFor_spec {ps : List Nat} {many : Int32} {row : Nat → Int32} {law b p : Nat} (hl : law ≤ 2) (hb : b < 1024) (h : PM ps many row) (hp : p < ps.length) : ∃ row', X11_rightFor (nI b) (nI law) many row (nI p) = some (nI (cfind law b (fun y => ps.count y) (ps.getD p 0)), row') ∧ PM ps many row' := by
  obtain ⟨hn, hx, e, hr⟩ := id h
  have hown := hx _ (gd_mem hp)
  unfold X11_rightFor
  simp (disch := omega) only [zl_0, zl_1, zl_2, zl_3, zl_4, zl_5, zl_6, zl_7, zl_8, zl_9, zl_10, zl_11, zl_12, zl_15, zl_16, zl_20, zl_40, zl_48, zl_60, zl_78, zl_80, zl_84, zl_99, zl_100, zl_128, zl_160, zl_255, zl_999, zl_1000, zl_1023, nI_leI, nI_ltI, nI_eq, nI_clamp, nI_add, bnd1_k, bnd2_k, bnd3_k, bnd4_k, if_pos, if_neg, if_true, if_false, Nat.not_lt_zero, false_or, or_false, hr]
  unfold cfind
  have hlt : ∀ j, j ≤ 10 → srch (cfit law b (fun y => ps.count y) (ps.getD p 0)) (fun i => i) (ps.getD p 0) (10 - j) j < 10 := fun j hj => srch_prop (P := fun x => x < 10) hown j (10 - j) (fun q _ h _ => by show q < 10; omega)
  have e9 : nI 9 = nI (10 - 0) - 1 := by decide
  rw [e9]
  refine lupR (fun i g => ∀ j, j < ps.length → j ≠ p → g j = nI (ps.getD j 0)) (fun n j g => X11_rightFor_b13 n (nI b) (nI law) many g (nI p) (nI (ps.getD p 0)) (nI (srch (cfit law b (fun y => ps.count y) (ps.getD p 0)) (fun i => i) (ps.getD p 0) (10 - j) j)) (nI (10 - j) - 1)) 10 (fun r => ∃ row', r = some (nI (srch (cfit law b (fun y => ps.count y) (ps.getD p 0)) (fun i => i) (ps.getD p 0) 0 10), row') ∧ PM ps many row') ?_ ?_ fU 0 row (by omega) (fU_gt (by omega)) (fun j hj _ => hr j hj)
  · intro n j g hj hI
    left
    obtain ⟨m, hm⟩ : ∃ m, 10 - j = m + 1 := ⟨10 - j - 1, by omega⟩
    have e2 : 10 - (j + 1) = m := by omega
    have hm10 : m < 10 := by omega
    refine ⟨upd g p (nI m), fun q hq hne => by rw [pk_un hne]; exact hI q hq hne, ?_⟩
    show X11_rightFor_b13_s (X11_rightFor_b13 n) _ _ _ _ _ _ _ _ = X11_rightFor_b13 n _ _ _ _ _ _ (nI (srch _ _ _ (10 - (j + 1)) (j + 1))) (nI (10 - (j + 1)) - 1)
    unfold X11_rightFor_b13_s X11_rightFor_b48 X11_rightFor_b49
    have hP : PM (ps.set p m) many (upd g p (nI m)) := PM_set hn hx e hp hm10 hI
    have hri := isRight_spec hl hP (p := p) (by rw [List.length_set]; exact hp)
    rw [gd_set hp, if_pos rfl] at hri
    have ert : rt law (ps.set p m) m = su law m (co (fun y => ps.count y) (ps.getD p 0) m + 1) := by
      unfold rt
      rw [cnt_set hp]
      unfold cs
      rw [if_pos rfl]
    rw [ert] at hri
    have esr : srch (cfit law b (fun y => ps.count y) (ps.getD p 0)) (fun i => i) (ps.getD p 0) (10 - (j + 1)) (j + 1) = if cfit law b (fun y => ps.count y) (ps.getD p 0) m then m else srch (cfit law b (fun y => ps.count y) (ps.getD p 0)) (fun i => i) (ps.getD p 0) (10 - j) j := by
      rw [e2, hm]; rfl
    rw [esr, e2, hm, nI_pred, z_sm, bar_spec hb hm10]
    rw [if_neg (nI_pos (by omega)), if_neg (ix_ok (by omega) (by omega)), nI_clamp (by omega), hri, bnd1_k]
    unfold cfit
    by_cases h0 : bb b m = 0
    · by_cases h2 : su law m (co (fun y => ps.count y) (ps.getD p 0) m + 1) = true
      · simp only [h0, h2, decide_true, Bool.and_true, if_true]
        rw [if_neg (show ¬ (1 : Int32) = 0 by decide)]
      · have h3 : su law m (co (fun y => ps.count y) (ps.getD p 0) m + 1) = false := by simpa using h2
        simp only [h0, h3, Bool.and_false, if_true, Bool.false_eq_true, if_false]
    · simp only [h0, decide_false, Bool.false_and, if_false, Bool.false_eq_true]
      rw [if_neg (show ¬ (1 : Int32) = 0 by decide)]
  · intro n g hI
    have hP : PM (ps.set p (ps.getD p 0)) many (upd g p (nI (ps.getD p 0))) := PM_set hn hx e hp hown hI
    have ese : ps.set p (ps.getD p 0) = ps := by
      rw [List.getD_eq_getElem?_getD, List.getElem?_eq_getElem hp]
      exact List.set_getElem_self hp
    rw [ese] at hP
    refine ⟨upd g p (nI (ps.getD p 0)), ?_, hP⟩
    show X11_rightFor_b13_s (X11_rightFor_b13 n) _ _ _ _ _ _ _ _ = _
    unfold X11_rightFor_b13_s X11_rightFor_b56
    rw [Nat.sub_self, z_m1, if_pos (by decide), if_neg (ix_ok (by omega) (by omega)), nI_clamp (by omega)]
/-- one round: what all write; how many wrote another number -/
def crf (law b : Nat) (ps : List Nat) : Nat → Nat := cor law b (fun y => ps.count y)
def nps (law b : Nat) (ps : List Nat) : List Nat := ps.map (crf law b ps)
def cin (law b : Nat) (ps : List Nat) (x : Nat) : Nat := if crf law b ps x = x then 0 else 1
def chg (law b : Nat) (ps : List Nat) : Nat := (ps.map (cin law b ps)).sum
theorem nps_len (law b : Nat) (ps : List Nat) : (nps law b ps).length = ps.length := by unfold nps; rw [List.length_map]
theorem nps_gd {law b : Nat} {ps : List Nat} {j : Nat} (h : j < ps.length) : (nps law b ps).getD j 0 = crf law b ps (ps.getD j 0) := by
  unfold nps
  rw [List.getD_eq_getElem?_getD, List.getElem?_map, List.getElem?_eq_getElem h, List.getD_eq_getElem?_getD, List.getElem?_eq_getElem h]
  rfl
theorem nps_mem {law b : Nat} {ps : List Nat} (hx : ∀ x ∈ ps, x < 10) : ∀ x ∈ nps law b ps, x < 10 := by
  intro x h
  unfold nps at h
  obtain ⟨y, hy, rfl⟩ := List.mem_map.mp h
  exact cor_lt (hx y hy)
theorem goRound_spec {ps : List Nat} {many : Int32} {row : Nat → Int32} {law b : Nat} (hl : law ≤ 2) (hb : b < 1024) (h : PM ps many row) (an : Nat → Int32) : ∃ row' an', X11_goRound (nI b) (nI law) many row an = some (nI (chg law b ps), row', an') ∧ PM (nps law b ps) many row' := by
  obtain ⟨hn, hx, e, hr⟩ := id h
  unfold X11_goRound
  refine lupR (σ := (Nat → Int32) × (Nat → Int32)) (fun i g => PM ps many g.1 ∧ ∀ j, j < i → g.2 j = nI (crf law b ps (ps.getD j 0))) (fun n i g => X11_goRound_b4 n (nI b) (nI law) many g.1 g.2 (nI (((ps.take i).map (cin law b ps)).sum)) (nI i)) ps.length (fun r => ∃ row' an', r = some (nI (chg law b ps), row', an') ∧ PM (nps law b ps) many row') ?_ ?_ fU 0 (row, an) (by omega) (fU_gt (by omega)) ⟨h, fun j hj => absurd hj (Nat.not_lt_zero j)⟩
  · intro n i g hi hI
    left
    obtain ⟨hP, ha⟩ := hI
    have hown := hx _ (gd_mem hi)
    have hlt := cfind_lt (law := law) (b := b) (c := fun y => ps.count y) hown
    have upd_ok : ∀ v, v = nI (crf law b ps (ps.getD i 0)) → ∀ j, j < i + 1 → upd g.2 i v j = nI (crf law b ps (ps.getD j 0)) := by
      intro v hv j hj
      by_cases ej : j = i
      · subst ej; rw [pk_us]; exact hv
      · rw [pk_un ej]; exact ha j (by omega)
    by_cases hrt : rt law ps (ps.getD i 0) = true
    · have hcr : crf law b ps (ps.getD i 0) = ps.getD i 0 := by
        unfold crf cor; exact if_pos hrt
      have hci : cin law b ps (ps.getD i 0) = 0 := by unfold cin; rw [if_pos hcr]
      refine ⟨(g.1, upd g.2 i (nI (ps.getD i 0))), ⟨hP, upd_ok _ (by rw [hcr])⟩, ?_⟩
      show X11_goRound_b4_s (X11_goRound_b4 n) _ _ _ _ _ _ _ = X11_goRound_b4 n _ _ _ g.1 (upd g.2 i (nI (ps.getD i 0))) _ _
      unfold X11_goRound_b4_s X11_goRound_b66
      rw [isRight_spec hl hP hi, bnd1_k, take_sum hi, hci, e]
      simp only [if_pos hrt]
      simp (disch := omega) only [zl_0, zl_1, zl_2, zl_3, zl_4, zl_5, zl_6, zl_7, zl_8, zl_9, zl_10, zl_11, zl_12, zl_15, zl_16, zl_20, zl_40, zl_48, zl_60, zl_78, zl_80, zl_84, zl_99, zl_100, zl_128, zl_160, zl_255, zl_999, zl_1000, zl_1023, nI_leI, nI_ltI, nI_eq, nI_clamp, nI_add, bnd1_k, bnd2_k, bnd3_k, bnd4_k, if_pos, if_neg, if_true, if_false, Nat.not_lt_zero, false_or, or_false, hP.2.2.2]
      rfl
    · obtain ⟨row1, p1, q1⟩ := rightFor_spec hl hb hP hi
      have hcr : crf law b ps (ps.getD i 0) = cfind law b (fun y => ps.count y) (ps.getD i 0) := by
        unfold crf cor; exact if_neg hrt
      have euu : upd (upd g.2 i (nI (ps.getD i 0))) i (nI (cfind law b (fun y => ps.count y) (ps.getD i 0))) = upd g.2 i (nI (cfind law b (fun y => ps.count y) (ps.getD i 0))) := by
        funext j
        by_cases ej : j = i
        · subst ej; rw [pk_us, pk_us]
        · rw [pk_un ej, pk_un ej, pk_un ej]
      refine ⟨(row1, upd g.2 i (nI (cfind law b (fun y => ps.count y) (ps.getD i 0)))), ⟨q1, upd_ok _ (by rw [hcr])⟩, ?_⟩
      show X11_goRound_b4_s (X11_goRound_b4 n) _ _ _ _ _ _ _ = X11_goRound_b4 n _ _ _ row1 (upd g.2 i (nI (cfind law b (fun y => ps.count y) (ps.getD i 0)))) _ _
      unfold X11_goRound_b4_s X11_goRound_b64 X11_goRound_b66
      rw [isRight_spec hl hP hi, bnd1_k, p1, bnd2_k, take_sum hi]
      simp only [if_neg hrt]
      have er1 := q1.2.2.2 i hi
      have er0 := hP.2.2.2 i hi
      unfold cin
      rw [hcr, e]
      by_cases hq : cfind law b (fun y => ps.count y) (ps.getD i 0) = ps.getD i 0
      · rw [hq] at euu
        simp (disch := omega) only [zl_0, zl_1, zl_2, zl_3, zl_4, zl_5, zl_6, zl_7, zl_8, zl_9, zl_10, zl_11, zl_12, zl_15, zl_16, zl_20, zl_40, zl_48, zl_60, zl_78, zl_80, zl_84, zl_99, zl_100, zl_128, zl_160, zl_255, zl_999, zl_1000, zl_1023, nI_leI, nI_ltI, nI_eq, nI_clamp, nI_add, bnd1_k, bnd2_k, bnd3_k, bnd4_k, if_pos, if_neg, if_true, if_false, Nat.not_lt_zero, false_or, or_false, er1, er0, pk_us, hq, euu]
      · simp (disch := omega) only [zl_0, zl_1, zl_2, zl_3, zl_4, zl_5, zl_6, zl_7, zl_8, zl_9, zl_10, zl_11, zl_12, zl_15, zl_16, zl_20, zl_40, zl_48, zl_60, zl_78, zl_80, zl_84, zl_99, zl_100, zl_128, zl_160, zl_255, zl_999, zl_1000, zl_1023, nI_leI, nI_ltI, nI_eq, nI_clamp, nI_add, bnd1_k, bnd2_k, bnd3_k, bnd4_k, if_pos, if_neg, if_true, if_false, Nat.not_lt_zero, false_or, or_false, er1, er0, euu, pk_us]
  · intro n g hI
    obtain ⟨hP, ha⟩ := hI
    have es : ((ps.take ps.length).map (cin law b ps)).sum = chg law b ps := by rw [List.take_length]; rfl
    have key : ∃ row', X11_goRound_b74 fU (nI b) (nI law) many g.1 g.2 (nI (chg law b ps)) 0 = some (nI (chg law b ps), row', g.2) ∧ PM (nps law b ps) many row' := by
      refine lupR (fun i r => ∀ j, j < i → r j = nI ((nps law b ps).getD j 0)) (fun n i r => X11_goRound_b74 n (nI b) (nI law) many r g.2 (nI (chg law b ps)) (nI i)) ps.length (fun r => ∃ row', r = some (nI (chg law b ps), row', g.2) ∧ PM (nps law b ps) many row') ?_ ?_ fU 0 g.1 (by omega) (fU_gt (by omega)) (fun j hj => absurd hj (Nat.not_lt_zero j))
      · intro n i r hi hI2
        left
        refine ⟨upd r i (g.2 i), fun j hj => ?_, ?_⟩
        · by_cases ej : j = i
          · subst ej; rw [pk_us, nps_gd hi]; exact ha j hi
          · rw [pk_un ej]; exact hI2 j (by omega)
        · show X11_goRound_b74_s (X11_goRound_b74 n) _ _ _ _ _ _ _ = _
          unfold X11_goRound_b74_s
          rw [e]
          simp (disch := omega) only [zl_0, zl_1, zl_2, zl_3, zl_4, zl_5, zl_6, zl_7, zl_8, zl_9, zl_10, zl_11, zl_12, zl_15, zl_16, zl_20, zl_40, zl_48, zl_60, zl_78, zl_80, zl_84, zl_99, zl_100, zl_128, zl_160, zl_255, zl_999, zl_1000, zl_1023, nI_leI, nI_ltI, nI_eq, nI_clamp, nI_add, bnd1_k, bnd2_k, bnd3_k, bnd4_k, if_pos, if_neg, if_true, if_false, Nat.not_lt_zero, false_or, or_false]
      · intro n r hI2
        refine ⟨r, ?_, by rw [nps_len]; exact hn, nps_mem hx, by rw [nps_len]; exact e, fun j hj => hI2 j (by rw [nps_len] at hj; exact hj)⟩
        show X11_goRound_b74_s (X11_goRound_b74 n) _ _ _ _ _ _ _ = _
        unfold X11_goRound_b74_s
        rw [e]
        simp (disch := omega) only [zl_0, zl_1, zl_2, zl_3, zl_4, zl_5, zl_6, zl_7, zl_8, zl_9, zl_10, zl_11, zl_12, zl_15, zl_16, zl_20, zl_40, zl_48, zl_60, zl_78, zl_80, zl_84, zl_99, zl_100, zl_128, zl_160, zl_255, zl_999, zl_1000, zl_1023, nI_leI, nI_ltI, nI_eq, nI_clamp, nI_add, bnd1_k, bnd2_k, bnd3_k, bnd4_k, if_pos, if_neg, if_true, if_false, Nat.not_lt_zero, false_or, or_false]
    obtain ⟨row', p1, q1⟩ := key
    refine ⟨row', g.2, ?_, q1⟩
    show X11_goRound_b4_s (X11_goRound_b4 n) _ _ _ _ _ _ _ = _
    unfold X11_goRound_b4_s X11_goRound_b72
    rw [es, p1, if_pos (show many ≤ nI ps.length by rw [e]; exact nI_le (Nat.le_refl _) (by omega))]
