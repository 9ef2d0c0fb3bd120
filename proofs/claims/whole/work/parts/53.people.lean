/-! people -/
def PM (ps : List Nat) (many : Int32) (sl : Nat → Int32) : Prop := ps.length ≤ 9 ∧ (∀ x ∈ ps, x < 10) ∧ many = nI ps.length ∧ ∀ j, j < ps.length → sl j = nI (ps.getD j 0)
def PC (ps : List Nat) (size : Int32) (nm ct : Nat → Int32) : Prop := PM ps size nm ∧ ∀ d, d < 10 → ct d = nI (ps.count d)
theorem gd_mem {ps : List Nat} {j : Nat} (h : j < ps.length) : ps.getD j 0 ∈ ps := by
  rw [List.getD_eq_getElem?_getD, List.getElem?_eq_getElem h]
  exact List.getElem_mem h
theorem cnt_le {ps : List Nat} (h : ps.length ≤ 9) (d : Nat) : ps.count d ≤ 9 := Nat.le_trans List.count_le_length h
theorem take_s {ps : List Nat} {i : Nat} (h : i < ps.length) : ps.take (i + 1) = ps.take i ++ [ps.getD i 0] := by
  rw [List.take_add_one, List.getElem?_eq_getElem h, List.getD_eq_getElem?_getD, List.getElem?_eq_getElem h]
  rfl
theorem take_cnt {ps : List Nat} {i : Nat} (h : i < ps.length) (d : Nat) : (ps.take (i + 1)).count d = (ps.take i).count d + if ps.getD i 0 = d then 1 else 0 := by
  rw [take_s h, List.count_append]
  generalize ps.getD i 0 = y
  by_cases e : y = d
  · simp [e]
  · simp [e]
theorem take_sum {ps : List Nat} {i : Nat} (h : i < ps.length) (g : Nat → Nat) : ((ps.take (i + 1)).map g).sum = ((ps.take i).map g).sum + g (ps.getD i 0) := by
  rw [take_s h, List.map_append, List.sum_append]
  simp
theorem has_spec {ps : List Nat} (h : ps.length ≤ 9) (p : Int32) : X5_has (nI ps.length) p = if 0 ≤ p.toInt ∧ p.toInt < ps.length then 1 else 0 := by
  unfold X5_has
  simp only [z_lt, z_le]
  have e0 : (0 : Int32).toInt = 0 := rfl
  rw [e0, nI_toInt (by omega)]
  by_cases h1 : p.toInt < 0
  · rw [if_pos h1, if_neg (by omega)]
  · by_cases h2 : (ps.length : Int) ≤ p.toInt
    · rw [if_neg h1, if_pos h2, if_neg (by omega)]
    · rw [if_neg h1, if_neg h2, if_pos (by omega)]
theorem m1_toInt {n : Nat} (h : n ≤ 1000) : (nI n - 1 : Int32).toInt = (n : Int) - 1 := by
  have := pk_sub_toInt (a := n) (b := 1) (by omega) (by omega)
  exact this
theorem isPerson_spec {ps : List Nat} (h : ps.length ≤ 9) (p : Int32) : X11_isPerson (nI ps.length) p = if 0 ≤ p.toInt ∧ p.toInt < ps.length then 1 else 0 := by
  unfold X11_isPerson
  rw [in_spec]
  have e0 : (0 : Int64).toInt = 0 := rfl
  rw [e0, z_wide, m1_toInt (by omega)]
  by_cases h1 : 0 ≤ p.toInt ∧ p.toInt < ps.length
  · rw [if_pos h1, if_pos (by omega)]
  · rw [if_neg h1, if_neg (by omega)]
/-- a person that is there -/
theorem person_nat {p : Int32} {n : Nat} (h : 0 ≤ p.toInt ∧ p.toInt < n) : ∃ j : Nat, j < n ∧ j < 2 ^ 31 ∧ p = nI j := by
  obtain ⟨j, hj, rfl⟩ := nat_of p h.1
  rw [nI_toInt hj] at h
  exact ⟨j, by omega, hj, rfl⟩
theorem wroteIn_spec {ps : List Nat} {many : Int32} {row : Nat → Int32} (h : PM ps many row) {d : Nat} (hd : d < 1000) : X11_wroteIn many row (nI d) = some (nI (ps.count d)) := by
  obtain ⟨hl, hx, rfl, hr⟩ := h
  unfold X11_wroteIn
  refine lup (fun n i => X11_wroteIn_b4 n (nI ps.length) row (nI d) (nI ((ps.take i).count d)) (nI i)) ps.length _ ?_ ?_ fU 0 (by omega) (fU_gt (by omega))
  · intro n i hi
    show X11_wroteIn_b4_s (X11_wroteIn_b4 n) _ _ _ _ _ = _
    unfold X11_wroteIn_b4_s X11_wroteIn_b28
    have hg := hx _ (gd_mem hi)
    rw [take_cnt hi]
    by_cases e : ps.getD i 0 = d
    · simp (disch := omega) only [zl_0, zl_1, zl_2, zl_3, zl_4, zl_5, zl_6, zl_7, zl_8, zl_9, zl_10, zl_11, zl_12, zl_15, zl_16, zl_20, zl_40, zl_48, zl_60, zl_78, zl_80, zl_84, zl_99, zl_100, zl_128, zl_160, zl_255, zl_999, zl_1000, zl_1023, nI_leI, nI_ltI, nI_eq, nI_clamp, nI_add, bnd1_k, bnd2_k, bnd3_k, bnd4_k, if_pos, if_neg, if_true, if_false, Nat.not_lt_zero, false_or, or_false, hr]
    · simp (disch := omega) only [zl_0, zl_1, zl_2, zl_3, zl_4, zl_5, zl_6, zl_7, zl_8, zl_9, zl_10, zl_11, zl_12, zl_15, zl_16, zl_20, zl_40, zl_48, zl_60, zl_78, zl_80, zl_84, zl_99, zl_100, zl_128, zl_160, zl_255, zl_999, zl_1000, zl_1023, nI_leI, nI_ltI, nI_eq, nI_clamp, nI_add, bnd1_k, bnd2_k, bnd3_k, bnd4_k, if_pos, if_neg, if_true, if_false, Nat.not_lt_zero, false_or, or_false, hr]
  · intro n
    show X11_wroteIn_b4_s (X11_wroteIn_b4 n) _ _ _ _ _ = _
    unfold X11_wroteIn_b4_s
    simp (disch := omega) only [zl_0, zl_1, zl_2, zl_3, zl_4, zl_5, zl_6, zl_7, zl_8, zl_9, zl_10, zl_11, zl_12, zl_15, zl_16, zl_20, zl_40, zl_48, zl_60, zl_78, zl_80, zl_84, zl_99, zl_100, zl_128, zl_160, zl_255, zl_999, zl_1000, zl_1023, nI_leI, nI_ltI, nI_eq, nI_clamp, nI_add, bnd1_k, bnd2_k, bnd3_k, bnd4_k, if_pos, if_neg, if_true, if_false, Nat.not_lt_zero, false_or, or_false, List.take_length]
def rt (law : Nat) (ps : List Nat) (x : Nat) : Bool := su law x (ps.count x)
theorem isRight_spec {ps : List Nat} {many : Int32} {row : Nat → Int32} {law p : Nat} (hl : law ≤ 2) (h : PM ps many row) (hp : p < ps.length) : X11_isRight (nI law) many row (nI p) = some (if rt law ps (ps.getD p 0) then 1 else 0) := by
  obtain ⟨hn, hx, e, hr⟩ := id h
  have hg := hx _ (gd_mem hp)
  have hc := cnt_le hn (ps.getD p 0)
  unfold X11_isRight rt
  simp (disch := omega) only [zl_0, zl_1, zl_2, zl_3, zl_4, zl_5, zl_6, zl_7, zl_8, zl_9, zl_10, zl_11, zl_12, zl_15, zl_16, zl_20, zl_40, zl_48, zl_60, zl_78, zl_80, zl_84, zl_99, zl_100, zl_128, zl_160, zl_255, zl_999, zl_1000, zl_1023, nI_leI, nI_ltI, nI_eq, nI_clamp, nI_add, bnd1_k, bnd2_k, bnd3_k, bnd4_k, if_pos, if_neg, if_true, if_false, Nat.not_lt_zero, false_or, or_false, hr]
  rw [wroteIn_spec h (by omega), bnd1_k, fine_eq, suits_spec hl (by omega) (by omega)]
  rfl
def r1 (law : Nat) (ps : List Nat) (y : Nat) : Nat := if rt law ps y then 1 else 0
def r2 (law : Nat) (ps : List Nat) (y : Nat) : Nat := if rt law ps y then y else 0
theorem sum_le {l : List Nat} {g : Nat → Nat} {k : Nat} (h : ∀ x ∈ l, g x ≤ k) : (l.map g).sum ≤ l.length * k := by
  induction l with
  | nil => simp
  | cons a t ih =>
    rw [List.map_cons, List.sum_cons, List.length_cons, Nat.add_mul]
    have := ih (fun x hx => h x (by simp [hx]))
    have := h a (by simp)
    omega
theorem dn_list {ps : List Nat} (law share : Nat) (hx : ∀ x ∈ ps, x < 10) : dn law share (fun d => ps.count d) = (ps.map (fun y => if rt law ps y then wt share y else 0)).sum := by
  rw [sum_cnt ps 10 _ hx]
  unfold dn cl rt
  apply sr_congr
  intro i _
  split
  · rfl
  · rw [Nat.mul_zero]
/-- what one that wrote x gets -/
def gt (law share pot : Nat) (ps : List Nat) (x : Nat) : Nat := gn law share pot x (ps.count x) (dn law share (fun d => ps.count d))
theorem sum_pos {l : List Nat} {g : Nat → Nat} {x : Nat} (hx : x ∈ l) (h : 0 < g x) : 0 < (l.map g).sum := by
  induction l with
  | nil => simp at hx
  | cons a t ih =>
    rw [List.map_cons, List.sum_cons]
    rcases List.mem_cons.mp hx with e | e
    · subst e; omega
    · have := ih e; omega
theorem getsOf_spec {ps : List Nat} {many : Int32} {row : Nat → Int32} {law share pot p : Nat} (hl : law ≤ 2) (hs : share ≤ 1) (hpot : pot ≤ 999) (h : PM ps many row) (hp : p < ps.length) : X11_getsOf (nI law) (nI share) (nI pot) many row (nI p) = some (nI (gt law share pot ps (ps.getD p 0))) := by
  obtain ⟨hn, hx, e, hr⟩ := id h
  have hg := hx _ (gd_mem hp)
  unfold X11_getsOf
  rw [isRight_spec hl h hp, bnd1_k]
  by_cases hrt : rt law ps (ps.getD p 0) = true
  · simp only [if_pos hrt]
    rw [if_neg (show ¬ (1 : Int32) = 0 by decide)]
    have key : X11_getsOf_b17 fU (nI law) (nI share) (nI pot) many row (nI p) 0 0 0 = X11_getsOf_b72 (nI law) (nI share) (nI pot) many row (nI p) (nI ((ps.map (r1 law ps)).sum)) (nI ((ps.map (r2 law ps)).sum)) := by
      refine lup (fun n i => X11_getsOf_b17 n (nI law) (nI share) (nI pot) many row (nI p) (nI (((ps.take i).map (r1 law ps)).sum)) (nI (((ps.take i).map (r2 law ps)).sum)) (nI i)) ps.length _ ?_ ?_ fU 0 (by omega) (fU_gt (by omega))
      · intro n i hi
        show X11_getsOf_b17_s (X11_getsOf_b17 n) _ _ _ _ _ _ _ _ _ = _
        unfold X11_getsOf_b17_s X11_getsOf_b41 X11_getsOf_b64
        rw [isRight_spec hl h hi, bnd1_k, bnd1_k, take_sum hi, take_sum hi, e]
        have hgi := hx _ (gd_mem hi)
        unfold r1 r2
        by_cases hi2 : rt law ps (ps.getD i 0) = true
        · simp only [if_pos hi2]
          simp (disch := omega) only [zl_0, zl_1, zl_2, zl_3, zl_4, zl_5, zl_6, zl_7, zl_8, zl_9, zl_10, zl_11, zl_12, zl_15, zl_16, zl_20, zl_40, zl_48, zl_60, zl_78, zl_80, zl_84, zl_99, zl_100, zl_128, zl_160, zl_255, zl_999, zl_1000, zl_1023, nI_leI, nI_ltI, nI_eq, nI_clamp, nI_add, bnd1_k, bnd2_k, bnd3_k, bnd4_k, if_pos, if_neg, if_true, if_false, Nat.not_lt_zero, false_or, or_false, hr]
        · simp only [if_neg hi2]
          simp (disch := omega) only [zl_0, zl_1, zl_2, zl_3, zl_4, zl_5, zl_6, zl_7, zl_8, zl_9, zl_10, zl_11, zl_12, zl_15, zl_16, zl_20, zl_40, zl_48, zl_60, zl_78, zl_80, zl_84, zl_99, zl_100, zl_128, zl_160, zl_255, zl_999, zl_1000, zl_1023, nI_leI, nI_ltI, nI_eq, nI_clamp, nI_add, bnd1_k, bnd2_k, bnd3_k, bnd4_k, if_pos, if_neg, if_true, if_false, Nat.not_lt_zero, false_or, or_false, hr]
      · intro n
        show X11_getsOf_b17_s (X11_getsOf_b17 n) _ _ _ _ _ _ _ _ _ = _
        unfold X11_getsOf_b17_s
        rw [e]
        simp (disch := omega) only [zl_0, zl_1, zl_2, zl_3, zl_4, zl_5, zl_6, zl_7, zl_8, zl_9, zl_10, zl_11, zl_12, zl_15, zl_16, zl_20, zl_40, zl_48, zl_60, zl_78, zl_80, zl_84, zl_99, zl_100, zl_128, zl_160, zl_255, zl_999, zl_1000, zl_1023, nI_leI, nI_ltI, nI_eq, nI_clamp, nI_add, bnd1_k, bnd2_k, bnd3_k, bnd4_k, if_pos, if_neg, if_true, if_false, Nat.not_lt_zero, false_or, or_false, List.take_length]
    rw [key]
    unfold X11_getsOf_b72 gt gn
    have hb1 : (ps.map (r1 law ps)).sum ≤ ps.length * 1 := sum_le (fun x _ => by unfold r1; split <;> omega)
    have hb2 : (ps.map (r2 law ps)).sum ≤ ps.length * 9 := sum_le (fun x hx' => by unfold r2; have := hx x hx'; split <;> omega)
    have hrt' : su law (ps.getD p 0) (ps.count (ps.getD p 0)) = true := hrt
    rw [dn_list law share hx]
    simp only [if_pos hrt']
    by_cases h0 : share = 0
    · subst h0
      have e1 : (ps.map (fun y => if rt law ps y then wt 0 y else 0)).sum = (ps.map (r1 law ps)).sum := by unfold r1 wt; rfl
      have hpos : 0 < (ps.map (r1 law ps)).sum := sum_pos (gd_mem hp) (by unfold r1; rw [if_pos hrt]; omega)
      rw [e1]
      have ew : wt 0 (ps.getD p 0) = 1 := rfl
      rw [ew, Nat.mul_one, pk_div (by omega) hpos (by omega)]
      simp (disch := omega) only [zl_0, zl_1, zl_2, zl_3, zl_4, zl_5, zl_6, zl_7, zl_8, zl_9, zl_10, zl_11, zl_12, zl_15, zl_16, zl_20, zl_40, zl_48, zl_60, zl_78, zl_80, zl_84, zl_99, zl_100, zl_128, zl_160, zl_255, zl_999, zl_1000, zl_1023, nI_leI, nI_ltI, nI_eq, nI_clamp, nI_add, bnd1_k, bnd2_k, bnd3_k, bnd4_k, if_pos, if_neg, if_true, if_false, Nat.not_lt_zero, false_or, or_false]
    · have h1 : share = 1 := by omega
      subst h1
      have e1 : (ps.map (fun y => if rt law ps y then wt 1 y else 0)).sum = (ps.map (r2 law ps)).sum := by unfold r2 wt; rfl
      rw [e1]
      have ew : wt 1 (ps.getD p 0) = ps.getD p 0 := rfl
      rw [ew]
      by_cases hz : (ps.map (r2 law ps)).sum = 0
      · simp (disch := omega) only [zl_0, zl_1, zl_2, zl_3, zl_4, zl_5, zl_6, zl_7, zl_8, zl_9, zl_10, zl_11, zl_12, zl_15, zl_16, zl_20, zl_40, zl_48, zl_60, zl_78, zl_80, zl_84, zl_99, zl_100, zl_128, zl_160, zl_255, zl_999, zl_1000, zl_1023, nI_leI, nI_ltI, nI_eq, nI_clamp, nI_add, bnd1_k, bnd2_k, bnd3_k, bnd4_k, if_pos, if_neg, if_true, if_false, Nat.not_lt_zero, false_or, or_false, hz, Nat.div_zero]
      · have hm : pot * ps.getD p 0 ≤ 999 * 9 := Nat.mul_le_mul hpot (by omega)
        simp (disch := omega) only [zl_0, zl_1, zl_2, zl_3, zl_4, zl_5, zl_6, zl_7, zl_8, zl_9, zl_10, zl_11, zl_12, zl_15, zl_16, zl_20, zl_40, zl_48, zl_60, zl_78, zl_80, zl_84, zl_99, zl_100, zl_128, zl_160, zl_255, zl_999, zl_1000, zl_1023, nI_leI, nI_ltI, nI_eq, nI_clamp, nI_add, bnd1_k, bnd2_k, bnd3_k, bnd4_k, if_pos, if_neg, if_true, if_false, Nat.not_lt_zero, false_or, or_false, hr, pk_mul, pk_div]
  · simp only [if_neg hrt]
    unfold gt gn
    rw [if_neg (show ¬ su law (ps.getD p 0) (ps.count (ps.getD p 0)) = true from hrt)]
    rfl
