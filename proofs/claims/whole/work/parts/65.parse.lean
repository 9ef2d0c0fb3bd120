/-! figures, letters, the numbers that may yet be barred -/
theorem bb_0 (d : Nat) : bb 0 d = 0 := by unfold bb; rw [Nat.zero_div]
theorem srch_ex (c : Nat → Bool) : ∀ m i, srch c (fun _ => true) false i m = true ↔ ∃ d, i ≤ d ∧ d < i + m ∧ c d = true := by
  intro m
  induction m with
  | zero =>
    intro i
    unfold srch
    constructor
    · intro h; cases h
    · rintro ⟨d, h1, h2, -⟩; omega
  | succ m ih =>
    intro i
    unfold srch
    by_cases h : c i = true
    · rw [if_pos h]
      exact ⟨fun _ => ⟨i, Nat.le_refl _, by omega, h⟩, fun _ => rfl⟩
    · rw [if_neg h, ih (i + 1)]
      constructor
      · rintro ⟨d, h1, h2, h3⟩; exact ⟨d, by omega, by omega, h3⟩
      · rintro ⟨d, h1, h2, h3⟩
        refine ⟨d, ?_, by omega, h3⟩
        by_cases e : d = i
        · subst e; exact absurd h3 h
        · omega
/-- a number that may yet be barred -/
def fr (b : Nat) (ps : List Nat) (d : Nat) : Bool := decide (bb b d = 0) && decide (ps.count d = 0)
def frE (b : Nat) (ps : List Nat) : Bool := srch (fr b ps) (fun _ => true) false 0 10
theorem frE_iff (b : Nat) (ps : List Nat) : frE b ps = true ↔ ∃ d, d < 10 ∧ fr b ps d = true := by
  unfold frE
  rw [srch_ex]
  constructor
  · rintro ⟨d, -, h2, h3⟩; exact ⟨d, by omega, h3⟩
  · rintro ⟨d, h2, h3⟩; exact ⟨d, Nat.zero_le _, by omega, h3⟩
theorem canBar_spec {ps : List Nat} {size : Int32} {nm ct : Nat → Int32} {b d : Nat} (hb : b < 1024) (hC : PC ps size nm ct) (hd : d < 10) : X6_canBeBarred (nI b) ct (nI d) = some (if fr b ps d then 1 else 0) := by
  unfold X6_canBeBarred fr
  have hc9 := cnt_le hC.1.1 d
  rw [open_spec hb hd, many_spec hC hd, bnd1_k]
  have c10 : ¬ (1 : Int32) = 0 := by decide
  by_cases h0 : bb b d = 0
  · by_cases h1 : ps.count d = 0
    · simp only [h0, h1, if_true, if_neg c10, decide_true, Bool.and_self]
      rw [if_pos (show nI 0 = 0 from rfl)]
    · have h2 : ¬ nI (ps.count d) = 0 := nI_ne0 (by omega) (by omega)
      simp only [h0, h1, if_true, if_neg c10, if_neg h2, decide_true, decide_false, Bool.and_false, Bool.false_eq_true, if_false]
  · simp only [h0, if_false, if_true, decide_false, Bool.false_and, Bool.false_eq_true]
theorem someBar_spec {ps : List Nat} {size : Int32} {nm ct : Nat → Int32} {b : Nat} (hb : b < 1024) (hC : PC ps size nm ct) : X6_someCanBeBarred (nI b) ct = some (if frE b ps then 1 else 0) := by
  unfold X6_someCanBeBarred frE
  have e : some (if srch (fr b ps) (fun _ => true) false 0 10 = true then (1 : Int32) else 0) = srch (fr b ps) (fun _ => some 1) (some 0) 0 10 := (srch_map (fun x : Bool => some (if x = true then (1 : Int32) else 0)) (fr b ps) (fun _ => true) false 10 0).symm
  rw [e]
  refine lupF (fr b ps) (fun _ => some 1) (some 0) (fun n i => X6_someCanBeBarred_b2 n (nI b) ct (nI i)) 10 ?_ ?_ fU 0 (by omega) (fU_gt (by omega))
  · intro n i hi
    show X6_someCanBeBarred_b2_s (X6_someCanBeBarred_b2 n) _ _ _ = _
    unfold X6_someCanBeBarred_b2_s
    rw [canBar_spec hb hC hi, bnd1_k, nI_1, if_neg (show ¬ (10 : Int32) ≤ nI i from nI_ge (b := 10) (by omega) (by omega))]
    by_cases h : fr b ps i = true
    · simp only [if_pos h]; rw [if_neg (show ¬ (1 : Int32) = 0 by decide)]
    · simp only [if_neg h, if_true]
  · intro n
    show X6_someCanBeBarred_b2_s (X6_someCanBeBarred_b2 n) _ _ _ = _
    unfold X6_someCanBeBarred_b2_s
    simp (disch := omega) only [zl_0, zl_1, zl_2, zl_3, zl_4, zl_5, zl_6, zl_7, zl_8, zl_9, zl_10, zl_11, zl_12, zl_15, zl_16, zl_20, zl_40, zl_48, zl_60, zl_78, zl_80, zl_84, zl_99, zl_100, zl_128, zl_160, zl_255, zl_999, zl_1000, zl_1023, nI_leI, nI_ltI, nI_eq, nI_clamp, nI_add, bnd1_k, bnd2_k, bnd3_k, bnd4_k, if_pos, if_neg, if_true, if_false, Nat.not_lt_zero, false_or, or_false]
/-- the model's mask of those numbers -/
def fmi (b : Nat) (ps : List Nat) : Nat → Nat
  | 0 => 1023 - b
  | i + 1 => clr (fmi b ps i) (ps.getD i 0)
theorem fmi_ok {b : Nat} {ps : List Nat} (hb : b < 1024) (hx : ∀ x ∈ ps, x < 10) : ∀ i, i ≤ ps.length → fmi b ps i < 1024 ∧ ∀ d, d < 10 → bb (fmi b ps i) d = if bb b d = 0 ∧ (ps.take i).count d = 0 then 1 else 0 := by
  intro i
  induction i with
  | zero =>
    intro _
    refine ⟨by unfold fmi; omega, fun d hd => ?_⟩
    unfold fmi
    rw [bm_2 b hb d hd]
    have := bb_lt b d
    by_cases h : bb b d = 0
    · simp [h]
    · have h1 : bb b d = 1 := by omega
      simp [h1]
  | succ i ih =>
    intro hi
    obtain ⟨h1, h2⟩ := ih (by omega)
    have hg := hx _ (gd_mem (show i < ps.length by omega))
    refine ⟨(bm_3 _ h1 _ hg).2, fun d hd => ?_⟩
    unfold fmi
    rw [bm_4 _ h1 _ hg d hd, h2 d hd, take_cnt (by omega)]
    by_cases e : d = ps.getD i 0
    · rw [if_pos e, if_pos e.symm, if_neg (fun q => by omega)]
    · rw [if_neg e, if_neg (show ¬ ps.getD i 0 = d from fun q => e q.symm), Nat.add_zero]
theorem free_spec {b : Nat} {ps : List Nat} {many : Int32} {sl : Nat → Int32} (hb : b < 1024) (hM : PM ps many sl) : X11_free many (nI b) sl = some (if pcn b = 9 then 0 else nI (fmi b ps ps.length)) := by
  obtain ⟨hn, hx, e, hr⟩ := hM
  have hp10 : pcn b ≤ 10 := by have := oc_pc b 10; show sr 10 _ ≤ 10; omega
  unfold X11_free
  rw [bm_1 b hb]
  refine lup (fun n i => X11_free_b13 n many (nI b) sl (nI (fmi b ps i)) (nI i)) ps.length _ ?_ ?_ fU 0 (by omega) (fU_gt (by omega))
  · intro n i hi
    show X11_free_b13_s (X11_free_b13 n) _ _ _ _ _ = X11_free_b13 n _ _ _ (nI (clr (fmi b ps i) (ps.getD i 0))) _
    unfold X11_free_b13_s
    have h1 := (fmi_ok hb hx i (by omega)).1
    have hg := hx _ (gd_mem hi)
    have e3 := (bm_3 _ h1 _ hg).1
    rw [e, if_neg (nI_ge hi (by omega)), if_neg (ix_ok (by omega) (by omega)), nI_clamp (by omega), hr i hi, e3, nI_1]
  · intro n
    show X11_free_b13_s (X11_free_b13 n) _ _ _ _ _ = _
    unfold X11_free_b13_s X11_free_b40
    rw [e, if_pos (nI_le (Nat.le_refl _) (by omega)), ones_spec hb, bnd1_k]
    by_cases h : pcn b = 9
    · rw [if_pos h, h, if_pos (show nI 9 = 9 from rfl)]
    · rw [if_neg h, if_neg (show ¬ nI (pcn b) = 9 from fun q => h ((nI_eq (b := 9) (by omega) (by omega)).mp q))]
theorem free_bits {b : Nat} {ps : List Nat} (hb : b < 1024) (hx : ∀ x ∈ ps, x < 10) : fmi b ps ps.length < 1024 ∧ (∀ d, d < 10 → bb (fmi b ps ps.length) d = if fr b ps d then 1 else 0) ∧ (fmi b ps ps.length = 0 ↔ ¬ frE b ps = true) := by
  obtain ⟨h1, h2⟩ := fmi_ok hb hx ps.length (Nat.le_refl _)
  rw [List.take_length] at h2
  have h3 : ∀ d, d < 10 → bb (fmi b ps ps.length) d = if fr b ps d then 1 else 0 := by
    intro d hd
    rw [h2 d hd]
    unfold fr
    by_cases a : bb b d = 0 <;> by_cases c : ps.count d = 0 <;> simp [a, c]
  refine ⟨h1, h3, ?_⟩
  rw [frE_iff]
  constructor
  · rintro h0 ⟨d, hd, hf⟩
    have := h3 d hd
    rw [h0, bb_0, if_pos hf] at this
    cases this
  · intro h
    rcases bm_7 _ h1 with q | ⟨d, hd, q⟩
    · exact q
    · rw [h3 d hd] at q
      by_cases hf : fr b ps d = true
      · exact absurd ⟨d, hd, hf⟩ h
      · rw [if_neg hf] at q; cases q
/-! figures -/
theorem m48 {t : Nat} (ht : t < 256) : (nI t - 48 : Int32).toInt = (t : Int) - 48 := pk_sub_toInt (a := t) (b := 48) (by omega) (by omega)
theorem num48 {t : Nat} (ht : t < 256) : X10_isNumber (nI t - 48) = if 48 ≤ t ∧ t ≤ 57 then 1 else 0 := by
  rw [num_spec, m48 ht]
  by_cases h : 48 ≤ t ∧ t ≤ 57
  · rw [if_pos h, if_pos (by omega)]
  · rw [if_neg h, if_neg (by omega)]
/-- a place that holds a figure of those allowed -/
def okf (L : Nat) (tx : Nat → Nat) (j a : Nat) : Bool := decide (j < L) && decide (48 ≤ tx j) && decide (tx j ≤ 57) && decide (bb a (tx j - 48) = 1)
theorem okf_iff {L : Nat} {tx : Nat → Nat} {j a : Nat} : okf L tx j a = true ↔ j < L ∧ 48 ≤ tx j ∧ tx j ≤ 57 ∧ bb a (tx j - 48) = 1 := by
  unfold okf
  simp only [Bool.and_eq_true, decide_eq_true_eq, and_assoc]
theorem figure_ok {L : Nat} {tx : Nat → Nat} {len : Int32} {f : Nat → Int32} {j a : Nat} (hT : TX L tx len f) (ha : a < 1024) (h : okf L tx j a = true) : X11_figure len (nI j) (-9) f (nI a) = some (nI (tx j - 48), nI (j + 1), -9) := by
  obtain ⟨h1, h2, h3, h4⟩ := okf_iff.mp h
  obtain ⟨hL, e, hf⟩ := hT
  unfold X11_figure X11_figure_b36
  have e48 : nI (tx j) - 48 = nI (tx j - 48) := pk_sub (b := 48) h2
  rw [if_pos rfl, e, if_neg (nI_ge h1 (by omega)), if_neg (ix_ok (by omega) (by omega)), nI_clamp (by omega), (hf j h1).2, in_spec, m48 (hf j h1).1]
  have e0 : (0 : Int64).toInt = 0 := rfl
  have e9 : (9 : Int64).toInt = 9 := rfl
  rw [e0, e9, if_pos (show 0 ≤ (tx j : Int) - 48 ∧ (tx j : Int) - 48 ≤ 9 by omega), if_neg (show ¬ (1 : Int32) = 0 by decide), e48, bit_spec ha (by omega), h4, nI_1]
  rfl
theorem figure_bad {L : Nat} {tx : Nat → Nat} {len : Int32} {f : Nat → Int32} {j a : Nat} (hT : TX L tx len f) (hj : j ≤ 40) (ha : a < 1024) (h : ¬ okf L tx j a = true) : X11_figure len (nI j) (-9) f (nI a) = some (0, nI j, nI j) := by
  obtain ⟨hL, e, hf⟩ := hT
  have e0 : (0 : Int64).toInt = 0 := rfl
  have e9 : (9 : Int64).toInt = 9 := rfl
  have em1 : (-1 : Int32).toInt = -1 := by decide
  unfold X11_figure X11_figure_b35 X11_figure_b36 X11_figure_b57 X11_figure_b78
  rw [if_pos rfl, e]
  by_cases h1 : j < L
  · rw [if_neg (nI_ge h1 (by omega)), if_neg (ix_ok (by omega) (by omega)), nI_clamp (by omega), (hf j h1).2, in_spec, m48 (hf j h1).1, e0, e9]
    by_cases h2 : 48 ≤ tx j ∧ tx j ≤ 57
    · have e48 : nI (tx j) - 48 = nI (tx j - 48) := pk_sub (b := 48) h2.1
      have h3 : bb a (tx j - 48) = 0 := by
        have := bb_lt a (tx j - 48)
        by_cases q : bb a (tx j - 48) = 1
        · exact absurd (okf_iff.mpr ⟨h1, h2.1, h2.2, q⟩) h
        · omega
      rw [if_pos (show 0 ≤ (tx j : Int) - 48 ∧ (tx j : Int) - 48 ≤ 9 by omega), if_neg (show ¬ (1 : Int32) = 0 by decide), e48, bit_spec ha (by omega), h3, if_pos rfl, if_pos (show nI 0 = 0 from rfl)]
    · rw [if_neg (show ¬ (0 ≤ (tx j : Int) - 48 ∧ (tx j : Int) - 48 ≤ 9) by omega), if_pos rfl, if_pos rfl]
  · rw [if_pos (nI_le (by omega) (by omega)), in_spec, e0, e9, em1, if_neg (show ¬ ((0 : Int) ≤ -1 ∧ (-1 : Int) ≤ 9) by omega), if_pos rfl, if_pos rfl]
theorem nI_ne9 {j : Nat} (h : j ≤ 1000) : ¬ nI j = -9 := by
  rw [z_eq, nI_toInt (by omega)]
  have : (-9 : Int32).toInt = -9 := by decide
  omega
theorem figure_skip {len at' : Int32} {f : Nat → Int32} {j : Nat} (hj : j ≤ 1000) (a : Int32) : X11_figure len at' (nI j) f a = some (0, at', nI j) := by
  have e0 : (0 : Int64).toInt = 0 := rfl
  have e9 : (9 : Int64).toInt = 9 := rfl
  have em1 : (-1 : Int32).toInt = -1 := by decide
  unfold X11_figure X11_figure_b35 X11_figure_b36 X11_figure_b57 X11_figure_b78
  rw [if_neg (nI_ne9 hj), in_spec, e0, e9, em1, if_neg (show ¬ ((0 : Int) ≤ -1 ∧ (-1 : Int) ≤ 9) by omega), if_pos rfl, if_neg (nI_ne9 hj)]
