/-! sums, counts, rules -/
def sr (n : Nat) (f : Nat → Nat) : Nat := match n with | 0 => 0 | n + 1 => sr n f + f n
theorem sr_s (n : Nat) (f : Nat → Nat) : sr (n + 1) f = sr n f + f n := rfl
theorem sr_congr {n : Nat} {f g : Nat → Nat} (h : ∀ i, i < n → f i = g i) : sr n f = sr n g := by
  induction n with
  | zero => rfl
  | succ n ih => rw [sr_s, sr_s, ih (fun i hi => h i (by omega)), h n (by omega)]
theorem sr_add (n : Nat) (f g : Nat → Nat) : sr n (fun i => f i + g i) = sr n f + sr n g := by
  induction n with
  | zero => rfl
  | succ n ih => rw [sr_s, sr_s, sr_s, ih]; omega
theorem sr_zero (n : Nat) : sr n (fun _ => 0) = 0 := by
  induction n with
  | zero => rfl
  | succ n ih => rw [sr_s, ih]
theorem sr_one {n x : Nat} (h : x < n) (c : Nat) : sr n (fun i => if i = x then c else 0) = c := by
  induction n with
  | zero => omega
  | succ n ih =>
    rw [sr_s]
    by_cases hx : x = n
    · subst hx
      rw [if_pos rfl, sr_congr (g := fun _ => 0) (fun i hi => if_neg (by omega)), sr_zero]; omega
    · rw [ih (by omega), if_neg (by omega)]; omega
theorem sr_le {n : Nat} {f g : Nat → Nat} (h : ∀ i, i < n → f i ≤ g i) : sr n f ≤ sr n g := by
  induction n with
  | zero => exact Nat.le_refl _
  | succ n ih => rw [sr_s, sr_s]; have := ih (fun i hi => h i (by omega)); have := h n (by omega); omega
/-- one place changed -/
theorem sr_upd {n x : Nat} {f g : Nat → Nat} (hx : x < n) (h : ∀ i, i < n → i ≠ x → g i = f i) : sr n g + f x = sr n f + g x := by
  induction n with
  | zero => omega
  | succ n ih =>
    rw [sr_s, sr_s]
    by_cases e : x = n
    · subst e
      rw [sr_congr (f := g) (g := f) (fun i hi => h i (by omega) (by omega))]; omega
    · have := ih (by omega) (fun i hi hne => h i (by omega) hne)
      rw [h n (by omega) (fun q => e q.symm)]; omega
theorem sum_cnt (ps : List Nat) (N : Nat) (g : Nat → Nat) (h : ∀ x ∈ ps, x < N) : (ps.map g).sum = sr N (fun d => ps.count d * g d) := by
  induction ps with
  | nil => simp [sr_zero]
  | cons a t ih =>
    have ha : a < N := h a (by simp)
    rw [List.map_cons, List.sum_cons, ih (fun x hx => h x (by simp [hx]))]
    have e : sr N (fun d => (a :: t).count d * g d) = sr N (fun d => t.count d * g d + if d = a then g a else 0) := by
      apply sr_congr
      intro i _
      rw [List.count_cons]
      by_cases hi : i = a
      · subst hi; simp [Nat.add_mul]
      · have : ¬ (a == i) = true := by simp; omega
        simp [this, hi]
    rw [e, sr_add, sr_one ha]; omega
def bb (b d : Nat) : Nat := b / 2 ^ d % 2
theorem bb_lt (b d : Nat) : bb b d < 2 := Nat.mod_lt _ (by decide)
theorem sh_ok : ∀ d, d < 10 → ((nI d &&& 31).toBitVec.smod 32).toNat = d := by decide +kernel
theorem bit_spec {b d : Nat} (hb : b < 1024) (hd : d < 10) : (nI b >>> (nI d &&& 31)) &&& 1 = nI (bb b d) := by
  rw [pk_shrN (by omega) _ d (sh_ok d hd)]
  have h2 : b / 2 ^ d ≤ b := Nat.div_le_self _ _
  exact pk_andN (by omega) 1 (by decide)
theorem open_spec {b d : Nat} (hb : b < 1024) (hd : d < 10) : X8_isOpen (nI b) (nI d) = if bb b d = 0 then 1 else 0 := by
  unfold X8_isOpen
  rw [num_spec, nI_toInt (by omega), if_pos (show (0 : Int) ≤ d ∧ (d : Int) < 10 by omega), if_neg (show ¬ (1 : Int32) = 0 by decide), bit_spec hb hd]
  have := bb_lt b d
  simp (disch := omega) only [zl_0, zl_1, zl_2, zl_3, zl_4, zl_5, zl_6, zl_7, zl_8, zl_9, zl_10, zl_11, zl_12, zl_15, zl_16, zl_20, zl_40, zl_48, zl_60, zl_78, zl_80, zl_84, zl_99, zl_100, zl_128, zl_160, zl_255, zl_999, zl_1000, zl_1023, nI_leI, nI_ltI, nI_eq, nI_clamp, nI_add, bnd1_k, bnd2_k, bnd3_k, bnd4_k, if_pos, if_neg, if_true, if_false, Nat.not_lt_zero, false_or, or_false]
theorem open_out {b p : Int32} (h : ¬ (0 ≤ p.toInt ∧ p.toInt < 10)) : X8_isOpen b p = 0 := by
  unfold X8_isOpen
  rw [num_spec, if_neg h, if_pos rfl]
theorem bar_spec {b d : Nat} (hb : b < 1024) (hd : d < 10) : X11_isBarred (nI b) (nI d) = if bb b d = 0 then 0 else 1 := by
  unfold X11_isBarred
  rw [bit_spec hb hd]
  have := bb_lt b d
  by_cases h : bb b d = 0
  · simp (disch := omega) only [zl_0, zl_1, zl_2, zl_3, zl_4, zl_5, zl_6, zl_7, zl_8, zl_9, zl_10, zl_11, zl_12, zl_15, zl_16, zl_20, zl_40, zl_48, zl_60, zl_78, zl_80, zl_84, zl_99, zl_100, zl_128, zl_160, zl_255, zl_999, zl_1000, zl_1023, nI_leI, nI_ltI, nI_eq, nI_clamp, nI_add, bnd1_k, bnd2_k, bnd3_k, bnd4_k, if_pos, if_neg, if_true, if_false, Nat.not_lt_zero, false_or, or_false, h]
  · have h1 : bb b d = 1 := by omega
    simp (disch := omega) only [zl_0, zl_1, zl_2, zl_3, zl_4, zl_5, zl_6, zl_7, zl_8, zl_9, zl_10, zl_11, zl_12, zl_15, zl_16, zl_20, zl_40, zl_48, zl_60, zl_78, zl_80, zl_84, zl_99, zl_100, zl_128, zl_160, zl_255, zl_999, zl_1000, zl_1023, nI_leI, nI_ltI, nI_eq, nI_clamp, nI_add, bnd1_k, bnd2_k, bnd3_k, bnd4_k, if_pos, if_neg, if_true, if_false, Nat.not_lt_zero, false_or, or_false, h1]
def su (law d n : Nat) : Bool := if law = 0 then n == d else if law = 1 then decide (d ≤ n) else decide (n ≤ d)
theorem suits_spec {law d n : Nat} (hl : law ≤ 2) (hd : d < 1000) (hn : n < 1000) : X8_suits (nI law) (nI d) (nI n) = if su law d n then 1 else 0 := by
  unfold X8_suits su
  by_cases h0 : law = 0
  · subst h0
    by_cases h : n = d
    · simp (disch := omega) only [zl_0, zl_1, zl_2, zl_3, zl_4, zl_5, zl_6, zl_7, zl_8, zl_9, zl_10, zl_11, zl_12, zl_15, zl_16, zl_20, zl_40, zl_48, zl_60, zl_78, zl_80, zl_84, zl_99, zl_100, zl_128, zl_160, zl_255, zl_999, zl_1000, zl_1023, nI_leI, nI_ltI, nI_eq, nI_clamp, nI_add, bnd1_k, bnd2_k, bnd3_k, bnd4_k, if_pos, if_neg, if_true, if_false, Nat.not_lt_zero, false_or, or_false, beq_iff_eq]
    · simp (disch := omega) only [zl_0, zl_1, zl_2, zl_3, zl_4, zl_5, zl_6, zl_7, zl_8, zl_9, zl_10, zl_11, zl_12, zl_15, zl_16, zl_20, zl_40, zl_48, zl_60, zl_78, zl_80, zl_84, zl_99, zl_100, zl_128, zl_160, zl_255, zl_999, zl_1000, zl_1023, nI_leI, nI_ltI, nI_eq, nI_clamp, nI_add, bnd1_k, bnd2_k, bnd3_k, bnd4_k, if_pos, if_neg, if_true, if_false, Nat.not_lt_zero, false_or, or_false, beq_iff_eq]
  · by_cases h1 : law = 1
    · subst h1
      by_cases h : n < d
      · simp (disch := omega) only [zl_0, zl_1, zl_2, zl_3, zl_4, zl_5, zl_6, zl_7, zl_8, zl_9, zl_10, zl_11, zl_12, zl_15, zl_16, zl_20, zl_40, zl_48, zl_60, zl_78, zl_80, zl_84, zl_99, zl_100, zl_128, zl_160, zl_255, zl_999, zl_1000, zl_1023, nI_leI, nI_ltI, nI_eq, nI_clamp, nI_add, bnd1_k, bnd2_k, bnd3_k, bnd4_k, if_pos, if_neg, if_true, if_false, Nat.not_lt_zero, false_or, or_false, decide_eq_true_eq]
      · simp (disch := omega) only [zl_0, zl_1, zl_2, zl_3, zl_4, zl_5, zl_6, zl_7, zl_8, zl_9, zl_10, zl_11, zl_12, zl_15, zl_16, zl_20, zl_40, zl_48, zl_60, zl_78, zl_80, zl_84, zl_99, zl_100, zl_128, zl_160, zl_255, zl_999, zl_1000, zl_1023, nI_leI, nI_ltI, nI_eq, nI_clamp, nI_add, bnd1_k, bnd2_k, bnd3_k, bnd4_k, if_pos, if_neg, if_true, if_false, Nat.not_lt_zero, false_or, or_false, decide_eq_true_eq]
    · by_cases h : d < n
      · simp (disch := omega) only [zl_0, zl_1, zl_2, zl_3, zl_4, zl_5, zl_6, zl_7, zl_8, zl_9, zl_10, zl_11, zl_12, zl_15, zl_16, zl_20, zl_40, zl_48, zl_60, zl_78, zl_80, zl_84, zl_99, zl_100, zl_128, zl_160, zl_255, zl_999, zl_1000, zl_1023, nI_leI, nI_ltI, nI_eq, nI_clamp, nI_add, bnd1_k, bnd2_k, bnd3_k, bnd4_k, if_pos, if_neg, if_true, if_false, Nat.not_lt_zero, false_or, or_false, decide_eq_true_eq]
      · simp (disch := omega) only [zl_0, zl_1, zl_2, zl_3, zl_4, zl_5, zl_6, zl_7, zl_8, zl_9, zl_10, zl_11, zl_12, zl_15, zl_16, zl_20, zl_40, zl_48, zl_60, zl_78, zl_80, zl_84, zl_99, zl_100, zl_128, zl_160, zl_255, zl_999, zl_1000, zl_1023, nI_leI, nI_ltI, nI_eq, nI_clamp, nI_add, bnd1_k, bnd2_k, bnd3_k, bnd4_k, if_pos, if_neg, if_true, if_false, Nat.not_lt_zero, false_or, or_false, decide_eq_true_eq]
theorem fine_eq (law d n : Int32) : X11_isFine law d n = X8_suits law d n := rfl
def wt (share y : Nat) : Nat := if share = 0 then 1 else y
theorem weight_spec {share y : Nat} (hs : share ≤ 1) : X8_weight (nI share) (nI y) = nI (wt share y) := by
  unfold X8_weight wt
  by_cases h : share = 0
  · simp (disch := omega) only [zl_0, zl_1, zl_2, zl_3, zl_4, zl_5, zl_6, zl_7, zl_8, zl_9, zl_10, zl_11, zl_12, zl_15, zl_16, zl_20, zl_40, zl_48, zl_60, zl_78, zl_80, zl_84, zl_99, zl_100, zl_128, zl_160, zl_255, zl_999, zl_1000, zl_1023, nI_leI, nI_ltI, nI_eq, nI_clamp, nI_add, bnd1_k, bnd2_k, bnd3_k, bnd4_k, if_pos, if_neg, if_true, if_false, Nat.not_lt_zero, false_or, or_false, h]
  · simp (disch := omega) only [zl_0, zl_1, zl_2, zl_3, zl_4, zl_5, zl_6, zl_7, zl_8, zl_9, zl_10, zl_11, zl_12, zl_15, zl_16, zl_20, zl_40, zl_48, zl_60, zl_78, zl_80, zl_84, zl_99, zl_100, zl_128, zl_160, zl_255, zl_999, zl_1000, zl_1023, nI_leI, nI_ltI, nI_eq, nI_clamp, nI_add, bnd1_k, bnd2_k, bnd3_k, bnd4_k, if_pos, if_neg, if_true, if_false, Nat.not_lt_zero, false_or, or_false]
def cl (law share d n : Nat) : Nat := if su law d n then n * wt share d else 0
theorem wt_le {share y : Nat} (hy : y < 10) : wt share y ≤ 9 := by unfold wt; split <;> omega
theorem cl_le {law share d n : Nat} (hd : d < 10) : cl law share d n ≤ n * 9 := by
  unfold cl
  split
  · exact Nat.mul_le_mul_left n (wt_le hd)
  · exact Nat.zero_le _
theorem claim_spec {law share d n : Nat} (hl : law ≤ 2) (hs : share ≤ 1) (hd : d < 10) (hn : n < 1000) : X8_claim (nI law) (nI share) (nI d) (nI n) = nI (cl law share d n) := by
  unfold X8_claim cl
  rw [suits_spec hl (by omega) hn, weight_spec hs, pk_mul]
  by_cases h : su law d n = true
  · simp only [if_pos h]; rfl
  · simp only [if_neg h]; rfl
/-- what the pot is divided by -/
def dn (law share : Nat) (c : Nat → Nat) : Nat := sr 10 (fun d => cl law share d (c d))
theorem claims_spec {law share : Nat} {c : Nat → Nat} {f : Nat → Int32} (hl : law ≤ 2) (hs : share ≤ 1) (hc : ∀ d, d < 10 → c d < 1000 ∧ f d = nI (c d)) : X8_claims (nI law) (nI share) f = some (nI (dn law share c)) := by
  unfold X8_claims
  refine lup (fun n i => X8_claims_b4 n (nI law) (nI share) f (nI (sr i (fun d => cl law share d (c d)))) (nI i)) 10 _ ?_ ?_ fU 0 (by omega) (fU_gt (by omega))
  · intro n i hi
    show X8_claims_b4_s (X8_claims_b4 n) _ _ _ _ _ = _
    unfold X8_claims_b4_s
    simp (disch := omega) only [zl_0, zl_1, zl_2, zl_3, zl_4, zl_5, zl_6, zl_7, zl_8, zl_9, zl_10, zl_11, zl_12, zl_15, zl_16, zl_20, zl_40, zl_48, zl_60, zl_78, zl_80, zl_84, zl_99, zl_100, zl_128, zl_160, zl_255, zl_999, zl_1000, zl_1023, nI_leI, nI_ltI, nI_eq, nI_clamp, nI_add, bnd1_k, bnd2_k, bnd3_k, bnd4_k, if_pos, if_neg, if_true, if_false, Nat.not_lt_zero, false_or, or_false]
    rw [(hc i hi).2, claim_spec hl hs hi (hc i hi).1, nI_add]
    rfl
  · intro n
    show X8_claims_b4_s (X8_claims_b4 n) _ _ _ _ _ = _
    unfold X8_claims_b4_s
    simp (disch := omega) only [zl_0, zl_1, zl_2, zl_3, zl_4, zl_5, zl_6, zl_7, zl_8, zl_9, zl_10, zl_11, zl_12, zl_15, zl_16, zl_20, zl_40, zl_48, zl_60, zl_78, zl_80, zl_84, zl_99, zl_100, zl_128, zl_160, zl_255, zl_999, zl_1000, zl_1023, nI_leI, nI_ltI, nI_eq, nI_clamp, nI_add, bnd1_k, bnd2_k, bnd3_k, bnd4_k, if_pos, if_neg, if_true, if_false, Nat.not_lt_zero, false_or, or_false]
    rfl
def gn (law share pot d n den : Nat) : Nat := if su law d n then pot * wt share d / den else 0
theorem gain_spec {law share pot d n den : Nat} (hl : law ≤ 2) (hs : share ≤ 1) (hp : pot ≤ 999) (hd : d < 10) (hn : n < 1000) (hden : den < 10000) : X8_gain (nI law) (nI share) (nI pot) (nI d) (nI n) (nI den) = some (nI (gn law share pot d n den)) := by
  unfold X8_gain gn
  have hw := wt_le (share := share) hd
  have hm : pot * wt share d ≤ 999 * 9 := Nat.mul_le_mul hp hw
  rw [suits_spec hl (by omega) hn, weight_spec hs, pk_mul]
  by_cases h0 : den = 0
  · subst h0
    simp (disch := omega) only [zl_0, zl_1, zl_2, zl_3, zl_4, zl_5, zl_6, zl_7, zl_8, zl_9, zl_10, zl_11, zl_12, zl_15, zl_16, zl_20, zl_40, zl_48, zl_60, zl_78, zl_80, zl_84, zl_99, zl_100, zl_128, zl_160, zl_255, zl_999, zl_1000, zl_1023, nI_leI, nI_ltI, nI_eq, nI_clamp, nI_add, bnd1_k, bnd2_k, bnd3_k, bnd4_k, if_pos, if_neg, if_true, if_false, Nat.not_lt_zero, false_or, or_false, Nat.div_zero, ite_self]
  · by_cases h : su law d n = true
    · rw [pk_div (by omega) (by omega) (by omega)]
      simp only [if_pos h]
      simp (disch := omega) only [zl_0, zl_1, zl_2, zl_3, zl_4, zl_5, zl_6, zl_7, zl_8, zl_9, zl_10, zl_11, zl_12, zl_15, zl_16, zl_20, zl_40, zl_48, zl_60, zl_78, zl_80, zl_84, zl_99, zl_100, zl_128, zl_160, zl_255, zl_999, zl_1000, zl_1023, nI_leI, nI_ltI, nI_eq, nI_clamp, nI_add, bnd1_k, bnd2_k, bnd3_k, bnd4_k, if_pos, if_neg, if_true, if_false, Nat.not_lt_zero, false_or, or_false]
    · simp only [if_neg h]
      simp (disch := omega) only [zl_0, zl_1, zl_2, zl_3, zl_4, zl_5, zl_6, zl_7, zl_8, zl_9, zl_10, zl_11, zl_12, zl_15, zl_16, zl_20, zl_40, zl_48, zl_60, zl_78, zl_80, zl_84, zl_99, zl_100, zl_128, zl_160, zl_255, zl_999, zl_1000, zl_1023, nI_leI, nI_ltI, nI_eq, nI_clamp, nI_add, bnd1_k, bnd2_k, bnd3_k, bnd4_k, if_pos, if_neg, if_true, if_false, Nat.not_lt_zero, false_or, or_false]
