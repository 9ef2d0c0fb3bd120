/-! fractions; allRight, mean, forget -/
theorem ch_big : ∀ n k, n < k → ch n k = 0 := by
  intro n
  induction n with
  | zero => intro k hk; cases k with
    | zero => omega
    | succ k => rfl
  | succ n ih => intro k hk; cases k with
    | zero => omega
    | succ k => unfold ch; rw [ih k (by omega), ih (k + 1) (by omega)]
theorem ch_0 (n : Nat) : ch n 0 = 1 := by cases n <;> rfl
theorem bin (x y : Nat) : ∀ m, sr (m + 1) (fun c => ch m c * x ^ c * y ^ (m - c)) = (x + y) ^ m := by
  intro m
  induction m with
  | zero => rfl
  | succ m ih =>
    rw [Nat.pow_succ, ← ih, Nat.mul_add, Nat.mul_comm _ x, Nat.mul_comm _ y, ← sr_mul, ← sr_mul]
    rw [sr_shift]
    have e1 : sr (m + 1) (fun i => ch (m + 1) (i + 1) * x ^ (i + 1) * y ^ (m + 1 - (i + 1))) = sr (m + 1) (fun i => x * (ch m i * x ^ i * y ^ (m - i))) + sr (m + 1) (fun i => ch m (i + 1) * x ^ (i + 1) * y ^ (m - i)) := by
      rw [← sr_add]
      apply sr_congr
      intro i hi
      have e2 : m + 1 - (i + 1) = m - i := by omega
      have e3 : ch (m + 1) (i + 1) = ch m i + ch m (i + 1) := rfl
      rw [e2, e3, Nat.pow_succ, Nat.add_mul, Nat.add_mul]
      congr 1
      simp only [Nat.mul_assoc, Nat.mul_left_comm, Nat.mul_comm]
    rw [e1]
    have e4 : sr (m + 1) (fun i => y * (ch m i * x ^ i * y ^ (m - i))) = sr (m + 2) (fun i => ch m i * x ^ i * y ^ (m + 1 - i)) := by
      rw [sr_s (m + 1), ch_big m (m + 1) (by omega), Nat.zero_mul, Nat.zero_mul, Nat.add_zero]
      apply sr_congr
      intro i hi
      have e5 : m + 1 - i = (m - i) + 1 := by omega
      rw [e5, Nat.pow_succ]
      simp only [Nat.mul_assoc, Nat.mul_left_comm, Nat.mul_comm]
    rw [e4, sr_shift (m + 1)]
    have e6 : sr (m + 1) (fun i => ch m (i + 1) * x ^ (i + 1) * y ^ (m + 1 - (i + 1))) = sr (m + 1) (fun i => ch m (i + 1) * x ^ (i + 1) * y ^ (m - i)) := sr_congr (fun i hi => by
      have : m + 1 - (i + 1) = m - i := by omega
      show ch m (i + 1) * x ^ (i + 1) * y ^ (m + 1 - (i + 1)) = _
      rw [this])
    rw [e6, ch_0, ch_0]
    omega
theorem SS_le (law : Nat) (wf : Nat → Nat) : ∀ d m, SS law wf d m ≤ (sr d wf) ^ m := by
  intro d
  induction d with
  | zero =>
    intro m
    unfold SS
    by_cases h : m = 0
    · subst h; simp
    · rw [if_neg h]; exact Nat.zero_le _
  | succ d ih =>
    intro m
    rw [sr_s, Nat.add_comm (sr d wf), ← bin]
    unfold SS
    apply sr_le
    intro c hc
    show (if mc law d c then ch m c * wf d ^ c * SS law wf d (m - c) else 0) ≤ ch m c * wf d ^ c * sr d wf ^ (m - c)
    split
    · exact Nat.mul_le_mul_left _ (ih _)
    · exact Nat.zero_le _
theorem gcd_step (x y : Nat) : Nat.gcd x y = Nat.gcd y (x % y) := by
  rw [Nat.gcd_comm x y, Nat.gcd_rec y x, Nat.gcd_comm]
theorem half {x y : Nat} {k : Nat} (hy : 0 < y) (h : y < 2 ^ (k + 1)) (hr : 0 < x % y) : y % (x % y) < 2 ^ k := by
  have h1 : x % y < y := Nat.mod_lt _ hy
  rw [Nat.pow_succ] at h
  by_cases h2 : x % y ≤ y / 2
  · have h3 : y % (x % y) < x % y := Nat.mod_lt _ hr
    omega
  · have h4 : y % (x % y) = y - x % y := by
      rw [Nat.mod_eq_sub_mod (by omega)]
      exact Nat.mod_eq_of_lt (by omega)
    omega
theorem lcz (x : Nat) (h : x < 2 ^ 63) : (lg_cmp (lN x) 0 = 0) ↔ x = 0 := by
  rw [lg_cmp_eq]
  exact pk_lEQ (b := 0) h (by omega)
theorem lne {x : Nat} (h : x < 2 ^ 63) (h0 : 0 < x) : ¬ lN x = 0 := fun q => by
  have := (pk_lEQ (b := 0) h (by omega)).mp q
  omega
theorem cdC_spec : ∀ k y, y < 2 ^ k → k ≤ 60 → ∀ x n s, x < 2 ^ 63 → s + 2 * k + 1 ≤ 128 → 2 * k + 1 < n → X10_commonDivisor_b9 n (lN x) (lN y) (nI s) = some (lN (Nat.gcd x y)) := by
  intro k
  induction k with
  | zero =>
    intro y hy _ x n s hx hs hn
    have : y = 0 := by omega
    subst this
    obtain ⟨m, rfl⟩ : ∃ m, n = m + 1 := ⟨n - 1, by omega⟩
    show X10_commonDivisor_b9_s (X10_commonDivisor_b9 m) _ _ _ = _
    unfold X10_commonDivisor_b9_s
    rw [if_neg (show ¬ (128 : Int32) ≤ nI s from nI_ge (b := 128) (by omega) (by omega)), if_pos ((lcz 0 (by omega)).mpr rfl), Nat.gcd_zero_right]
  | succ k ih =>
    intro y hy hk x n s hx hs hn
    have hp : 2 ^ (k + 1) ≤ 2 ^ 60 := Nat.pow_le_pow_right (by decide) hk
    obtain ⟨m, rfl⟩ : ∃ m, n = m + 1 := ⟨n - 1, by omega⟩
    show X10_commonDivisor_b9_s (X10_commonDivisor_b9 m) _ _ _ = _
    unfold X10_commonDivisor_b9_s
    rw [if_neg (show ¬ (128 : Int32) ≤ nI s from nI_ge (b := 128) (by omega) (by omega))]
    by_cases h0 : y = 0
    · subst h0
      rw [if_pos ((lcz 0 (by omega)).mpr rfl), Nat.gcd_zero_right]
    · have hy63 : y < 2 ^ 63 := by omega
      rw [if_neg (fun q => h0 ((lcz y hy63).mp q)), if_neg (lne hy63 (by omega)), pk_lRem hx (by omega) hy63, nI_1, gcd_step]
      obtain ⟨m2, rfl⟩ : ∃ m2, m = m2 + 1 := ⟨m - 1, by omega⟩
      show X10_commonDivisor_b9_s (X10_commonDivisor_b9 m2) _ _ _ = _
      unfold X10_commonDivisor_b9_s
      have hr := Nat.mod_lt x (show 0 < y by omega)
      rw [if_neg (show ¬ (128 : Int32) ≤ nI (s + 1) from nI_ge (b := 128) (by omega) (by omega))]
      by_cases h1 : x % y = 0
      · rw [h1, if_pos ((lcz 0 (by omega)).mpr rfl), Nat.gcd_zero_right]
      · rw [if_neg (fun q => h1 ((lcz _ (by omega)).mp q)), if_neg (lne (by omega) (by omega)), pk_lRem hy63 (by omega) (by omega), nI_1, gcd_step y]
        exact ih (y % (x % y)) (half (by omega) hy (by omega)) (by omega) (x % y) m2 (s + 2) (by omega) (by omega) (by omega)
theorem cdM_spec (a b : Int64) (u : Int32) : ∀ k y, y < 2 ^ k → k ≤ 60 → ∀ x n, x < 2 ^ 63 → 2 * k + 1 < n → X11_part_b6 n a b u (lN x) (lN y) = X11_part_b31 a b u (lN (Nat.gcd x y)) := by
  intro k
  induction k with
  | zero =>
    intro y hy _ x n hx hn
    have : y = 0 := by omega
    subst this
    obtain ⟨m, rfl⟩ : ∃ m, n = m + 1 := ⟨n - 1, by omega⟩
    show X11_part_b6_s (X11_part_b6 m) _ _ _ _ _ = _
    unfold X11_part_b6_s
    rw [if_pos ((lcz 0 (by omega)).mpr rfl), Nat.gcd_zero_right]
  | succ k ih =>
    intro y hy hk x n hx hn
    have hp : 2 ^ (k + 1) ≤ 2 ^ 60 := Nat.pow_le_pow_right (by decide) hk
    obtain ⟨m, rfl⟩ : ∃ m, n = m + 1 := ⟨n - 1, by omega⟩
    show X11_part_b6_s (X11_part_b6 m) _ _ _ _ _ = _
    unfold X11_part_b6_s
    by_cases h0 : y = 0
    · subst h0
      rw [if_pos ((lcz 0 (by omega)).mpr rfl), Nat.gcd_zero_right]
    · have hy63 : y < 2 ^ 63 := by omega
      rw [if_neg (fun q => h0 ((lcz y hy63).mp q)), if_neg (lne hy63 (by omega)), pk_lRem hx (by omega) hy63, gcd_step]
      obtain ⟨m2, rfl⟩ : ∃ m2, m = m2 + 1 := ⟨m - 1, by omega⟩
      show X11_part_b6_s (X11_part_b6 m2) _ _ _ _ _ = _
      unfold X11_part_b6_s
      have hr := Nat.mod_lt x (show 0 < y by omega)
      by_cases h1 : x % y = 0
      · rw [h1, if_pos ((lcz 0 (by omega)).mpr rfl), Nat.gcd_zero_right]
      · rw [if_neg (fun q => h1 ((lcz _ (by omega)).mp q)), if_neg (lne (by omega) (by omega)), pk_lRem hy63 (by omega) (by omega), gcd_step y]
        exact ih (y % (x % y)) (half (by omega) hy (by omega)) (by omega) (x % y) m2 (by omega) (by omega)
theorem frac_spec {A n : Nat} (hA : A < 2 ^ 63) (hn : n < 10) (u : Int32) : ∃ v, X10_leastTerms (lN A) (lN (10 ^ n)) u = some v ∧ X11_part (lN A) (lN (10 ^ n)) u = some v := by
  have h10 : 10 ^ n ≤ 1000000000 := pw_le (Nat.le_refl 10) (by omega)
  have hpos : 0 < 10 ^ n := Nat.pow_pos (by decide)
  have h30 : 10 ^ n < 2 ^ 30 := by
    have : (2 : Nat) ^ 30 = 1073741824 := by decide
    omega
  have hg : 0 < Nat.gcd A (10 ^ n) := Nat.gcd_pos_of_pos_right _ hpos
  have hgl : Nat.gcd A (10 ^ n) ≤ 10 ^ n := Nat.gcd_le_right _ hpos
  have hne : ¬ lN (Nat.gcd A (10 ^ n)) = 0 := lne (by omega) hg
  unfold X10_leastTerms X10_commonDivisor X11_part X10_leastTerms_b28
  have a1 := cdC_spec 30 (10 ^ n) h30 (by omega) A fU 0 hA (by omega) (fU_gt (by omega))
  have a2 := cdM_spec (lN A) (lN (10 ^ n)) u 30 (10 ^ n) h30 (by omega) A fU hA (fU_gt (by omega))
  rw [show (0 : Int32) = nI 0 from rfl, a1, bnd1_k, a2]
  unfold X11_part_b31
  have hge : 0 ≤ lg_cmp (lN (Nat.gcd A (10 ^ n))) 1 := by
    rw [lg_cmp_ge]
    exact (pk_lLE (a := 1) (by omega) (by omega)).mpr hg
  rw [if_pos (show nI 0 ≤ lg_cmp (lN (Nat.gcd A (10 ^ n))) 1 from hge), if_neg hne, if_neg hne, show nI 0 = (0 : Int32) from rfl]
  by_cases hu : u = 0
  · rw [if_pos hu]; exact ⟨_, rfl, rfl⟩
  · rw [if_neg hu]; exact ⟨_, rfl, rfl⟩
theorem wholeC_spec {t : Nat → Nat} {w : Nat → Int32} (h : TN t w) : X0_areWhole w = some (if sr 10 t = 10 then 1 else 0) := by
  have hb : sr 10 t ≤ 10 * 10 := sr_bd (fun i hi => (h i hi).1)
  unfold X0_areWhole
  refine lup (fun n i => X0_areWhole_b13 n w (nI (sr i t)) 10 (nI i)) 10 _ ?_ ?_ fU 0 (by omega) (fU_gt (by omega))
  · intro n i hi
    show X0_areWhole_b13_s (X0_areWhole_b13 n) _ _ _ _ = _
    unfold X0_areWhole_b13_s
    rw [if_neg (show ¬ (10 : Int32) ≤ nI i from nI_ge (b := 10) hi (by omega)), if_neg (ix_ok hi (by omega)), nI_clamp (by omega), (h i hi).2, nI_add, nI_1]
    rfl
  · intro n
    show X0_areWhole_b13_s (X0_areWhole_b13 n) _ _ _ _ = _
    unfold X0_areWhole_b13_s X0_areWhole_b36
    rw [if_pos (show (10 : Int32) ≤ nI 10 by decide)]
    by_cases q : sr 10 t = 10
    · rw [if_pos q, q, if_pos (show nI 10 = 10 from rfl)]
    · rw [if_neg q, if_neg (show ¬ nI (sr 10 t) = 10 from fun z => q ((nI_eq (b := 10) (by omega) (by omega)).mp z))]
theorem wholeM_spec {t : Nat → Nat} {w : Nat → Int32} (h : TN t w) : X11_areTen w = some (if sr 10 t = 10 then 1 else 0) := by
  have hb : sr 10 t ≤ 10 * 10 := sr_bd (fun i hi => (h i hi).1)
  unfold X11_areTen
  refine lup (fun n i => X11_areTen_b4 n w (nI (sr i t)) (nI i)) 10 _ ?_ ?_ fU 0 (by omega) (fU_gt (by omega))
  · intro n i hi
    show X11_areTen_b4_s (X11_areTen_b4 n) _ _ _ = _
    unfold X11_areTen_b4_s
    rw [if_neg (show ¬ (10 : Int32) ≤ nI i from nI_ge (b := 10) hi (by omega)), if_neg (ix_ok hi (by omega)), nI_clamp (by omega), (h i hi).2, nI_add, nI_1]
    rfl
  · intro n
    show X11_areTen_b4_s (X11_areTen_b4 n) _ _ _ = _
    unfold X11_areTen_b4_s X11_areTen_b25
    rw [if_pos (show (10 : Int32) ≤ nI 10 by decide)]
    by_cases q : sr 10 t = 10
    · rw [if_pos q, q, if_pos (show nI 10 = 10 from rfl)]
    · rw [if_neg q, if_neg (show ¬ nI (sr 10 t) = 10 from fun z => q ((nI_eq (b := 10) (by omega) (by omega)).mp z))]
theorem refC_spec {t : Nat → Nat} {w : Nat → Int32} (h : TN t w) (n : Int32) : X10_refusalOfChances w n = some (if 0 ≤ n.toInt ∧ n.toInt < 10 then (if sr 10 t = 10 then 0 else -3) else -2) := by
  unfold X10_refusalOfChances
  rw [crowd_spec, wholeC_spec h, bnd1_k]
  by_cases h0 : 0 ≤ n.toInt ∧ n.toInt < 10
  · simp only [if_pos h0]
    rw [if_neg (show ¬ (1 : Int32) = 0 by decide)]
    by_cases h1 : sr 10 t = 10
    · simp only [if_pos h1]; rw [if_neg (show ¬ (1 : Int32) = 0 by decide)]
    · simp only [if_neg h1, if_true]
  · simp only [if_neg h0, if_true]
theorem J_allRight {law share pot b : Nat} {t : Nat → Nat} {wC wM : Nat → Int32} (hR : RU law share pot b) (hC : TN t wC) (hM : TN t wM) (n u : Int32) (sums ms spare : Nat → Int64) : ∃ r sums' ms' spare', X10_allRight (nI law) sums wC n u = some (r, sums') ∧ X11_allRight (nI b) (nI law) ms spare wM n u = some (r, ms', spare') := by
  obtain ⟨hl, hs, hpot, hb, ho⟩ := hR
  have c10 : ¬ (1 : Int32) = 0 := by decide
  unfold X10_allRight X11_allRight
  rw [refC_spec hC, bnd1_k, in_spec, wholeM_spec hM, bnd1_k]
  have e0 : (0 : Int64).toInt = 0 := rfl
  have e9 : (9 : Int64).toInt = 9 := rfl
  rw [e0, e9]
  by_cases h0 : 0 ≤ n.toInt ∧ n.toInt < 10
  · obtain ⟨j, hj, -, rfl⟩ := person_nat (n := 10) h0
    simp only [if_pos h0, if_pos (show 0 ≤ (nI j).toInt ∧ (nI j).toInt ≤ 9 by omega), if_neg c10]
    by_cases h1 : sr 10 t = 10
    · simp only [if_pos h1, if_neg c10, if_true]
      obtain ⟨s1, p1⟩ := weightedC_spec (wf := t) hl hj hC sums
      obtain ⟨s2, sp2, p2⟩ := lay_spec (b := nI b) (x2 := 1) (tens := wM) hl hj (layW1 hM) ms spare
      have hA : SS law t 10 j < 2 ^ 63 := by
        have q := SS_le law t 10 j
        rw [h1] at q
        have q2 := pw_le (w := 10) (i := j) (Nat.le_refl 10) (by omega)
        omega
      obtain ⟨v, f1, f2⟩ := frac_spec hA hj u
      have pw1 := powC_spec 10 (by omega) j hj
      have pw2 := powM_spec 10 (by omega) j hj
      rw [p1, bnd2_k, show (10 : Int64) = lN 10 from rfl, pw1, bnd1_k, f1, bnd1_k, p2, bnd3_k, show (10 : Int32) = nI 10 from rfl, pw2, bnd1_k, f2, bnd1_k]
      exact ⟨_, _, _, _, rfl, rfl⟩
    · simp only [if_neg h1, if_true, if_neg (show ¬ (-3 : Int32) = 0 by decide)]
      exact ⟨_, _, _, _, rfl, rfl⟩
  · simp only [if_neg h0, if_neg (show ¬ (0 ≤ n.toInt ∧ n.toInt ≤ 9) by omega), if_true, if_neg (show ¬ (-2 : Int32) = 0 by decide)]
    exact ⟨_, _, _, _, rfl, rfl⟩
/-! mean -/
theorem cases_spec {n c w : Nat} (hn : n < 10) (hc : c ≤ n) (hw : w ≤ 10) : X0_cases (nI n) (nI c) (nI w) = some (lN (ch n c * w ^ c * (10 - w) ^ (n - c))) := by
  unfold X0_cases
  have e1 : (10 : Int32) - nI w = nI (10 - w) := pk_sub (a := 10) hw
  have e2 : nI n - nI c = nI (n - c) := pk_sub hc
  have hcl := ch_le n hn c (by omega)
  rw [choose_spec n hn c (by omega), bnd1_k, nI_l (by omega), powC_spec w (by omega) c (by omega), bnd1_k, e1, e2, nI_l (show 10 - w < 2 ^ 31 by omega), powC_spec (10 - w) (by omega) (n - c) (by omega), bnd1_k, nI_l (by omega), lN_mul, lN_mul]
def mtm (law n : Nat) (t : Nat → Nat) (d c : Nat) : Nat := if su law d c then c * (ch n c * t d ^ c * (10 - t d) ^ (n - c)) else 0
theorem mtm_le {law n d c : Nat} {t : Nat → Nat} (hn : n < 10) (hc : c ≤ n) (ht : t d ≤ 10) : mtm law n t d c ≤ 1134000000000 := by
  unfold mtm
  split
  · have h1 : t d ^ c ≤ 10 ^ c := Nat.pow_le_pow_left ht c
    have h2 : (10 - t d) ^ (n - c) ≤ 10 ^ (n - c) := Nat.pow_le_pow_left (by omega) _
    have h3 : t d ^ c * (10 - t d) ^ (n - c) ≤ 10 ^ c * 10 ^ (n - c) := Nat.mul_le_mul h1 h2
    rw [← Nat.pow_add, show c + (n - c) = n by omega] at h3
    have h4 := pw_le (w := 10) (i := n) (Nat.le_refl 10) (by omega)
    have h5 := ch_le n hn c (by omega)
    have h6 : ch n c * (t d ^ c * (10 - t d) ^ (n - c)) ≤ 126 * 1000000000 := Nat.mul_le_mul h5 (by omega)
    rw [← Nat.mul_assoc] at h6
    have h7 : c * (ch n c * t d ^ c * (10 - t d) ^ (n - c)) ≤ 9 * (126 * 1000000000) := Nat.mul_le_mul (by omega) h6
    omega
  · omega
def mes (law n : Nat) (t : Nat → Nat) (d : Nat) : Nat := sr n (fun c => mtm law n t d (c + 1))
theorem meanC_spec {law n : Nat} {t : Nat → Nat} {w : Nat → Int32} (hl : law ≤ 2) (hn : n < 10) (hT : TN t w) : X0_rightTogether w (nI law) (nI n) = some (lN (sr 10 (mes law n t))) := by
  unfold X0_rightTogether
  refine lup (fun m d => X0_rightTogether_b5 m w (nI law) (nI n) (lN (sr d (mes law n t))) (nI d)) 10 _ ?_ ?_ fU 0 (by omega) (fU_gt (by omega))
  · intro m d hd
    show X0_rightTogether_b5_s (X0_rightTogether_b5 m) _ _ _ _ _ = X0_rightTogether_b5 m _ _ _ (lN (sr d (mes law n t) + mes law n t d)) _
    unfold X0_rightTogether_b5_s
    rw [if_neg (show ¬ (10 : Int32) ≤ nI d from nI_ge (b := 10) hd (by omega))]
    refine lup (fun k c => X0_rightTogether_b15 (X0_rightTogether_b5 m) k w (nI law) (nI n) (lN (sr d (mes law n t) + sr c (fun c => mtm law n t d (c + 1)))) (nI d) (nI (c + 1))) n _ ?_ ?_ fU 0 (by omega) (fU_gt (by omega))
    · intro k c hc
      show X0_rightTogether_b15_s (X0_rightTogether_b5 m) (X0_rightTogether_b15 (X0_rightTogether_b5 m) k) _ _ _ _ _ _ = X0_rightTogether_b15 (X0_rightTogether_b5 m) k _ _ _ (lN (sr d (mes law n t) + (sr c _ + mtm law n t d (c + 1)))) _ _
      unfold X0_rightTogether_b15_s X0_rightTogether_b52
      rw [if_neg (show ¬ nI n < nI (c + 1) from nI_nlt (by omega) (by omega)), suits_spec hl (by omega) (by omega), if_neg (ix_ok hd (by omega)), nI_clamp (by omega), (hT d hd).2, cases_spec hn (by omega) (hT d hd).1, bnd1_k, nI_l (by omega), lN_mul, lN_add, nI_1]
      unfold mtm
      by_cases h : su law d (c + 1) = true
      · simp only [if_pos h]; rw [if_neg (show ¬ (1 : Int32) = 0 by decide)]
        simp only [Nat.add_assoc]
      · simp only [if_neg h, if_true]; rfl
    · intro k
      show X0_rightTogether_b15_s (X0_rightTogether_b5 m) (X0_rightTogether_b15 (X0_rightTogether_b5 m) k) _ _ _ _ _ _ = _
      unfold X0_rightTogether_b15_s X0_rightTogether_b58
      rw [if_pos (show nI n < nI (n + 1) from nI_lt (by omega) (by omega)), nI_1]
      rfl
  · intro m
    show X0_rightTogether_b5_s (X0_rightTogether_b5 m) _ _ _ _ _ = _
    unfold X0_rightTogether_b5_s
    rw [if_pos (show (10 : Int32) ≤ nI 10 by decide)]
theorem meanM_spec {law n : Nat} {t : Nat → Nat} {w : Nat → Int32} (hl : law ≤ 2) (hn : n < 10) (hT : TN t w) (u : Int32) : X11_mean_b32 fU (nI law) w (nI n) u 0 0 = X11_mean_b119 (nI law) w (nI n) u (lN (sr 10 (mes law n t))) := by
  refine lup (fun m d => X11_mean_b32 m (nI law) w (nI n) u (lN (sr d (mes law n t))) (nI d)) 10 _ ?_ ?_ fU 0 (by omega) (fU_gt (by omega))
  · intro m d hd
    show X11_mean_b32_s (X11_mean_b32 m) _ _ _ _ _ _ = X11_mean_b32 m _ _ _ _ (lN (sr d (mes law n t) + mes law n t d)) _
    unfold X11_mean_b32_s
    rw [if_neg (show ¬ (10 : Int32) ≤ nI d from nI_ge (b := 10) hd (by omega))]
    refine lup (fun k c => X11_mean_b42 (X11_mean_b32 m) k (nI law) w (nI n) u (lN (sr d (mes law n t) + sr c (fun c => mtm law n t d (c + 1)))) (nI d) (nI (c + 1))) n _ ?_ ?_ fU 0 (by omega) (fU_gt (by omega))
    · intro k c hc
      show X11_mean_b42_s (X11_mean_b32 m) (X11_mean_b42 (X11_mean_b32 m) k) _ _ _ _ _ _ _ = X11_mean_b42 (X11_mean_b32 m) k _ _ _ _ (lN (sr d (mes law n t) + (sr c _ + mtm law n t d (c + 1)))) _ _
      unfold X11_mean_b42_s X11_mean_b105
      have e1 : (10 : Int32) - nI (t d) = nI (10 - t d) := pk_sub (a := 10) (hT d hd).1
      have e2 : nI n - nI (c + 1) = nI (n - (c + 1)) := pk_sub (by omega)
      have e3 : ¬ (nI d < 0 ∨ 10 ≤ d) := by
        have := ix_ok (N := 10) hd (by omega)
        rwa [nI_clamp (by omega)] at this
      rw [if_neg (show ¬ nI n < nI (c + 1) from nI_nlt (by omega) (by omega)), fine_eq, suits_spec hl (by omega) (by omega), over_spec n hn (c + 1) (by omega), bnd1_k, if_neg (ix_ok hd (by omega)), nI_clamp (by omega), (hT d hd).2, powM_spec (t d) (by have := (hT d hd).1; omega) (c + 1) (by omega), bnd1_k, if_neg e3, e1, e2, powM_spec (10 - t d) (by omega) (n - (c + 1)) (by omega), bnd1_k, nI_l (show c + 1 < 2 ^ 31 by omega), lN_mul, lN_mul, lN_mul, lN_add, nI_1, lN_z]
      unfold mtm
      by_cases h : su law d (c + 1) = true
      · simp only [if_pos h]; rw [if_neg (show ¬ (1 : Int32) = 0 by decide)]
        simp only [Nat.add_assoc, Nat.mul_assoc]
      · simp only [if_neg h, if_true]; rfl
    · intro k
      show X11_mean_b42_s (X11_mean_b32 m) (X11_mean_b42 (X11_mean_b32 m) k) _ _ _ _ _ _ _ = _
      unfold X11_mean_b42_s X11_mean_b113
      rw [if_pos (show nI n < nI (n + 1) from nI_lt (by omega) (by omega)), nI_1]
      rfl
  · intro m
    show X11_mean_b32_s (X11_mean_b32 m) _ _ _ _ _ _ = _
    unfold X11_mean_b32_s
    rw [if_pos (show (10 : Int32) ≤ nI 10 by decide)]
theorem J_mean {law share pot b : Nat} {t : Nat → Nat} {wC wM : Nat → Int32} (hR : RU law share pot b) (hC : TN t wC) (hM : TN t wM) (n u : Int32) : ∃ r, X10_mean (nI law) wC n u = some r ∧ X11_mean (nI law) wM n u = some r := by
  obtain ⟨hl, hs, hpot, hb, ho⟩ := hR
  have c10 : ¬ (1 : Int32) = 0 := by decide
  unfold X10_mean X11_mean
  rw [refC_spec hC, bnd1_k, in_spec, wholeM_spec hM, bnd1_k]
  have e0 : (0 : Int64).toInt = 0 := rfl
  have e9 : (9 : Int64).toInt = 9 := rfl
  rw [e0, e9]
  by_cases h0 : 0 ≤ n.toInt ∧ n.toInt < 10
  · obtain ⟨j, hj, -, rfl⟩ := person_nat (n := 10) h0
    simp only [if_pos h0, if_pos (show 0 ≤ (nI j).toInt ∧ (nI j).toInt ≤ 9 by omega), if_neg c10]
    by_cases h1 : sr 10 t = 10
    · simp only [if_pos h1, if_neg c10, if_true]
      have hA : sr 10 (mes law j t) < 2 ^ 63 := by
        have q : sr 10 (mes law j t) ≤ 10 * (9 * 1134000000000) := sr_bd (fun d hd => by
          have q2 : mes law j t d ≤ j * 1134000000000 := sr_bd (fun c hc => mtm_le hj (by omega) (hC d hd).1)
          exact Nat.le_trans q2 (Nat.mul_le_mul_right _ (by omega)))
        exact Nat.lt_of_le_of_lt q (by decide)
      obtain ⟨v, f1, f2⟩ := frac_spec hA hj u
      have pw1 := powC_spec 10 (by omega) j hj
      have pw2 := powM_spec 10 (by omega) j hj
      rw [meanC_spec hl hj hC, bnd1_k, show (10 : Int64) = lN 10 from rfl, pw1, bnd1_k, f1, bnd1_k, meanM_spec hl hj hM]
      unfold X11_mean_b119
      rw [show (10 : Int32) = nI 10 from rfl, pw2, bnd1_k, f2, bnd1_k]
      exact ⟨_, rfl, rfl⟩
    · simp only [if_neg h1, if_true, if_neg (show ¬ (-3 : Int32) = 0 by decide)]
      exact ⟨_, rfl, rfl⟩
  · simp only [if_neg h0, if_neg (show ¬ (0 ≤ n.toInt ∧ n.toInt ≤ 9) by omega), if_true, if_neg (show ¬ (-2 : Int32) = 0 by decide)]
    exact ⟨_, rfl, rfl⟩
/-! forget -/
def ftm (law own n w c : Nat) : Nat := if su law own (c + 1) then w * (ch n c * w ^ c * (10 - w) ^ (n - c)) else 0
theorem ftm_le {law own n w c : Nat} (hn : n < 10) (hc : c ≤ n) (hw : w ≤ 10) : ftm law own n w c ≤ 1260000000000 := by
  unfold ftm
  split
  · have h1 : w ^ c ≤ 10 ^ c := Nat.pow_le_pow_left hw c
    have h2 : (10 - w) ^ (n - c) ≤ 10 ^ (n - c) := Nat.pow_le_pow_left (by omega) _
    have h3 : w ^ c * (10 - w) ^ (n - c) ≤ 10 ^ c * 10 ^ (n - c) := Nat.mul_le_mul h1 h2
    rw [← Nat.pow_add, show c + (n - c) = n by omega] at h3
    have h4 := pw_le (w := 10) (i := n) (Nat.le_refl 10) (by omega)
    have h5 := ch_le n hn c (by omega)
    have h6 : ch n c * (w ^ c * (10 - w) ^ (n - c)) ≤ 126 * 1000000000 := Nat.mul_le_mul h5 (by omega)
    rw [← Nat.mul_assoc] at h6
    have h7 : w * (ch n c * w ^ c * (10 - w) ^ (n - c)) ≤ 10 * (126 * 1000000000) := Nat.mul_le_mul hw h6
    omega
  · omega
theorem forC_spec {law own n x : Nat} (hl : law ≤ 2) (ho : own < 10) (hn : n < 9) (hx : x ≤ 10) : X0_rightThoughForgetting (nI law) (nI own) (nI (n + 1)) (nI x) = some (lN (sr (n + 1) (ftm law own n (10 - x)))) := by
  unfold X0_rightThoughForgetting
  have e1 : (10 : Int32) - nI x = nI (10 - x) := pk_sub (a := 10) hx
  rw [e1]
  refine lup (fun m c => X0_rightThoughForgetting_b13 m (nI law) (nI own) (nI (n + 1)) (nI (10 - x)) (lN (sr c (ftm law own n (10 - x)))) (nI c)) (n + 1) _ ?_ ?_ fU 0 (by omega) (fU_gt (by omega))
  · intro m c hc
    show X0_rightThoughForgetting_b13_s (X0_rightThoughForgetting_b13 m) _ _ _ _ _ _ = X0_rightThoughForgetting_b13 m _ _ _ _ (lN (sr c _ + ftm law own n (10 - x) c)) _
    unfold X0_rightThoughForgetting_b13_s X0_rightThoughForgetting_b50
    have e2 : nI (n + 1) - 1 = nI n := nI_pred n
    rw [if_neg (nI_ge hc (by omega)), nI_1, suits_spec hl (by omega) (by omega), e2, cases_spec (by omega) (by omega) (by omega), bnd1_k, nI_l (by omega), lN_mul, lN_add]
    unfold ftm
    by_cases h : su law own (c + 1) = true
    · simp only [if_pos h]; rw [if_neg (show ¬ (1 : Int32) = 0 by decide)]
    · simp only [if_neg h, if_true]; rfl
  · intro m
    show X0_rightThoughForgetting_b13_s (X0_rightThoughForgetting_b13 m) _ _ _ _ _ _ = _
    unfold X0_rightThoughForgetting_b13_s
    rw [if_pos (nI_le (Nat.le_refl _) (by omega))]
theorem forM_spec {ps : List Nat} {many rm : Int32} {sl row : Nat → Int32} {law p n x : Nat} (hl : law ≤ 2) (hM : PM ps many sl) (hp : p < ps.length) (hn : n < 9) (hx : x ≤ 10) (u : Int32) : X11_forget_b52 fU many (nI law) rm sl row (nI p) (nI x) u (nI n) 0 0 = X11_forget_b120 many (nI law) rm sl row u (nI n) (lN (sr (n + 1) (ftm law (ps.getD p 0) n (10 - x)))) := by
  have hown := hM.2.1 _ (gd_mem hp)
  have h9 := hM.1
  refine lup (fun m c => X11_forget_b52 m many (nI law) rm sl row (nI p) (nI x) u (nI n) (lN (sr c (ftm law (ps.getD p 0) n (10 - x)))) (nI c)) (n + 1) _ ?_ ?_ fU 0 (by omega) (fU_gt (by omega))
  · intro m c hc
    show X11_forget_b52_s (X11_forget_b52 m) _ _ _ _ _ _ _ _ _ _ _ = X11_forget_b52 m _ _ _ _ _ _ _ _ _ (lN (sr c _ + ftm law (ps.getD p 0) n (10 - x) c)) _
    unfold X11_forget_b52_s X11_forget_b111
    have e1 : (10 : Int32) - nI x = nI (10 - x) := pk_sub (a := 10) hx
    have e2 : nI n - nI c = nI (n - c) := pk_sub (by omega)
    have e3 : 10 - (10 - x) = x := by omega
    rw [if_neg (show ¬ nI n < nI c from nI_nlt (by omega) (by omega)), if_neg (ix_ok (show p < 9 by omega) (by omega)), nI_clamp (by omega), hM.2.2.2 p hp, nI_1, fine_eq, suits_spec hl (by omega) (by omega), over_spec n (by omega) c (by omega), bnd1_k, e1, powM_spec (10 - x) (by omega) (c + 1) (by omega), bnd1_k, e2, powM_spec x (by omega) (n - c) (by omega), bnd1_k, lN_mul, lN_mul, lN_add, lN_z]
    unfold ftm
    rw [e3]
    by_cases h : su law (ps.getD p 0) (c + 1) = true
    · simp only [if_pos h]; rw [if_neg (show ¬ (1 : Int32) = 0 by decide)]
      have : ch n c * (10 - x) ^ (c + 1) * x ^ (n - c) = (10 - x) * (ch n c * (10 - x) ^ c * x ^ (n - c)) := by
        rw [Nat.pow_succ]
        simp only [Nat.mul_assoc, Nat.mul_left_comm, Nat.mul_comm]
      rw [this]
    · simp only [if_neg h, if_true]; rfl
  · intro m
    show X11_forget_b52_s (X11_forget_b52 m) _ _ _ _ _ _ _ _ _ _ _ = _
    unfold X11_forget_b52_s
    rw [if_pos (show nI n < nI (n + 1) from nI_lt (by omega) (by omega))]
theorem J_forget {ps : List Nat} {size many : Int32} {nm ct sl : Nat → Int32} {law share pot b : Nat} (hR : RU law share pot b) (hC : PC ps size nm ct) (hM : PM ps many sl) (p x u : Int32) (rm : Int32) (row : Nat → Int32) : ∃ r rm' row', X10_forget (nI law) size nm ct p x u = some r ∧ X11_forget many (nI law) rm sl row p x u = some (r, rm', row') := by
  obtain ⟨hl, hs, hpot, hb, ho⟩ := hR
  have hn := hM.1
  have c10 : ¬ (1 : Int32) = 0 := by decide
  unfold X10_forget X11_forget
  rw [hC.1.2.2.1, has_spec hn, ← hC.1.2.2.1, hM.2.2.1, isPerson_spec hn, ← hM.2.2.1, in_spec]
  have e0 : (0 : Int64).toInt = 0 := rfl
  have e10 : (10 : Int64).toInt = 10 := rfl
  rw [e0, e10]
  by_cases h0 : 0 ≤ p.toInt ∧ p.toInt < ps.length
  · obtain ⟨j, hj, -, rfl⟩ := person_nat h0
    simp only [if_pos h0, if_neg c10]
    have hown := hM.2.1 _ (gd_mem hj)
    have hc9 := cnt_le hn (ps.getD j 0)
    have hcpos : 0 < ps.count (ps.getD j 0) := List.count_pos_iff.mpr (gd_mem hj)
    obtain ⟨m, hm⟩ : ∃ m, ps.count (ps.getD j 0) = m + 1 := ⟨ps.count (ps.getD j 0) - 1, by omega⟩
    by_cases h1 : 0 ≤ x.toInt ∧ x.toInt < 11
    · obtain ⟨w, hw, -, rfl⟩ := person_nat (n := 11) h1
      have c1 : ¬ nI w < 0 := nI_pos (by omega)
      have c2 : nI w ≤ (10 : Int32) := nI_le (b := 10) (by omega) (by omega)
      simp only [if_pos (show 0 ≤ (nI w).toInt ∧ (nI w).toInt ≤ 10 by omega), if_neg c10, if_neg c1, if_pos c2]
      obtain ⟨row1, a1, hP1⟩ := takeSlips_spec hM rm row
      have hA : sr (m + 1) (ftm law (ps.getD j 0) m (10 - w)) < 2 ^ 63 := by
        have q : sr (m + 1) (ftm law (ps.getD j 0) m (10 - w)) ≤ (m + 1) * 1260000000000 := sr_bd (fun c hc => ftm_le (by omega) (by omega) (by omega))
        omega
      obtain ⟨v, f1, f2⟩ := frac_spec hA (show m + 1 < 10 by omega) u
      have pw1 := powC_spec 10 (by omega) (m + 1) (by omega)
      have pw2 := powM_spec 10 (by omega) (m + 1) (by omega)
      rw [numberOf_spec hC.1 hj, bnd1_k, many_spec hC hown, bnd1_k, hm, forC_spec hl hown (by omega) (by omega), bnd1_k, show (10 : Int64) = lN 10 from rfl, pw1, bnd1_k, f1, bnd1_k, a1, bnd2_k, if_neg (ix_ok (show j < 9 by omega) (by omega)), nI_clamp (by omega), hM.2.2.2 j hj, wroteIn_spec hP1 (by omega), bnd1_k, hm, nI_pred, forM_spec hl hM hj (by omega) (by omega)]
      unfold X11_forget_b120
      rw [nI_1, show (10 : Int32) = nI 10 from rfl, pw2, bnd1_k, f2, bnd1_k]
      exact ⟨_, _, _, rfl, rfl⟩
    · simp only [if_neg (show ¬ (0 ≤ x.toInt ∧ x.toInt ≤ 10) by omega), if_true]
      by_cases h3 : x < 0
      · simp only [if_pos h3]
        exact ⟨_, _, _, rfl, rfl⟩
      · have c4 : ¬ x ≤ (10 : Int32) := by
          rw [z_le]; rw [z_lt] at h3
          have z0 : (0 : Int32).toInt = 0 := rfl
          have z9 : (10 : Int32).toInt = 10 := rfl
          omega
        simp only [if_neg h3, if_neg c4]
        exact ⟨_, _, _, rfl, rfl⟩
  · simp only [if_neg h0, if_true]
    exact ⟨_, _, _, rfl, rfl⟩
