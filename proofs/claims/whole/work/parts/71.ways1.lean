/-! the class counts -/
theorem crowd_spec (p : Int32) : X10_isCrowd p = if 0 ≤ p.toInt ∧ p.toInt < 10 then 1 else 0 := by
  unfold X10_isCrowd
  simp only [z_lt, z_le]
  have e0 : (0 : Int32).toInt = 0 := rfl
  have e1 : (9 : Int32).toInt = 9 := rfl
  rw [e0, e1]
  by_cases h1 : p.toInt < 0
  · rw [if_pos h1, if_neg (by omega)]
  · by_cases h2 : 9 < p.toInt
    · rw [if_neg h1, if_pos h2, if_neg (by omega)]
    · rw [if_neg h1, if_neg h2, if_pos (by omega)]
def wtm (law : Nat) (wf : Nat → Nat) (d m c : Nat) : Nat := if mc law d c then ch m c * wf d ^ c * SS law wf d (m - c) else 0
theorem lN0_ne {n : Nat} (h : 0 < n) (h2 : n < 2 ^ 31) : ¬ lN n = 0 := fun q => by
  have : n = 0 := (lN_eq (b := 0) h2 (by omega)).mp q
  omega
theorem withC_spec {law d m : Nat} {wf : Nat → Nat} {sums : Nat → Int64} (hl : law ≤ 2) (hd : d < 10) (hm : m < 10) (hw : wf d ≤ 10) (hs : ∀ q, q ≤ m → sums q = lN (SS law wf d q)) : X7_weightedWith sums (nI law) (nI d) (nI (wf d)) (nI m) = some (lN (sr m (fun c => wtm law wf d m (c + 1)))) := by
  unfold X7_weightedWith
  have start : (1 : Int64) = lN (ch m 0 * wf d ^ 0) := by
    have : ch m 0 = 1 := by cases m <;> rfl
    rw [this]; rfl
  rw [start]
  refine lup (fun n i => X7_weightedWith_b9 n sums (nI law) (nI d) (nI (wf d)) (nI m) (lN (sr i (fun c => wtm law wf d m (c + 1)))) (lN (ch m i * wf d ^ i)) (nI (i + 1))) m _ ?_ ?_ fU 0 (by omega) (fU_gt (by omega))
  · intro n i hi
    show X7_weightedWith_b9_s (X7_weightedWith_b9 n) _ _ _ _ _ _ _ _ = X7_weightedWith_b9 n _ _ _ _ _ (lN (sr i _ + wtm law wf d m (i + 1))) _ _
    unfold X7_weightedWith_b9_s X7_weightedWith_b64
    have e1 : nI m - nI (i + 1) = nI (m - (i + 1)) := pk_sub (by omega)
    have e2 : nI (m - (i + 1)) + 1 = nI (m - i) := by rw [nI_1]; congr 1; omega
    have hpw := pw_le (i := i) hw (by omega)
    have hch := ch_le m hm i (by omega)
    have hst := ch_step m hm i (by omega) hi
    have epl : lN (ch m i * wf d ^ i) * (nI (wf d)).toInt64 * (nI (m - i)).toInt64 / (nI (i + 1)).toInt64 = lN (ch m (i + 1) * wf d ^ (i + 1)) := by
      rw [nI_l (by omega), nI_l (by omega), nI_l (by omega), lN_mul, lN_mul]
      have hb1 : ch m i * wf d ^ i ≤ 126 * 1000000000 := Nat.mul_le_mul hch hpw
      have hb2 : ch m i * wf d ^ i * wf d ≤ 126 * 1000000000 * 10 := Nat.mul_le_mul hb1 hw
      have hb3 : ch m i * wf d ^ i * wf d * (m - i) ≤ 126 * 1000000000 * 10 * 10 := Nat.mul_le_mul hb2 (by omega)
      rw [pk_lDiv (by omega) (by omega) (by omega)]
      congr 1
      have e3 : ch m i * wf d ^ i * wf d * (m - i) = (ch m (i + 1) * wf d ^ (i + 1)) * (i + 1) := by
        rw [Nat.pow_succ]
        have : ch m i * wf d ^ i * wf d * (m - i) = (ch m i * (m - i)) * (wf d ^ i * wf d) := by simp only [Nat.mul_assoc, Nat.mul_left_comm, Nat.mul_comm]
        rw [this, hst]
        simp only [Nat.mul_assoc, Nat.mul_left_comm, Nat.mul_comm]
      rw [e3, Nat.mul_div_cancel _ (by omega)]
    have en : (nI (i + 1)).toInt64 = lN (i + 1) := nI_l (by omega)
    have hne : ¬ (nI (i + 1)).toInt64 = 0 := by rw [en]; exact lN0_ne (by omega) (by omega)
    rw [if_neg (show ¬ nI m < nI (i + 1) from nI_nlt (by omega) (by omega)), if_neg hne, e1, e2, epl, suits_spec hl (by omega) (by omega), nI_1]
    rw [if_neg (ix_ok (show m - (i + 1) < 10 by omega) (by omega)), nI_clamp (by omega), hs _ (by omega), lN_mul, lN_add]
    unfold wtm
    by_cases h : su law d (i + 1) = true
    · have hmc : mc law d (i + 1) = true := by unfold mc; simp [h]
      simp only [if_pos h, if_pos hmc]
      rw [if_neg (show ¬ (1 : Int32) = 0 by decide)]
    · have hmc : ¬ mc law d (i + 1) = true := by unfold mc; simp [h]
      simp only [if_neg h, if_neg hmc, if_true]
      rfl
  · intro n
    show X7_weightedWith_b9_s (X7_weightedWith_b9 n) _ _ _ _ _ _ _ _ = _
    unfold X7_weightedWith_b9_s
    rw [if_pos (show nI m < nI (m + 1) from nI_lt (by omega) (by omega))]
theorem SS_s {law d m : Nat} {wf : Nat → Nat} : SS law wf (d + 1) m = SS law wf d m + sr m (fun c => wtm law wf d m (c + 1)) := by
  show sr (m + 1) (fun c => wtm law wf d m c) = _
  rw [sr_shift]
  congr 1
  unfold wtm
  have : ch m 0 = 1 := by cases m <;> rfl
  rw [if_pos (by unfold mc; simp), this, Nat.sub_zero, Nat.pow_zero, Nat.mul_one, Nat.one_mul]
theorem rowC_spec {law d n : Nat} {wf : Nat → Nat} {f : Nat → Int32} {sums : Nat → Int64} (self : (Nat → Int64) → Int32 → (Nat → Int32) → Int32 → Int32 → Option (Int64 × (Nat → Int64))) (hl : law ≤ 2) (hd : d < 10) (hn : n < 10) (hw : wf d ≤ 10) (hf : f d = nI (wf d)) (hs : ∀ q, q ≤ n → sums q = lN (SS law wf d q)) : ∃ sums', X7_weighted_b44 self fU sums (nI law) f (nI n) (nI d) (nI n) = self sums' (nI law) f (nI n) (nI (d + 1)) ∧ ∀ q, q ≤ n → sums' q = lN (SS law wf (d + 1) q) := by
  refine lupR (fun j g => (∀ q, q ≤ n - j → g q = lN (SS law wf d q)) ∧ ∀ q, n - j < q → q ≤ n → g q = lN (SS law wf (d + 1) q)) (fun k j g => X7_weighted_b44 self k g (nI law) f (nI n) (nI d) (nI (n - j))) n (fun r => ∃ sums', r = self sums' (nI law) f (nI n) (nI (d + 1)) ∧ ∀ q, q ≤ n → sums' q = lN (SS law wf (d + 1) q)) ?_ ?_ fU 0 sums (by omega) (fU_gt (by omega)) ⟨fun q hq => hs q (by omega), fun q h1 h2 => by omega⟩
  · intro k j g hj hI
    left
    refine ⟨vp_updL g (n - j) (lN (SS law wf (d + 1) (n - j))), ⟨fun q hq => ?_, fun q h1 h2 => ?_⟩, ?_⟩
    · rw [pk_uLn (by omega)]; exact hI.1 q (by omega)
    · by_cases e : q = n - j
      · subst e; rw [pk_uLs]
      · rw [pk_uLn e]; exact hI.2 q (by omega) h2
    · show X7_weighted_b44_s self (X7_weighted_b44 self k) _ _ _ _ _ _ = X7_weighted_b44 self k _ _ _ _ _ (nI (n - (j + 1)))
      unfold X7_weighted_b44_s
      have hc := withC_spec hl hd (show n - j < 10 by omega) hw hI.1
      have e1 : nI (n - j) + -1 = nI (n - (j + 1)) := by
        rw [z_sm]
        have : nI (n - j) - 1 = nI (n - j - 1) := pk_sub (b := 1) (by omega)
        rw [this]; congr 1
      rw [if_neg (show ¬ nI (n - j) < 1 from nI_nlt (b := 1) (by omega) (by omega)), if_neg (ix_ok (show n - j < 10 by omega) (by omega)), if_neg (ix_ok (show d < 10 by omega) (by omega)), nI_clamp (show n - j < 2 ^ 31 by omega), nI_clamp (show d < 2 ^ 31 by omega), hf, hc, bnd1_k, hI.1 (n - j) (Nat.le_refl _), lN_add, ← SS_s, e1]
      rw [if_neg (show ¬ (nI (n - j) < 0 ∨ 10 ≤ n - j) from fun q => q.elim (nI_pos (by omega)) (by omega))]
  · intro k g hI
    refine ⟨g, ?_, fun q hq => ?_⟩
    · show X7_weighted_b44_s self (X7_weighted_b44 self k) _ _ _ _ _ _ = _
      unfold X7_weighted_b44_s X7_weighted_b79
      rw [Nat.sub_self, if_pos (show nI 0 < 1 by decide), nI_1]
    · by_cases e : q = 0
      · subst e
        rw [hI.1 0 (by omega), SS_0, SS_0]
      · exact hI.2 q (by omega) hq
theorem weightedC_spec {law n : Nat} {wf : Nat → Nat} {f : Nat → Int32} (hl : law ≤ 2) (hn : n < 10) (hf : ∀ d, d < 10 → wf d ≤ 10 ∧ f d = nI (wf d)) (sums : Nat → Int64) : ∃ sums', X7_weighted sums (nI law) f (nI n) = some (lN (SS law wf 10 n), sums') := by
  unfold X7_weighted
  rw [crowd_spec, nI_toInt (by omega), if_pos (show (0 : Int) ≤ n ∧ (n : Int) < 10 by omega), if_neg (show ¬ (1 : Int32) = 0 by decide), if_neg (show ¬ ((0 : Int32) < 0 ∨ 10 ≤ (0 : Int32).toNatClampNeg) by decide)]
  refine lupR (fun d g => ∀ q, q ≤ n → g q = lN (SS law wf d q)) (fun k d g => X7_weighted_b27 k g (nI law) f (nI n) (nI d)) 10 (fun r => ∃ sums', r = some (lN (SS law wf 10 n), sums')) ?_ ?_ fU 0 _ (by omega) (fU_gt (by omega)) ?_
  · intro k d g hd hI
    left
    obtain ⟨g', p1, q1⟩ := rowC_spec (X7_weighted_b27 k) hl hd hn (hf d hd).1 (hf d hd).2 hI
    refine ⟨g', q1, ?_⟩
    show X7_weighted_b27_s (X7_weighted_b27 k) _ _ _ _ _ = _
    unfold X7_weighted_b27_s
    rw [if_neg (show ¬ (10 : Int32) ≤ nI d from nI_ge (b := 10) hd (by omega)), if_neg (show ¬ (10 : Int32) ≤ nI d from nI_ge (b := 10) hd (by omega)), p1]
  · intro k g hI
    refine ⟨g, ?_⟩
    show X7_weighted_b27_s (X7_weighted_b27 k) _ _ _ _ _ = _
    unfold X7_weighted_b27_s X7_weighted_b85
    rw [if_pos (show (10 : Int32) ≤ nI 10 by decide), if_neg (ix_ok hn (by omega)), nI_clamp (by omega), hI n (Nat.le_refl _)]
  · intro q hq
    have e0 : (0 : Int32).toNatClampNeg = 0 := rfl
    rw [e0]
    show _ = lN (if q = 0 then 1 else 0)
    by_cases e : q = 0
    · subst e; rw [pk_uLs, if_pos rfl]; rfl
    · rw [pk_uLn e, if_neg e]
      unfold fillJ
      rw [if_pos (by omega)]; rfl
def opw (b d : Nat) : Nat := if bb b d = 0 then 1 else 0
theorem rowsC_spec {law b n : Nat} (hl : law ≤ 2) (hb : b < 1024) (hn : n < 10) (sums : Nat → Int64) (ws : Nat → Int32) : ∃ sums' ws', X7_allRightRows sums ws (nI law) (nI b) (nI n) = some ((lN (SS law (opw b) 10 n)).toInt32, sums', ws') := by
  unfold X7_allRightRows
  refine lupR (fun d g => ∀ q, q < d → g q = nI (opw b q)) (fun k d g => X7_allRightRows_b2 k sums g (nI law) (nI b) (nI n) (nI d)) 10 (fun r => ∃ sums' ws', r = some ((lN (SS law (opw b) 10 n)).toInt32, sums', ws')) ?_ ?_ fU 0 ws (by omega) (fU_gt (by omega)) (fun q hq => absurd hq (Nat.not_lt_zero q))
  · intro k d g hd hI
    left
    refine ⟨upd g d (nI (opw b d)), fun q hq => ?_, ?_⟩
    · by_cases e : q = d
      · subst e; rw [pk_us]
      · rw [pk_un e]; exact hI q (by omega)
    · show X7_allRightRows_b2_s (X7_allRightRows_b2 k) _ _ _ _ _ _ = _
      unfold X7_allRightRows_b2_s X7_allRightRows_b26 opw
      rw [open_spec hb hd, if_neg (show ¬ (10 : Int32) ≤ nI d from nI_ge (b := 10) hd (by omega)), if_neg (ix_ok hd (by omega)), if_neg (ix_ok hd (by omega)), nI_clamp (by omega), nI_1]
      by_cases h0 : bb b d = 0
      · simp only [if_pos h0]; rw [if_neg (show ¬ (1 : Int32) = 0 by decide)]; rfl
      · simp only [if_neg h0, if_true]; rfl
  · intro k g hI
    obtain ⟨s', p1⟩ := weightedC_spec (wf := opw b) hl hn (fun d hd => ⟨by unfold opw; split <;> omega, hI d hd⟩) sums
    refine ⟨s', g, ?_⟩
    show X7_allRightRows_b2_s (X7_allRightRows_b2 k) _ _ _ _ _ _ = _
    unfold X7_allRightRows_b2_s X7_allRightRows_b33
    rw [if_pos (show (10 : Int32) ≤ nI 10 by decide), p1, bnd2_k]
