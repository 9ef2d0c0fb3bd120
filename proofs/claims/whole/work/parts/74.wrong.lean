/-! the fewest that are wrong -/
theorem mn_lt {a b : Nat} (ha : a < 2 ^ 31) (hb : b < 2 ^ 31) : (if nI a < nI b then nI a else nI b) = nI (min b a) := by
  by_cases h : a < b
  · rw [if_pos (nI_lt h hb)]; congr 1; omega
  · rw [if_neg (nI_nlt (by omega) ha)]; congr 1; omega
def cst (law d c : Nat) : Nat := if su law d c then 0 else c
theorem cst_le (law d c : Nat) : cst law d c ≤ c := by unfold cst; split <;> omega
def mnf (a : Nat) (g : Nat → Nat) : Nat → Nat
  | 0 => a
  | c + 1 => min (mnf a g c) (g (c + 1))
theorem mnf_le (a : Nat) (g : Nat → Nat) : ∀ c, mnf a g c ≤ a := by
  intro c
  induction c with
  | zero => exact Nat.le_refl _
  | succ c ih => show min _ _ ≤ a; omega
def WW (inf law b : Nat) : Nat → Nat → Nat
  | 0, j => if j = 0 then 0 else inf
  | d + 1, j => if bb b d = 0 then mnf (WW inf law b d j) (fun c => WW inf law b d (j - c) + cst law d c) j else WW inf law b d j
theorem WW_le (inf law b : Nat) : ∀ d j, WW inf law b d j ≤ inf := by
  intro d
  induction d with
  | zero => intro j; unfold WW; split <;> omega
  | succ d ih =>
    intro j
    unfold WW
    split
    · exact Nat.le_trans (mnf_le _ _ _) (ih j)
    · exact ih j
theorem WW_z (inf law b : Nat) : ∀ d, WW inf law b d 0 = 0 := by
  intro d
  induction d with
  | zero => rfl
  | succ d ih =>
    unfold WW
    split
    · exact ih
    · exact ih
theorem mnf_rel {j a1 a2 : Nat} {g1 g2 : Nat → Nat} (ha : (a1 = a2 ∧ a1 ≤ j) ∨ (a1 = 1000 ∧ a2 = 99)) (hj : j ≤ 9) : ∀ i, (∀ c, 1 ≤ c → c ≤ i → (g1 c = g2 c ∧ g1 c ≤ j) ∨ (1000 ≤ g1 c ∧ 99 ≤ g2 c)) → (mnf a1 g1 i = mnf a2 g2 i ∧ mnf a1 g1 i ≤ j) ∨ (mnf a1 g1 i = 1000 ∧ mnf a2 g2 i = 99) := by
  intro i
  induction i with
  | zero => intro _; exact ha
  | succ i ih =>
    intro h
    have h1 := ih (fun c hc1 hc2 => h c hc1 (by omega))
    have h2 := h (i + 1) (by omega) (by omega)
    unfold mnf
    omega
theorem WW_rel (law b : Nat) : ∀ d j, j ≤ 9 → (WW 1000 law b d j = WW 99 law b d j ∧ WW 1000 law b d j ≤ j) ∨ ((∀ e, e < d → bb b e ≠ 0) ∧ WW 1000 law b d j = 1000 ∧ WW 99 law b d j = 99) := by
  intro d
  induction d with
  | zero =>
    intro j hj
    unfold WW
    by_cases h : j = 0
    · rw [if_pos h, if_pos h]; left; omega
    · rw [if_neg h, if_neg h]; right; exact ⟨fun e he => absurd he (Nat.not_lt_zero e), rfl, rfl⟩
  | succ d ih =>
    intro j hj
    by_cases hb : bb b d = 0
    · left
      by_cases h0 : j = 0
      · subst h0; rw [WW_z, WW_z]; exact ⟨rfl, Nat.le_refl _⟩
      · unfold WW
        rw [if_pos hb, if_pos hb]
        obtain ⟨m, rfl⟩ : ∃ m, j = m + 1 := ⟨j - 1, by omega⟩
        have hr := mnf_rel (j := m + 1) (a1 := WW 1000 law b d (m + 1)) (a2 := WW 99 law b d (m + 1)) (g1 := fun c => WW 1000 law b d (m + 1 - c) + cst law d c) (g2 := fun c => WW 99 law b d (m + 1 - c) + cst law d c) (by have := ih (m + 1) hj; omega) hj m (fun c h1 h2 => by
          have h3 := ih (m + 1 - c) (by omega)
          have h4 := cst_le law d c
          show (WW 1000 law b d (m + 1 - c) + cst law d c = WW 99 law b d (m + 1 - c) + cst law d c ∧ WW 1000 law b d (m + 1 - c) + cst law d c ≤ m + 1) ∨ (1000 ≤ WW 1000 law b d (m + 1 - c) + cst law d c ∧ 99 ≤ WW 99 law b d (m + 1 - c) + cst law d c)
          omega)
        have h5 := cst_le law d (m + 1)
        have h6 := WW_z 1000 law b d
        have h7 := WW_z 99 law b d
        unfold mnf
        rw [Nat.sub_self, h6, h7]
        omega
    · unfold WW
      rw [if_neg hb, if_neg hb]
      rcases ih j hj with h | ⟨h1, h2⟩
      · left; exact h
      · right
        refine ⟨fun e he => ?_, h2⟩
        by_cases q : e = d
        · subst q; exact hb
        · exact h1 e (by omega)
theorem WW_eq {law b n : Nat} (ho : ∃ d, d < 10 ∧ bb b d = 0) (hn : n < 10) : WW 1000 law b 10 n = WW 99 law b 10 n := by
  rcases WW_rel law b 10 n (by omega) with h | ⟨h, -⟩
  · exact h.1
  · obtain ⟨d, hd, e⟩ := ho
    exact absurd e (h d hd)
/-! the class -/
theorem lnrC_spec {law d m : Nat} {w : Nat → Nat} {costs : Nat → Int32} (hl : law ≤ 2) (hd : d < 10) (hm : m < 10) (hs : ∀ q, q ≤ m → w q ≤ 1000 ∧ costs q = nI (w q)) : X7_leastNotRight costs (nI law) (nI d) (nI m) = some (nI (mnf (w m) (fun c => w (m - c) + cst law d c) m)) := by
  unfold X7_leastNotRight
  rw [if_neg (ix_ok hm (by omega)), nI_clamp (by omega), (hs m (Nat.le_refl _)).2]
  refine lup (fun n i => X7_leastNotRight_b11 n costs (nI law) (nI d) (nI m) (nI (mnf (w m) (fun c => w (m - c) + cst law d c) i)) (nI (i + 1))) m _ ?_ ?_ fU 0 (by omega) (fU_gt (by omega))
  · intro n i hi
    show X7_leastNotRight_b11_s (X7_leastNotRight_b11 n) _ _ _ _ _ _ = _
    unfold X7_leastNotRight_b11_s X7_leastNotRight_b33
    have e1 : nI m - nI (i + 1) = nI (m - (i + 1)) := pk_sub (by omega)
    have hw := hs (m - (i + 1)) (by omega)
    have hw2 := hs m (by omega)
    have hq := mnf_le (w m) (fun c => w (m - c) + cst law d c) i
    have hc := cst_le law d (i + 1)
    have key : (if nI (w (m - (i + 1))) + nI (cst law d (i + 1)) < nI (mnf (w m) (fun c => w (m - c) + cst law d c) i) then nI (w (m - (i + 1))) + nI (cst law d (i + 1)) else nI (mnf (w m) (fun c => w (m - c) + cst law d c) i)) = nI (mnf (w m) (fun c => w (m - c) + cst law d c) (i + 1)) := by
      rw [nI_add, mn_lt (by omega) (by omega)]; rfl
    rw [if_neg (show ¬ nI m < nI (i + 1) from nI_nlt (by omega) (by omega)), e1, suits_spec hl (by omega) (by omega), if_neg (ix_ok (show m - (i + 1) < 10 by omega) (by omega)), nI_clamp (by omega), hw.2, nI_1, ← key]
    unfold cst
    by_cases h : su law d (i + 1) = true
    · simp only [if_pos h]
      rw [if_neg (show ¬ (1 : Int32) = 0 by decide), if_neg (show ¬ (nI (m - (i + 1)) < 0 ∨ 10 ≤ m - (i + 1)) from fun q => q.elim (nI_pos (by omega)) (by omega))]
      rfl
    · simp only [if_neg h, if_true]
  · intro n
    show X7_leastNotRight_b11_s (X7_leastNotRight_b11 n) _ _ _ _ _ _ = _
    unfold X7_leastNotRight_b11_s
    rw [if_pos (show nI m < nI (m + 1) from nI_lt (by omega) (by omega))]
theorem fnrC_row {law b d n : Nat} {costs : Nat → Int32} (self : (Nat → Int32) → Int32 → Int32 → Int32 → Int32 → Option (Int32 × (Nat → Int32))) (hl : law ≤ 2) (hb : bb b d = 0) (hd : d < 10) (hn : n < 10) (hs : ∀ q, q ≤ n → costs q = nI (WW 1000 law b d q)) : ∃ costs', X7_fewestNotRight_b33 self fU costs (nI law) (nI b) (nI n) (nI d) (nI n) = self costs' (nI law) (nI b) (nI n) (nI (d + 1)) ∧ ∀ q, q ≤ n → costs' q = nI (WW 1000 law b (d + 1) q) := by
  have hW : ∀ q, WW 1000 law b (d + 1) q = mnf (WW 1000 law b d q) (fun c => WW 1000 law b d (q - c) + cst law d c) q := fun q => by
    show (if bb b d = 0 then _ else _) = _
    rw [if_pos hb]
  refine lupR (fun j g => (∀ q, q ≤ n - j → g q = nI (WW 1000 law b d q)) ∧ ∀ q, n - j < q → q ≤ n → g q = nI (WW 1000 law b (d + 1) q)) (fun k j g => X7_fewestNotRight_b33 self k g (nI law) (nI b) (nI n) (nI d) (nI (n - j))) n (fun r => ∃ costs', r = self costs' (nI law) (nI b) (nI n) (nI (d + 1)) ∧ ∀ q, q ≤ n → costs' q = nI (WW 1000 law b (d + 1) q)) ?_ ?_ fU 0 costs (by omega) (fU_gt (by omega)) ⟨fun q hq => hs q (by omega), fun q h1 h2 => by omega⟩
  · intro k j g hj hI
    left
    refine ⟨upd g (n - j) (nI (WW 1000 law b (d + 1) (n - j))), ⟨fun q hq => ?_, fun q h1 h2 => ?_⟩, ?_⟩
    · rw [pk_un (by omega)]; exact hI.1 q (by omega)
    · by_cases e : q = n - j
      · subst e; rw [pk_us]
      · rw [pk_un e]; exact hI.2 q (by omega) h2
    · show X7_fewestNotRight_b33_s self (X7_fewestNotRight_b33 self k) _ _ _ _ _ _ = X7_fewestNotRight_b33 self k _ _ _ _ _ (nI (n - (j + 1)))
      unfold X7_fewestNotRight_b33_s
      have hc := lnrC_spec (w := WW 1000 law b d) hl hd (show n - j < 10 by omega) (fun q hq => ⟨WW_le _ _ _ _ _, hI.1 q hq⟩)
      have e1 : nI (n - j) + -1 = nI (n - (j + 1)) := by
        rw [z_sm]
        have : nI (n - j) - 1 = nI (n - j - 1) := pk_sub (b := 1) (by omega)
        rw [this]; congr 1
      rw [if_neg (show ¬ nI (n - j) < 1 from nI_nlt (b := 1) (by omega) (by omega)), hc, bnd1_k, if_neg (ix_ok (show n - j < 10 by omega) (by omega)), nI_clamp (show n - j < 2 ^ 31 by omega), e1, hW]
  · intro k g hI
    refine ⟨g, ?_, fun q hq => ?_⟩
    · show X7_fewestNotRight_b33_s self (X7_fewestNotRight_b33 self k) _ _ _ _ _ _ = _
      unfold X7_fewestNotRight_b33_s X7_fewestNotRight_b60
      rw [Nat.sub_self, if_pos (show nI 0 < 1 by decide), nI_1]
    · by_cases e : q = 0
      · subst e
        rw [hI.1 0 (by omega), WW_z, WW_z]
      · exact hI.2 q (by omega) hq
theorem startC_spec (costs : Nat → Int32) : ∃ c', X7_startCosts costs = some c' ∧ ∀ q, q < 10 → c' q = nI (if q = 0 then 0 else 1000) := by
  unfold X7_startCosts
  rw [if_neg (show ¬ ((0 : Int32) < 0 ∨ 10 ≤ (0 : Int32).toNatClampNeg) by decide)]
  refine ⟨_, rfl, fun q hq => ?_⟩
  have e0 : (0 : Int32).toNatClampNeg = 0 := rfl
  rw [e0]
  by_cases e : q = 0
  · subst e; rw [pk_us, if_pos rfl]; rfl
  · rw [pk_un e, if_neg e]
    unfold fillI
    rw [if_pos (by omega)]; rfl
theorem fnrC_spec {law b n : Nat} (hl : law ≤ 2) (hb : b < 1024) (hn : n < 10) (costs : Nat → Int32) : ∃ costs', X7_fewestNotRight costs (nI law) (nI b) (nI n) = some (nI (WW 1000 law b 10 n), costs') := by
  unfold X7_fewestNotRight
  obtain ⟨c0, p0, q0⟩ := startC_spec costs
  rw [crowd_spec, nI_toInt (by omega), if_pos (show (0 : Int) ≤ n ∧ (n : Int) < 10 by omega), if_neg (show ¬ (1 : Int32) = 0 by decide), p0, bnd1_k]
  refine lupR (fun d g => ∀ q, q ≤ n → g q = nI (WW 1000 law b d q)) (fun k d g => X7_fewestNotRight_b16 k g (nI law) (nI b) (nI n) (nI d)) 10 (fun r => ∃ costs', r = some (nI (WW 1000 law b 10 n), costs')) ?_ ?_ fU 0 c0 (by omega) (fU_gt (by omega)) (fun q hq => q0 q (by omega))
  · intro k d g hd hI
    left
    by_cases h : bb b d = 0
    · obtain ⟨g', p1, q1⟩ := fnrC_row (X7_fewestNotRight_b16 k) hl h hd hn hI
      refine ⟨g', q1, ?_⟩
      show X7_fewestNotRight_b16_s (X7_fewestNotRight_b16 k) _ _ _ _ _ = _
      unfold X7_fewestNotRight_b16_s
      rw [if_neg (show ¬ (10 : Int32) ≤ nI d from nI_ge (b := 10) hd (by omega)), open_spec hb hd, if_pos h, if_neg (show ¬ (1 : Int32) = 0 by decide), p1]
    · refine ⟨g, fun q hq => ?_, ?_⟩
      · rw [hI q hq]
        show _ = nI (if bb b d = 0 then _ else _)
        rw [if_neg h]
      · show X7_fewestNotRight_b16_s (X7_fewestNotRight_b16 k) _ _ _ _ _ = _
        unfold X7_fewestNotRight_b16_s X7_fewestNotRight_b60
        rw [if_neg (show ¬ (10 : Int32) ≤ nI d from nI_ge (b := 10) hd (by omega)), open_spec hb hd, if_neg h, if_pos rfl, nI_1]
  · intro k g hI
    refine ⟨g, ?_⟩
    show X7_fewestNotRight_b16_s (X7_fewestNotRight_b16 k) _ _ _ _ _ = _
    unfold X7_fewestNotRight_b16_s X7_fewestNotRight_b66
    rw [if_pos (show (10 : Int32) ≤ nI 10 by decide), if_neg (ix_ok hn (by omega)), nI_clamp (by omega), hI n (Nat.le_refl _)]
/-! the model -/
theorem wrM_in {law b d n j : Nat} {least thn : Nat → Int32} (s47 : Int32 → Int32 → (Nat → Int32) → (Nat → Int32) → Int32 → Int32 → Option (Int32 × (Nat → Int32) × (Nat → Int32))) (s55 : Int32 → Int32 → (Nat → Int32) → (Nat → Int32) → Int32 → Int32 → Int32 → Option (Int32 × (Nat → Int32) × (Nat → Int32))) (hl : law ≤ 2) (hb : b < 1024) (hd : d < 10) (hn : n < 10) (hj : j ≤ n) (hs : ∀ q, q ≤ n → least q = nI (WW 99 law b d q)) (ht : thn j = nI (WW 99 law b d j)) : ∃ thn', X11_wrong_b75 s47 s55 fU (nI b) (nI law) least thn (nI n) (nI d) (nI j) 1 = s55 (nI b) (nI law) least thn' (nI n) (nI d) (nI (j + 1)) ∧ thn' j = nI (WW 99 law b (d + 1) j) ∧ ∀ q, q ≠ j → thn' q = thn q := by
  by_cases h : bb b d = 0
  · have hW : WW 99 law b (d + 1) j = mnf (WW 99 law b d j) (fun c => WW 99 law b d (j - c) + cst law d c) j := by
      show (if bb b d = 0 then _ else _) = _
      rw [if_pos h]
    rw [hW]
    refine lupR (fun i g => g j = nI (mnf (WW 99 law b d j) (fun c => WW 99 law b d (j - c) + cst law d c) i) ∧ ∀ q, q ≠ j → g q = thn q) (fun k i g => X11_wrong_b75 s47 s55 k (nI b) (nI law) least g (nI n) (nI d) (nI j) (nI (i + 1))) j (fun r => ∃ thn', r = s55 (nI b) (nI law) least thn' (nI n) (nI d) (nI (j + 1)) ∧ thn' j = nI (mnf (WW 99 law b d j) (fun c => WW 99 law b d (j - c) + cst law d c) j) ∧ ∀ q, q ≠ j → thn' q = thn q) ?_ ?_ fU 0 thn (by omega) (fU_gt (by omega)) ⟨ht, fun q _ => rfl⟩
    · intro k i g hi hI
      left
      refine ⟨upd g j (nI (mnf (WW 99 law b d j) (fun c => WW 99 law b d (j - c) + cst law d c) (i + 1))), ⟨pk_us, fun q hq => by rw [pk_un hq]; exact hI.2 q hq⟩, ?_⟩
      show X11_wrong_b75_s s47 s55 (X11_wrong_b75 s47 s55 k) _ _ _ _ _ _ _ _ = _
      unfold X11_wrong_b75_s X11_wrong_b114 X11_wrong_b144
      have e1 : nI j - nI (i + 1) = nI (j - (i + 1)) := pk_sub (by omega)
      have hw := WW_le 99 law b d (j - (i + 1))
      have hw2 := WW_le 99 law b d j
      have hq := mnf_le (WW 99 law b d j) (fun c => WW 99 law b d (j - c) + cst law d c) i
      have hc := cst_le law d (i + 1)
      have hix : ¬ (nI j < 0 ∨ 11 ≤ (nI j).toNatClampNeg) := ix_ok (by omega) (by omega)
      have hix3 : ¬ (nI j < 0 ∨ 11 ≤ j) := fun q => q.elim (nI_pos (by omega)) (by omega)
      rw [if_neg (show ¬ nI j < nI (i + 1) from nI_nlt (by omega) (by omega)), bar_spec hb hd, if_pos h, if_pos rfl, e1, fine_eq, suits_spec hl (by omega) (by omega), if_neg (ix_ok (show j - (i + 1) < 11 by omega) (by omega)), if_neg hix, if_neg hix, nI_clamp (show j - (i + 1) < 2 ^ 31 by omega), nI_clamp (show j < 2 ^ 31 by omega), hs _ (by omega), hI.1, nI_1]
      have key : ∀ x : Nat, x = cst law d (i + 1) → (if nI (mnf (WW 99 law b d j) (fun c => WW 99 law b d (j - c) + cst law d c) i) ≤ nI (WW 99 law b d (j - (i + 1))) + nI x then X11_wrong_b75 s47 s55 k (nI b) (nI law) least (upd g j (nI (mnf (WW 99 law b d j) (fun c => WW 99 law b d (j - c) + cst law d c) i))) (nI n) (nI d) (nI j) (nI (i + 1 + 1)) else X11_wrong_b75 s47 s55 k (nI b) (nI law) least (upd g j (nI (WW 99 law b d (j - (i + 1))) + nI x)) (nI n) (nI d) (nI j) (nI (i + 1 + 1))) = X11_wrong_b75 s47 s55 k (nI b) (nI law) least (upd g j (nI (mnf (WW 99 law b d j) (fun c => WW 99 law b d (j - c) + cst law d c) (i + 1)))) (nI n) (nI d) (nI j) (nI (i + 1 + 1)) := by
        intro x hx
        subst hx
        rw [nI_add]
        have em : mnf (WW 99 law b d j) (fun c => WW 99 law b d (j - c) + cst law d c) (i + 1) = min (mnf (WW 99 law b d j) (fun c => WW 99 law b d (j - c) + cst law d c) i) (WW 99 law b d (j - (i + 1)) + cst law d (i + 1)) := rfl
        by_cases hle : mnf (WW 99 law b d j) (fun c => WW 99 law b d (j - c) + cst law d c) i ≤ WW 99 law b d (j - (i + 1)) + cst law d (i + 1)
        · rw [if_pos (nI_le hle (by omega)), em, Nat.min_eq_left hle]
        · rw [if_neg (nI_ge (by omega) (by omega)), em, Nat.min_eq_right (by omega)]
      by_cases hsu : su law d (i + 1) = true
      · have k0 := key 0 (by unfold cst; rw [if_pos hsu])
        simp only [if_pos hsu, if_neg (show ¬ (1 : Int32) = 0 by decide), if_neg hix3]
        exact k0
      · have k0 := key (i + 1) (by unfold cst; rw [if_neg hsu])
        simp only [if_neg hsu, if_true, if_neg hix3]
        exact k0
    · intro k g hI
      refine ⟨g, ?_, hI⟩
      show X11_wrong_b75_s s47 s55 (X11_wrong_b75 s47 s55 k) _ _ _ _ _ _ _ _ = _
      unfold X11_wrong_b75_s X11_wrong_b151
      rw [if_pos (show nI j < nI (j + 1) from nI_lt (by omega) (by omega)), nI_1]
  · have hW : WW 99 law b (d + 1) j = WW 99 law b d j := by
      show (if bb b d = 0 then _ else _) = _
      rw [if_neg h]
    refine ⟨thn, ?_, by rw [hW]; exact ht, fun q _ => rfl⟩
    show X11_wrong_b75_s s47 s55 (X11_wrong_b75 s47 s55 99999) _ _ _ _ _ _ _ _ = _
    unfold X11_wrong_b75_s X11_wrong_b151
    rw [bar_spec hb hd, if_neg h, if_neg (show ¬ (1 : Int32) = 0 by decide), nI_1]
    split <;> rfl
theorem wrM_row {law b d n : Nat} {least : Nat → Int32} (s47 : Int32 → Int32 → (Nat → Int32) → (Nat → Int32) → Int32 → Int32 → Option (Int32 × (Nat → Int32) × (Nat → Int32))) (hl : law ≤ 2) (hb : b < 1024) (hd : d < 10) (hn : n < 10) (hs : ∀ q, q ≤ n → least q = nI (WW 99 law b d q)) (thn : Nat → Int32) : ∃ least' thn', X11_wrong_b55 s47 fU (nI b) (nI law) least thn (nI n) (nI d) 0 = s47 (nI b) (nI law) least' thn' (nI n) (nI (d + 1)) ∧ ∀ q, q ≤ n → least' q = nI (WW 99 law b (d + 1) q) := by
  refine lupR (fun j g => ∀ q, q < j → g q = nI (WW 99 law b (d + 1) q)) (fun k j g => X11_wrong_b55 s47 k (nI b) (nI law) least g (nI n) (nI d) (nI j)) (n + 1) (fun r => ∃ least' thn', r = s47 (nI b) (nI law) least' thn' (nI n) (nI (d + 1)) ∧ ∀ q, q ≤ n → least' q = nI (WW 99 law b (d + 1) q)) ?_ ?_ fU 0 thn (by omega) (fU_gt (by omega)) (fun q hq => absurd hq (Nat.not_lt_zero q))
  · intro k j g hj hI
    left
    obtain ⟨g', p1, q1, q2⟩ := wrM_in (thn := upd g j (nI (WW 99 law b d j))) s47 (X11_wrong_b55 s47 k) hl hb hd hn (show j ≤ n by omega) hs pk_us
    refine ⟨g', fun q hq => ?_, ?_⟩
    · by_cases e : q = j
      · subst e; exact q1
      · rw [q2 q e, pk_un e]; exact hI q (by omega)
    · show X11_wrong_b55_s s47 (X11_wrong_b55 s47 k) _ _ _ _ _ _ _ = _
      unfold X11_wrong_b55_s
      rw [if_neg (show ¬ nI n < nI j from nI_nlt (by omega) (by omega)), if_neg (ix_ok (show j < 11 by omega) (by omega)), if_neg (ix_ok (show j < 11 by omega) (by omega)), nI_clamp (by omega), hs j (by omega), p1]
  · intro k g hI
    have key : ∃ least', X11_wrong_b159 s47 fU (nI b) (nI law) least g (nI n) (nI d) 0 = s47 (nI b) (nI law) least' g (nI n) (nI (d + 1)) ∧ ∀ q, q ≤ n → least' q = g q := by
      refine lupR (fun i r => ∀ q, q < i → r q = g q) (fun m i r => X11_wrong_b159 s47 m (nI b) (nI law) r g (nI n) (nI d) (nI i)) (n + 1) (fun r => ∃ least', r = s47 (nI b) (nI law) least' g (nI n) (nI (d + 1)) ∧ ∀ q, q ≤ n → least' q = g q) ?_ ?_ fU 0 least (by omega) (fU_gt (by omega)) (fun q hq => absurd hq (Nat.not_lt_zero q))
      · intro m i r hi hI2
        left
        refine ⟨upd r i (g i), fun q hq => ?_, ?_⟩
        · by_cases e : q = i
          · subst e; rw [pk_us]
          · rw [pk_un e]; exact hI2 q (by omega)
        · show X11_wrong_b159_s s47 (X11_wrong_b159 s47 m) _ _ _ _ _ _ _ = _
          unfold X11_wrong_b159_s
          rw [if_neg (show ¬ nI n < nI i from nI_nlt (by omega) (by omega)), if_neg (ix_ok (show i < 11 by omega) (by omega)), if_neg (ix_ok (show i < 11 by omega) (by omega)), nI_clamp (by omega), nI_1]
      · intro m r hI2
        refine ⟨r, ?_, fun q hq => hI2 q (by omega)⟩
        show X11_wrong_b159_s s47 (X11_wrong_b159 s47 m) _ _ _ _ _ _ _ = _
        unfold X11_wrong_b159_s X11_wrong_b182
        rw [if_pos (show nI n < nI (n + 1) from nI_lt (by omega) (by omega)), nI_1]
    obtain ⟨l', p1, q1⟩ := key
    refine ⟨l', g, ?_, fun q hq => by rw [q1 q hq, hI q (by omega)]⟩
    show X11_wrong_b55_s s47 (X11_wrong_b55 s47 k) _ _ _ _ _ _ _ = _
    unfold X11_wrong_b55_s X11_wrong_b157
    rw [if_pos (show nI n < nI (n + 1) from nI_lt (by omega) (by omega)), p1]
theorem wrM_spec {law b n : Nat} (hl : law ≤ 2) (hb : b < 1024) (hn : n < 10) (least thn : Nat → Int32) : ∃ least' thn', X11_wrong_b17 fU (nI b) (nI law) least thn (nI n) 0 = some (nI (WW 99 law b 10 n), least', thn') := by
  refine lupR (fun i g => ∀ q, q < i → g q = nI (WW 99 law b 0 q)) (fun k i g => X11_wrong_b17 k (nI b) (nI law) g thn (nI n) (nI i)) 11 (fun r => ∃ least' thn', r = some (nI (WW 99 law b 10 n), least', thn')) ?_ ?_ fU 0 least (by omega) (fU_gt (by omega)) (fun q hq => absurd hq (Nat.not_lt_zero q))
  · intro k i g hi hI
    left
    refine ⟨upd g i (nI (WW 99 law b 0 i)), fun q hq => ?_, ?_⟩
    · by_cases e : q = i
      · subst e; rw [pk_us]
      · rw [pk_un e]; exact hI q (by omega)
    · show X11_wrong_b17_s (X11_wrong_b17 k) _ _ _ _ _ _ = _
      unfold X11_wrong_b17_s X11_wrong_b38
      rw [if_neg (show ¬ (11 : Int32) ≤ nI i from nI_ge (b := 11) hi (by omega)), if_neg (ix_ok (show i < 11 by omega) (by omega)), if_neg (ix_ok (show i < 11 by omega) (by omega)), nI_clamp (by omega), nI_1]
      by_cases e : i = 0
      · subst e
        rw [if_pos (show nI 0 = 0 from rfl)]
        rfl
      · rw [if_neg (nI_ne0 (by omega) (by omega))]
        have : WW 99 law b 0 i = 99 := by show (if i = 0 then 0 else 99) = 99; rw [if_neg e]
        rw [this]
        rfl
  · intro k g hI
    have key : ∃ least' thn', X11_wrong_b47 fU (nI b) (nI law) g thn (nI n) 0 = some (nI (WW 99 law b 10 n), least', thn') := by
      refine lupR (σ := (Nat → Int32) × (Nat → Int32)) (fun d s => ∀ q, q ≤ n → s.1 q = nI (WW 99 law b d q)) (fun k d s => X11_wrong_b47 k (nI b) (nI law) s.1 s.2 (nI n) (nI d)) 10 (fun r => ∃ least' thn', r = some (nI (WW 99 law b 10 n), least', thn')) ?_ ?_ fU 0 (g, thn) (by omega) (fU_gt (by omega)) (fun q hq => hI q (by omega))
      · intro k d s hd hI2
        left
        obtain ⟨l', t', p1, q1⟩ := wrM_row (X11_wrong_b47 k) hl hb hd hn hI2 s.2
        refine ⟨(l', t'), q1, ?_⟩
        show X11_wrong_b47_s (X11_wrong_b47 k) _ _ _ _ _ _ = _
        unfold X11_wrong_b47_s
        rw [if_neg (show ¬ (10 : Int32) ≤ nI d from nI_ge (b := 10) hd (by omega)), p1]
      · intro k s hI2
        refine ⟨s.1, s.2, ?_⟩
        show X11_wrong_b47_s (X11_wrong_b47 k) _ _ _ _ _ _ = _
        unfold X11_wrong_b47_s X11_wrong_b188
        rw [if_pos (show (10 : Int32) ≤ nI 10 by decide), if_neg (ix_ok (show n < 11 by omega) (by omega)), nI_clamp (by omega), hI2 n (Nat.le_refl _)]
    obtain ⟨l', t', p1⟩ := key
    refine ⟨l', t', ?_⟩
    show X11_wrong_b17_s (X11_wrong_b17 k) _ _ _ _ _ _ = _
    unfold X11_wrong_b17_s X11_wrong_b45
    rw [if_pos (show (11 : Int32) ≤ nI 11 by decide), p1]
theorem J_wrong {law share pot b : Nat} (hR : RU law share pot b) (n : Int32) (costs least thn : Nat → Int32) : ∃ r costs' least' thn', X10_wrong (nI law) (nI b) costs n = some (r, costs') ∧ X11_wrong (nI b) (nI law) least thn n = some (r, least', thn') := by
  obtain ⟨hl, hs, hpot, hb, ho⟩ := hR
  have c10 : ¬ (1 : Int32) = 0 := by decide
  unfold X10_wrong X11_wrong
  rw [crowd_spec, in_spec]
  have e0 : (0 : Int64).toInt = 0 := rfl
  have e9 : (9 : Int64).toInt = 9 := rfl
  rw [e0, e9]
  by_cases h0 : 0 ≤ n.toInt ∧ n.toInt < 10
  · obtain ⟨j, hj, -, rfl⟩ := person_nat (n := 10) h0
    simp only [if_pos h0, if_pos (show 0 ≤ (nI j).toInt ∧ (nI j).toInt ≤ 9 by omega), if_neg c10]
    obtain ⟨s1, p1⟩ := fnrC_spec hl hb hj costs
    obtain ⟨s2, s3, p2⟩ := wrM_spec hl hb hj least thn
    rw [p1, p2, bnd2_k, WW_eq ho hj]
    exact ⟨_, _, _, _, rfl, rfl⟩
  · simp only [if_neg h0, if_neg (show ¬ (0 ≤ n.toInt ∧ n.toInt ≤ 9) by omega), if_true]
    exact ⟨_, _, _, _, rfl, rfl⟩
