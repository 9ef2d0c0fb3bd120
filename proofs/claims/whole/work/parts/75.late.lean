/-! one more that comes late -/
theorem sr_mo {f : Nat → Nat} {a b : Nat} (h : a ≤ b) : sr a f ≤ sr b f := by
  induction b with
  | zero => have : a = 0 := by omega
            subst this; exact Nat.le_refl _
  | succ b ih =>
    by_cases e : a = b + 1
    · subst e; exact Nat.le_refl _
    · rw [sr_s]; have := ih (by omega); omega
theorem sum_ones (ps : List Nat) : (ps.map (fun _ => 1)).sum = ps.length := by
  induction ps with
  | nil => rfl
  | cons a t ih => rw [List.map_cons, List.sum_cons, ih, List.length_cons]; omega
theorem sr_len {ps : List Nat} (h : ∀ x ∈ ps, x < 10) : sr 10 (fun d => ps.count d) = ps.length := by
  have := sum_cnt ps 10 (fun _ => 1) h
  rw [sum_ones] at this
  rw [this]
  exact sr_congr (fun i _ => (Nat.mul_one _).symm)
theorem mx0 {a b : Nat} (ha : a < 2 ^ 30) (hb : b < 2 ^ 30) : (if (0 : Int32) < nI a - nI b then nI a - nI b else 0) = nI (a - b) := by
  by_cases h : b < a
  · rw [pk_sub (by omega), if_pos (show (0 : Int32) < nI (a - b) from nI_lt (a := 0) (by omega) (by omega))]
  · have e : (nI a - nI b).toInt = (a : Int) - b := pk_sub_toInt ha hb
    have z0 : (0 : Int32).toInt = 0 := rfl
    rw [if_neg (by rw [z_lt, e, z0]; omega), show a - b = 0 by omega]; rfl
theorem z_ss (a b : Int32) : a - b + -1 = a - (b + 1) := by grind
def ml (law d cn : Nat) (L : Nat → Nat) (j : Nat) : Nat → Nat
  | 0 => L j + cn
  | i + 1 => if su law d (i + 1) then min (ml law d cn L j i) (L (j - (i + 1)) + (cn - (i + 1))) else ml law d cn L j i
def LC (law b : Nat) (ct : Nat → Nat) : Nat → Nat → Nat
  | 0, j => if j = 0 then 0 else 1000
  | d + 1, j => if bb b d = 0 then ml law d (ct d) (LC law b ct d) j j else LC law b ct d j
theorem ml_bd {law d cn B : Nat} {L : Nat → Nat} (hB : ∀ q, L q ≤ B ∨ (1000 ≤ L q ∧ L q ≤ 1000 + B)) (j : Nat) : ∀ i, ml law d cn L j i ≤ B + cn ∨ (1000 ≤ ml law d cn L j i ∧ ml law d cn L j i ≤ 1000 + (B + cn)) := by
  intro i
  induction i with
  | zero => unfold ml; have := hB j; omega
  | succ i ih =>
    unfold ml
    split
    · have := hB (j - (i + 1)); omega
    · exact ih
theorem LC_bd {law b : Nat} {ct : Nat → Nat} : ∀ d j, LC law b ct d j ≤ sr d ct ∨ (1000 ≤ LC law b ct d j ∧ LC law b ct d j ≤ 1000 + sr d ct) := by
  intro d
  induction d with
  | zero => intro j; unfold LC; split <;> omega
  | succ d ih =>
    intro j
    unfold LC
    rw [sr_s]
    split
    · exact ml_bd ih j j
    · have := ih j; omega
/-! the class -/
theorem laC_spec {law d m cn : Nat} {L : Nat → Nat} {costs : Nat → Int32} (hl : law ≤ 2) (hd : d < 10) (hm : m < 10) (hcn : cn ≤ 9) (hs : ∀ q, q ≤ m → costs q = nI (L q)) (hB : ∀ q, L q ≤ 9 ∨ (1000 ≤ L q ∧ L q ≤ 1000 + 9)) : X7_leastAnew costs (nI law) (nI d) (nI cn) (nI m) = some (nI (ml law d cn L m m)) := by
  unfold X7_leastAnew
  rw [if_neg (ix_ok hm (by omega)), nI_clamp (by omega), hs m (Nat.le_refl _), nI_add]
  refine lup (fun n i => X7_leastAnew_b14 n costs (nI law) (nI d) (nI cn) (nI m) (nI (ml law d cn L m i)) (nI (i + 1))) m _ ?_ ?_ fU 0 (by omega) (fU_gt (by omega))
  · intro n i hi
    show X7_leastAnew_b14_s (X7_leastAnew_b14 n) _ _ _ _ _ _ _ = _
    unfold X7_leastAnew_b14_s X7_leastAnew_b57
    have e1 : nI m - nI (i + 1) = nI (m - (i + 1)) := pk_sub (by omega)
    have hw := hB (m - (i + 1))
    have hq := ml_bd (law := law) (d := d) (cn := cn) hB m i
    rw [if_neg (show ¬ nI m < nI (i + 1) from nI_nlt (by omega) (by omega)), e1, suits_spec hl (by omega) (by omega), if_neg (ix_ok (show m - (i + 1) < 10 by omega) (by omega)), nI_clamp (by omega), hs (m - (i + 1)) (by omega), nI_1, mx0 (by omega) (by omega), nI_add, mn_lt (by omega) (by omega)]
    show _ = X7_leastAnew_b14 n costs (nI law) (nI d) (nI cn) (nI m) (nI (if su law d (i + 1) then min (ml law d cn L m i) (L (m - (i + 1)) + (cn - (i + 1))) else ml law d cn L m i)) _
    by_cases h : su law d (i + 1) = true
    · simp only [if_pos h]
      rw [if_neg (show ¬ (1 : Int32) = 0 by decide)]
    · simp only [if_neg h, if_true]
  · intro n
    show X7_leastAnew_b14_s (X7_leastAnew_b14 n) _ _ _ _ _ _ _ = _
    unfold X7_leastAnew_b14_s
    rw [if_pos (show nI m < nI (m + 1) from nI_lt (by omega) (by omega))]
theorem faC_row {law b d n : Nat} {ct : Nat → Nat} {costs f : Nat → Int32} (self : (Nat → Int32) → Int32 → Int32 → (Nat → Int32) → Int32 → Int32 → Option (Int32 × (Nat → Int32))) (hl : law ≤ 2) (hb : bb b d = 0) (hd : d < 10) (hn : n < 9) (hct : ct d ≤ 9) (hf : f d = nI (ct d)) (hB : sr d ct ≤ 9) (hs : ∀ q, q ≤ n + 1 → costs q = nI (LC law b ct d q)) : ∃ costs', X7_fewestAnew_b48 self fU costs (nI law) (nI b) f (nI n) (nI d) (nI (n + 1)) = self costs' (nI law) (nI b) f (nI n) (nI (d + 1)) ∧ ∀ q, q ≤ n + 1 → costs' q = nI (LC law b ct (d + 1) q) := by
  have hW : ∀ q, LC law b ct (d + 1) q = ml law d (ct d) (LC law b ct d) q q := fun q => by
    show (if bb b d = 0 then _ else _) = _
    rw [if_pos hb]
  have hB2 : ∀ q, LC law b ct d q ≤ 9 ∨ (1000 ≤ LC law b ct d q ∧ LC law b ct d q ≤ 1000 + 9) := fun q => by
    have := LC_bd (law := law) (b := b) (ct := ct) d q
    omega
  have step : ∀ k g m, m < 10 → (∀ q, q ≤ m → g q = nI (LC law b ct d q)) → X7_fewestAnew_b48 self (k + 1) g (nI law) (nI b) f (nI n) (nI d) (nI m) = X7_fewestAnew_b48 self k (upd g m (nI (LC law b ct (d + 1) m))) (nI law) (nI b) f (nI n) (nI d) (nI m + -1) := by
    intro k g m hm hI
    show X7_fewestAnew_b48_s self (X7_fewestAnew_b48 self k) _ _ _ _ _ _ _ = _
    unfold X7_fewestAnew_b48_s
    have hc := laC_spec (L := LC law b ct d) hl hd hm hct hI hB2
    rw [if_neg (show ¬ nI m < 0 from nI_pos (by omega)), if_neg (ix_ok (show d < 10 by omega) (by omega)), nI_clamp (show d < 2 ^ 31 by omega), hf, hc, bnd1_k, if_neg (ix_ok (show m < 10 by omega) (by omega)), nI_clamp (show m < 2 ^ 31 by omega), hW]
  have e0 : nI (n + 1) = nI (n + 1) - nI 0 := (pk_sub (Nat.zero_le (n + 1))).symm
  rw [e0]
  refine lupR (fun j g => (∀ q, q + j ≤ n + 1 → g q = nI (LC law b ct d q)) ∧ ∀ q, n + 1 < q + j → q ≤ n + 1 → g q = nI (LC law b ct (d + 1) q)) (fun k j g => X7_fewestAnew_b48 self k g (nI law) (nI b) f (nI n) (nI d) (nI (n + 1) - nI j)) (n + 2) (fun r => ∃ costs', r = self costs' (nI law) (nI b) f (nI n) (nI (d + 1)) ∧ ∀ q, q ≤ n + 1 → costs' q = nI (LC law b ct (d + 1) q)) ?_ ?_ fU 0 costs (by omega) (fU_gt (by omega)) ⟨fun q hq => hs q (by omega), fun q h1 h2 => by omega⟩
  · intro k j g hj hI
    left
    refine ⟨upd g (n + 1 - j) (nI (LC law b ct (d + 1) (n + 1 - j))), ⟨fun q hq => ?_, fun q h1 h2 => ?_⟩, ?_⟩
    · rw [pk_un (by omega)]; exact hI.1 q (by omega)
    · by_cases e : q = n + 1 - j
      · subst e; rw [pk_us]
      · rw [pk_un e]; exact hI.2 q (by omega) h2
    · have e1 : nI (n + 1) - nI j + -1 = nI (n + 1) - nI (j + 1) := by
        rw [show nI (j + 1) = nI j + 1 from (nI_1 j).symm]; exact z_ss _ _
      have e2 : nI (n + 1) - nI j = nI (n + 1 - j) := pk_sub (by omega)
      show X7_fewestAnew_b48 self (k + 1) g _ _ _ _ _ (nI (n + 1) - nI j) = _
      rw [← e1, e2, step k g (n + 1 - j) (by omega) (fun q hq => hI.1 q (by omega))]
  · intro k g hI
    refine ⟨g, ?_, fun q hq => hI.2 q (by omega) hq⟩
    show X7_fewestAnew_b48_s self (X7_fewestAnew_b48 self k) _ _ _ _ _ _ _ = _
    unfold X7_fewestAnew_b48_s X7_fewestAnew_b79
    have e : (nI (n + 1) - nI (n + 2)).toInt = ((n + 1 : Nat) : Int) - ((n + 2 : Nat) : Int) := pk_sub_toInt (by omega) (by omega)
    have z0 : (0 : Int32).toInt = 0 := rfl
    rw [if_pos (by rw [z_lt, e, z0]; omega), nI_1]
theorem faC_spec {law b n : Nat} {ct : Nat → Nat} {f : Nat → Int32} (hl : law ≤ 2) (hb : b < 1024) (hn : n < 9) (hf : ∀ d, d < 10 → f d = nI (ct d)) (hB : sr 10 ct ≤ 9) (costs : Nat → Int32) : ∃ costs', X7_fewestAnew costs (nI law) (nI b) f (nI n) = some (if 1000 ≤ LC law b ct 10 (n + 1) then -9 else nI (LC law b ct 10 (n + 1)), costs') := by
  unfold X7_fewestAnew
  obtain ⟨c0, p0, q0⟩ := startC_spec costs
  rw [if_neg (show ¬ nI n < 0 from nI_pos (by omega)), if_pos (show nI n < 9 from nI_lt (b := 9) hn (by omega)), p0, bnd1_k]
  refine lupR (fun d g => ∀ q, q ≤ n + 1 → g q = nI (LC law b ct d q)) (fun k d g => X7_fewestAnew_b20 k g (nI law) (nI b) f (nI n) (nI d)) 10 (fun r => ∃ costs', r = some (if 1000 ≤ LC law b ct 10 (n + 1) then -9 else nI (LC law b ct 10 (n + 1)), costs')) ?_ ?_ fU 0 c0 (by omega) (fU_gt (by omega)) (fun q hq => q0 q (by omega))
  · intro k d g hd hI
    left
    by_cases h : bb b d = 0
    · have m1 : sr (d + 1) ct ≤ sr 10 ct := sr_mo (by omega)
      rw [sr_s] at m1
      obtain ⟨g', p1, q1⟩ := faC_row (X7_fewestAnew_b20 k) hl h hd hn (by omega) (hf d hd) (by omega) hI
      refine ⟨g', q1, ?_⟩
      show X7_fewestAnew_b20_s (X7_fewestAnew_b20 k) _ _ _ _ _ _ = _
      unfold X7_fewestAnew_b20_s
      rw [if_neg (show ¬ (10 : Int32) ≤ nI d from nI_ge (b := 10) hd (by omega)), if_neg (show ¬ (10 : Int32) ≤ nI d from nI_ge (b := 10) hd (by omega)), open_spec hb hd, if_pos h, if_neg (show ¬ (1 : Int32) = 0 by decide), nI_1, p1]
    · refine ⟨g, fun q hq => ?_, ?_⟩
      · rw [hI q hq]
        show _ = nI (if bb b d = 0 then _ else _)
        rw [if_neg h]
      · show X7_fewestAnew_b20_s (X7_fewestAnew_b20 k) _ _ _ _ _ _ = _
        unfold X7_fewestAnew_b20_s X7_fewestAnew_b79
        rw [if_neg (show ¬ (10 : Int32) ≤ nI d from nI_ge (b := 10) hd (by omega)), if_neg (show ¬ (10 : Int32) ≤ nI d from nI_ge (b := 10) hd (by omega)), open_spec hb hd, if_neg h, if_pos rfl, nI_1]
  · intro k g hI
    refine ⟨g, ?_⟩
    show X7_fewestAnew_b20_s (X7_fewestAnew_b20 k) _ _ _ _ _ _ = _
    unfold X7_fewestAnew_b20_s X7_fewestAnew_b85
    have hbd := LC_bd (law := law) (b := b) (ct := ct) 10 (n + 1)
    rw [if_pos (show (10 : Int32) ≤ nI 10 by decide), nI_1, if_neg (ix_ok (show n + 1 < 10 by omega) (by omega)), if_neg (ix_ok (show n + 1 < 10 by omega) (by omega)), nI_clamp (by omega), hI (n + 1) (Nat.le_refl _)]
    by_cases h : 1000 ≤ LC law b ct 10 (n + 1)
    · rw [if_pos h, if_pos (show (1000 : Int32) ≤ nI (LC law b ct 10 (n + 1)) from nI_le (a := 1000) h (by omega))]
    · rw [if_neg h, if_neg (show ¬ (1000 : Int32) ≤ nI (LC law b ct 10 (n + 1)) from nI_ge (b := 1000) (by omega) (by omega))]
/-! the model -/
def EK (s v : Nat) : Int32 := if 1000 ≤ v then -9 else nI (s - v)
theorem EK_f {s v : Nat} (h : v < 1000) : EK s v = nI (s - v) := if_neg (by omega)
theorem EK_i {s v : Nat} (h : 1000 ≤ v) : EK s v = -9 := if_pos h
theorem nI_n9 {n : Nat} (h : n < 2 ^ 31) : ¬ nI n = -9 := by
  intro q
  have := congrArg Int32.toInt q
  rw [nI_toInt h] at this
  have z : (-9 : Int32).toInt = -9 := rfl
  omega
theorem n9_le {n : Nat} (h : n < 2 ^ 31) : (-9 : Int32) ≤ nI n := by
  rw [z_le, nI_toInt h]
  have z : (-9 : Int32).toInt = -9 := rfl
  omega
theorem nI_nle9 {n : Nat} (h : n < 2 ^ 31) : ¬ nI n ≤ -9 := by
  rw [z_le, nI_toInt h]
  have z : (-9 : Int32).toInt = -9 := rfl
  omega
theorem n9_EK {s v : Nat} (h : s ≤ 9) : (-9 : Int32) ≤ EK s v := by
  unfold EK
  split
  · decide
  · exact n9_le (by omega)
/-- one candidate -/
theorem EK_st {s0 cn c x m : Nat} (hs : s0 + cn ≤ 9) (hx : x ≤ s0 ∨ 1000 ≤ x) (hm : m ≤ s0 + cn ∨ 1000 ≤ m) : (if EK s0 x = -9 then EK (s0 + cn) m else if EK s0 x + nI (min cn c) ≤ EK (s0 + cn) m then EK (s0 + cn) m else EK s0 x + nI (min cn c)) = EK (s0 + cn) (min m (x + (cn - c))) := by
  rcases hx with hx | hx
  · have e1 : EK s0 x = nI (s0 - x) := EK_f (by omega)
    have e3 : s0 - x + min cn c = s0 + cn - (x + (cn - c)) := by omega
    rw [e1, if_neg (nI_n9 (by omega)), nI_add, e3]
    rcases hm with hm | hm
    · have e2 : EK (s0 + cn) m = nI (s0 + cn - m) := EK_f (by omega)
      rw [e2, EK_f (by omega)]
      by_cases h : m ≤ x + (cn - c)
      · rw [if_pos (nI_le (by omega) (by omega))]; congr 1; omega
      · rw [if_neg (nI_ge (by omega) (by omega))]; congr 1; omega
    · have e2 : EK (s0 + cn) m = -9 := EK_i hm
      rw [e2, if_neg (nI_nle9 (by omega)), EK_f (by omega)]
      congr 1; omega
  · rw [if_pos (EK_i hx)]
    unfold EK
    by_cases h : 1000 ≤ m
    · rw [if_pos h, if_pos (by omega)]
    · rw [if_neg h, if_neg (by omega)]; congr 1; omega
theorem upd_id {g : Nat → Int32} {j : Nat} {x : Int32} (h : g j = x) : upd g j x = g := by
  funext q
  by_cases e : q = j
  · subst e; rw [pk_us, h]
  · rw [pk_un e]
theorem laM_in {law b d n j many cn : Nat} {L : Nat → Nat} {rm : Int32} {sl row least thn : Nat → Int32} {s0 : Nat} (s55 : Int32 → Int32 → Int32 → Int32 → (Nat → Int32) → (Nat → Int32) → (Nat → Int32) → (Nat → Int32) → Int32 → Int32 → Option (Int32 × Int32 × (Nat → Int32) × (Nat → Int32) × (Nat → Int32))) (s70 : Int32 → Int32 → Int32 → Int32 → (Nat → Int32) → (Nat → Int32) → (Nat → Int32) → (Nat → Int32) → Int32 → Int32 → Int32 → Int32 → Option (Int32 × Int32 × (Nat → Int32) × (Nat → Int32) × (Nat → Int32))) (hl : law ≤ 2) (hb : b < 1024) (hd : d < 10) (hn : n < 10) (hj : j ≤ n) (hs0 : s0 + cn ≤ 9) (hB : ∀ q, L q ≤ s0 ∨ (1000 ≤ L q ∧ L q ≤ 1000 + s0)) (hs : ∀ q, q ≤ n → least q = EK s0 (L q)) (ht : thn j = EK s0 (L j)) (ho : bb b d = 0) : ∃ thn', X11_late_b93 s55 s70 fU (nI many) (nI b) (nI law) rm sl row least thn (nI n) (nI d) (nI cn) (nI j) 1 = s70 (nI many) (nI b) (nI law) rm sl row least thn' (nI n) (nI d) (nI cn) (nI (j + 1)) ∧ thn' j = EK (s0 + cn) (ml law d cn L j j) ∧ ∀ q, q ≠ j → thn' q = thn q := by
  have ht2 : thn j = EK (s0 + cn) (ml law d cn L j 0) := by
    rw [ht]
    show EK s0 (L j) = EK (s0 + cn) (L j + cn)
    have := hB j
    unfold EK
    by_cases h : 1000 ≤ L j
    · rw [if_pos h, if_pos (by omega)]
    · rw [if_neg h, if_neg (by omega)]; congr 1; omega
  refine lupR (fun i g => g j = EK (s0 + cn) (ml law d cn L j i) ∧ ∀ q, q ≠ j → g q = thn q) (fun k i g => X11_late_b93 s55 s70 k (nI many) (nI b) (nI law) rm sl row least g (nI n) (nI d) (nI cn) (nI j) (nI (i + 1))) j (fun r => ∃ thn', r = s70 (nI many) (nI b) (nI law) rm sl row least thn' (nI n) (nI d) (nI cn) (nI (j + 1)) ∧ thn' j = EK (s0 + cn) (ml law d cn L j j) ∧ ∀ q, q ≠ j → thn' q = thn q) ?_ ?_ fU 0 thn (by omega) (fU_gt (by omega)) ⟨ht2, fun q _ => rfl⟩
  · intro k i g hi hI
    left
    refine ⟨upd g j (EK (s0 + cn) (ml law d cn L j (i + 1))), ⟨pk_us, fun q hq => by rw [pk_un hq]; exact hI.2 q hq⟩, ?_⟩
    show X11_late_b93_s s55 s70 (X11_late_b93 s55 s70 k) _ _ _ _ _ _ _ _ _ _ _ _ _ = _
    have e1 : nI j - nI (i + 1) = nI (j - (i + 1)) := pk_sub (by omega)
    have hix : ¬ (nI j < 0 ∨ 11 ≤ (nI j).toNatClampNeg) := ix_ok (by omega) (by omega)
    have hix4 : ¬ (nI (j - (i + 1)) < 0 ∨ 11 ≤ (nI (j - (i + 1))).toNatClampNeg) := ix_ok (by omega) (by omega)
    have c10 : ¬ (1 : Int32) = 0 := by decide
    have hm := ml_bd (law := law) (d := d) (cn := cn) hB j i
    have hx := hB (j - (i + 1))
    have key := EK_st (c := i + 1) (m := ml law d cn L j i) (x := L (j - (i + 1))) hs0 (by omega) (by omega)
    have hml : ml law d cn L j (i + 1) = if su law d (i + 1) then min (ml law d cn L j i) (L (j - (i + 1)) + (cn - (i + 1))) else ml law d cn L j i := rfl
    have hlow : (-9 : Int32) ≤ g j := by rw [hI.1]; exact n9_EK hs0
    have stay : ∀ x5 : Int32, X11_late_b173 s55 s70 (X11_late_b93 s55 s70 k) (nI many) (nI b) (nI law) rm sl row least g (nI n) (nI d) (nI cn) (nI j) x5 (-9) = X11_late_b93 s55 s70 k (nI many) (nI b) (nI law) rm sl row least (upd g j (g j)) (nI n) (nI d) (nI cn) (nI j) (x5 + 1) := by
      intro x5
      unfold X11_late_b173 X11_late_b205
      rw [if_neg hix, if_neg hix, if_neg hix, nI_clamp (show j < 2 ^ 31 by omega), if_pos hlow]
    unfold X11_late_b93_s X11_late_b137 X11_late_b138
    rw [if_neg (show ¬ nI j < nI (i + 1) from nI_nlt (by omega) (by omega)), bar_spec hb hd, if_pos ho, if_pos rfl, e1, fine_eq, suits_spec hl (by omega) (by omega), if_neg hix4, if_neg hix4, if_pos (show (0 : Int32) = 0 from rfl), if_neg c10, stay, nI_clamp (show j - (i + 1) < 2 ^ 31 by omega), hs _ (by omega), nI_1, hml]
    by_cases hsu : su law d (i + 1) = true
    · simp only [if_pos hsu, if_neg c10]
      by_cases h9 : EK s0 (L (j - (i + 1))) = -9
      · rw [if_pos h9, hI.1]
        rw [if_pos h9] at key
        rw [← key]
      · rw [if_neg h9]
        rw [if_neg h9] at key
        unfold X11_late_b167 X11_late_b173 X11_late_b205
        have emin : ∀ F : Int32 → Option (Int32 × Int32 × (Nat → Int32) × (Nat → Int32) × (Nat → Int32)), (if nI cn ≤ nI (i + 1) then F (nI cn) else F (nI (i + 1))) = F (nI (min cn (i + 1))) := by
          intro F
          by_cases h : cn ≤ i + 1
          · rw [if_pos (nI_le h (by omega)), Nat.min_eq_left h]
          · rw [if_neg (nI_ge (by omega) (by omega)), Nat.min_eq_right (by omega)]
        rw [emin (fun x => if nI j < 0 ∨ 11 ≤ (nI j).toNatClampNeg then none else if EK s0 (L (j - (i + 1))) + x ≤ g (nI j).toNatClampNeg then (if nI j < 0 ∨ 11 ≤ (nI j).toNatClampNeg then none else if nI j < 0 ∨ 11 ≤ (nI j).toNatClampNeg then none else X11_late_b93 s55 s70 k (nI many) (nI b) (nI law) rm sl row least (upd g (nI j).toNatClampNeg (g (nI j).toNatClampNeg)) (nI n) (nI d) (nI cn) (nI j) (nI (i + 1) + 1)) else (if nI j < 0 ∨ 11 ≤ (nI j).toNatClampNeg then none else X11_late_b93 s55 s70 k (nI many) (nI b) (nI law) rm sl row least (upd g (nI j).toNatClampNeg (EK s0 (L (j - (i + 1))) + x)) (nI n) (nI d) (nI cn) (nI j) (nI (i + 1) + 1)))]
        rw [if_neg hix, if_neg hix, if_neg hix, nI_clamp (show j < 2 ^ 31 by omega), hI.1, nI_1, ← key]
        split
        · rfl
        · rw [if_neg (show ¬ (nI j < 0 ∨ 11 ≤ j) from fun q => q.elim (nI_pos (by omega)) (by omega))]
    · simp only [if_neg hsu, if_true]
      rw [hI.1]
  · intro k g hI
    refine ⟨g, ?_, hI⟩
    show X11_late_b93_s s55 s70 (X11_late_b93 s55 s70 k) _ _ _ _ _ _ _ _ _ _ _ _ _ = _
    unfold X11_late_b93_s X11_late_b212
    rw [if_pos (show nI j < nI (j + 1) from nI_lt (by omega) (by omega)), nI_1]
theorem laM_row {law b d n many : Nat} {ct : Nat → Nat} {rm : Int32} {sl row least : Nat → Int32} (s55 : Int32 → Int32 → Int32 → Int32 → (Nat → Int32) → (Nat → Int32) → (Nat → Int32) → (Nat → Int32) → Int32 → Int32 → Option (Int32 × Int32 × (Nat → Int32) × (Nat → Int32) × (Nat → Int32))) (hl : law ≤ 2) (hb : b < 1024) (hd : d < 10) (hn : n < 10) (hB : sr (d + 1) ct ≤ 9) (hz : bb b d ≠ 0 → ct d = 0) (hs : ∀ q, q ≤ n → least q = EK (sr d ct) (LC law b ct d q)) (thn : Nat → Int32) : ∃ least' thn', X11_late_b70 s55 fU (nI many) (nI b) (nI law) rm sl row least thn (nI n) (nI d) (nI (ct d)) 0 = s55 (nI many) (nI b) (nI law) rm sl row least' thn' (nI n) (nI (d + 1)) ∧ ∀ q, q ≤ n → least' q = EK (sr (d + 1) ct) (LC law b ct (d + 1) q) := by
  rw [sr_s] at hB
  refine lupR (fun j g => ∀ q, q < j → g q = EK (sr (d + 1) ct) (LC law b ct (d + 1) q)) (fun k j g => X11_late_b70 s55 k (nI many) (nI b) (nI law) rm sl row least g (nI n) (nI d) (nI (ct d)) (nI j)) (n + 1) (fun r => ∃ least' thn', r = s55 (nI many) (nI b) (nI law) rm sl row least' thn' (nI n) (nI (d + 1)) ∧ ∀ q, q ≤ n → least' q = EK (sr (d + 1) ct) (LC law b ct (d + 1) q)) ?_ ?_ fU 0 thn (by omega) (fU_gt (by omega)) (fun q hq => absurd hq (Nat.not_lt_zero q))
  · intro k j g hj hI
    left
    have key : ∃ g', X11_late_b93 s55 (X11_late_b70 s55 k) fU (nI many) (nI b) (nI law) rm sl row least (upd g j (EK (sr d ct) (LC law b ct d j))) (nI n) (nI d) (nI (ct d)) (nI j) 1 = X11_late_b70 s55 k (nI many) (nI b) (nI law) rm sl row least g' (nI n) (nI d) (nI (ct d)) (nI (j + 1)) ∧ g' j = EK (sr (d + 1) ct) (LC law b ct (d + 1) j) ∧ ∀ q, q ≠ j → g' q = upd g j (EK (sr d ct) (LC law b ct d j)) q := by
      by_cases h : bb b d = 0
      · have hW : LC law b ct (d + 1) j = ml law d (ct d) (LC law b ct d) j j := by
          show (if bb b d = 0 then _ else _) = _
          rw [if_pos h]
        rw [hW]
        exact laM_in (L := LC law b ct d) (thn := upd g j (EK (sr d ct) (LC law b ct d j))) s55 (X11_late_b70 s55 k) hl hb hd hn (show j ≤ n by omega) hB (LC_bd d) hs pk_us h
      · have hW : LC law b ct (d + 1) j = LC law b ct d j := by
          show (if bb b d = 0 then _ else _) = _
          rw [if_neg h]
        refine ⟨_, ?_, ?_, fun q _ => rfl⟩
        · show X11_late_b93_s s55 (X11_late_b70 s55 k) (X11_late_b93 s55 (X11_late_b70 s55 k) 99999) _ _ _ _ _ _ _ _ _ _ _ _ _ = _
          unfold X11_late_b93_s X11_late_b212
          rw [bar_spec hb hd, if_neg h, if_neg (show ¬ (1 : Int32) = 0 by decide), nI_1]
          split <;> rfl
        · rw [pk_us, hW, sr_s, hz h, Nat.add_zero]
    obtain ⟨g', p1, q1, q2⟩ := key
    refine ⟨g', fun q hq => ?_, ?_⟩
    · by_cases e : q = j
      · subst e; exact q1
      · rw [q2 q e, pk_un e]; exact hI q (by omega)
    · show X11_late_b70_s s55 (X11_late_b70 s55 k) _ _ _ _ _ _ _ _ _ _ _ _ = _
      unfold X11_late_b70_s
      rw [if_neg (show ¬ nI n < nI j from nI_nlt (by omega) (by omega)), if_neg (ix_ok (show j < 11 by omega) (by omega)), if_neg (ix_ok (show j < 11 by omega) (by omega)), nI_clamp (by omega), hs j (by omega), p1]
  · intro k g hI
    have key : ∃ least', X11_late_b221 s55 fU (nI many) (nI b) (nI law) rm sl row least g (nI n) (nI d) 0 = s55 (nI many) (nI b) (nI law) rm sl row least' g (nI n) (nI (d + 1)) ∧ ∀ q, q ≤ n → least' q = g q := by
      refine lupR (fun i r => ∀ q, q < i → r q = g q) (fun m i r => X11_late_b221 s55 m (nI many) (nI b) (nI law) rm sl row r g (nI n) (nI d) (nI i)) (n + 1) (fun r => ∃ least', r = s55 (nI many) (nI b) (nI law) rm sl row least' g (nI n) (nI (d + 1)) ∧ ∀ q, q ≤ n → least' q = g q) ?_ ?_ fU 0 least (by omega) (fU_gt (by omega)) (fun q hq => absurd hq (Nat.not_lt_zero q))
      · intro m i r hi hI2
        left
        refine ⟨upd r i (g i), fun q hq => ?_, ?_⟩
        · by_cases e : q = i
          · subst e; rw [pk_us]
          · rw [pk_un e]; exact hI2 q (by omega)
        · show X11_late_b221_s s55 (X11_late_b221 s55 m) _ _ _ _ _ _ _ _ _ _ _ = _
          unfold X11_late_b221_s
          rw [if_neg (show ¬ nI n < nI i from nI_nlt (by omega) (by omega)), if_neg (ix_ok (show i < 11 by omega) (by omega)), if_neg (ix_ok (show i < 11 by omega) (by omega)), nI_clamp (by omega), nI_1]
      · intro m r hI2
        refine ⟨r, ?_, fun q hq => hI2 q (by omega)⟩
        show X11_late_b221_s s55 (X11_late_b221 s55 m) _ _ _ _ _ _ _ _ _ _ _ = _
        unfold X11_late_b221_s X11_late_b247
        rw [if_pos (show nI n < nI (n + 1) from nI_lt (by omega) (by omega)), nI_1]
    obtain ⟨l', p1, q1⟩ := key
    refine ⟨l', g, ?_, fun q hq => by rw [q1 q hq, hI q (by omega)]⟩
    show X11_late_b70_s s55 (X11_late_b70 s55 k) _ _ _ _ _ _ _ _ _ _ _ _ = _
    unfold X11_late_b70_s X11_late_b218
    rw [if_pos (show nI n < nI (n + 1) from nI_lt (by omega) (by omega)), p1]
theorem laM_spec {law b : Nat} {ps : List Nat} {many : Int32} {row : Nat → Int32} (hl : law ≤ 2) (hb : b < 1024) (hn : ps.length < 9) (hO : OK b ps) (hP : PM ps many row) (sl least thn : Nat → Int32) : ∃ least' thn', X11_late_b18 fU (nI ps.length) (nI b) (nI law) many sl row least thn 0 = some (if 1000 ≤ LC law b (fun d => ps.count d) 10 (ps.length + 1) then -9 else nI (LC law b (fun d => ps.count d) 10 (ps.length + 1)), many, row, least', thn') := by
  have hlen : sr 10 (fun d => ps.count d) = ps.length := sr_len hP.2.1
  refine lupR (fun i g => ∀ q, q < i → g q = EK 0 (LC law b (fun d => ps.count d) 0 q)) (fun k i g => X11_late_b18 k (nI ps.length) (nI b) (nI law) many sl row g thn (nI i)) 11 (fun r => ∃ least' thn', r = some (if 1000 ≤ LC law b (fun d => ps.count d) 10 (ps.length + 1) then -9 else nI (LC law b (fun d => ps.count d) 10 (ps.length + 1)), many, row, least', thn')) ?_ ?_ fU 0 least (by omega) (fU_gt (by omega)) (fun q hq => absurd hq (Nat.not_lt_zero q))
  · intro k i g hi hI
    left
    refine ⟨upd g i (EK 0 (LC law b (fun d => ps.count d) 0 i)), fun q hq => ?_, ?_⟩
    · by_cases e : q = i
      · subst e; rw [pk_us]
      · rw [pk_un e]; exact hI q (by omega)
    · show X11_late_b18_s (X11_late_b18 k) _ _ _ _ _ _ _ _ _ = _
      unfold X11_late_b18_s X11_late_b39
      rw [if_neg (show ¬ (11 : Int32) ≤ nI i from nI_ge (b := 11) hi (by omega)), if_neg (ix_ok (show i < 11 by omega) (by omega)), if_neg (ix_ok (show i < 11 by omega) (by omega)), nI_clamp (by omega), nI_1]
      by_cases e : i = 0
      · subst e
        rw [if_pos (show nI 0 = 0 from rfl)]
        rfl
      · rw [if_neg (nI_ne0 (by omega) (by omega))]
        have : LC law b (fun d => ps.count d) 0 i = 1000 := by show (if i = 0 then 0 else 1000) = 1000; rw [if_neg e]
        rw [this]
        rfl
  · intro k g hI
    have key : ∃ least' thn', X11_late_b55 fU (nI ps.length) (nI b) (nI law) many sl row g thn (nI (ps.length + 1)) 0 = some (if 1000 ≤ LC law b (fun d => ps.count d) 10 (ps.length + 1) then -9 else nI (LC law b (fun d => ps.count d) 10 (ps.length + 1)), many, row, least', thn') := by
      refine lupR (σ := (Nat → Int32) × (Nat → Int32)) (fun d s => ∀ q, q ≤ ps.length + 1 → s.1 q = EK (sr d (fun d => ps.count d)) (LC law b (fun d => ps.count d) d q)) (fun k d s => X11_late_b55 k (nI ps.length) (nI b) (nI law) many sl row s.1 s.2 (nI (ps.length + 1)) (nI d)) 10 (fun r => ∃ least' thn', r = some (if 1000 ≤ LC law b (fun d => ps.count d) 10 (ps.length + 1) then -9 else nI (LC law b (fun d => ps.count d) 10 (ps.length + 1)), many, row, least', thn')) ?_ ?_ fU 0 (g, thn) (by omega) (fU_gt (by omega)) (fun q hq => hI q (by omega))
      · intro k d s hd hI2
        left
        have m1 : sr (d + 1) (fun d => ps.count d) ≤ sr 10 (fun d => ps.count d) := sr_mo (by omega)
        obtain ⟨l', t', p1, q1⟩ := laM_row (ct := fun d => ps.count d) (rm := many) (sl := sl) (row := row) (many := ps.length) (X11_late_b55 k) hl hb hd (show ps.length + 1 < 10 by omega) (by omega) (fun hne => List.count_eq_zero.mpr (fun hm => hne (hO.2 d hm).2)) hI2 s.2
        refine ⟨(l', t'), q1, ?_⟩
        show X11_late_b55_s (X11_late_b55 k) _ _ _ _ _ _ _ _ _ _ = _
        unfold X11_late_b55_s
        rw [if_neg (show ¬ (10 : Int32) ≤ nI d from nI_ge (b := 10) hd (by omega)), wroteIn_spec hP (by omega), bnd1_k, p1]
      · intro k s hI2
        refine ⟨s.1, s.2, ?_⟩
        show X11_late_b55_s (X11_late_b55 k) _ _ _ _ _ _ _ _ _ _ = _
        unfold X11_late_b55_s X11_late_b253
        have hbd := LC_bd (law := law) (b := b) (ct := fun d => ps.count d) 10 (ps.length + 1)
        rw [if_pos (show (10 : Int32) ≤ nI 10 by decide), if_neg (ix_ok (show ps.length + 1 < 11 by omega) (by omega)), if_neg (ix_ok (show ps.length + 1 < 11 by omega) (by omega)), nI_clamp (by omega), hI2 _ (Nat.le_refl _)]
        by_cases h : 1000 ≤ LC law b (fun d => ps.count d) 10 (ps.length + 1)
        · rw [if_pos h, if_pos (EK_i h)]
        · rw [if_neg h, EK_f (by omega), if_neg (nI_n9 (by omega)), pk_sub (by omega)]
          congr 3; omega
    obtain ⟨l', t', p1⟩ := key
    refine ⟨l', t', ?_⟩
    show X11_late_b18_s (X11_late_b18 k) _ _ _ _ _ _ _ _ _ = _
    unfold X11_late_b18_s X11_late_b46
    rw [if_pos (show (11 : Int32) ≤ nI 11 by decide), nI_1, p1]
theorem J_late {ps : List Nat} {size many : Int32} {nm ct sl : Nat → Int32} {law share pot b : Nat} (hR : RU law share pot b) (hO : OK b ps) (hC : PC ps size nm ct) (hM : PM ps many sl) (rm : Int32) (row costs least thn : Nat → Int32) : ∃ r costs' rm' row' least' thn', X10_late (nI law) (nI b) size ct costs = some (r, costs') ∧ X11_late many (nI b) (nI law) rm sl row least thn = some (r, rm', row', least', thn') := by
  obtain ⟨hl, hs, hpot, hb, ho⟩ := hR
  have hn := hM.1
  unfold X10_late X11_late X5_size
  rw [hC.1.2.2.1]
  by_cases h9 : ps.length < 9
  · obtain ⟨row1, a1, hP1⟩ := takeSlips_spec hM rm row
    have hlen : sr 10 (fun d => ps.count d) = ps.length := sr_len hM.2.1
    obtain ⟨c', p1⟩ := faC_spec (ct := fun d => ps.count d) (f := ct) hl hb h9 (fun d hd => hC.2 d hd) (by omega) costs
    obtain ⟨l', t', p2⟩ := laM_spec hl hb h9 hO hP1 sl least thn
    rw [if_pos (show nI ps.length < 9 from nI_lt (b := 9) h9 (by omega)), p1, bnd2_k, a1, bnd2_k, hM.2.2.1, if_neg (show ¬ nI ps.length = 9 from fun q => by have := (nI_eq (b := 9) (by omega) (by omega)).mp q; omega)]
    rw [hM.2.2.1] at p2
    rw [p2]
    exact ⟨_, _, _, _, _, _, rfl, rfl⟩
  · have e : ps.length = 9 := by omega
    rw [hM.2.2.1, e]
    exact ⟨_, _, _, _, _, _, rfl, rfl⟩
