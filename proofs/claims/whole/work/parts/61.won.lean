/-! evenings -/
def pcn (b : Nat) : Nat := sr 10 (fun d => bb b d)
set_option maxRecDepth 100000 in
theorem bitCount_spec : ∀ b, b < 1024 → J6_bitCount_0f7a4 (nI b) = nI (pcn b) := by decide +kernel
theorem ones_spec {b : Nat} (hb : b < 1024) : X11_ones (nI b) = some (nI (pcn b)) := by
  unfold X11_ones
  refine lup (fun n i => X11_ones_b4 n (nI b) (nI (sr i (fun d => bb b d))) (nI i)) 10 _ ?_ ?_ fU 0 (by omega) (fU_gt (by omega))
  · intro n i hi
    show X11_ones_b4_s (X11_ones_b4 n) _ _ _ = _
    unfold X11_ones_b4_s
    rw [bit_spec hb hi]
    simp (disch := omega) only [zl_0, zl_1, zl_2, zl_3, zl_4, zl_5, zl_6, zl_7, zl_8, zl_9, zl_10, zl_11, zl_12, zl_15, zl_16, zl_20, zl_40, zl_48, zl_60, zl_78, zl_80, zl_84, zl_99, zl_100, zl_128, zl_160, zl_255, zl_999, zl_1000, zl_1023, nI_leI, nI_ltI, nI_eq, nI_clamp, nI_add, bnd1_k, bnd2_k, bnd3_k, bnd4_k, if_pos, if_neg, if_true, if_false, Nat.not_lt_zero, false_or, or_false]
    rfl
  · intro n
    show X11_ones_b4_s (X11_ones_b4 n) _ _ _ = _
    unfold X11_ones_b4_s
    simp (disch := omega) only [zl_0, zl_1, zl_2, zl_3, zl_4, zl_5, zl_6, zl_7, zl_8, zl_9, zl_10, zl_11, zl_12, zl_15, zl_16, zl_20, zl_40, zl_48, zl_60, zl_78, zl_80, zl_84, zl_99, zl_100, zl_128, zl_160, zl_255, zl_999, zl_1000, zl_1023, nI_leI, nI_ltI, nI_eq, nI_clamp, nI_add, bnd1_k, bnd2_k, bnd3_k, bnd4_k, if_pos, if_neg, if_true, if_false, Nat.not_lt_zero, false_or, or_false]
    rfl
/-- how many numbers below i are not barred -/
def oc (b i : Nat) : Nat := sr i (fun d => 1 - bb b d)
theorem oc_s (b i : Nat) : oc b (i + 1) = oc b i + (1 - bb b i) := rfl
theorem oc_pc (b : Nat) : ∀ i, oc b i + sr i (fun d => bb b d) = i := by
  intro i
  induction i with
  | zero => rfl
  | succ i ih =>
    rw [oc_s, sr_s]
    have := bb_lt b i
    omega
theorem oc_mono (b : Nat) {i j : Nat} (h : i ≤ j) : oc b i ≤ oc b j := by
  induction j with
  | zero =>
    have : i = 0 := by omega
    subst this; exact Nat.le_refl _
  | succ j ih =>
    by_cases e : i = j + 1
    · subst e; exact Nat.le_refl _
    · have := ih (by omega)
      rw [oc_s]; omega
theorem oc_ex (b r : Nat) : ∀ N, r < oc b N → ∃ i, i < N ∧ bb b i = 0 ∧ oc b i = r := by
  intro N
  induction N with
  | zero => intro h; exact absurd h (Nat.not_lt_zero r)
  | succ N ih =>
    intro h
    by_cases h1 : r < oc b N
    · obtain ⟨i, a, c, d⟩ := ih h1
      exact ⟨i, by omega, c, d⟩
    · rw [oc_s] at h
      have := bb_lt b N
      exact ⟨N, by omega, by omega, by omega⟩
theorem openAt_spec {b r i0 : Nat} (hb : b < 1024) (h0 : i0 < 10) (h1 : bb b i0 = 0) (h2 : oc b i0 = r) : X8_openAt (nI b) (nI r) = some (nI i0) := by
  have hr : r ≤ 10 := by have := oc_pc b i0; omega
  unfold X8_openAt
  refine lup (fun n i => X8_openAt_b4 n (nI b) (nI r) (nI (oc b i)) (nI i)) i0 _ ?_ ?_ fU 0 (by omega) (fU_gt (by omega))
  · intro n i hi
    show X8_openAt_b4_s (X8_openAt_b4 n) _ _ _ _ = X8_openAt_b4 n _ _ (nI (oc b (i + 1))) _
    unfold X8_openAt_b4_s X8_openAt_b28
    rw [open_spec hb (by omega)]
    have hm := oc_mono b (show i + 1 ≤ i0 by omega)
    rw [oc_s] at hm ⊢
    have := bb_lt b i
    by_cases h : bb b i = 0
    · simp only [h] at hm ⊢
      simp (disch := omega) only [zl_0, zl_1, zl_2, zl_3, zl_4, zl_5, zl_6, zl_7, zl_8, zl_9, zl_10, zl_11, zl_12, zl_15, zl_16, zl_20, zl_40, zl_48, zl_60, zl_78, zl_80, zl_84, zl_99, zl_100, zl_128, zl_160, zl_255, zl_999, zl_1000, zl_1023, nI_leI, nI_ltI, nI_eq, nI_clamp, nI_add, bnd1_k, bnd2_k, bnd3_k, bnd4_k, if_pos, if_neg, if_true, if_false, Nat.not_lt_zero, false_or, or_false]
    · have hb1 : bb b i = 1 := by omega
      simp only [hb1]
      simp (disch := omega) only [zl_0, zl_1, zl_2, zl_3, zl_4, zl_5, zl_6, zl_7, zl_8, zl_9, zl_10, zl_11, zl_12, zl_15, zl_16, zl_20, zl_40, zl_48, zl_60, zl_78, zl_80, zl_84, zl_99, zl_100, zl_128, zl_160, zl_255, zl_999, zl_1000, zl_1023, nI_leI, nI_ltI, nI_eq, nI_clamp, nI_add, bnd1_k, bnd2_k, bnd3_k, bnd4_k, if_pos, if_neg, if_true, if_false, Nat.not_lt_zero, false_or, or_false]
      rfl
  · intro n
    show X8_openAt_b4_s (X8_openAt_b4 n) _ _ _ _ = _
    unfold X8_openAt_b4_s
    rw [open_spec hb h0, h2]
    simp (disch := omega) only [zl_0, zl_1, zl_2, zl_3, zl_4, zl_5, zl_6, zl_7, zl_8, zl_9, zl_10, zl_11, zl_12, zl_15, zl_16, zl_20, zl_40, zl_48, zl_60, zl_78, zl_80, zl_84, zl_99, zl_100, zl_128, zl_160, zl_255, zl_999, zl_1000, zl_1023, nI_leI, nI_ltI, nI_eq, nI_clamp, nI_add, bnd1_k, bnd2_k, bnd3_k, bnd4_k, if_pos, if_neg, if_true, if_false, Nat.not_lt_zero, false_or, or_false]
theorem openM_spec {b r i0 : Nat} (hb : b < 1024) (h0 : i0 < 10) (h1 : bb b i0 = 0) (h2 : oc b i0 = r) : X11_open (nI b) (nI r) = some (nI i0) := by
  have hr : r ≤ 10 := by have := oc_pc b i0; omega
  unfold X11_open
  refine lup (fun n i => X11_open_b4 n (nI b) (nI i) (nI (r - oc b i))) i0 _ ?_ ?_ fU 0 (by omega) (fU_gt (by omega))
  · intro n i hi
    show X11_open_b4_s (X11_open_b4 n) _ _ _ = X11_open_b4 n _ _ (nI (r - oc b (i + 1)))
    unfold X11_open_b4_s X11_open_b16 X11_open_b30
    rw [bar_spec hb (by omega)]
    have hm := oc_mono b (show i + 1 ≤ i0 by omega)
    rw [oc_s] at hm ⊢
    have := bb_lt b i
    by_cases h : bb b i = 0
    · simp only [h] at hm ⊢
      have e : nI (r - oc b i) - nI 1 = nI (r - (oc b i + (1 - 0))) := by
        rw [pk_sub (by omega)]; congr 1
      simp (disch := omega) only [zl_0, zl_1, zl_2, zl_3, zl_4, zl_5, zl_6, zl_7, zl_8, zl_9, zl_10, zl_11, zl_12, zl_15, zl_16, zl_20, zl_40, zl_48, zl_60, zl_78, zl_80, zl_84, zl_99, zl_100, zl_128, zl_160, zl_255, zl_999, zl_1000, zl_1023, nI_leI, nI_ltI, nI_eq, nI_clamp, nI_add, bnd1_k, bnd2_k, bnd3_k, bnd4_k, if_pos, if_neg, if_true, if_false, Nat.not_lt_zero, false_or, or_false, e]
    · have hb1 : bb b i = 1 := by omega
      simp only [hb1]
      have e : nI (r - oc b i) - nI 0 = nI (r - (oc b i + (1 - 1))) := by
        rw [pk_sub (by omega)]; congr 1
      simp (disch := omega) only [zl_0, zl_1, zl_2, zl_3, zl_4, zl_5, zl_6, zl_7, zl_8, zl_9, zl_10, zl_11, zl_12, zl_15, zl_16, zl_20, zl_40, zl_48, zl_60, zl_78, zl_80, zl_84, zl_99, zl_100, zl_128, zl_160, zl_255, zl_999, zl_1000, zl_1023, nI_leI, nI_ltI, nI_eq, nI_clamp, nI_add, bnd1_k, bnd2_k, bnd3_k, bnd4_k, if_pos, if_neg, if_true, if_false, Nat.not_lt_zero, false_or, or_false, e, ite_self]
  · intro n
    show X11_open_b4_s (X11_open_b4 n) _ _ _ = _
    unfold X11_open_b4_s
    rw [bar_spec hb h0, h2, Nat.sub_self]
    simp (disch := omega) only [zl_0, zl_1, zl_2, zl_3, zl_4, zl_5, zl_6, zl_7, zl_8, zl_9, zl_10, zl_11, zl_12, zl_15, zl_16, zl_20, zl_40, zl_48, zl_60, zl_78, zl_80, zl_84, zl_99, zl_100, zl_128, zl_160, zl_255, zl_999, zl_1000, zl_1023, nI_leI, nI_ltI, nI_eq, nI_clamp, nI_add, bnd1_k, bnd2_k, bnd3_k, bnd4_k, if_pos, if_neg, if_true, if_false, Nat.not_lt_zero, false_or, or_false, h1]
def nxt (s : Int64) : Int64 := s * (6364136223846793005 : Int64) + (1442695040888963407 : Int64)
theorem upper_spec (s : Int64) : ∃ u, u < 2 ^ 31 ∧ (s.toUInt64 >>> ((33 : Int32).toInt64.toUInt64 &&& Int64.toUInt64 63)).toInt64 = lN u := by
  obtain ⟨n, hn, rfl⟩ := wb_of s
  refine ⟨n / 2 ^ 33, by omega, ?_⟩
  exact wb_shr (k := 33) hn (by decide)
theorem draw_ex {b : Nat} (hb : b < 1024) (ho : ∃ d, d < 10 ∧ bb b d = 0) (s : Int64) : ∃ d, d < 10 ∧ X1_drawn s (nI b) = some (nI d, nxt s) ∧ (∀ r3, r3 = nI (pcn b) → ¬ ((10 : Int32) - r3).toInt64 = 0 ∧ X11_open (nI b) (((nxt s).toUInt64 >>> ((33 : Int32).toInt64.toUInt64 &&& Int64.toUInt64 63)).toInt64 - ((nxt s).toUInt64 >>> ((33 : Int32).toInt64.toUInt64 &&& Int64.toUInt64 63)).toInt64 / ((10 : Int32) - r3).toInt64 * ((10 : Int32) - r3).toInt64).toInt32 = some (nI d)) := by
  obtain ⟨u, hu, eu⟩ := upper_spec (nxt s)
  have hp := oc_pc b 10
  have hpc : oc b 10 + pcn b = 10 := hp
  have hpos : 0 < oc b 10 := by
    obtain ⟨d, hd, hd0⟩ := ho
    have h1 := oc_mono b (show d + 1 ≤ 10 by omega)
    rw [oc_s, hd0] at h1
    omega
  have em : (10 : Int32) - nI (pcn b) = nI (oc b 10) := by
    have : nI 10 - nI (pcn b) = nI (10 - pcn b) := pk_sub (by omega)
    rw [show (10 : Int32) = nI 10 from rfl, this]
    congr 1; omega
  have hoc : oc b 10 ≤ 10 := by omega
  obtain ⟨i0, a0, a1, a2⟩ := oc_ex b (u % oc b 10) 10 (Nat.mod_lt _ hpos)
  refine ⟨i0, a0, ?_, ?_⟩
  · unfold X1_drawn X8_barredMany
    rw [bitCount_spec b hb, em]
    have e1 : s * (6364136223846793005 : Int64) + (1442695040888963407 : Int64) = nxt s := rfl
    rw [e1, eu, lN_i, pk_rem hu hpos (by omega), openAt_spec hb a0 a1 a2, bnd1_k]
    simp (disch := omega) only [zl_0, zl_1, zl_2, zl_3, zl_4, zl_5, zl_6, zl_7, zl_8, zl_9, zl_10, zl_11, zl_12, zl_15, zl_16, zl_20, zl_40, zl_48, zl_60, zl_78, zl_80, zl_84, zl_99, zl_100, zl_128, zl_160, zl_255, zl_999, zl_1000, zl_1023, nI_leI, nI_ltI, nI_eq, nI_clamp, nI_add, bnd1_k, bnd2_k, bnd3_k, bnd4_k, if_pos, if_neg, if_true, if_false, Nat.not_lt_zero, false_or, or_false]
  · rintro r3 rfl
    rw [em, nI_l (by omega), eu, pk_lRem (by omega) hpos (by omega), lN_i, openM_spec hb a0 a1 a2]
    refine ⟨fun q => ?_, rfl⟩
    have : oc b 10 = 0 := (lN_eq (by omega) (by omega)).mp q
    omega
/-- what is drawn, by a function -/
noncomputable def dw (b : Nat) (s : Int64) : Nat := if h : b < 1024 ∧ ∃ d, d < 10 ∧ bb b d = 0 then (draw_ex h.1 h.2 s).choose else 0
theorem dw_spec {b : Nat} (hb : b < 1024) (ho : ∃ d, d < 10 ∧ bb b d = 0) (s : Int64) : dw b s < 10 ∧ X1_drawn s (nI b) = some (nI (dw b s), nxt s) ∧ (∀ r3, r3 = nI (pcn b) → ¬ ((10 : Int32) - r3).toInt64 = 0 ∧ X11_open (nI b) (((nxt s).toUInt64 >>> ((33 : Int32).toInt64.toUInt64 &&& Int64.toUInt64 63)).toInt64 - ((nxt s).toUInt64 >>> ((33 : Int32).toInt64.toUInt64 &&& Int64.toUInt64 63)).toInt64 / ((10 : Int32) - r3).toInt64 * ((10 : Int32) - r3).toInt64).toInt32 = some (nI (dw b s))) := by
  have e : dw b s = (draw_ex hb ho s).choose := dif_pos ⟨hb, ho⟩
  rw [e]
  exact (draw_ex hb ho s).choose_spec
def sd (s : Int64) : Nat → Int64
  | 0 => s
  | i + 1 => nxt (sd s i)
noncomputable def pre (b : Nat) (s : Int64) : Nat → List Nat
  | 0 => []
  | i + 1 => pre b s i ++ [dw b (sd s i)]
theorem pre_len (b : Nat) (s : Int64) : ∀ i, (pre b s i).length = i := by
  intro i
  induction i with
  | zero => rfl
  | succ i ih => unfold pre; rw [List.length_append, ih]; rfl
theorem pre_gd (b : Nat) (s : Int64) : ∀ i j, j < i → (pre b s i).getD j 0 = dw b (sd s j) := by
  intro i
  induction i with
  | zero => intro j h; omega
  | succ i ih =>
    intro j h
    unfold pre
    by_cases e : j = i
    · subst e
      have := gd_app_eq (ps := pre b s j) (d := dw b (sd s j))
      rw [pre_len] at this
      exact this
    · rw [gd_app_lt (by rw [pre_len]; omega)]; exact ih j (by omega)
theorem pre_mem {b : Nat} (hb : b < 1024) (ho : ∃ d, d < 10 ∧ bb b d = 0) (s : Int64) : ∀ i, ∀ x ∈ pre b s i, x < 10 := by
  intro i
  induction i with
  | zero => intro x hx; simp [pre] at hx
  | succ i ih =>
    intro x hx
    unfold pre at hx
    rcases List.mem_append.mp hx with q | q
    · exact ih x q
    · rw [List.mem_singleton.mp q]; exact (dw_spec hb ho _).1
theorem gainC_spec {law share pot b k p : Nat} (hR : RU law share pot b) (hk : k ≤ 9) (hp : p < k) (s : Int64) (ct : Nat → Int32) : ∃ ct', X1_gain s ct (nI law) (nI share) (nI pot) (nI b) (nI p) (nI k) = some (nI (gt law share pot (pre b s k) (dw b (sd s p))), sd s k, ct') := by
  obtain ⟨hl, hs, hpot, hb, ho⟩ := hR
  unfold X1_gain
  have start : ∀ d, d < 10 → fillI 10 ct 0 d = nI ((pre b s 0).count d) := fun d hd => by unfold fillI; rw [if_pos hd]; rfl
  refine lupR (fun i g => ∀ d, d < 10 → g d = nI ((pre b s i).count d)) (fun n i g => X1_gain_b15 n (sd s i) g (nI law) (nI share) (nI pot) (nI b) (nI p) (nI k) (if p < i then nI (dw b (sd s p)) else -9) (nI i)) k (fun r => ∃ ct', r = some (nI (gt law share pot (pre b s k) (dw b (sd s p))), sd s k, ct')) ?_ ?_ fU 0 (fillI 10 ct 0) (by omega) (fU_gt (by omega)) start
  · intro n i g hi hI
    left
    obtain ⟨hd10, hdr, -⟩ := dw_spec hb ho (sd s i)
    have hcl : (pre b s i).count (dw b (sd s i)) ≤ 9 := cnt_le (by rw [pre_len]; omega) _
    refine ⟨upd g (dw b (sd s i)) (nI ((pre b s i).count (dw b (sd s i)) + 1)), fun d hd => ?_, ?_⟩
    · show _ = nI ((pre b s i ++ [dw b (sd s i)]).count d)
      rw [cnt_app]
      by_cases e : d = dw b (sd s i)
      · rw [if_pos e, ← e, pk_us]
      · rw [if_neg e, pk_un e]; exact hI d hd
    · show X1_gain_b15_s (X1_gain_b15 n) _ _ _ _ _ _ _ _ _ _ = X1_gain_b15 n (nxt (sd s i)) _ _ _ _ _ _ _ _ _
      unfold X1_gain_b15_s X1_gain_b47 X1_gain_b57
      rw [hdr, bnd2_k, num_spec, nI_toInt (by omega), if_pos (show (0 : Int) ≤ dw b (sd s i) ∧ (dw b (sd s i) : Int) < 10 by omega)]
      have hgd := hI _ hd10
      by_cases e : i = p
      · subst e
        simp (disch := omega) only [zl_0, zl_1, zl_2, zl_3, zl_4, zl_5, zl_6, zl_7, zl_8, zl_9, zl_10, zl_11, zl_12, zl_15, zl_16, zl_20, zl_40, zl_48, zl_60, zl_78, zl_80, zl_84, zl_99, zl_100, zl_128, zl_160, zl_255, zl_999, zl_1000, zl_1023, nI_leI, nI_ltI, nI_eq, nI_clamp, nI_add, bnd1_k, bnd2_k, bnd3_k, bnd4_k, if_pos, if_neg, if_true, if_false, Nat.not_lt_zero, false_or, or_false, hgd]
      · by_cases e2 : p < i
        · simp (disch := omega) only [zl_0, zl_1, zl_2, zl_3, zl_4, zl_5, zl_6, zl_7, zl_8, zl_9, zl_10, zl_11, zl_12, zl_15, zl_16, zl_20, zl_40, zl_48, zl_60, zl_78, zl_80, zl_84, zl_99, zl_100, zl_128, zl_160, zl_255, zl_999, zl_1000, zl_1023, nI_leI, nI_ltI, nI_eq, nI_clamp, nI_add, bnd1_k, bnd2_k, bnd3_k, bnd4_k, if_pos, if_neg, if_true, if_false, Nat.not_lt_zero, false_or, or_false, hgd]
        · simp (disch := omega) only [zl_0, zl_1, zl_2, zl_3, zl_4, zl_5, zl_6, zl_7, zl_8, zl_9, zl_10, zl_11, zl_12, zl_15, zl_16, zl_20, zl_40, zl_48, zl_60, zl_78, zl_80, zl_84, zl_99, zl_100, zl_128, zl_160, zl_255, zl_999, zl_1000, zl_1023, nI_leI, nI_ltI, nI_eq, nI_clamp, nI_add, bnd1_k, bnd2_k, bnd3_k, bnd4_k, if_pos, if_neg, if_true, if_false, Nat.not_lt_zero, false_or, or_false, hgd]
  · intro n g hI
    refine ⟨g, ?_⟩
    show X1_gain_b15_s (X1_gain_b15 n) _ _ _ _ _ _ _ _ _ _ = _
    unfold X1_gain_b15_s X1_gain_b63
    obtain ⟨hd10, -, -⟩ := dw_spec hb ho (sd s p)
    have hcl : ∀ d, (pre b s k).count d ≤ 9 := fun d => cnt_le (by rw [pre_len]; omega) d
    have b1 := dn_le (law := law) (share := share) (c := fun d => (pre b s k).count d) (fun x hx => Nat.le_trans (hcl x) (by omega))
    have hc1 := hcl (dw b (sd s p))
    rw [if_pos hp, num_spec, nI_toInt (by omega), if_pos (show (0 : Int) ≤ dw b (sd s p) ∧ (dw b (sd s p) : Int) < 10 by omega), nI_clamp (by omega), hI _ hd10, claims_spec hl hs (c := fun d => (pre b s k).count d) (fun d hd => ⟨by have := hcl d; show List.count d _ < 1000; omega, hI d hd⟩), bnd1_k, gain_spec hl hs hpot hd10 (by omega) (by omega), bnd1_k]
    simp (disch := omega) only [zl_0, zl_1, zl_2, zl_3, zl_4, zl_5, zl_6, zl_7, zl_8, zl_9, zl_10, zl_11, zl_12, zl_15, zl_16, zl_20, zl_40, zl_48, zl_60, zl_78, zl_80, zl_84, zl_99, zl_100, zl_128, zl_160, zl_255, zl_999, zl_1000, zl_1023, nI_leI, nI_ltI, nI_eq, nI_clamp, nI_add, bnd1_k, bnd2_k, bnd3_k, bnd4_k, if_pos, if_neg, if_true, if_false, Nat.not_lt_zero, false_or, or_false]
    rfl
def swn (g : Int64 → Nat) (k : Nat) (s : Int64) : Nat → Nat × Int64
  | 0 => (0, s)
  | e + 1 => ((swn g k s e).1 + g (swn g k s e).2, sd (swn g k s e).2 k)
theorem J_won {ps : List Nat} {size many : Int32} {nm ct sl : Nat → Int32} {law share pot b : Nat} (hR : RU law share pot b) (hC : PC ps size nm ct) (hM : PM ps many sl) (x : Int64) (p m : Int32) (ec : Nat → Int32) (rm : Int32) (row : Nat → Int32) : ∃ r x' ec' rm' row', X10_won (nI law) (nI share) (nI pot) (nI b) size x ec p m = some (r, x', ec') ∧ X11_won many (nI b) (nI law) (nI share) (nI pot) rm x row p m = some (r, rm', x', row') := by
  obtain ⟨hl, hs, hpot, hb, ho⟩ := id hR
  have hn := hM.1
  have c10 : ¬ (1 : Int32) = 0 := by decide
  unfold X10_won X11_won
  rw [hC.1.2.2.1, has_spec hn, hM.2.2.1, isPerson_spec hn, in_spec]
  have e1 : (1 : Int64).toInt = 1 := rfl
  have e40 : (40 : Int64).toInt = 40 := rfl
  rw [e1, e40]
  by_cases h0 : 0 ≤ p.toInt ∧ p.toInt < ps.length
  · obtain ⟨j, hj, -, rfl⟩ := person_nat h0
    simp only [if_pos h0, if_neg c10]
    by_cases h1 : 1 ≤ m.toInt ∧ m.toInt ≤ 40
    · obtain ⟨w, hw, rfl⟩ := nat_of m (by omega)
      have hw2 := nI_toInt hw
      have c1 : ¬ nI w < 1 := by rw [z_lt]; show ¬ (nI w).toInt < 1; omega
      have c2 : nI w ≤ 40 := by rw [z_le]; show (nI w).toInt ≤ 40; omega
      simp only [if_pos h1, if_neg c10, if_neg c1, if_pos c2]
      have hw40 : w ≤ 40 := by omega
      let g : Int64 → Nat := fun s => gt law share pot (pre b s ps.length) (dw b (sd s j))
      have A : ∃ ec', X10_won_b32 fU (nI law) (nI share) (nI pot) (nI b) (nI ps.length) x ec (nI j) (nI w) 0 0 = some (nI (swn g ps.length x w).1, (swn g ps.length x w).2, ec') := by
        refine lupR (fun _ _ => True) (fun n e c => X10_won_b32 n (nI law) (nI share) (nI pot) (nI b) (nI ps.length) (swn g ps.length x e).2 c (nI j) (nI w) (nI (swn g ps.length x e).1) (nI e)) w (fun r => ∃ ec', r = some (nI (swn g ps.length x w).1, (swn g ps.length x w).2, ec')) ?_ ?_ fU 0 ec (by omega) (fU_gt (by omega)) trivial
        · intro n e c he _
          left
          obtain ⟨c', a1⟩ := gainC_spec hR hn hj (swn g ps.length x e).2 c
          refine ⟨c', trivial, ?_⟩
          show X10_won_b32_s (X10_won_b32 n) _ _ _ _ _ _ _ _ _ _ _ = _
          unfold X10_won_b32_s X5_size
          rw [a1]
          simp (disch := omega) only [zl_0, zl_1, zl_2, zl_3, zl_4, zl_5, zl_6, zl_7, zl_8, zl_9, zl_10, zl_11, zl_12, zl_15, zl_16, zl_20, zl_40, zl_48, zl_60, zl_78, zl_80, zl_84, zl_99, zl_100, zl_128, zl_160, zl_255, zl_999, zl_1000, zl_1023, nI_leI, nI_ltI, nI_eq, nI_clamp, nI_add, bnd1_k, bnd2_k, bnd3_k, bnd4_k, if_pos, if_neg, if_true, if_false, Nat.not_lt_zero, false_or, or_false]
          rfl
        · intro n c _
          refine ⟨c, ?_⟩
          show X10_won_b32_s (X10_won_b32 n) _ _ _ _ _ _ _ _ _ _ _ = _
          unfold X10_won_b32_s
          simp (disch := omega) only [zl_0, zl_1, zl_2, zl_3, zl_4, zl_5, zl_6, zl_7, zl_8, zl_9, zl_10, zl_11, zl_12, zl_15, zl_16, zl_20, zl_40, zl_48, zl_60, zl_78, zl_80, zl_84, zl_99, zl_100, zl_128, zl_160, zl_255, zl_999, zl_1000, zl_1023, nI_leI, nI_ltI, nI_eq, nI_clamp, nI_add, bnd1_k, bnd2_k, bnd3_k, bnd4_k, if_pos, if_neg, if_true, if_false, Nat.not_lt_zero, false_or, or_false]
      have B : ∃ row', X11_won_b38 fU (nI ps.length) (nI b) (nI law) (nI share) (nI pot) (nI ps.length) x row (nI j) (nI w) 0 0 = some (nI (swn g ps.length x w).1, nI ps.length, (swn g ps.length x w).2, row') := by
        refine lupR (fun _ _ => True) (fun n e c => X11_won_b38 n (nI ps.length) (nI b) (nI law) (nI share) (nI pot) (nI ps.length) (swn g ps.length x e).2 c (nI j) (nI w) (nI (swn g ps.length x e).1) (nI e)) w (fun r => ∃ row', r = some (nI (swn g ps.length x w).1, nI ps.length, (swn g ps.length x w).2, row')) ?_ ?_ fU 0 row (by omega) (fU_gt (by omega)) trivial
        · intro n e c he _
          left
          have inner : ∃ c', X11_won_b47 (X11_won_b38 n) fU (nI ps.length) (nI b) (nI law) (nI share) (nI pot) (nI ps.length) (swn g ps.length x e).2 c (nI j) (nI w) (nI (swn g ps.length x e).1) (nI e) 0 = X11_won_b38 n (nI ps.length) (nI b) (nI law) (nI share) (nI pot) (nI ps.length) (swn g ps.length x (e + 1)).2 c' (nI j) (nI w) (nI (swn g ps.length x (e + 1)).1) (nI (e + 1)) := by
            refine lupR (fun i r => ∀ q, q < i → r q = nI (dw b (sd (swn g ps.length x e).2 q))) (fun n2 i r => X11_won_b47 (X11_won_b38 n) n2 (nI ps.length) (nI b) (nI law) (nI share) (nI pot) (nI ps.length) (sd (swn g ps.length x e).2 i) r (nI j) (nI w) (nI (swn g ps.length x e).1) (nI e) (nI i)) ps.length (fun z => ∃ c', z = X11_won_b38 n (nI ps.length) (nI b) (nI law) (nI share) (nI pot) (nI ps.length) (swn g ps.length x (e + 1)).2 c' (nI j) (nI w) (nI (swn g ps.length x (e + 1)).1) (nI (e + 1))) ?_ ?_ fU 0 c (by omega) (fU_gt (by omega)) (fun q hq => absurd hq (Nat.not_lt_zero q))
            · intro n2 i r hi hI
              left
              obtain ⟨hd10, -, hdm⟩ := dw_spec hb ho (sd (swn g ps.length x e).2 i)
              obtain ⟨hne, hop⟩ := hdm _ rfl
              refine ⟨upd r i (nI (dw b (sd (swn g ps.length x e).2 i))), fun q hq => ?_, ?_⟩
              · by_cases eq : q = i
                · subst eq; rw [pk_us]
                · rw [pk_un eq]; exact hI q (by omega)
              · show X11_won_b47_s (X11_won_b38 n) (X11_won_b47 (X11_won_b38 n) n2) _ _ _ _ _ _ _ _ _ _ _ _ _ = X11_won_b47 (X11_won_b38 n) n2 _ _ _ _ _ _ (nxt (sd (swn g ps.length x e).2 i)) _ _ _ _ _ _
                unfold X11_won_b47_s
                have e1 : sd (swn g ps.length x e).2 i * (6364136223846793005 : Int64) + (1442695040888963407 : Int64) = nxt (sd (swn g ps.length x e).2 i) := rfl
                rw [ones_spec hb, bnd1_k, if_neg hne, e1, hop, bnd1_k]
                simp (disch := omega) only [zl_0, zl_1, zl_2, zl_3, zl_4, zl_5, zl_6, zl_7, zl_8, zl_9, zl_10, zl_11, zl_12, zl_15, zl_16, zl_20, zl_40, zl_48, zl_60, zl_78, zl_80, zl_84, zl_99, zl_100, zl_128, zl_160, zl_255, zl_999, zl_1000, zl_1023, nI_leI, nI_ltI, nI_eq, nI_clamp, nI_add, bnd1_k, bnd2_k, bnd3_k, bnd4_k, if_pos, if_neg, if_true, if_false, Nat.not_lt_zero, false_or, or_false]
            · intro n2 r hI
              refine ⟨r, ?_⟩
              show X11_won_b47_s (X11_won_b38 n) (X11_won_b47 (X11_won_b38 n) n2) _ _ _ _ _ _ _ _ _ _ _ _ _ = _
              unfold X11_won_b47_s X11_won_b109
              have hP : PM (pre b (swn g ps.length x e).2 ps.length) (nI ps.length) r := ⟨by rw [pre_len]; exact hn, pre_mem hb ho _ _, by rw [pre_len], fun q hq => by rw [pre_len] at hq; rw [pre_gd _ _ _ _ hq]; exact hI q hq⟩
              have hg := getsOf_spec hl hs hpot hP (p := j) (by rw [pre_len]; exact hj)
              rw [pre_gd _ _ _ _ hj] at hg
              rw [hg]
              simp (disch := omega) only [zl_0, zl_1, zl_2, zl_3, zl_4, zl_5, zl_6, zl_7, zl_8, zl_9, zl_10, zl_11, zl_12, zl_15, zl_16, zl_20, zl_40, zl_48, zl_60, zl_78, zl_80, zl_84, zl_99, zl_100, zl_128, zl_160, zl_255, zl_999, zl_1000, zl_1023, nI_leI, nI_ltI, nI_eq, nI_clamp, nI_add, bnd1_k, bnd2_k, bnd3_k, bnd4_k, if_pos, if_neg, if_true, if_false, Nat.not_lt_zero, false_or, or_false]
              rfl
          obtain ⟨c', hc'⟩ := inner
          refine ⟨c', trivial, ?_⟩
          rw [← hc']
          show X11_won_b38_s (X11_won_b38 n) _ _ _ _ _ _ _ _ _ _ _ _ = _
          unfold X11_won_b38_s
          simp (disch := omega) only [zl_0, zl_1, zl_2, zl_3, zl_4, zl_5, zl_6, zl_7, zl_8, zl_9, zl_10, zl_11, zl_12, zl_15, zl_16, zl_20, zl_40, zl_48, zl_60, zl_78, zl_80, zl_84, zl_99, zl_100, zl_128, zl_160, zl_255, zl_999, zl_1000, zl_1023, nI_leI, nI_ltI, nI_eq, nI_clamp, nI_add, bnd1_k, bnd2_k, bnd3_k, bnd4_k, if_pos, if_neg, if_true, if_false, Nat.not_lt_zero, false_or, or_false]
        · intro n c _
          refine ⟨c, ?_⟩
          show X11_won_b38_s (X11_won_b38 n) _ _ _ _ _ _ _ _ _ _ _ _ = _
          unfold X11_won_b38_s
          simp (disch := omega) only [zl_0, zl_1, zl_2, zl_3, zl_4, zl_5, zl_6, zl_7, zl_8, zl_9, zl_10, zl_11, zl_12, zl_15, zl_16, zl_20, zl_40, zl_48, zl_60, zl_78, zl_80, zl_84, zl_99, zl_100, zl_128, zl_160, zl_255, zl_999, zl_1000, zl_1023, nI_leI, nI_ltI, nI_eq, nI_clamp, nI_add, bnd1_k, bnd2_k, bnd3_k, bnd4_k, if_pos, if_neg, if_true, if_false, Nat.not_lt_zero, false_or, or_false]
      obtain ⟨ec', a⟩ := A
      obtain ⟨row', c⟩ := B
      rw [a, c]
      exact ⟨_, _, _, _, _, rfl, rfl⟩
    · simp only [if_neg h1, if_true]
      by_cases h2 : m < 1
      · simp only [if_pos h2]
        exact ⟨_, _, _, _, _, rfl, rfl⟩
      · have c4 : ¬ m ≤ (40 : Int32) := by
          rw [z_le]; rw [z_lt] at h2
          have z0 : (1 : Int32).toInt = 1 := rfl
          have z9 : (40 : Int32).toInt = 40 := rfl
          omega
        simp only [if_neg h2, if_neg c4]
        exact ⟨_, _, _, _, _, rfl, rfl⟩
  · simp only [if_neg h0, if_true]
    exact ⟨_, _, _, _, _, rfl, rfl⟩
