/-! the model counts -/
def ttm (n law : Nat) (wf : Nat → Nat) (d h k : Nat) : Nat := if h ≤ k then (if mc law d (k - h) then TT n law wf d h * ch (n - h) (k - h) * wf d ^ (k - h) else 0) else 0
theorem lN_z (a : Nat) : lN a + 0 = lN a := by
  have : lN a + lN 0 = lN (a + 0) := lN_add a 0
  exact this
theorem layC_spec {law n d h : Nat} {wf : Nat → Nat} (hl : law ≤ 2) (hn : n < 10) (hd : d < 10) (hh : h ≤ n) (hw : wf d ≤ 10) (s31 : Int32 → Int32 → (Nat → Int64) → (Nat → Int64) → (Nat → Int32) → Int32 → Int32 → Int32 → Option (Int64 × (Nat → Int64) × (Nat → Int64))) (s91 : Int32 → Int32 → (Nat → Int64) → (Nat → Int64) → (Nat → Int32) → Int32 → Int32 → Int32 → Int32 → Int32 → Option (Int64 × (Nat → Int64) × (Nat → Int64))) (b : Int32) (sums : Nat → Int64) (tens : Nat → Int32) (x2 : Int32) (hs : sums h = lN (TT n law wf d h)) (spare : Nat → Int64) (hp : ∀ k, k ≤ n → spare k = lN (sr h (fun h' => ttm n law wf d h' k))) : ∃ spare', X11_layWays_b100 s31 s91 fU b (nI law) sums spare tens (nI n) x2 (nI d) (nI (wf d)) (nI h) 0 = s91 b (nI law) sums spare' tens (nI n) x2 (nI d) (nI (wf d)) (nI (h + 1)) ∧ ∀ k, k ≤ n → spare' k = lN (sr (h + 1) (fun h' => ttm n law wf d h' k)) := by
  have e0 : nI n - nI h = nI (n - h) := pk_sub hh
  refine lupR (fun c g => ∀ k, k ≤ n → g k = lN (sr h (fun h' => ttm n law wf d h' k) + if h ≤ k ∧ k < h + c then ttm n law wf d h k else 0)) (fun m c g => X11_layWays_b100 s31 s91 m b (nI law) sums g tens (nI n) x2 (nI d) (nI (wf d)) (nI h) (nI c)) (n - h + 1) (fun r => ∃ spare', r = s91 b (nI law) sums spare' tens (nI n) x2 (nI d) (nI (wf d)) (nI (h + 1)) ∧ ∀ k, k ≤ n → spare' k = lN (sr (h + 1) (fun h' => ttm n law wf d h' k))) ?_ ?_ fU 0 spare (by omega) (fU_gt (by omega)) (fun k hk => by rw [if_neg (by omega), Nat.add_zero]; exact hp k hk)
  · intro m c g hc hI
    left
    have hidx : nI h + nI c = nI (h + c) := nI_add h c
    have hix1 : ¬ (nI (h + c) < 0 ∨ 11 ≤ (nI (h + c)).toNatClampNeg) := ix_ok (by omega) (by omega)
    have hix2 : ¬ (nI h < 0 ∨ 11 ≤ (nI h).toNatClampNeg) := ix_ok (by omega) (by omega)
    have hcur := hI (h + c) (by omega)
    rw [if_neg (show ¬ (h ≤ h + c ∧ h + c < h + c) by omega), Nat.add_zero] at hcur
    have hnew : ∀ k, k ≤ n → vp_updL g (h + c) (lN (sr h (fun h' => ttm n law wf d h' (h + c)) + ttm n law wf d h (h + c))) k = lN (sr h (fun h' => ttm n law wf d h' k) + if h ≤ k ∧ k < h + (c + 1) then ttm n law wf d h k else 0) := by
      intro k hk
      by_cases e : k = h + c
      · subst e; rw [pk_uLs, if_pos (by omega)]
      · rw [pk_uLn e, hI k hk]
        congr 1
        by_cases q : h ≤ k ∧ k < h + c
        · rw [if_pos q, if_pos (by omega)]
        · rw [if_neg q, if_neg (by omega)]
    refine ⟨_, hnew, ?_⟩
    show X11_layWays_b100_s s31 s91 (X11_layWays_b100 s31 s91 m) _ _ _ _ _ _ _ _ _ _ _ = _
    unfold X11_layWays_b100_s X11_layWays_b124 X11_layWays_b129 X11_layWays_b176
    have et : ttm n law wf d h (h + c) = if mc law d c then TT n law wf d h * ch (n - h) c * wf d ^ c else 0 := by
      unfold ttm
      rw [if_pos (by omega)]
      have : h + c - h = c := by omega
      rw [this]
    rw [e0, if_neg (show ¬ nI (n - h) < nI c from nI_nlt (by omega) (by omega)), hidx, if_neg hix1, if_neg hix1, if_neg hix2, over_spec (n - h) (by omega) c (by omega), bnd1_k, powM_spec (wf d) (by omega) c (by omega), bnd1_k, fine_eq, suits_spec hl (by omega) (by omega), nI_clamp (show h + c < 2 ^ 31 by omega), nI_clamp (show h < 2 ^ 31 by omega), hcur, hs, lN_mul, lN_mul, lN_add, lN_z, nI_1, et]
    have c10 : ¬ (1 : Int32) = 0 := by decide
    have hix3 : ¬ (nI (h + c) < 0 ∨ 11 ≤ h + c) := fun q => q.elim (nI_pos (by omega)) (by omega)
    by_cases hc0 : c = 0
    · subst hc0
      have hm : mc law d 0 = true := by unfold mc; simp
      simp only [if_pos hm, if_neg c10, if_pos (show nI 0 = 0 from rfl), if_neg hix3]
    · have hcn : ¬ nI c = 0 := nI_ne0 (by omega) (by omega)
      by_cases hsu : su law d c = true
      · have hm : mc law d c = true := by unfold mc; simp [hsu]
        simp only [if_pos hm, if_pos hsu, if_neg c10, if_neg hcn, if_neg hix3]
      · have hm : ¬ mc law d c = true := by unfold mc; simp [hsu, hc0]
        simp only [if_neg hm, if_neg hsu, if_neg hcn, if_true, Nat.add_zero, if_neg hix3]
  · intro m g hI
    refine ⟨g, ?_, fun k hk => ?_⟩
    · show X11_layWays_b100_s s31 s91 (X11_layWays_b100 s31 s91 m) _ _ _ _ _ _ _ _ _ _ _ = _
      unfold X11_layWays_b100_s X11_layWays_b184
      rw [e0, if_pos (show nI (n - h) < nI (n - h + 1) from nI_lt (by omega) (by omega)), nI_1]
    · rw [hI k hk, sr_s]
      congr 2
      by_cases q : h ≤ k
      · rw [if_pos (by omega)]
      · rw [if_neg (by omega)]; unfold ttm; rw [if_neg q]
theorem layH_spec {law n d : Nat} {wf : Nat → Nat} (hl : law ≤ 2) (hn : n < 10) (hd : d < 10) (hw : wf d ≤ 10) (s31 : Int32 → Int32 → (Nat → Int64) → (Nat → Int64) → (Nat → Int32) → Int32 → Int32 → Int32 → Option (Int64 × (Nat → Int64) × (Nat → Int64))) (b : Int32) (sums : Nat → Int64) (tens : Nat → Int32) (x2 : Int32) (hs : ∀ q, q ≤ n → sums q = lN (TT n law wf d q)) (spare : Nat → Int64) (hp : ∀ k, k ≤ n → spare k = lN 0) : ∃ sums' spare', X11_layWays_b91 s31 fU b (nI law) sums spare tens (nI n) x2 (nI d) (nI (wf d)) 0 = s31 b (nI law) sums' spare' tens (nI n) x2 (nI (d + 1)) ∧ ∀ q, q ≤ n → sums' q = lN (TT n law wf (d + 1) q) := by
  refine lupR (fun h g => ∀ k, k ≤ n → g k = lN (sr h (fun h' => ttm n law wf d h' k))) (fun m h g => X11_layWays_b91 s31 m b (nI law) sums g tens (nI n) x2 (nI d) (nI (wf d)) (nI h)) (n + 1) (fun r => ∃ sums' spare', r = s31 b (nI law) sums' spare' tens (nI n) x2 (nI (d + 1)) ∧ ∀ q, q ≤ n → sums' q = lN (TT n law wf (d + 1) q)) ?_ ?_ fU 0 spare (by omega) (fU_gt (by omega)) hp
  · intro m h g hh hI
    left
    obtain ⟨g', p1, q1⟩ := layC_spec hl hn hd (show h ≤ n by omega) hw s31 (X11_layWays_b91 s31 m) b sums tens x2 (hs h (by omega)) g hI
    refine ⟨g', q1, ?_⟩
    show X11_layWays_b91_s s31 (X11_layWays_b91 s31 m) _ _ _ _ _ _ _ _ _ _ = _
    unfold X11_layWays_b91_s
    rw [if_neg (show ¬ nI n < nI h from nI_nlt (by omega) (by omega)), p1]
  · intro m g hI
    have key : ∃ sums', X11_layWays_b193 s31 fU b (nI law) sums g tens (nI n) x2 (nI d) 0 = s31 b (nI law) sums' g tens (nI n) x2 (nI (d + 1)) ∧ ∀ q, q ≤ n → sums' q = g q := by
      refine lupR (fun i r => ∀ q, q < i → r q = g q) (fun m i r => X11_layWays_b193 s31 m b (nI law) r g tens (nI n) x2 (nI d) (nI i)) (n + 1) (fun r => ∃ sums', r = s31 b (nI law) sums' g tens (nI n) x2 (nI (d + 1)) ∧ ∀ q, q ≤ n → sums' q = g q) ?_ ?_ fU 0 sums (by omega) (fU_gt (by omega)) (fun q hq => absurd hq (Nat.not_lt_zero q))
      · intro m i r hi hI2
        left
        refine ⟨vp_updL r i (g i), fun q hq => ?_, ?_⟩
        · by_cases e : q = i
          · subst e; rw [pk_uLs]
          · rw [pk_uLn e]; exact hI2 q (by omega)
        · show X11_layWays_b193_s s31 (X11_layWays_b193 s31 m) _ _ _ _ _ _ _ _ _ = _
          unfold X11_layWays_b193_s
          rw [if_neg (show ¬ nI n < nI i from nI_nlt (by omega) (by omega)), if_neg (ix_ok (show i < 11 by omega) (by omega)), if_neg (ix_ok (show i < 11 by omega) (by omega)), nI_clamp (by omega), nI_1]
      · intro m r hI2
        refine ⟨r, ?_, fun q hq => hI2 q (by omega)⟩
        show X11_layWays_b193_s s31 (X11_layWays_b193 s31 m) _ _ _ _ _ _ _ _ _ = _
        unfold X11_layWays_b193_s X11_layWays_b219
        rw [if_pos (show nI n < nI (n + 1) from nI_lt (by omega) (by omega)), nI_1]
    obtain ⟨sums', p1, q1⟩ := key
    refine ⟨sums', g, ?_, fun q hq => by rw [q1 q hq, hI q hq]; rfl⟩
    show X11_layWays_b91_s s31 (X11_layWays_b91 s31 m) _ _ _ _ _ _ _ _ _ _ = _
    unfold X11_layWays_b91_s X11_layWays_b190
    rw [if_pos (show nI n < nI (n + 1) from nI_lt (by omega) (by omega)), p1]
theorem lay_spec {law n : Nat} {wf : Nat → Nat} {tens : Nat → Int32} {x2 b : Int32} (hl : law ≤ 2) (hn : n < 10) (hw : ∀ d, d < 10 → wf d ≤ 10 ∧ ∀ s31 sums spare, X11_layWays_b60 s31 b (nI law) sums spare tens (nI n) x2 (nI d) = X11_layWays_b86 s31 b (nI law) sums spare tens (nI n) x2 (nI d) (nI (wf d))) (sums spare : Nat → Int64) : ∃ sums' spare', X11_layWays b (nI law) sums spare tens (nI n) x2 = some (lN (SS law wf 10 n), sums', spare') := by
  have D : ∀ sums spare : Nat → Int64, (∀ q, q ≤ n → sums q = lN (TT n law wf 0 q)) → ∃ sums' spare', X11_layWays_b31 fU b (nI law) sums spare tens (nI n) x2 0 = some (lN (SS law wf 10 n), sums', spare') := by
    intro sums spare h0
    refine lupR (σ := (Nat → Int64) × (Nat → Int64)) (fun d g => ∀ q, q ≤ n → g.1 q = lN (TT n law wf d q)) (fun m d g => X11_layWays_b31 m b (nI law) g.1 g.2 tens (nI n) x2 (nI d)) 10 (fun r => ∃ sums' spare', r = some (lN (SS law wf 10 n), sums', spare')) ?_ ?_ fU 0 (sums, spare) (by omega) (fU_gt (by omega)) h0
    · intro m d g hd hI
      left
      have Z : ∃ spare', X11_layWays_b40 (X11_layWays_b31 m) fU b (nI law) g.1 g.2 tens (nI n) x2 (nI d) 0 = X11_layWays_b60 (X11_layWays_b31 m) b (nI law) g.1 spare' tens (nI n) x2 (nI d) ∧ ∀ k, k ≤ n → spare' k = lN 0 := by
        refine lupR (fun i r => ∀ k, k < i → r k = lN 0) (fun m2 i r => X11_layWays_b40 (X11_layWays_b31 m) m2 b (nI law) g.1 r tens (nI n) x2 (nI d) (nI i)) (n + 1) (fun r => ∃ spare', r = X11_layWays_b60 (X11_layWays_b31 m) b (nI law) g.1 spare' tens (nI n) x2 (nI d) ∧ ∀ k, k ≤ n → spare' k = lN 0) ?_ ?_ fU 0 g.2 (by omega) (fU_gt (by omega)) (fun k hk => absurd hk (Nat.not_lt_zero k))
        · intro m2 i r hi hI2
          left
          refine ⟨vp_updL r i 0, fun q hq => ?_, ?_⟩
          · by_cases e : q = i
            · subst e; rw [pk_uLs]; rfl
            · rw [pk_uLn e]; exact hI2 q (by omega)
          · show X11_layWays_b40_s (X11_layWays_b31 m) (X11_layWays_b40 (X11_layWays_b31 m) m2) _ _ _ _ _ _ _ _ _ = _
            unfold X11_layWays_b40_s
            rw [if_neg (show ¬ nI n < nI i from nI_nlt (by omega) (by omega)), if_neg (ix_ok (show i < 11 by omega) (by omega)), nI_clamp (by omega), nI_1]
        · intro m2 r hI2
          refine ⟨r, ?_, fun q hq => hI2 q (by omega)⟩
          show X11_layWays_b40_s (X11_layWays_b31 m) (X11_layWays_b40 (X11_layWays_b31 m) m2) _ _ _ _ _ _ _ _ _ = _
          unfold X11_layWays_b40_s
          rw [if_pos (show nI n < nI (n + 1) from nI_lt (by omega) (by omega))]
      obtain ⟨sp1, p1, q1⟩ := Z
      obtain ⟨s2, sp2, p2, q2⟩ := layH_spec hl hn hd (hw d hd).1 (X11_layWays_b31 m) b g.1 tens x2 hI sp1 q1
      refine ⟨(s2, sp2), q2, ?_⟩
      show X11_layWays_b31_s (X11_layWays_b31 m) _ _ _ _ _ _ _ _ = _
      unfold X11_layWays_b31_s
      rw [if_neg (show ¬ (10 : Int32) ≤ nI d from nI_ge (b := 10) hd (by omega)), p1, (hw d hd).2]
      unfold X11_layWays_b86
      rw [p2]
    · intro m g hI
      refine ⟨g.1, g.2, ?_⟩
      show X11_layWays_b31_s (X11_layWays_b31 m) _ _ _ _ _ _ _ _ = _
      unfold X11_layWays_b31_s X11_layWays_b225
      rw [if_pos (show (10 : Int32) ≤ nI 10 by decide), if_neg (ix_ok (show n < 11 by omega) (by omega)), nI_clamp (by omega), hI n (Nat.le_refl _), TT_n wf hn]
  unfold X11_layWays
  refine lupR (fun i g => ∀ q, q < i → g q = lN (TT n law wf 0 q)) (fun m i g => X11_layWays_b2 m b (nI law) g spare tens (nI n) x2 (nI i)) 11 (fun r => ∃ sums' spare', r = some (lN (SS law wf 10 n), sums', spare')) ?_ ?_ fU 0 sums (by omega) (fU_gt (by omega)) (fun q hq => absurd hq (Nat.not_lt_zero q))
  · intro m i g hi hI
    left
    refine ⟨vp_updL g i (lN (TT n law wf 0 i)), fun q hq => ?_, ?_⟩
    · by_cases e : q = i
      · subst e; rw [pk_uLs]
      · rw [pk_uLn e]; exact hI q (by omega)
    · show X11_layWays_b2_s (X11_layWays_b2 m) _ _ _ _ _ _ _ _ = _
      unfold X11_layWays_b2_s X11_layWays_b22
      rw [if_neg (show ¬ (11 : Int32) ≤ nI i from nI_ge (b := 11) hi (by omega)), if_neg (ix_ok (show i < 11 by omega) (by omega)), if_neg (ix_ok (show i < 11 by omega) (by omega)), nI_clamp (by omega), nI_1]
      by_cases e : i = 0
      · subst e
        rw [if_pos (show nI 0 = 0 from rfl)]
        rfl
      · rw [if_neg (nI_ne0 (by omega) (by omega))]
        have : TT n law wf 0 i = 0 := by show (if i = 0 then 1 else 0) = 0; rw [if_neg e]
        rw [this]
        rfl
  · intro m g hI
    obtain ⟨s', sp', p1⟩ := D g spare (fun q hq => hI q (by omega))
    refine ⟨s', sp', ?_⟩
    show X11_layWays_b2_s (X11_layWays_b2 m) _ _ _ _ _ _ _ _ = _
    unfold X11_layWays_b2_s X11_layWays_b29
    rw [if_pos (show (11 : Int32) ≤ nI 11 by decide), p1]
theorem layW0 {law n b : Nat} {tens : Nat → Int32} (hb : b < 1024) : ∀ d, d < 10 → opw b d ≤ 10 ∧ ∀ s31 sums spare, X11_layWays_b60 s31 (nI b) (nI law) sums spare tens (nI n) 0 (nI d) = X11_layWays_b86 s31 (nI b) (nI law) sums spare tens (nI n) 0 (nI d) (nI (opw b d)) := by
  intro d hd
  refine ⟨by unfold opw; split <;> omega, fun s31 sums spare => ?_⟩
  unfold X11_layWays_b60 opw
  rw [if_pos rfl, bar_spec hb hd]
  by_cases h : bb b d = 0
  · simp only [if_pos h, if_true]; rfl
  · simp only [if_neg h]; rw [if_neg (show ¬ (1 : Int32) = 0 by decide)]; rfl
theorem layW1 {law n : Nat} {t : Nat → Nat} {tens : Nat → Int32} {b : Int32} (hT : TN t tens) : ∀ d, d < 10 → t d ≤ 10 ∧ ∀ s31 sums spare, X11_layWays_b60 s31 b (nI law) sums spare tens (nI n) 1 (nI d) = X11_layWays_b86 s31 b (nI law) sums spare tens (nI n) 1 (nI d) (nI (t d)) := by
  intro d hd
  refine ⟨(hT d hd).1, fun s31 sums spare => ?_⟩
  unfold X11_layWays_b60
  rw [if_neg (show ¬ (1 : Int32) = 0 by decide), if_neg (ix_ok hd (by omega)), nI_clamp (by omega), (hT d hd).2]
theorem J_ways {law share pot b : Nat} (hR : RU law share pot b) (n : Int32) (sums : Nat → Int64) (ws : Nat → Int32) (ms spare : Nat → Int64) (tens : Nat → Int32) : ∃ r sums' ws' ms' spare', X10_ways (nI law) (nI b) sums ws n = some (r, sums', ws') ∧ X11_ways (nI b) (nI law) ms spare tens n = some (r, ms', spare') := by
  obtain ⟨hl, hs, hpot, hb, ho⟩ := hR
  have c10 : ¬ (1 : Int32) = 0 := by decide
  unfold X10_ways X11_ways
  rw [crowd_spec, in_spec]
  have e0 : (0 : Int64).toInt = 0 := rfl
  have e9 : (9 : Int64).toInt = 9 := rfl
  rw [e0, e9]
  by_cases h0 : 0 ≤ n.toInt ∧ n.toInt < 10
  · obtain ⟨j, hj, -, rfl⟩ := person_nat (n := 10) h0
    simp only [if_pos h0, if_pos (show 0 ≤ (nI j).toInt ∧ (nI j).toInt ≤ 9 by omega), if_neg c10]
    obtain ⟨s1, w1, p1⟩ := rowsC_spec hl hb hj sums ws
    obtain ⟨s2, sp2, p2⟩ := lay_spec (b := nI b) (x2 := 0) (tens := tens) hl hj (layW0 hb) ms spare
    rw [p1, p2]
    exact ⟨_, _, _, _, _, rfl, rfl⟩
  · simp only [if_neg h0, if_neg (show ¬ (0 ≤ n.toInt ∧ n.toInt ≤ 9) by omega), if_true]
    exact ⟨_, _, _, _, _, rfl, rfl⟩
