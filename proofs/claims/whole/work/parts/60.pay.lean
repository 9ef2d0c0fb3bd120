/-! payments, tenths, seed, count -/
def lpi (pt pv : Nat → Nat) (p : Nat) : Nat → Option Nat
  | 0 => none
  | i + 1 => if pt i = p then some (pv i) else lpi pt pv p i
theorem lpi_congr {pt pv pt' pv' : Nat → Nat} {p : Nat} : ∀ {k : Nat}, (∀ i, i < k → pt' i = pt i ∧ pv' i = pv i) → lpi pt' pv' p k = lpi pt pv p k := by
  intro k
  induction k with
  | zero => intro _; rfl
  | succ k ih =>
    intro h
    unfold lpi
    rw [(h k (by omega)).1, (h k (by omega)).2, ih (fun i hi => h i (by omega))]
theorem lpi_le {pt pv : Nat → Nat} {p : Nat} : ∀ {k v : Nat}, (∀ i, i < k → pv i ≤ 999) → lpi pt pv p k = some v → v ≤ 999 := by
  intro k
  induction k with
  | zero => intro v _ h; cases h
  | succ k ih =>
    intro v hb h
    unfold lpi at h
    split at h
    · cases h; exact hb k (by omega)
    · exact ih (fun i hi => hb i (by omega)) h
def encp (o : Option Nat) : Int32 := match o with | none => -9 | some v => nI v
def PYC (k : Nat) (pt pv : Nat → Nat) (told : Int32) (last : Nat → Int32) : Prop := k ≤ 12 ∧ told = nI k ∧ (∀ i, i < k → pt i < 9 ∧ pv i ≤ 999) ∧ ∀ p, p < 9 → last p = encp (lpi pt pv p k)
def PYM (k : Nat) (pt pv : Nat → Nat) (py : Int32) (to pd : Nat → Int32) : Prop := k ≤ 12 ∧ py = nI k ∧ ∀ i, i < k → to i = nI (pt i) ∧ pd i = nI (pv i)
theorem J_pay {k : Nat} {pt pv : Nat → Nat} {told py : Int32} {last to pd : Nat → Int32} (hC : PYC k pt pv told last) (hM : PYM k pt pv py to pd) (p v : Int32) : ∃ r k' pt' pv' told' last' py' to' pd', X10_pay told last p v = some (r, told', last') ∧ X11_pay py to pd p v = some (r, py', to', pd') ∧ PYC k' pt' pv' told' last' ∧ PYM k' pt' pv' py' to' pd' := by
  obtain ⟨hk, eC, hb, hl⟩ := id hC
  obtain ⟨-, eM, hm⟩ := id hM
  have c10 : ¬ (1 : Int32) = 0 := by decide
  unfold X10_pay X11_pay X4_told
  rw [in_spec, in_spec]
  have e0 : (0 : Int64).toInt = 0 := rfl
  have e8 : (8 : Int64).toInt = 8 := rfl
  have e999 : (999 : Int64).toInt = 999 := rfl
  rw [e0, e8, e999]
  by_cases h1 : 0 ≤ p.toInt ∧ p.toInt < 9
  · obtain ⟨j, hj, -, rfl⟩ := person_nat (n := 9) h1
    have c1 : ¬ nI j < 0 := nI_pos (by omega)
    have c2 : ¬ (9 : Int32) ≤ nI j := nI_ge (b := 9) (by omega) (by omega)
    simp only [if_pos (show 0 ≤ (nI j).toInt ∧ (nI j).toInt ≤ 8 by omega), if_neg c10, if_neg c1, if_neg c2]
    by_cases h2 : 0 ≤ v.toInt ∧ v.toInt < 1000
    · obtain ⟨w, hw, -, rfl⟩ := person_nat (n := 1000) h2
      have c3 : ¬ nI w < 0 := nI_pos (by omega)
      have c4 : nI w ≤ (999 : Int32) := nI_le (b := 999) (by omega) (by omega)
      simp only [if_pos (show 0 ≤ (nI w).toInt ∧ (nI w).toInt ≤ 999 by omega), if_neg c10, if_neg c3, if_pos c4]
      by_cases h3 : k < 12
      · refine ⟨nI (k + 1), k + 1, fun i => if i = k then j else pt i, fun i => if i = k then w else pv i, nI (k + 1), upd last j (nI w), nI (k + 1), upd to k (nI j), upd pd k (nI w), ?_, ?_, ⟨by omega, rfl, fun i hi => ?_, fun q hq => ?_⟩, ⟨by omega, rfl, fun i hi => ?_⟩⟩
        · rw [eC]
          unfold X4_tell
          simp (disch := omega) only [zl_0, zl_1, zl_2, zl_3, zl_4, zl_5, zl_6, zl_7, zl_8, zl_9, zl_10, zl_11, zl_12, zl_15, zl_16, zl_20, zl_40, zl_48, zl_60, zl_78, zl_80, zl_84, zl_99, zl_100, zl_128, zl_160, zl_255, zl_999, zl_1000, zl_1023, nI_leI, nI_ltI, nI_eq, nI_clamp, nI_add, bnd1_k, bnd2_k, bnd3_k, bnd4_k, if_pos, if_neg, if_true, if_false, Nat.not_lt_zero, false_or, or_false]
        · rw [eM]
          simp (disch := omega) only [zl_0, zl_1, zl_2, zl_3, zl_4, zl_5, zl_6, zl_7, zl_8, zl_9, zl_10, zl_11, zl_12, zl_15, zl_16, zl_20, zl_40, zl_48, zl_60, zl_78, zl_80, zl_84, zl_99, zl_100, zl_128, zl_160, zl_255, zl_999, zl_1000, zl_1023, nI_leI, nI_ltI, nI_eq, nI_clamp, nI_add, bnd1_k, bnd2_k, bnd3_k, bnd4_k, if_pos, if_neg, if_true, if_false, Nat.not_lt_zero, false_or, or_false]
        · by_cases ei : i = k
          · simp only [if_pos ei]; omega
          · simp only [if_neg ei]; exact hb i (by omega)
        · unfold lpi
          simp only [if_true]
          by_cases eq : j = q
          · subst eq; rw [pk_us, if_pos rfl]; rfl
          · rw [if_neg eq, pk_un (fun z => eq z.symm), hl q hq]
            congr 1
            exact (lpi_congr (fun i hi => ⟨if_neg (by omega), if_neg (by omega)⟩)).symm
        · by_cases ei : i = k
          · subst ei; simp only [if_true]; exact ⟨pk_us, pk_us⟩
          · simp only [if_neg ei]; rw [pk_un ei, pk_un ei]; exact hm i (by omega)
      · have e12 : k = 12 := by omega
        rw [eC, eM, e12]
        simp (disch := omega) only [zl_0, zl_1, zl_2, zl_3, zl_4, zl_5, zl_6, zl_7, zl_8, zl_9, zl_10, zl_11, zl_12, zl_15, zl_16, zl_20, zl_40, zl_48, zl_60, zl_78, zl_80, zl_84, zl_99, zl_100, zl_128, zl_160, zl_255, zl_999, zl_1000, zl_1023, nI_leI, nI_ltI, nI_eq, nI_clamp, nI_add, bnd1_k, bnd2_k, bnd3_k, bnd4_k, if_pos, if_neg, if_true, if_false, Nat.not_lt_zero, false_or, or_false]
        refine ⟨_, k, pt, pv, nI 12, last, nI 12, to, pd, rfl, rfl, ?_, ?_⟩
        · rw [← e12, ← eC]; exact hC
        · rw [← e12, ← eM]; exact hM
    · simp only [if_neg (show ¬ (0 ≤ v.toInt ∧ v.toInt ≤ 999) by omega), if_true]
      by_cases h3 : v < 0
      · simp only [if_pos h3]
        exact ⟨_, k, pt, pv, _, _, _, _, _, rfl, rfl, hC, hM⟩
      · have c4 : ¬ v ≤ (999 : Int32) := by
          rw [z_le]; rw [z_lt] at h3
          have z0 : (0 : Int32).toInt = 0 := rfl
          have z9 : (999 : Int32).toInt = 999 := rfl
          omega
        simp only [if_neg h3, if_neg c4]
        exact ⟨_, k, pt, pv, _, _, _, _, _, rfl, rfl, hC, hM⟩
  · simp only [if_neg (show ¬ (0 ≤ p.toInt ∧ p.toInt ≤ 8) by omega), if_true]
    by_cases h3 : p < 0
    · simp only [if_pos h3]
      exact ⟨_, k, pt, pv, _, _, _, _, _, rfl, rfl, hC, hM⟩
    · have c4 : (9 : Int32) ≤ p := by
        rw [z_le]; rw [z_lt] at h3
        have z0 : (0 : Int32).toInt = 0 := rfl
        have z9 : (9 : Int32).toInt = 9 := rfl
        omega
      simp only [if_neg h3, if_pos c4]
      exact ⟨_, k, pt, pv, _, _, _, _, _, rfl, rfl, hC, hM⟩
theorem J_unpay {k : Nat} {pt pv : Nat → Nat} {told py : Int32} {last to pd : Nat → Int32} (hC : PYC k pt pv told last) (hM : PYM k pt pv py to pd) : ∃ r k' pt' pv' told' last' py', X10_unpay told last = some (r, told', last') ∧ X11_unpay py = some (r, py') ∧ PYC k' pt' pv' told' last' ∧ PYM k' pt' pv' py' to pd := by
  refine ⟨nI k, 0, pt, pv, 0, fillI 9 last (-9), 0, ?_, ?_, ⟨by omega, rfl, fun i hi => by omega, fun p hp => ?_⟩, ⟨by omega, rfl, fun i hi => by omega⟩⟩
  · rw [hC.2.1]; rfl
  · rw [hM.2.1]; rfl
  · unfold fillI; rw [if_pos hp]; rfl
/-! a search -/
def srch {α : Type} (c : Nat → Bool) (V : Nat → α) (E : α) : Nat → Nat → α
  | _, 0 => E
  | i, m + 1 => if c i then V i else srch c V E (i + 1) m
theorem lupF {α : Type} (c : Nat → Bool) (V : Nat → α) (E : α) (G : Nat → Nat → α) (N : Nat) (hs : ∀ n i, i < N → G (n + 1) i = if c i then V i else G n (i + 1)) (he : ∀ n, G (n + 1) N = E) : ∀ n i, i ≤ N → N < n + i → G n i = srch c V E i (N - i) := by
  intro n
  induction n with
  | zero => intro i h1 h2; omega
  | succ n ih =>
    intro i h1 h2
    by_cases h : i = N
    · subst h; rw [Nat.sub_self, he n]; rfl
    · obtain ⟨m, hm⟩ : ∃ m, N - i = m + 1 := ⟨N - i - 1, by omega⟩
      have e : N - (i + 1) = m := by omega
      rw [hs n i (by omega), hm]
      have := ih (i + 1) (by omega) (by omega)
      rw [e] at this
      rw [this]
      rfl
theorem srch_map {α β : Type} (f : α → β) (c : Nat → Bool) (V : Nat → α) (E : α) : ∀ m i, srch c (fun i => f (V i)) (f E) i m = f (srch c V E i m) := by
  intro m
  induction m with
  | zero => intro i; rfl
  | succ m ih =>
    intro i
    unfold srch
    by_cases h : c i = true
    · rw [if_pos h, if_pos h]
    · rw [if_neg h, if_neg h, ih]
def chd (law share pot : Nat) (ps : List Nat) (k : Nat) (pt pv : Nat → Nat) (i : Nat) : Bool := match lpi pt pv i k with | none => false | some v => !(v == gt law share pot ps (ps.getD i 0))
theorem gt_le {law share pot : Nat} {ps : List Nat} {x : Nat} (hp : pot ≤ 999) (hx : x < 10) : gt law share pot ps x ≤ 8991 := gn_le hp hx
theorem J_cheated {ps : List Nat} {size many : Int32} {nm ct sl : Nat → Int32} {law share pot b k : Nat} {pt pv : Nat → Nat} {told py : Int32} {last to pd : Nat → Int32} (hR : RU law share pot b) (hC : PC ps size nm ct) (hM : PM ps many sl) (hyC : PYC k pt pv told last) (hyM : PYM k pt pv py to pd) (rm : Int32) (row : Nat → Int32) : ∃ r rm' row', X10_cheated (nI law) (nI share) (nI pot) size nm ct last = some r ∧ X11_cheated many (nI law) (nI share) (nI pot) rm py sl row to pd = some (r, rm', row') := by
  obtain ⟨hl, hs, hpot, hb, -⟩ := hR
  have hn := hM.1
  obtain ⟨row1, a1, hP1⟩ := takeSlips_spec hM rm row
  refine ⟨srch (chd law share pot ps k pt pv) (fun i => nI i) (-9) 0 ps.length, many, row1, ?_, ?_⟩
  · unfold X10_cheated
    rw [← srch_map some]
    refine lupF (chd law share pot ps k pt pv) (fun i => some (nI i)) (some (-9)) (fun n i => X10_cheated_b2 n (nI law) (nI share) (nI pot) size nm ct last (nI i)) ps.length ?_ ?_ fU 0 (by omega) (fU_gt (by omega))
    · intro n i hi
      show X10_cheated_b2_s (X10_cheated_b2 n) _ _ _ _ _ _ _ _ = _
      unfold X10_cheated_b2_s X5_size X4_differs
      have hgl := gt_le (law := law) (share := share) (ps := ps) hpot (hM.2.1 _ (gd_mem hi))
      rw [gainOf_spec hl hs hpot hC hi, bnd1_k, hC.1.2.2.1]
      have hla := hyC.2.2.2 i (by omega)
      unfold chd
      cases hlp : lpi pt pv i k with
      | none =>
        rw [hlp] at hla
        have hla' : last i = -9 := hla
        simp (disch := omega) only [zl_0, zl_1, zl_2, zl_3, zl_4, zl_5, zl_6, zl_7, zl_8, zl_9, zl_10, zl_11, zl_12, zl_15, zl_16, zl_20, zl_40, zl_48, zl_60, zl_78, zl_80, zl_84, zl_99, zl_100, zl_128, zl_160, zl_255, zl_999, zl_1000, zl_1023, nI_leI, nI_ltI, nI_eq, nI_clamp, nI_add, bnd1_k, bnd2_k, bnd3_k, bnd4_k, if_pos, if_neg, if_true, if_false, Nat.not_lt_zero, false_or, or_false, hla']
        rfl
      | some v =>
        rw [hlp] at hla
        have hla' : last i = nI v := hla
        have hv := lpi_le (fun i hi => (hyC.2.2.1 i hi).2) hlp
        have hv9 : ¬ nI v = -nI 9 := by
          show ¬ nI v = -9
          rw [z_eq, nI_toInt (by omega)]
          have : (-9 : Int32).toInt = -9 := by decide
          omega
        by_cases hve : v = gt law share pot ps (ps.getD i 0)
        · simp (disch := omega) only [zl_0, zl_1, zl_2, zl_3, zl_4, zl_5, zl_6, zl_7, zl_8, zl_9, zl_10, zl_11, zl_12, zl_15, zl_16, zl_20, zl_40, zl_48, zl_60, zl_78, zl_80, zl_84, zl_99, zl_100, zl_128, zl_160, zl_255, zl_999, zl_1000, zl_1023, nI_leI, nI_ltI, nI_eq, nI_clamp, nI_add, bnd1_k, bnd2_k, bnd3_k, bnd4_k, if_pos, if_neg, if_true, if_false, Nat.not_lt_zero, false_or, or_false, hla', hv9, hve, BEq.rfl, Bool.not_true, Bool.false_eq_true, ite_self]
        · have : (v == gt law share pot ps (ps.getD i 0)) = false := by rw [beq_eq_false_iff_ne]; exact hve
          simp (disch := omega) only [zl_0, zl_1, zl_2, zl_3, zl_4, zl_5, zl_6, zl_7, zl_8, zl_9, zl_10, zl_11, zl_12, zl_15, zl_16, zl_20, zl_40, zl_48, zl_60, zl_78, zl_80, zl_84, zl_99, zl_100, zl_128, zl_160, zl_255, zl_999, zl_1000, zl_1023, nI_leI, nI_ltI, nI_eq, nI_clamp, nI_add, bnd1_k, bnd2_k, bnd3_k, bnd4_k, if_pos, if_neg, if_true, if_false, Nat.not_lt_zero, false_or, or_false, hla', hv9, this, Bool.not_false]
    · intro n
      show X10_cheated_b2_s (X10_cheated_b2 n) _ _ _ _ _ _ _ _ = _
      unfold X10_cheated_b2_s X5_size
      rw [hC.1.2.2.1]
      simp (disch := omega) only [zl_0, zl_1, zl_2, zl_3, zl_4, zl_5, zl_6, zl_7, zl_8, zl_9, zl_10, zl_11, zl_12, zl_15, zl_16, zl_20, zl_40, zl_48, zl_60, zl_78, zl_80, zl_84, zl_99, zl_100, zl_128, zl_160, zl_255, zl_999, zl_1000, zl_1023, nI_leI, nI_ltI, nI_eq, nI_clamp, nI_add, bnd1_k, bnd2_k, bnd3_k, bnd4_k, if_pos, if_neg, if_true, if_false, Nat.not_lt_zero, false_or, or_false]
  · unfold X11_cheated
    rw [a1, bnd2_k, ← srch_map (fun r => some (r, many, row1))]
    refine lupF (chd law share pot ps k pt pv) (fun i => some (nI i, many, row1)) (some (-9, many, row1)) (fun n i => X11_cheated_b6 n many (nI law) (nI share) (nI pot) many py sl row1 to pd (nI i)) ps.length ?_ ?_ fU 0 (by omega) (fU_gt (by omega))
    · intro n i hi
      show X11_cheated_b6_s (X11_cheated_b6 n) _ _ _ _ _ _ _ _ _ _ _ = _
      unfold X11_cheated_b6_s
      have hgl := gt_le (law := law) (share := share) (ps := ps) hpot (hM.2.1 _ (gd_mem hi))
      rw [getsOf_spec hl hs hpot hP1 hi, bnd1_k]
      have key : X11_cheated_b25 (X11_cheated_b6 n) fU many (nI law) (nI share) (nI pot) many py sl row1 to pd (nI i) (nI (gt law share pot ps (ps.getD i 0))) (nI (gt law share pot ps (ps.getD i 0))) 0 = X11_cheated_b63 (X11_cheated_b6 n) many (nI law) (nI share) (nI pot) many py sl row1 to pd (nI i) (nI (gt law share pot ps (ps.getD i 0))) (nI ((lpi pt pv i k).getD (gt law share pot ps (ps.getD i 0)))) := by
        refine lup (fun n2 j => X11_cheated_b25 (X11_cheated_b6 n) n2 many (nI law) (nI share) (nI pot) many py sl row1 to pd (nI i) (nI (gt law share pot ps (ps.getD i 0))) (nI ((lpi pt pv i j).getD (gt law share pot ps (ps.getD i 0)))) (nI j)) k _ ?_ ?_ fU 0 (by omega) (fU_gt (by have := hyC.1; omega))
        · intro n2 j hj
          show X11_cheated_b25_s (X11_cheated_b6 n) (X11_cheated_b25 (X11_cheated_b6 n) n2) _ _ _ _ _ _ _ _ _ _ _ _ _ _ = _
          unfold X11_cheated_b25_s X11_cheated_b56
          have hk12 := hyC.1
          have hm := hyM.2.2 j hj
          have hbd := hyC.2.2.1 j hj
          rw [hyM.2.1]
          have es : lpi pt pv i (j + 1) = if pt j = i then some (pv j) else lpi pt pv i j := rfl
          rw [es]
          by_cases hji : pt j = i
          · simp (disch := omega) only [zl_0, zl_1, zl_2, zl_3, zl_4, zl_5, zl_6, zl_7, zl_8, zl_9, zl_10, zl_11, zl_12, zl_15, zl_16, zl_20, zl_40, zl_48, zl_60, zl_78, zl_80, zl_84, zl_99, zl_100, zl_128, zl_160, zl_255, zl_999, zl_1000, zl_1023, nI_leI, nI_ltI, nI_eq, nI_clamp, nI_add, bnd1_k, bnd2_k, bnd3_k, bnd4_k, if_pos, if_neg, if_true, if_false, Nat.not_lt_zero, false_or, or_false, hm.1, hm.2, Option.getD_some]
          · simp (disch := omega) only [zl_0, zl_1, zl_2, zl_3, zl_4, zl_5, zl_6, zl_7, zl_8, zl_9, zl_10, zl_11, zl_12, zl_15, zl_16, zl_20, zl_40, zl_48, zl_60, zl_78, zl_80, zl_84, zl_99, zl_100, zl_128, zl_160, zl_255, zl_999, zl_1000, zl_1023, nI_leI, nI_ltI, nI_eq, nI_clamp, nI_add, bnd1_k, bnd2_k, bnd3_k, bnd4_k, if_pos, if_neg, if_true, if_false, Nat.not_lt_zero, false_or, or_false, hm.1, hm.2]
        · intro n2
          show X11_cheated_b25_s (X11_cheated_b6 n) (X11_cheated_b25 (X11_cheated_b6 n) n2) _ _ _ _ _ _ _ _ _ _ _ _ _ _ = _
          unfold X11_cheated_b25_s
          have hk12 := hyC.1
          rw [hyM.2.1]
          simp (disch := omega) only [zl_0, zl_1, zl_2, zl_3, zl_4, zl_5, zl_6, zl_7, zl_8, zl_9, zl_10, zl_11, zl_12, zl_15, zl_16, zl_20, zl_40, zl_48, zl_60, zl_78, zl_80, zl_84, zl_99, zl_100, zl_128, zl_160, zl_255, zl_999, zl_1000, zl_1023, nI_leI, nI_ltI, nI_eq, nI_clamp, nI_add, bnd1_k, bnd2_k, bnd3_k, bnd4_k, if_pos, if_neg, if_true, if_false, Nat.not_lt_zero, false_or, or_false]
      rw [key]
      unfold X11_cheated_b63 chd
      rw [hM.2.2.1]
      cases hlp : lpi pt pv i k with
      | none => simp (disch := omega) only [zl_0, zl_1, zl_2, zl_3, zl_4, zl_5, zl_6, zl_7, zl_8, zl_9, zl_10, zl_11, zl_12, zl_15, zl_16, zl_20, zl_40, zl_48, zl_60, zl_78, zl_80, zl_84, zl_99, zl_100, zl_128, zl_160, zl_255, zl_999, zl_1000, zl_1023, nI_leI, nI_ltI, nI_eq, nI_clamp, nI_add, bnd1_k, bnd2_k, bnd3_k, bnd4_k, if_pos, if_neg, if_true, if_false, Nat.not_lt_zero, false_or, or_false, Option.getD_none, Bool.false_eq_true]
      | some v =>
        have hv := lpi_le (fun i hi => (hyC.2.2.1 i hi).2) hlp
        by_cases hve : v = gt law share pot ps (ps.getD i 0)
        · simp (disch := omega) only [zl_0, zl_1, zl_2, zl_3, zl_4, zl_5, zl_6, zl_7, zl_8, zl_9, zl_10, zl_11, zl_12, zl_15, zl_16, zl_20, zl_40, zl_48, zl_60, zl_78, zl_80, zl_84, zl_99, zl_100, zl_128, zl_160, zl_255, zl_999, zl_1000, zl_1023, nI_leI, nI_ltI, nI_eq, nI_clamp, nI_add, bnd1_k, bnd2_k, bnd3_k, bnd4_k, if_pos, if_neg, if_true, if_false, Nat.not_lt_zero, false_or, or_false, Option.getD_some, hve, BEq.rfl, Bool.not_true, Bool.false_eq_true]
        · have : (v == gt law share pot ps (ps.getD i 0)) = false := by rw [beq_eq_false_iff_ne]; exact hve
          simp (disch := omega) only [zl_0, zl_1, zl_2, zl_3, zl_4, zl_5, zl_6, zl_7, zl_8, zl_9, zl_10, zl_11, zl_12, zl_15, zl_16, zl_20, zl_40, zl_48, zl_60, zl_78, zl_80, zl_84, zl_99, zl_100, zl_128, zl_160, zl_255, zl_999, zl_1000, zl_1023, nI_leI, nI_ltI, nI_eq, nI_clamp, nI_add, bnd1_k, bnd2_k, bnd3_k, bnd4_k, if_pos, if_neg, if_true, if_false, Nat.not_lt_zero, false_or, or_false, Option.getD_some, this, Bool.not_false]
    · intro n
      show X11_cheated_b6_s (X11_cheated_b6 n) _ _ _ _ _ _ _ _ _ _ _ = _
      unfold X11_cheated_b6_s
      rw [hM.2.2.1]
      simp (disch := omega) only [zl_0, zl_1, zl_2, zl_3, zl_4, zl_5, zl_6, zl_7, zl_8, zl_9, zl_10, zl_11, zl_12, zl_15, zl_16, zl_20, zl_40, zl_48, zl_60, zl_78, zl_80, zl_84, zl_99, zl_100, zl_128, zl_160, zl_255, zl_999, zl_1000, zl_1023, nI_leI, nI_ltI, nI_eq, nI_clamp, nI_add, bnd1_k, bnd2_k, bnd3_k, bnd4_k, if_pos, if_neg, if_true, if_false, Nat.not_lt_zero, false_or, or_false]
def TN (t : Nat → Nat) (w : Nat → Int32) : Prop := ∀ d, d < 10 → t d ≤ 10 ∧ w d = nI (t d)
theorem J_tenths {t : Nat → Nat} {wC wM : Nat → Int32} (hC : TN t wC) (hM : TN t wM) (p v : Int32) : ∃ r t' wC' wM', X10_tenths wC p v = some (r, wC') ∧ X11_tenths wM p v = some (r, wM') ∧ TN t' wC' ∧ TN t' wM' := by
  have c10 : ¬ (1 : Int32) = 0 := by decide
  unfold X10_tenths X11_tenths
  rw [in_spec, in_spec, num_spec]
  have e0 : (0 : Int64).toInt = 0 := rfl
  have e9 : (9 : Int64).toInt = 9 := rfl
  have e10 : (10 : Int64).toInt = 10 := rfl
  rw [e0, e9, e10]
  by_cases h1 : 0 ≤ p.toInt ∧ p.toInt < 10
  · obtain ⟨j, hj, -, rfl⟩ := person_nat (n := 10) h1
    simp only [if_pos h1, if_pos (show 0 ≤ (nI j).toInt ∧ (nI j).toInt ≤ 9 by omega), if_neg c10]
    by_cases h2 : 0 ≤ v.toInt ∧ v.toInt < 11
    · obtain ⟨w, hw, -, rfl⟩ := person_nat (n := 11) h2
      have c3 : ¬ nI w < 0 := nI_pos (by omega)
      have c4 : nI w ≤ (10 : Int32) := nI_le (b := 10) (by omega) (by omega)
      simp only [if_pos (show 0 ≤ (nI w).toInt ∧ (nI w).toInt ≤ 10 by omega), if_neg c10, if_neg c3, if_pos c4]
      have hup : ∀ f, TN t f → TN (fun d => if d = j then w else t d) (upd f j (nI w)) := by
        intro f hf d hd
        by_cases e : d = j
        · subst e; simp only [if_true]; exact ⟨by omega, pk_us⟩
        · simp only [if_neg e]; rw [pk_un e]; exact hf d hd
      refine ⟨nI (t j), fun d => if d = j then w else t d, upd wC j (nI w), upd wM j (nI w), ?_, ?_, hup _ hC, hup _ hM⟩
      · unfold X0_put
        rw [num_spec, if_pos h1, ← (hC j hj).2]
        simp (disch := omega) only [zl_0, zl_1, zl_2, zl_3, zl_4, zl_5, zl_6, zl_7, zl_8, zl_9, zl_10, zl_11, zl_12, zl_15, zl_16, zl_20, zl_40, zl_48, zl_60, zl_78, zl_80, zl_84, zl_99, zl_100, zl_128, zl_160, zl_255, zl_999, zl_1000, zl_1023, nI_leI, nI_ltI, nI_eq, nI_clamp, nI_add, bnd1_k, bnd2_k, bnd3_k, bnd4_k, if_pos, if_neg, if_true, if_false, Nat.not_lt_zero, false_or, or_false]
      · rw [← (hM j hj).2]
        simp (disch := omega) only [zl_0, zl_1, zl_2, zl_3, zl_4, zl_5, zl_6, zl_7, zl_8, zl_9, zl_10, zl_11, zl_12, zl_15, zl_16, zl_20, zl_40, zl_48, zl_60, zl_78, zl_80, zl_84, zl_99, zl_100, zl_128, zl_160, zl_255, zl_999, zl_1000, zl_1023, nI_leI, nI_ltI, nI_eq, nI_clamp, nI_add, bnd1_k, bnd2_k, bnd3_k, bnd4_k, if_pos, if_neg, if_true, if_false, Nat.not_lt_zero, false_or, or_false]
    · simp only [if_neg (show ¬ (0 ≤ v.toInt ∧ v.toInt ≤ 10) by omega), if_true]
      by_cases h3 : v < 0
      · simp only [if_pos h3]
        exact ⟨_, t, _, _, rfl, rfl, hC, hM⟩
      · have c4 : ¬ v ≤ (10 : Int32) := by
          rw [z_le]; rw [z_lt] at h3
          have z0 : (0 : Int32).toInt = 0 := rfl
          have z9 : (10 : Int32).toInt = 10 := rfl
          omega
        simp only [if_neg h3, if_neg c4]
        exact ⟨_, t, _, _, rfl, rfl, hC, hM⟩
  · simp only [if_neg h1, if_neg (show ¬ (0 ≤ p.toInt ∧ p.toInt ≤ 9) by omega), if_true]
    exact ⟨_, t, _, _, rfl, rfl, hC, hM⟩
theorem J_seed (x v : Int64) : X10_seed x v = some (x, v) ∧ X11_seed x v = some (x, v) := ⟨rfl, rfl⟩
/-! count -/
def rbt (law : Nat) (ps : List Nat) : Nat → Int32
  | 0 => 0
  | i + 1 => if rt law ps (ps.getD i 0) then rbt law ps i ||| ((1 : Int32) <<< (nI i &&& 31)) else rbt law ps i
def lft (law share pot : Nat) (ps : List Nat) : Nat → Int32
  | 0 => nI pot
  | i + 1 => lft law share pot ps i - nI (gt law share pot ps (ps.getD i 0))
theorem rightBits_spec {ps : List Nat} {size : Int32} {nm ct : Nat → Int32} {law : Nat} (hl : law ≤ 2) (hC : PC ps size nm ct) : X10_rightBits (nI law) size nm ct = some (rbt law ps ps.length) := by
  have hn := hC.1.1
  unfold X10_rightBits
  refine lup (fun n i => X10_rightBits_b4 n (nI law) size nm ct (rbt law ps i) (nI i)) ps.length _ ?_ ?_ fU 0 (by omega) (fU_gt (by omega))
  · intro n i hi
    show X10_rightBits_b4_s (X10_rightBits_b4 n) _ _ _ _ _ _ = _
    unfold X10_rightBits_b4_s X10_rightBits_b49 X5_size
    have hown := hC.1.2.1 _ (gd_mem hi)
    have hc9 := cnt_le hn (ps.getD i 0)
    rw [numberOf_spec hC.1 hi, bnd1_k, many_spec hC hown, bnd1_k, suits_spec hl (by omega) (by omega), hC.1.2.2.1, nI_1]
    rw [if_neg (nI_ge hi (by omega))]
    show _ = X10_rightBits_b4 n _ _ _ _ (if rt law ps (ps.getD i 0) then _ else _) _
    unfold rt
    by_cases h : su law (ps.getD i 0) (ps.count (ps.getD i 0)) = true
    · simp only [if_pos h]; rw [if_neg (show ¬ (1 : Int32) = 0 by decide)]
    · simp only [if_neg h, if_true]
  · intro n
    show X10_rightBits_b4_s (X10_rightBits_b4 n) _ _ _ _ _ _ = _
    unfold X10_rightBits_b4_s X5_size
    rw [hC.1.2.2.1, if_pos (nI_le (Nat.le_refl _) (by omega))]
theorem leftOfPot_spec {ps : List Nat} {size : Int32} {nm ct : Nat → Int32} {law share pot : Nat} (hl : law ≤ 2) (hs : share ≤ 1) (hpot : pot ≤ 999) (hC : PC ps size nm ct) : X10_leftOfPot (nI law) (nI share) (nI pot) size nm ct = some (lft law share pot ps ps.length) := by
  have hn := hC.1.1
  unfold X10_leftOfPot X8_potWhole
  refine lup (fun n i => X10_leftOfPot_b10 n (nI law) (nI share) (nI pot) size nm ct (lft law share pot ps i) (nI i)) ps.length _ ?_ ?_ fU 0 (by omega) (fU_gt (by omega))
  · intro n i hi
    show X10_leftOfPot_b10_s (X10_leftOfPot_b10 n) _ _ _ _ _ _ _ _ = _
    unfold X10_leftOfPot_b10_s X5_size
    rw [gainOf_spec hl hs hpot hC hi, bnd1_k, hC.1.2.2.1, nI_1, if_neg (nI_ge hi (by omega))]
    rfl
  · intro n
    show X10_leftOfPot_b10_s (X10_leftOfPot_b10 n) _ _ _ _ _ _ _ _ = _
    unfold X10_leftOfPot_b10_s X5_size
    rw [hC.1.2.2.1, if_pos (nI_le (Nat.le_refl _) (by omega))]
theorem or_zero (x : Int32) : x ||| 0 = x := by
  apply Int32.toBitVec_inj.mp
  rw [Int32.toBitVec_or]
  exact BitVec.or_zero
theorem J_count {ps : List Nat} {size many : Int32} {nm ct sl : Nat → Int32} {law share pot b : Nat} (hR : RU law share pot b) (hC : PC ps size nm ct) (hM : PM ps many sl) {lC lM aC aM told py : Int32} (el : lC = lM) (ea : aC = aM) (ep : told = py) (p : Int32) (rm : Int32) (row : Nat → Int32) : ∃ r rm' row', X10_count lC (nI law) (nI share) (nI pot) (nI b) size nm ct aC told p = some r ∧ X11_count many (nI b) (nI law) (nI share) (nI pot) lM rm aM py sl row p = some (r, rm', row') := by
  obtain ⟨hl, hs, hpot, hb, -⟩ := hR
  have hn := hM.1
  obtain ⟨row1, a1, hP1⟩ := takeSlips_spec hM rm row
  unfold X11_count
  rw [a1, bnd2_k]
  have key : X11_count_b14 fU many (nI b) (nI law) (nI share) (nI pot) lM many aM py sl row1 p 0 (nI pot) 0 = X11_count_b58 many (nI b) (nI law) (nI share) (nI pot) lM many aM py sl row1 p (rbt law ps ps.length) (lft law share pot ps ps.length) := by
    refine lup (fun n i => X11_count_b14 n many (nI b) (nI law) (nI share) (nI pot) lM many aM py sl row1 p (rbt law ps i) (lft law share pot ps i) (nI i)) ps.length _ ?_ ?_ fU 0 (by omega) (fU_gt (by omega))
    · intro n i hi
      show X11_count_b14_s (X11_count_b14 n) _ _ _ _ _ _ _ _ _ _ _ _ _ _ _ = _
      unfold X11_count_b14_s X11_count_b41
      rw [isRight_spec hl hP1 hi, bnd1_k, getsOf_spec hl hs hpot hP1 hi, bnd1_k, bnd1_k, nI_1]
      rw [if_neg (show ¬ many ≤ nI i by rw [hM.2.2.1]; exact nI_ge hi (by omega))]
      show _ = X11_count_b14 n _ _ _ _ _ _ _ _ _ _ _ _ (if rt law ps (ps.getD i 0) then _ else _) _ _
      by_cases h : rt law ps (ps.getD i 0) = true
      · simp only [if_pos h]; rw [if_neg (show ¬ (1 : Int32) = 0 by decide)]; rfl
      · simp only [if_neg h, if_true, or_zero]; rfl
    · intro n
      show X11_count_b14_s (X11_count_b14 n) _ _ _ _ _ _ _ _ _ _ _ _ _ _ _ = _
      unfold X11_count_b14_s
      rw [if_pos (show many ≤ nI ps.length by rw [hM.2.2.1]; exact nI_le (Nat.le_refl _) (by omega))]
  rw [key]
  unfold X10_count X11_count_b58 X9_length X5_size X8_barredBits X2_acts X4_told X8_potWhole X8_lawKind X8_shareKind
  rw [rightBits_spec hl hC, leftOfPot_spec hl hs hpot hC, el, ea, ep, hC.1.2.2.1, hM.2.2.1]
  simp only [bnd1_k]
  by_cases w0 : p = 0
  · simp only [if_pos w0]; exact ⟨_, _, _, rfl, rfl⟩
  by_cases w1 : p = 1
  · simp only [if_neg w0, if_pos w1]; exact ⟨_, _, _, rfl, rfl⟩
  by_cases w2 : p = 2
  · simp only [if_neg w0, if_neg w1, if_pos w2]; exact ⟨_, _, _, rfl, rfl⟩
  by_cases w3 : p = 3
  · simp only [if_neg w0, if_neg w1, if_neg w2, if_pos w3]; exact ⟨_, _, _, rfl, rfl⟩
  by_cases w4 : p = 4
  · simp only [if_neg w0, if_neg w1, if_neg w2, if_neg w3, if_pos w4]; exact ⟨_, _, _, rfl, rfl⟩
  by_cases w5 : p = 5
  · simp only [if_neg w0, if_neg w1, if_neg w2, if_neg w3, if_neg w4, if_pos w5]; exact ⟨_, _, _, rfl, rfl⟩
  by_cases w6 : p = 6
  · simp only [if_neg w0, if_neg w1, if_neg w2, if_neg w3, if_neg w4, if_neg w5, if_pos w6]; exact ⟨_, _, _, rfl, rfl⟩
  by_cases w7 : p = 7
  · simp only [if_neg w0, if_neg w1, if_neg w2, if_neg w3, if_neg w4, if_neg w5, if_neg w6, if_pos w7]; exact ⟨_, _, _, rfl, rfl⟩
  by_cases w8 : p = 8
  · simp only [if_neg w0, if_neg w1, if_neg w2, if_neg w3, if_neg w4, if_neg w5, if_neg w6, if_neg w7, if_pos w8]; exact ⟨_, _, _, rfl, rfl⟩
  by_cases w9 : p = 9
  · simp only [if_neg w0, if_neg w1, if_neg w2, if_neg w3, if_neg w4, if_neg w5, if_neg w6, if_neg w7, if_neg w8, if_pos w9]; exact ⟨_, _, _, rfl, rfl⟩
  · simp only [if_neg w0, if_neg w1, if_neg w2, if_neg w3, if_neg w4, if_neg w5, if_neg w6, if_neg w7, if_neg w8, if_neg w9]; exact ⟨_, _, _, rfl, rfl⟩
