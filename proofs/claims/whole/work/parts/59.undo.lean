/-! undo, keep, again -/
theorem gA_mem {as : List (List Nat)} {i : Nat} (h : i < as.length) : as.getD i [] ∈ as := by
  rw [List.getD_eq_getElem?_getD, List.getElem?_eq_getElem h]
  exact List.getElem_mem h
/-- a row of people out of a place of a long array, over nine places -/
theorem LI_out {l : List Nat} {bf sl : Nat → Int32} {o : Nat} (h : LI l bf o) (hl : l.length ≤ 9) (hx : ∀ x ∈ l, x < 10) (hs : ∀ p, p < 9 → sl p = bf (o + p)) : PM l (bf (o + 9)) sl := ⟨hl, hx, h.1, fun j hj => by rw [hs j (by omega)]; exact h.2 j hj⟩
theorem undoM_spec {l : List Nat} {many a : Int32} {sl bf : Nat → Int32} {nx : Nat} (hnx : nx < 16) (h : LI l bf (10 * nx)) (hl : l.length ≤ 9) (hx : ∀ x ∈ l, x < 10) : ∃ sl', X11_undo_b36 fU many a (nI nx) sl bf 0 = some (a, nI l.length, a, nI nx, sl') ∧ PM l (nI l.length) sl' := by
  refine lupR (fun i g => ∀ p, p < i → g p = bf (10 * nx + p)) (fun n i g => X11_undo_b36 n many a (nI nx) g bf (nI i)) 9 (fun r => ∃ sl', r = some (a, nI l.length, a, nI nx, sl') ∧ PM l (nI l.length) sl') ?_ ?_ fU 0 sl (by omega) (fU_gt (by omega)) (fun p hp => absurd hp (Nat.not_lt_zero p))
  · intro n i g hi hI
    left
    refine ⟨upd g i (bf (10 * nx + i)), fun p hp => ?_, ?_⟩
    · by_cases e : p = i
      · subst e; rw [pk_us]
      · rw [pk_un e]; exact hI p (by omega)
    · show X11_undo_b36_s (X11_undo_b36 n) _ _ _ _ _ _ = _
      unfold X11_undo_b36_s
      simp (disch := omega) only [zl_0, zl_1, zl_2, zl_3, zl_4, zl_5, zl_6, zl_7, zl_8, zl_9, zl_10, zl_11, zl_12, zl_15, zl_16, zl_20, zl_40, zl_48, zl_60, zl_78, zl_80, zl_84, zl_99, zl_100, zl_128, zl_160, zl_255, zl_999, zl_1000, zl_1023, nI_leI, nI_ltI, nI_eq, nI_clamp, nI_add, bnd1_k, bnd2_k, bnd3_k, bnd4_k, if_pos, if_neg, if_true, if_false, Nat.not_lt_zero, false_or, or_false, pk_mul]
  · intro n g hI
    have hP := LI_out h hl hx hI
    rw [h.1] at hP
    refine ⟨g, ?_, hP⟩
    show X11_undo_b36_s (X11_undo_b36 n) _ _ _ _ _ _ = _
    unfold X11_undo_b36_s X11_undo_b68
    have e9 := h.1
    simp (disch := omega) only [zl_0, zl_1, zl_2, zl_3, zl_4, zl_5, zl_6, zl_7, zl_8, zl_9, zl_10, zl_11, zl_12, zl_15, zl_16, zl_20, zl_40, zl_48, zl_60, zl_78, zl_80, zl_84, zl_99, zl_100, zl_128, zl_160, zl_255, zl_999, zl_1000, zl_1023, nI_leI, nI_ltI, nI_eq, nI_clamp, nI_add, bnd1_k, bnd2_k, bnd3_k, bnd4_k, if_pos, if_neg, if_true, if_false, Nat.not_lt_zero, false_or, or_false, pk_mul, e9]
theorem J_undo {ps : List Nat} {as : List (List Nat)} {size many aC aM next : Int32} {nm ct sl bf : Nat → Int32} {row : Nat → Int64} {b : Nat} (hC : PC ps size nm ct) (hM : PM ps many sl) (hok : OK b ps) (hmC : MC as aC row) (hmM : MM as aM next bf) (hA : AS b as) : ∃ r ps' as' size' nm' ct' aC' many' aM' next' sl', X10_undo size nm ct aC row = some (r, size', nm', ct', aC') ∧ X11_undo many aM next sl bf = some (r, many', aM', next', sl') ∧ PC ps' size' nm' ct' ∧ PM ps' many' sl' ∧ OK b ps' ∧ MC as' aC' row ∧ MM as' aM' next' bf ∧ AS b as' := by
  obtain ⟨h16, eC, hrC⟩ := id hmC
  obtain ⟨-, eM, nx, hnx, en, hrM⟩ := id hmM
  unfold X10_undo X11_undo X2_acts
  by_cases h0 : as.length = 0
  · rw [eC, eM, h0]
    simp only [if_pos (show nI 0 = 0 from rfl)]
    refine ⟨_, ps, as, _, _, _, _, _, _, _, _, rfl, rfl, hC, hM, hok, ?_, ?_, hA⟩
    · rw [← h0, ← eC]; exact hmC
    · rw [← h0, ← eM]; exact hmM
  · have hc : ¬ nI as.length = 0 := nI_ne0 (by omega) (by omega)
    rw [eC, eM, en]
    simp only [if_neg hc]
    have hm : as.length - 1 < as.length := by omega
    have hok1 := hA _ (gA_mem hm)
    have hx1 : ∀ x ∈ as.getD (as.length - 1) [], x < 10 := fun x hx => (hok1.2 x hx).1
    have e1 : nI as.length - 1 = nI (as.length - 1) := pk_sub (b := 1) (by omega)
    have e15 : nI nx + 15 - (nI nx + 15) / 16 * 16 = nI ((nx + 15) % 16) := by
      show nI nx + nI 15 - (nI nx + nI 15) / nI 16 * nI 16 = _
      rw [nI_add]
      exact pk_rem (by omega) (by omega) (by omega)
    rw [e1, e15]
    have hli := hrM (as.length - 1) hm
    have es : (nx + 16 - as.length + (as.length - 1)) % 16 = (nx + 15) % 16 := by omega
    rw [es] at hli
    obtain ⟨sl1, p1, q1⟩ := undoM_spec (many := many) (a := nI (as.length - 1)) (sl := sl) (by omega) hli hok1.1 hx1
    obtain ⟨nm1, ct1, p2, q2⟩ := unpack_spec hok1.1 hx1 size nm ct
    have p3 : X2_takeAct (nI as.length) row = some (lN (pkN (as.getD (as.length - 1) [])), nI (as.length - 1)) := by
      unfold X2_takeAct
      rw [e1]
      have e5 := hrC (as.length - 1) hm
      simp (disch := omega) only [zl_0, zl_1, zl_2, zl_3, zl_4, zl_5, zl_6, zl_7, zl_8, zl_9, zl_10, zl_11, zl_12, zl_15, zl_16, zl_20, zl_40, zl_48, zl_60, zl_78, zl_80, zl_84, zl_99, zl_100, zl_128, zl_160, zl_255, zl_999, zl_1000, zl_1023, nI_leI, nI_ltI, nI_eq, nI_clamp, nI_add, bnd1_k, bnd2_k, bnd3_k, bnd4_k, if_pos, if_neg, if_true, if_false, Nat.not_lt_zero, false_or, or_false, e5]
    rw [p1, p3, bnd2_k, p2, bnd3_k]
    have hl1 : (as.take (as.length - 1)).length = as.length - 1 := by rw [List.length_take]; omega
    refine ⟨nI (as.length - 1), as.getD (as.length - 1) [], as.take (as.length - 1), _, nm1, ct1, nI (as.length - 1), _, nI (as.length - 1), nI ((nx + 15) % 16), sl1, rfl, rfl, q2, q1, hok1, ⟨by omega, by rw [hl1], fun i hi => ?_⟩, ⟨by omega, by rw [hl1], (nx + 15) % 16, by omega, rfl, fun i hi => ?_⟩, fun l hl => hA l (List.mem_of_mem_take hl)⟩
    · rw [hl1] at hi
      rw [ga_take hi]; exact hrC i (by omega)
    · rw [hl1] at hi ⊢
      rw [ga_take hi]
      have es2 : ((nx + 15) % 16 + 16 - (as.length - 1) + i) % 16 = (nx + 16 - as.length + i) % 16 := by omega
      rw [es2]
      exact hrM i (by omega)
/-! slots -/
def enc (o : Option (List Nat)) : Int64 := match o with | none => -1 | some l => lN (pkN l)
def SC (ks : Nat → Option (List Nat)) (sl : Nat → Int64) : Prop := ∀ s, s < 2 → sl s = enc (ks s)
def SM (ks : Nat → Option (List Nat)) (kp kf : Nat → Int32) : Prop := ∀ s, s < 2 → (ks s = none → kp s = 0) ∧ ∀ l, ks s = some l → kp s = 1 ∧ LI l kf (10 * s)
def SA (b : Nat) (ks : Nat → Option (List Nat)) : Prop := ∀ s l, s < 2 → ks s = some l → OK b l
def ksp (ks : Nat → Option (List Nat)) (j : Nat) (ps : List Nat) : Nat → Option (List Nat) := fun s => if s = j then some ps else ks s
theorem ksp_eq {ks : Nat → Option (List Nat)} {j : Nat} {ps : List Nat} : ksp ks j ps j = some ps := if_pos rfl
theorem ksp_ne {ks : Nat → Option (List Nat)} {s j : Nat} {ps : List Nat} (h : ¬ s = j) : ksp ks j ps s = ks s := if_neg h
theorem slot_spec (p : Int32) : X10_isSlot p = if 0 ≤ p.toInt ∧ p.toInt < 2 then 1 else 0 := by
  unfold X10_isSlot
  simp only [z_lt, z_le]
  have e0 : (0 : Int32).toInt = 0 := rfl
  have e1 : (2 : Int32).toInt = 2 := rfl
  rw [e0, e1]
  by_cases h1 : p.toInt < 0
  · rw [if_pos h1, if_neg (by omega)]
  · by_cases h2 : 2 ≤ p.toInt
    · rw [if_neg h1, if_pos h2, if_neg (by omega)]
    · rw [if_neg h1, if_neg h2, if_pos (by omega)]
theorem pk_ne {l : List Nat} (hl : l.length ≤ 9) (hx : ∀ x ∈ l, x < 10) : ¬ lN (pkN l) = -1 := by
  have h := pkN_lt hl hx
  intro q
  have h2 : (lN (pkN l)).toInt = (-1 : Int64).toInt := by rw [q]
  rw [pk_lT (by omega)] at h2
  have h3 : (-1 : Int64).toInt = -1 := by decide
  omega
theorem keepM_spec {ps : List Nat} {many : Int32} {sl kp kf : Nat → Int32} {s : Nat} (hs : s < 2) (h : PM ps many sl) : ∃ kf', X11_keep_b21 fU many sl kp kf (nI s) 0 = some (many, kp, kf') ∧ LI ps kf' (10 * s) ∧ ∀ q, (q < 10 * s ∨ 10 * s + 10 ≤ q) → kf' q = kf q := by
  obtain ⟨hn, hx, e, hr⟩ := h
  refine lupR (fun i g => (∀ p, p < i → g (10 * s + p) = sl p) ∧ ∀ q, (q < 10 * s ∨ 10 * s + 10 ≤ q) → g q = kf q) (fun n i g => X11_keep_b21 n many sl kp g (nI s) (nI i)) 9 (fun r => ∃ kf', r = some (many, kp, kf') ∧ LI ps kf' (10 * s) ∧ ∀ q, (q < 10 * s ∨ 10 * s + 10 ≤ q) → kf' q = kf q) ?_ ?_ fU 0 kf (by omega) (fU_gt (by omega)) ⟨fun p hp => absurd hp (Nat.not_lt_zero p), fun q _ => rfl⟩
  · intro n i g hi hI
    left
    refine ⟨upd g (10 * s + i) (sl i), ⟨fun p hp => ?_, fun q hq => ?_⟩, ?_⟩
    · by_cases ep : p = i
      · subst ep; rw [pk_us]
      · rw [pk_un (by omega)]; exact hI.1 p (by omega)
    · rw [pk_un (by omega)]; exact hI.2 q hq
    · show X11_keep_b21_s (X11_keep_b21 n) _ _ _ _ _ _ = _
      unfold X11_keep_b21_s
      simp (disch := omega) only [zl_0, zl_1, zl_2, zl_3, zl_4, zl_5, zl_6, zl_7, zl_8, zl_9, zl_10, zl_11, zl_12, zl_15, zl_16, zl_20, zl_40, zl_48, zl_60, zl_78, zl_80, zl_84, zl_99, zl_100, zl_128, zl_160, zl_255, zl_999, zl_1000, zl_1023, nI_leI, nI_ltI, nI_eq, nI_clamp, nI_add, bnd1_k, bnd2_k, bnd3_k, bnd4_k, if_pos, if_neg, if_true, if_false, Nat.not_lt_zero, false_or, or_false, pk_mul]
  · intro n g hI
    refine ⟨upd g (10 * s + 9) many, ?_, ⟨by rw [pk_us]; exact e, fun p hp => by rw [pk_un (by omega), hI.1 p (by omega)]; exact hr p hp⟩, fun q hq => by rw [pk_un (by omega)]; exact hI.2 q hq⟩
    show X11_keep_b21_s (X11_keep_b21 n) _ _ _ _ _ _ = _
    unfold X11_keep_b21_s X11_keep_b50
    simp (disch := omega) only [zl_0, zl_1, zl_2, zl_3, zl_4, zl_5, zl_6, zl_7, zl_8, zl_9, zl_10, zl_11, zl_12, zl_15, zl_16, zl_20, zl_40, zl_48, zl_60, zl_78, zl_80, zl_84, zl_99, zl_100, zl_128, zl_160, zl_255, zl_999, zl_1000, zl_1023, nI_leI, nI_ltI, nI_eq, nI_clamp, nI_add, bnd1_k, bnd2_k, bnd3_k, bnd4_k, if_pos, if_neg, if_true, if_false, Nat.not_lt_zero, false_or, or_false, pk_mul]
theorem J_keep {ps : List Nat} {ks : Nat → Option (List Nat)} {size many : Int32} {nm ct sl kp kf : Nat → Int32} {slots : Nat → Int64} {b : Nat} (hC : PC ps size nm ct) (hM : PM ps many sl) (hok : OK b ps) (hsC : SC ks slots) (hsM : SM ks kp kf) (hsA : SA b ks) (p : Int32) : ∃ r ks' slots' kp' kf', X10_keep size nm slots p = some (r, slots') ∧ X11_keep many sl kp kf p = some (r, kp', kf') ∧ SC ks' slots' ∧ SM ks' kp' kf' ∧ SA b ks' := by
  have c10 : ¬ (1 : Int32) = 0 := by decide
  unfold X10_keep X11_keep X5_size
  rw [slot_spec, in_spec]
  have e0 : (0 : Int64).toInt = 0 := rfl
  have e9 : (1 : Int64).toInt = 1 := rfl
  rw [e0, e9]
  by_cases h0 : 0 ≤ p.toInt ∧ p.toInt < 2
  · obtain ⟨j, hj, -, rfl⟩ := person_nat (n := 2) h0
    simp only [if_pos h0, if_pos (show 0 ≤ (nI j).toInt ∧ (nI j).toInt ≤ 1 by omega), if_neg c10]
    have enar : vp_nar .boolean (1 : Int32) = 1 := by decide
    obtain ⟨kf1, p1, q1, q2⟩ := keepM_spec (kp := upd kp j 1) (kf := kf) hj hM
    have p2 : X2_putSlot slots (nI j) (lN (pkN ps)) = some (vp_updL slots j (lN (pkN ps))) := by
      unfold X2_putSlot
      rw [slot_spec, if_pos h0]
      simp (disch := omega) only [zl_0, zl_1, zl_2, zl_3, zl_4, zl_5, zl_6, zl_7, zl_8, zl_9, zl_10, zl_11, zl_12, zl_15, zl_16, zl_20, zl_40, zl_48, zl_60, zl_78, zl_80, zl_84, zl_99, zl_100, zl_128, zl_160, zl_255, zl_999, zl_1000, zl_1023, nI_leI, nI_ltI, nI_eq, nI_clamp, nI_add, bnd1_k, bnd2_k, bnd3_k, bnd4_k, if_pos, if_neg, if_true, if_false, Nat.not_lt_zero, false_or, or_false]
    rw [pack_spec hC.1, bnd1_k, p2, bnd1_k, if_neg (ix_ok (by omega) (by omega)), nI_clamp (by omega), enar, p1]
    refine ⟨size, ksp ks j ps, vp_updL slots j (lN (pkN ps)), upd kp j 1, kf1, rfl, by rw [hC.1.2.2.1, hM.2.2.1], fun s hs => ?_, fun s hs => ?_, fun s l hs hl => ?_⟩
    · by_cases es : s = j
      · subst es; rw [pk_uLs, ksp_eq]; rfl
      · rw [pk_uLn es, ksp_ne es]; exact hsC s hs
    · by_cases es : s = j
      · subst es
        refine ⟨fun q => ?_, fun l q => ?_⟩
        · rw [ksp_eq] at q; cases q
        · rw [ksp_eq] at q; cases q
          exact ⟨pk_us, q1⟩
      · refine ⟨fun q => ?_, fun l q => ?_⟩
        · rw [ksp_ne es] at q; rw [pk_un es]; exact (hsM s hs).1 q
        · rw [ksp_ne es] at q
          have hh := (hsM s hs).2 l q
          refine ⟨by rw [pk_un es]; exact hh.1, LI_keep hh.2 (hsA s l hs q).1 (fun t h1 h2 => q2 t (by omega))⟩
    · by_cases es : s = j
      · subst es; rw [ksp_eq] at hl; cases hl; exact hok
      · rw [ksp_ne es] at hl; exact hsA s l hs hl
  · simp only [if_neg h0, if_neg (show ¬ (0 ≤ p.toInt ∧ p.toInt ≤ 1) by omega), if_true]
    exact ⟨_, ks, _, _, _, rfl, rfl, hsC, hsM, hsA⟩
theorem againM_spec {l : List Nat} {many a : Int32} {sl kp kf : Nat → Int32} {s : Nat} (hs : s < 2) (h : LI l kf (10 * s)) (hl : l.length ≤ 9) (hx : ∀ x ∈ l, x < 10) : ∃ sl', X11_again_b26 fU many a sl kp kf (nI s) 0 = some (nI l.length, nI l.length, 0, sl') ∧ PM l (nI l.length) sl' := by
  refine lupR (fun i g => ∀ p, p < i → g p = kf (10 * s + p)) (fun n i g => X11_again_b26 n many a g kp kf (nI s) (nI i)) 9 (fun r => ∃ sl', r = some (nI l.length, nI l.length, 0, sl') ∧ PM l (nI l.length) sl') ?_ ?_ fU 0 sl (by omega) (fU_gt (by omega)) (fun p hp => absurd hp (Nat.not_lt_zero p))
  · intro n i g hi hI
    left
    refine ⟨upd g i (kf (10 * s + i)), fun p hp => ?_, ?_⟩
    · by_cases e : p = i
      · subst e; rw [pk_us]
      · rw [pk_un e]; exact hI p (by omega)
    · show X11_again_b26_s (X11_again_b26 n) _ _ _ _ _ _ _ = _
      unfold X11_again_b26_s
      simp (disch := omega) only [zl_0, zl_1, zl_2, zl_3, zl_4, zl_5, zl_6, zl_7, zl_8, zl_9, zl_10, zl_11, zl_12, zl_15, zl_16, zl_20, zl_40, zl_48, zl_60, zl_78, zl_80, zl_84, zl_99, zl_100, zl_128, zl_160, zl_255, zl_999, zl_1000, zl_1023, nI_leI, nI_ltI, nI_eq, nI_clamp, nI_add, bnd1_k, bnd2_k, bnd3_k, bnd4_k, if_pos, if_neg, if_true, if_false, Nat.not_lt_zero, false_or, or_false, pk_mul]
  · intro n g hI
    have hP := LI_out h hl hx hI
    rw [h.1] at hP
    refine ⟨g, ?_, hP⟩
    show X11_again_b26_s (X11_again_b26 n) _ _ _ _ _ _ _ = _
    unfold X11_again_b26_s X11_again_b55
    have e9 := h.1
    simp (disch := omega) only [zl_0, zl_1, zl_2, zl_3, zl_4, zl_5, zl_6, zl_7, zl_8, zl_9, zl_10, zl_11, zl_12, zl_15, zl_16, zl_20, zl_40, zl_48, zl_60, zl_78, zl_80, zl_84, zl_99, zl_100, zl_128, zl_160, zl_255, zl_999, zl_1000, zl_1023, nI_leI, nI_ltI, nI_eq, nI_clamp, nI_add, bnd1_k, bnd2_k, bnd3_k, bnd4_k, if_pos, if_neg, if_true, if_false, Nat.not_lt_zero, false_or, or_false, pk_mul, e9]
theorem J_again {ps : List Nat} {as : List (List Nat)} {ks : Nat → Option (List Nat)} {size many aC aM next : Int32} {nm ct sl bf kp kf : Nat → Int32} {row slots : Nat → Int64} {b : Nat} (hC : PC ps size nm ct) (hM : PM ps many sl) (hok : OK b ps) (hmC : MC as aC row) (hmM : MM as aM next bf) (hA : AS b as) (hsC : SC ks slots) (hsM : SM ks kp kf) (hsA : SA b ks) (p : Int32) : ∃ r ps' as' size' nm' ct' aC' many' aM' sl', X10_again size nm ct aC slots p = some (r, size', nm', ct', aC') ∧ X11_again many aM sl kp kf p = some (r, many', aM', sl') ∧ PC ps' size' nm' ct' ∧ PM ps' many' sl' ∧ OK b ps' ∧ MC as' aC' row ∧ MM as' aM' next bf ∧ AS b as' := by
  have c10 : ¬ (1 : Int32) = 0 := by decide
  unfold X10_again X11_again X5_size X2_slot X2_dropActs
  rw [slot_spec, in_spec]
  have e0 : (0 : Int64).toInt = 0 := rfl
  have e9 : (1 : Int64).toInt = 1 := rfl
  rw [e0, e9]
  by_cases h0 : 0 ≤ p.toInt ∧ p.toInt < 2
  · obtain ⟨j, hj, -, rfl⟩ := person_nat (n := 2) h0
    simp only [if_pos h0, if_pos (show 0 ≤ (nI j).toInt ∧ (nI j).toInt ≤ 1 by omega), if_neg c10]
    have hix : ¬ (nI j < 0 ∨ 2 ≤ j) := fun q => q.elim (nI_pos (by omega)) (by omega)
    simp only [nI_clamp (show j < 2 ^ 31 by omega), if_neg hix, bnd1_k]
    rw [hsC j hj]
    cases hk : ks j with
    | none =>
      have hkp := (hsM j hj).1 hk
      rw [hkp]
      simp only [lg_cmp_eq, if_pos (show enc none = -1 from rfl), if_true]
      exact ⟨_, ps, as, _, _, _, _, _, _, _, rfl, rfl, hC, hM, hok, hmC, hmM, hA⟩
    | some l =>
      have hkp := (hsM j hj).2 l hk
      have hol := hsA j l hj hk
      have hxl : ∀ x ∈ l, x < 10 := fun x hx => (hol.2 x hx).1
      obtain ⟨sl1, p1, q1⟩ := againM_spec (many := many) (a := aM) (sl := sl) (kp := kp) hj hkp.2 hol.1 hxl
      obtain ⟨nm1, ct1, p2, q2⟩ := unpack_spec hol.1 hxl size nm ct
      have ee : enc (some l) = lN (pkN l) := rfl
      rw [ee, hkp.1, p2]
      simp only [lg_cmp_eq, if_neg (pk_ne hol.1 hxl), if_neg c10, bnd3_k]
      rw [p1]
      exact ⟨_, l, [], _, _, _, _, _, _, _, rfl, rfl, q2, q1, hol, ⟨by simp, rfl, fun i hi => by simp at hi⟩, ⟨by simp, rfl, by obtain ⟨-, -, nx, hnx, en, -⟩ := hmM; exact ⟨nx, hnx, en, fun i hi => by simp at hi⟩⟩, fun l hl => by simp at hl⟩
  · simp only [if_neg h0, if_neg (show ¬ (0 ≤ p.toInt ∧ p.toInt ≤ 1) by omega), if_true]
    exact ⟨_, ps, as, _, _, _, _, _, _, _, rfl, rfl, hC, hM, hok, hmC, hmM, hA⟩
