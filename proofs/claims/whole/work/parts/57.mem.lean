/-! acts and slots, both sides -/
def OK (b : Nat) (l : List Nat) : Prop := l.length ≤ 9 ∧ ∀ x ∈ l, x < 10 ∧ bb b x = 0
def MC (as : List (List Nat)) (a : Int32) (row : Nat → Int64) : Prop := as.length ≤ 16 ∧ a = nI as.length ∧ ∀ i, i < as.length → row i = lN (pkN (as.getD i []))
def LI (l : List Nat) (f : Nat → Int32) (o : Nat) : Prop := f (o + 9) = nI l.length ∧ ∀ p, p < l.length → f (o + p) = nI (l.getD p 0)
def MM (as : List (List Nat)) (a next : Int32) (bf : Nat → Int32) : Prop := as.length ≤ 16 ∧ a = nI as.length ∧ ∃ nx, nx < 16 ∧ next = nI nx ∧ ∀ i, i < as.length → LI (as.getD i []) bf (10 * ((nx + 16 - as.length + i) % 16))
def psh (as : List (List Nat)) (l : List Nat) : List (List Nat) := if as.length < 16 then as ++ [l] else as.drop 1 ++ [l]
theorem psh_mem {as : List (List Nat)} {l x : List Nat} (h : x ∈ psh as l) : x ∈ as ∨ x = l := by
  unfold psh at h
  split at h
  · rcases List.mem_append.mp h with q | q
    · exact Or.inl q
    · exact Or.inr (List.mem_singleton.mp q)
  · rcases List.mem_append.mp h with q | q
    · exact Or.inl (List.mem_of_mem_drop q)
    · exact Or.inr (List.mem_singleton.mp q)
theorem ga_lt {as : List (List Nat)} {l : List Nat} {j : Nat} (h : j < as.length) : (as ++ [l]).getD j [] = as.getD j [] := by
  rw [List.getD_eq_getElem?_getD, List.getD_eq_getElem?_getD, List.getElem?_append_left h]
theorem ga_eq {as : List (List Nat)} {l : List Nat} {j : Nat} (h : j = as.length) : (as ++ [l]).getD j [] = l := by
  subst h
  rw [List.getD_eq_getElem?_getD, List.getElem?_append_right (Nat.le_refl _)]
  simp
theorem ga_drop {as : List (List Nat)} {j : Nat} : (as.drop 1).getD j [] = as.getD (j + 1) [] := by
  rw [List.getD_eq_getElem?_getD, List.getD_eq_getElem?_getD, List.getElem?_drop, Nat.add_comm]
theorem ga_take {as : List (List Nat)} {j n : Nat} (h : j < n) : (as.take n).getD j [] = as.getD j [] := by
  rw [List.getD_eq_getElem?_getD, List.getD_eq_getElem?_getD, List.getElem?_take_of_lt h]
theorem addAct_spec {as : List (List Nat)} {a : Int32} {row : Nat → Int64} (h : MC as a row) (l : List Nat) : ∃ a' row', X2_addAct a row (lN (pkN l)) = some (a', row') ∧ MC (psh as l) a' row' := by
  obtain ⟨h16, rfl, hr⟩ := h
  unfold X2_addAct X2_addAct_b30
  by_cases hlt : as.length < 16
  · refine ⟨nI (as.length + 1), vp_updL row as.length (lN (pkN l)), ?_, ?_⟩
    · simp (disch := omega) only [zl_0, zl_1, zl_2, zl_3, zl_4, zl_5, zl_6, zl_7, zl_8, zl_9, zl_10, zl_11, zl_12, zl_15, zl_16, zl_20, zl_40, zl_48, zl_60, zl_78, zl_80, zl_84, zl_99, zl_100, zl_128, zl_160, zl_255, zl_999, zl_1000, zl_1023, nI_leI, nI_ltI, nI_eq, nI_clamp, nI_add, bnd1_k, bnd2_k, bnd3_k, bnd4_k, if_pos, if_neg, if_true, if_false, Nat.not_lt_zero, false_or, or_false]
    · unfold psh
      rw [if_pos hlt]
      refine ⟨by simp; omega, by simp, fun i hi => ?_⟩
      by_cases e : i = as.length
      · subst e; rw [pk_uLs, ga_eq rfl]
      · simp at hi
        rw [pk_uLn e, ga_lt (by omega)]
        exact hr i (by omega)
  · have e16 : as.length = 16 := by omega
    refine ⟨nI 16, vp_updL (va_cpy row row 1 0 15) 15 (lN (pkN l)), ?_, ?_⟩
    · rw [e16]
      simp (disch := omega) only [zl_0, zl_1, zl_2, zl_3, zl_4, zl_5, zl_6, zl_7, zl_8, zl_9, zl_10, zl_11, zl_12, zl_15, zl_16, zl_20, zl_40, zl_48, zl_60, zl_78, zl_80, zl_84, zl_99, zl_100, zl_128, zl_160, zl_255, zl_999, zl_1000, zl_1023, nI_leI, nI_ltI, nI_eq, nI_clamp, nI_add, bnd1_k, bnd2_k, bnd3_k, bnd4_k, if_pos, if_neg, if_true, if_false, Nat.not_lt_zero, false_or, or_false]
    · unfold psh
      rw [if_neg hlt]
      refine ⟨by simp; omega, by simp; rw [e16], fun i hi => ?_⟩
      have hd : (as.drop 1).length = 15 := by rw [List.length_drop]; omega
      by_cases e : i = 15
      · subst e; rw [pk_uLs, ga_eq hd.symm]
      · simp at hi
        rw [pk_uLn e, ga_lt (by omega), ga_drop, pk_cpy_in (by omega) (by omega)]
        have : 1 + (i - 0) = i + 1 := by omega
        rw [this]
        exact hr (i + 1) (by omega)
theorem LI_keep {l : List Nat} {f g : Nat → Int32} {o : Nat} (h : LI l f o) (hl : l.length ≤ 9) (hk : ∀ q, o ≤ q → q < o + 10 → g q = f q) : LI l g o := ⟨by rw [hk _ (by omega) (by omega)]; exact h.1, fun p hp => by rw [hk _ (by omega) (by omega)]; exact h.2 p hp⟩
theorem keepAct_spec {as : List (List Nat)} {ps : List Nat} {a next many : Int32} {sl bf : Nat → Int32} (hP : PM ps many sl) (h : MM as a next bf) (hv : ∀ l ∈ as, l.length ≤ 9) : ∃ a' n' bf', X11_keepAct many a next sl bf = some (a', n', bf') ∧ MM (psh as ps) a' n' bf' := by
  obtain ⟨h16, rfl, nx, hnx, rfl, hr⟩ := h
  obtain ⟨hn, hx, e, hs⟩ := hP
  unfold X11_keepAct
  refine lupR (fun i g => (∀ p, p < i → g (10 * nx + p) = sl p) ∧ ∀ q, (q < 10 * nx ∨ 10 * nx + 10 ≤ q) → g q = bf q) (fun n i g => X11_keepAct_b2 n many (nI as.length) (nI nx) sl g (nI i)) 9 (fun r => ∃ a' n' bf', r = some (a', n', bf') ∧ MM (psh as ps) a' n' bf') ?_ ?_ fU 0 bf (by omega) (fU_gt (by omega)) ⟨fun p hp => absurd hp (Nat.not_lt_zero p), fun q _ => rfl⟩
  · intro n i g hi hI
    left
    refine ⟨upd g (10 * nx + i) (sl i), ⟨fun p hp => ?_, fun q hq => ?_⟩, ?_⟩
    · by_cases ep : p = i
      · subst ep; rw [pk_us]
      · rw [pk_un (by omega)]; exact hI.1 p (by omega)
    · rw [pk_un (by omega)]; exact hI.2 q hq
    · show X11_keepAct_b2_s (X11_keepAct_b2 n) _ _ _ _ _ _ = _
      unfold X11_keepAct_b2_s
      simp (disch := omega) only [zl_0, zl_1, zl_2, zl_3, zl_4, zl_5, zl_6, zl_7, zl_8, zl_9, zl_10, zl_11, zl_12, zl_15, zl_16, zl_20, zl_40, zl_48, zl_60, zl_78, zl_80, zl_84, zl_99, zl_100, zl_128, zl_160, zl_255, zl_999, zl_1000, zl_1023, nI_leI, nI_ltI, nI_eq, nI_clamp, nI_add, bnd1_k, bnd2_k, bnd3_k, bnd4_k, if_pos, if_neg, if_true, if_false, Nat.not_lt_zero, false_or, or_false, pk_mul]
  · intro n g hI
    have hw : ∀ q, (q < 10 * nx ∨ 10 * nx + 10 ≤ q) → upd g (10 * nx + 9) many q = bf q := fun q hq => by rw [pk_un (by omega)]; exact hI.2 q hq
    have hnew : LI ps (upd g (10 * nx + 9) many) (10 * nx) := ⟨by rw [pk_us]; exact e, fun p hp => by rw [pk_un (by omega), hI.1 p (by omega)]; exact hs p hp⟩
    have hold : ∀ i, i < as.length → (nx + 16 - as.length + i) % 16 ≠ nx → LI (as.getD i []) (upd g (10 * nx + 9) many) (10 * ((nx + 16 - as.length + i) % 16)) := by
      intro i hi hne
      refine LI_keep (hr i hi) (hv _ ?_) (fun q h1 h2 => hw q (by omega))
      rw [List.getD_eq_getElem?_getD, List.getElem?_eq_getElem hi]
      exact List.getElem_mem hi
    by_cases hlt : as.length < 16
    · refine ⟨nI (as.length + 1), nI ((nx + 1) % 16), upd g (10 * nx + 9) many, ?_, ?_⟩
      · show X11_keepAct_b2_s (X11_keepAct_b2 n) _ _ _ _ _ _ = _
        unfold X11_keepAct_b2_s X11_keepAct_b34 X11_keepAct_b87
        have er : nI (nx + 1) - nI (nx + 1) / nI 16 * nI 16 = nI ((nx + 1) % 16) := pk_rem (by omega) (by omega) (by omega)
        simp (disch := omega) only [zl_0, zl_1, zl_2, zl_3, zl_4, zl_5, zl_6, zl_7, zl_8, zl_9, zl_10, zl_11, zl_12, zl_15, zl_16, zl_20, zl_40, zl_48, zl_60, zl_78, zl_80, zl_84, zl_99, zl_100, zl_128, zl_160, zl_255, zl_999, zl_1000, zl_1023, nI_leI, nI_ltI, nI_eq, nI_clamp, nI_add, bnd1_k, bnd2_k, bnd3_k, bnd4_k, if_pos, if_neg, if_true, if_false, Nat.not_lt_zero, false_or, or_false, pk_mul, er]
      · unfold psh
        rw [if_pos hlt]
        refine ⟨by simp; omega, by simp, (nx + 1) % 16, by omega, rfl, fun i hi => ?_⟩
        simp at hi
        rw [List.length_append, List.length_singleton]
        by_cases ei : i = as.length
        · have es : ((nx + 1) % 16 + 16 - (as.length + 1) + i) % 16 = nx := by omega
          rw [es, ga_eq ei]
          exact hnew
        · have es : ((nx + 1) % 16 + 16 - (as.length + 1) + i) % 16 = (nx + 16 - as.length + i) % 16 := by omega
          rw [es, ga_lt (by omega)]
          exact hold i (by omega) (by omega)
    · have e16 : as.length = 16 := by omega
      refine ⟨nI 16, nI ((nx + 1) % 16), upd g (10 * nx + 9) many, ?_, ?_⟩
      · show X11_keepAct_b2_s (X11_keepAct_b2 n) _ _ _ _ _ _ = _
        unfold X11_keepAct_b2_s X11_keepAct_b34 X11_keepAct_b87
        have er : nI (nx + 1) - nI (nx + 1) / nI 16 * nI 16 = nI ((nx + 1) % 16) := pk_rem (by omega) (by omega) (by omega)
        simp (disch := omega) only [zl_0, zl_1, zl_2, zl_3, zl_4, zl_5, zl_6, zl_7, zl_8, zl_9, zl_10, zl_11, zl_12, zl_15, zl_16, zl_20, zl_40, zl_48, zl_60, zl_78, zl_80, zl_84, zl_99, zl_100, zl_128, zl_160, zl_255, zl_999, zl_1000, zl_1023, nI_leI, nI_ltI, nI_eq, nI_clamp, nI_add, bnd1_k, bnd2_k, bnd3_k, bnd4_k, if_pos, if_neg, if_true, if_false, Nat.not_lt_zero, false_or, or_false, pk_mul, er]
      · unfold psh
        rw [if_neg hlt]
        have hd : (as.drop 1).length = 15 := by rw [List.length_drop]; omega
        refine ⟨by rw [List.length_append, hd, List.length_singleton]; omega, by rw [List.length_append, hd]; rfl, (nx + 1) % 16, by omega, rfl, fun i hi => ?_⟩
        rw [List.length_append, hd, List.length_singleton] at hi ⊢
        by_cases ei : i = 15
        · have es : ((nx + 1) % 16 + 16 - (15 + 1) + i) % 16 = nx := by omega
          rw [es, ga_eq (by omega)]
          exact hnew
        · have es : ((nx + 1) % 16 + 16 - (15 + 1) + i) % 16 = (nx + 16 - as.length + (i + 1)) % 16 := by omega
          rw [es, ga_lt (by omega), ga_drop]
          exact hold (i + 1) (by omega) (by omega)
/-- what stands of the acts -/
def AS (b : Nat) (as : List (List Nat)) : Prop := ∀ l ∈ as, OK b l
theorem AS_psh {b : Nat} {as : List (List Nat)} {l : List Nat} (h : AS b as) (hl : OK b l) : AS b (psh as l) := fun x hx => by
  rcases psh_mem hx with q | q
  · exact h x q
  · rw [q]; exact hl
theorem refusal_spec {b : Nat} (hb : b < 1024) (d : Int32) : X10_refusalOfNumber (nI b) d = if 0 ≤ d.toInt ∧ d.toInt < 10 then (if X8_isOpen (nI b) d = 0 then -3 else 0) else -2 := by
  unfold X10_refusalOfNumber
  rw [num_spec]
  by_cases h : 0 ≤ d.toInt ∧ d.toInt < 10
  · simp only [if_pos h]; rw [if_neg (show ¬ (1 : Int32) = 0 by decide)]
  · simp only [if_neg h, if_true]
theorem rewrite_spec {ps : List Nat} {size : Int32} {nm ct : Nat → Int32} {p d : Nat} (h : PC ps size nm ct) (hp : p < ps.length) (hd : d < 10) : ∃ nm' ct', X5_rewrite size nm ct (nI p) (nI d) = some (nm', ct') ∧ PC (ps.set p d) size nm' ct' := by
  obtain ⟨⟨hn, hx, e, hr⟩, hct⟩ := id h
  have hown := hx _ (gd_mem hp)
  have hcpos : 0 < ps.count (ps.getD p 0) := List.count_pos_iff.mpr (gd_mem hp)
  have hc9 := cnt_le hn
  refine ⟨upd nm p (nI d), upd (upd ct (ps.getD p 0) (nI (ps.count (ps.getD p 0) - 1))) d (upd ct (ps.getD p 0) (nI (ps.count (ps.getD p 0) - 1)) d + nI 1), ?_, PM_set hn hx e hp hd (fun j hj _ => hr j hj), fun x hxd => ?_⟩
  · unfold X5_rewrite
    rw [e, has_spec hn, nI_toInt (by omega), if_pos (show (0 : Int) ≤ p ∧ (p : Int) < ps.length by omega), num_spec, nI_toInt (by omega), if_pos (show (0 : Int) ≤ d ∧ (d : Int) < 10 by omega)]
    have e1 : nI (ps.count (ps.getD p 0)) - nI 1 = nI (ps.count (ps.getD p 0) - 1) := pk_sub (by omega)
    simp (disch := omega) only [zl_0, zl_1, zl_2, zl_3, zl_4, zl_5, zl_6, zl_7, zl_8, zl_9, zl_10, zl_11, zl_12, zl_15, zl_16, zl_20, zl_40, zl_48, zl_60, zl_78, zl_80, zl_84, zl_99, zl_100, zl_128, zl_160, zl_255, zl_999, zl_1000, zl_1023, nI_leI, nI_ltI, nI_eq, nI_clamp, nI_add, bnd1_k, bnd2_k, bnd3_k, bnd4_k, if_pos, if_neg, if_true, if_false, Nat.not_lt_zero, false_or, or_false, hr, hct, e1]
  · rw [cnt_set hp]
    unfold cs co
    have hc1 := hc9 x
    by_cases h1 : x = d
    · subst h1
      rw [pk_us, if_pos rfl]
      by_cases h2 : x = ps.getD p 0
      · rw [if_pos h2, ← h2, pk_us, nI_add]
      · rw [if_neg h2, pk_un h2, hct x hxd, nI_add]
    · rw [pk_un h1, if_neg h1]
      by_cases h2 : x = ps.getD p 0
      · rw [if_pos h2, ← h2, pk_us]
      · rw [if_neg h2, pk_un h2, hct x hxd]
theorem OK_set {b : Nat} {ps : List Nat} {p d : Nat} (h : OK b ps) (hd : d < 10) (ho : bb b d = 0) : OK b (ps.set p d) := ⟨by rw [List.length_set]; exact h.1, fun x hx => by
  rcases List.mem_or_eq_of_mem_set hx with q | q
  · exact h.2 x q
  · rw [q]; exact ⟨hd, ho⟩⟩
theorem J_slip {ps : List Nat} {as : List (List Nat)} {size many aC aM next : Int32} {nm ct sl bf : Nat → Int32} {row : Nat → Int64} {b : Nat} (hb : b < 1024) (hC : PC ps size nm ct) (hM : PM ps many sl) (hok : OK b ps) (hmC : MC as aC row) (hmM : MM as aM next bf) (hA : AS b as) (p d : Int32) : ∃ r ps' as' nm' ct' aC' row' aM' next' sl' bf', X10_slip (nI b) size nm ct aC row p d = some (r, nm', ct', aC', row') ∧ X11_slip many (nI b) aM next sl bf p d = some (r, aM', next', sl', bf') ∧ PC ps' size nm' ct' ∧ PM ps' many sl' ∧ OK b ps' ∧ MC as' aC' row' ∧ MM as' aM' next' bf' ∧ AS b as' := by
  have hn := hM.1
  have c10 : ¬ (1 : Int32) = 0 := by decide
  unfold X10_slip X11_slip
  rw [hC.1.2.2.1, has_spec hn, ← hC.1.2.2.1, hM.2.2.1, isPerson_spec hn, ← hM.2.2.1, refusal_spec hb, in_spec]
  have e0 : (0 : Int64).toInt = 0 := rfl
  have e9 : (9 : Int64).toInt = 9 := rfl
  rw [e0, e9]
  by_cases h0 : 0 ≤ p.toInt ∧ p.toInt < ps.length
  · obtain ⟨j, hj, -, rfl⟩ := person_nat h0
    simp only [if_pos h0, if_neg c10]
    by_cases h1 : 0 ≤ d.toInt ∧ d.toInt < 10
    · obtain ⟨k, hk, -, rfl⟩ := person_nat (n := 10) h1
      simp only [if_pos h1, if_pos (show 0 ≤ (nI k).toInt ∧ (nI k).toInt ≤ 9 by omega), if_neg c10]
      rw [open_spec hb hk, bar_spec hb hk]
      by_cases h2 : bb b k = 0
      · simp only [if_pos h2, if_neg c10, if_true]
        obtain ⟨a1, row1, p1, q1⟩ := addAct_spec hmC ps
        obtain ⟨nm1, ct1, p2, q2⟩ := rewrite_spec hC hj hk
        obtain ⟨a2, n2, bf2, p3, q3⟩ := keepAct_spec hM hmM (fun l hl => (hA l hl).1)
        rw [numberOf_spec hC.1 hj, bnd1_k, pack_spec hC.1, bnd1_k, p1, bnd2_k, p2, bnd2_k, p3, bnd3_k]
        refine ⟨nI (ps.getD j 0), ps.set j k, psh as ps, nm1, ct1, a1, row1, a2, n2, upd sl j (nI k), bf2, rfl, ?_, q2, PM_set hn hM.2.1 hM.2.2.1 hj hk (fun i hi _ => hM.2.2.2 i hi), OK_set hok hk h2, q1, q3, AS_psh hA hok⟩
        simp (disch := omega) only [zl_0, zl_1, zl_2, zl_3, zl_4, zl_5, zl_6, zl_7, zl_8, zl_9, zl_10, zl_11, zl_12, zl_15, zl_16, zl_20, zl_40, zl_48, zl_60, zl_78, zl_80, zl_84, zl_99, zl_100, zl_128, zl_160, zl_255, zl_999, zl_1000, zl_1023, nI_leI, nI_ltI, nI_eq, nI_clamp, nI_add, bnd1_k, bnd2_k, bnd3_k, bnd4_k, if_pos, if_neg, if_true, if_false, Nat.not_lt_zero, false_or, or_false, hM.2.2.2]
      · simp only [if_neg h2, if_true, if_neg c10, if_neg (show ¬ (-3 : Int32) = 0 by decide)]
        exact ⟨_, ps, as, _, _, _, _, _, _, _, _, rfl, rfl, hC, hM, hok, hmC, hmM, hA⟩
    · simp only [if_neg h1, if_neg (show ¬ (0 ≤ d.toInt ∧ d.toInt ≤ 9) by omega), if_true, if_neg (show ¬ (-2 : Int32) = 0 by decide)]
      exact ⟨_, ps, as, _, _, _, _, _, _, _, _, rfl, rfl, hC, hM, hok, hmC, hmM, hA⟩
  · simp only [if_neg h0, if_true]
    exact ⟨_, ps, as, _, _, _, _, _, _, _, _, rfl, rfl, hC, hM, hok, hmC, hmM, hA⟩
