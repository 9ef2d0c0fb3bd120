/-! what one would rather write -/
theorem sr_mem {n x : Nat} {f : Nat → Nat} (hx : x < n) : f x ≤ sr n f := by
  induction n with
  | zero => omega
  | succ n ih =>
    rw [sr_s]
    by_cases e : x = n
    · subst e; omega
    · have := ih (by omega); omega
theorem sr_bd {n k : Nat} {f : Nat → Nat} (h : ∀ i, i < n → f i ≤ k) : sr n f ≤ n * k := by
  induction n with
  | zero => simp [sr]
  | succ n ih =>
    rw [sr_s, Nat.add_mul]
    have := ih (fun i hi => h i (by omega))
    have := h n (by omega)
    omega
theorem dn_le {law share : Nat} {c : Nat → Nat} (h : ∀ d, d < 10 → c d ≤ 10) : dn law share c ≤ 900 := by
  have := sr_bd (n := 10) (k := 90) (f := fun d => cl law share d (c d)) (fun i hi => by
    have h1 := cl_le (law := law) (share := share) (n := c i) hi
    have h2 := h i hi
    show cl law share i (c i) ≤ 90
    omega)
  exact this
theorem gn_le {law share pot d n den : Nat} (hp : pot ≤ 999) (hd : d < 10) : gn law share pot d n den ≤ 8991 := by
  unfold gn
  split
  · have h1 : pot * wt share d ≤ 999 * 9 := Nat.mul_le_mul hp (wt_le hd)
    have h2 : pot * wt share d / den ≤ pot * wt share d := Nat.div_le_self _ _
    omega
  · omega
/-- the others' counts; the counts if one of 'own' writes d instead -/
def co (c : Nat → Nat) (own : Nat) : Nat → Nat := fun x => if x = own then c x - 1 else c x
def cs (c : Nat → Nat) (own d : Nat) : Nat → Nat := fun x => if x = d then co c own x + 1 else co c own x
theorem cs_self {c : Nat → Nat} {own : Nat} (h : 0 < c own) : cs c own own = c := by
  funext x
  unfold cs co
  by_cases e : x = own
  · subst e; rw [if_pos rfl, if_pos rfl]; omega
  · rw [if_neg e, if_neg e]
theorem dn_co {law share own : Nat} {c : Nat → Nat} (ho : own < 10) : dn law share (co c own) + cl law share own (c own) = dn law share c + cl law share own (co c own own) := by
  exact sr_upd (f := fun d => cl law share d (c d)) (g := fun d => cl law share d (co c own d)) ho (fun i _ hne => by
    show cl law share i (co c own i) = cl law share i (c i)
    unfold co; rw [if_neg hne])
theorem dn_cs {law share own d : Nat} {c : Nat → Nat} (hd : d < 10) : dn law share (cs c own d) + cl law share d (co c own d) = dn law share (co c own) + cl law share d (co c own d + 1) := by
  have h := sr_upd (f := fun x => cl law share x (co c own x)) (g := fun x => cl law share x (cs c own d x)) hd (fun i _ hne => by
    show cl law share i (cs c own d i) = cl law share i (co c own i)
    unfold cs; rw [if_neg hne])
  have e : cs c own d d = co c own d + 1 := by unfold cs; rw [if_pos rfl]
  simp only [e] at h
  exact h
/-- what one of 'own' would get by d -/
def gv (law share pot : Nat) (c : Nat → Nat) (own d : Nat) : Nat := gn law share pot d (cs c own d d) (dn law share (cs c own d))
theorem others_spec {c : Nat → Nat} {f : Nat → Int32} {own d : Nat} (hc : ∀ d, d < 10 → c d ≤ 9 ∧ f d = nI (c d)) (ho : own < 10) (hp : 0 < c own) (hd : d < 10) : X8_others f (nI own) (nI d) = some (nI (co c own d)) := by
  unfold X8_others co
  have h9 := (hc d hd).1
  have e9 := (hc d hd).2
  by_cases h : d = own
  · subst h
    have e : nI (c d) - nI 1 = nI (c d - 1) := pk_sub (by omega)
    simp (disch := omega) only [zl_0, zl_1, zl_2, zl_3, zl_4, zl_5, zl_6, zl_7, zl_8, zl_9, zl_10, zl_11, zl_12, zl_15, zl_16, zl_20, zl_40, zl_48, zl_60, zl_78, zl_80, zl_84, zl_99, zl_100, zl_128, zl_160, zl_255, zl_999, zl_1000, zl_1023, nI_leI, nI_ltI, nI_eq, nI_clamp, nI_add, bnd1_k, bnd2_k, bnd3_k, bnd4_k, if_pos, if_neg, if_true, if_false, Nat.not_lt_zero, false_or, or_false, e9, e]
  · simp (disch := omega) only [zl_0, zl_1, zl_2, zl_3, zl_4, zl_5, zl_6, zl_7, zl_8, zl_9, zl_10, zl_11, zl_12, zl_15, zl_16, zl_20, zl_40, zl_48, zl_60, zl_78, zl_80, zl_84, zl_99, zl_100, zl_128, zl_160, zl_255, zl_999, zl_1000, zl_1023, nI_leI, nI_ltI, nI_eq, nI_clamp, nI_add, bnd1_k, bnd2_k, bnd3_k, bnd4_k, if_pos, if_neg, if_true, if_false, Nat.not_lt_zero, false_or, or_false, e9]
theorem co_le {c : Nat → Nat} {own d : Nat} (h : c d ≤ 9) : co c own d ≤ 9 := by unfold co; split <;> omega
theorem cs_le {c : Nat → Nat} {own d x : Nat} (h : c x ≤ 9) : cs c own d x ≤ 10 := by
  have := co_le (own := own) h
  unfold cs; split <;> omega
theorem gainBy_spec {law share pot own d : Nat} {c : Nat → Nat} (hl : law ≤ 2) (hs : share ≤ 1) (hpot : pot ≤ 999) (hc : ∀ d, d < 10 → c d ≤ 9) (hd : d < 10) : X8_gainBy (nI law) (nI share) (nI pot) (nI d) (nI (co c own d)) (nI (dn law share (co c own))) = some (nI (gv law share pot c own d)) := by
  unfold X8_gainBy
  have h1 := co_le (own := own) (hc d hd)
  have e := dn_cs (law := law) (share := share) (own := own) (c := c) hd
  have m1 : cl law share d (co c own d) ≤ dn law share (co c own) := sr_mem (f := fun d => cl law share d (co c own d)) hd
  have b1 := dn_le (law := law) (share := share) (c := co c own) (fun x hx => Nat.le_trans (co_le (own := own) (hc x hx)) (by omega))
  have b2 := dn_le (law := law) (share := share) (c := cs c own d) (fun x hx => cs_le (hc x hx))
  have ed : cs c own d d = co c own d + 1 := by unfold cs; rw [if_pos rfl]
  simp only [zl_1, nI_add]
  rw [suits_spec hl (by omega) (by omega), claim_spec hl hs hd (by omega), claim_spec hl hs hd (by omega), pk_sub m1, nI_add]
  have e2 : dn law share (co c own) - cl law share d (co c own d) + cl law share d (co c own d + 1) = dn law share (cs c own d) := by omega
  rw [e2, gain_spec hl hs hpot hd (by omega) (by omega), bnd1_k]
  unfold gv
  rw [ed]
  by_cases h : su law d (co c own d + 1) = true
  · simp only [if_pos h]; rfl
  · simp only [if_neg h]
    unfold gn
    rw [if_neg h]; rfl
def wst (b : Nat) (g : Nat → Nat) (own most : Nat) : Nat → Nat × Nat
  | 0 => (own, most)
  | i + 1 => if bb b i = 0 ∧ (wst b g own most i).2 < g i then (i, g i) else wst b g own most i
theorem wst_in (b : Nat) {g : Nat → Nat} {own most K : Nat} (ho : own < 10) (hm : most ≤ K) (hg : ∀ d, d < 10 → g d ≤ K) : ∀ i, i ≤ 10 → (wst b g own most i).1 < 10 ∧ (wst b g own most i).2 ≤ K := by
  intro i
  induction i with
  | zero => intro _; exact ⟨ho, hm⟩
  | succ i ih =>
    intro hi
    have := ih (by omega)
    unfold wst
    split
    · exact ⟨by show i < 10; omega, hg i (by omega)⟩
    · exact this
def wn (law share pot b : Nat) (c : Nat → Nat) (own : Nat) : Nat := (wst b (gv law share pot c own) own (gv law share pot c own own) 10).1
theorem wanted_spec {law share pot b own : Nat} {c : Nat → Nat} {f : Nat → Int32} (hl : law ≤ 2) (hs : share ≤ 1) (hpot : pot ≤ 999) (hb : b < 1024) (hc : ∀ d, d < 10 → c d ≤ 9 ∧ f d = nI (c d)) (ho : own < 10) (hp : 0 < c own) : X8_wanted (nI law) (nI share) (nI pot) (nI b) f (nI own) = some (nI (wn law share pot b c own)) := by
  have hc9 : ∀ d, d < 10 → c d ≤ 9 := fun d hd => (hc d hd).1
  unfold X8_wanted
  rw [others_spec hc ho hp ho, bnd1_k, claims_spec hl hs (c := c) (fun d hd => ⟨by have := hc9 d hd; omega, (hc d hd).2⟩), bnd1_k]
  have h9 := hc9 own ho
  have ec : co c own own + 1 = c own := by unfold co; rw [if_pos rfl]; omega
  have e := dn_co (law := law) (share := share) (c := c) ho
  have m1 : cl law share own (c own) ≤ dn law share c := sr_mem (f := fun d => cl law share d (c d)) ho
  have b1 := dn_le (law := law) (share := share) (c := co c own) (fun x hx => Nat.le_trans (co_le (own := own) (hc9 x hx)) (by omega))
  have e3 : nI (dn law share c) - X8_claim (nI law) (nI share) (nI own) (nI (co c own own) + 1) + X8_claim (nI law) (nI share) (nI own) (nI (co c own own)) = nI (dn law share (co c own)) := by
    simp only [zl_1, nI_add]
    rw [ec, claim_spec hl hs ho (by omega), claim_spec hl hs ho (by omega), pk_sub m1, nI_add]
    congr 1
    omega
  rw [e3, gainBy_spec hl hs hpot hc9 ho, bnd1_k]
  have hg : ∀ d, d < 10 → gv law share pot c own d ≤ 8991 := fun d hd => gn_le hpot hd
  unfold wn
  refine lup (fun n i => X8_wanted_b47 n (nI law) (nI share) (nI pot) (nI b) f (nI own) (nI (dn law share (co c own))) (nI (wst b (gv law share pot c own) own (gv law share pot c own own) i).1) (nI (wst b (gv law share pot c own) own (gv law share pot c own own) i).2) (nI i)) 10 _ ?_ ?_ fU 0 (by omega) (fU_gt (by omega))
  · intro n i hi
    show X8_wanted_b47_s (X8_wanted_b47 n) _ _ _ _ _ _ _ _ _ _ = _
    unfold X8_wanted_b47_s X8_wanted_b96
    have hw := wst_in b ho (hg own ho) hg i (by omega)
    have hgi := hg i hi
    rw [open_spec hb hi, others_spec hc ho hp hi, bnd1_k, gainBy_spec hl hs hpot hc9 hi, bnd1_k]
    by_cases h0 : bb b i = 0
    · by_cases h1 : (wst b (gv law share pot c own) own (gv law share pot c own own) i).2 < gv law share pot c own i
      · have es : wst b (gv law share pot c own) own (gv law share pot c own own) (i + 1) = (i, gv law share pot c own i) := by
          show (if _ then _ else _) = _
          rw [if_pos ⟨h0, h1⟩]
        rw [es]
        simp (disch := omega) only [zl_0, zl_1, zl_2, zl_3, zl_4, zl_5, zl_6, zl_7, zl_8, zl_9, zl_10, zl_11, zl_12, zl_15, zl_16, zl_20, zl_40, zl_48, zl_60, zl_78, zl_80, zl_84, zl_99, zl_100, zl_128, zl_160, zl_255, zl_999, zl_1000, zl_1023, nI_leI, nI_ltI, nI_eq, nI_clamp, nI_add, bnd1_k, bnd2_k, bnd3_k, bnd4_k, if_pos, if_neg, if_true, if_false, Nat.not_lt_zero, false_or, or_false, h0]
      · have es : wst b (gv law share pot c own) own (gv law share pot c own own) (i + 1) = wst b (gv law share pot c own) own (gv law share pot c own own) i := by
          show (if _ then _ else _) = _
          rw [if_neg (fun q => h1 q.2)]
        rw [es]
        simp (disch := omega) only [zl_0, zl_1, zl_2, zl_3, zl_4, zl_5, zl_6, zl_7, zl_8, zl_9, zl_10, zl_11, zl_12, zl_15, zl_16, zl_20, zl_40, zl_48, zl_60, zl_78, zl_80, zl_84, zl_99, zl_100, zl_128, zl_160, zl_255, zl_999, zl_1000, zl_1023, nI_leI, nI_ltI, nI_eq, nI_clamp, nI_add, bnd1_k, bnd2_k, bnd3_k, bnd4_k, if_pos, if_neg, if_true, if_false, Nat.not_lt_zero, false_or, or_false, h0]
    · have es : wst b (gv law share pot c own) own (gv law share pot c own own) (i + 1) = wst b (gv law share pot c own) own (gv law share pot c own own) i := by
        show (if _ then _ else _) = _
        rw [if_neg (fun q => h0 q.1)]
      rw [es]
      simp only [if_neg h0]
      simp (disch := omega) only [zl_0, zl_1, zl_2, zl_3, zl_4, zl_5, zl_6, zl_7, zl_8, zl_9, zl_10, zl_11, zl_12, zl_15, zl_16, zl_20, zl_40, zl_48, zl_60, zl_78, zl_80, zl_84, zl_99, zl_100, zl_128, zl_160, zl_255, zl_999, zl_1000, zl_1023, nI_leI, nI_ltI, nI_eq, nI_clamp, nI_add, bnd1_k, bnd2_k, bnd3_k, bnd4_k, if_pos, if_neg, if_true, if_false, Nat.not_lt_zero, false_or, or_false]
  · intro n
    show X8_wanted_b47_s (X8_wanted_b47 n) _ _ _ _ _ _ _ _ _ _ = _
    unfold X8_wanted_b47_s
    simp (disch := omega) only [zl_0, zl_1, zl_2, zl_3, zl_4, zl_5, zl_6, zl_7, zl_8, zl_9, zl_10, zl_11, zl_12, zl_15, zl_16, zl_20, zl_40, zl_48, zl_60, zl_78, zl_80, zl_84, zl_99, zl_100, zl_128, zl_160, zl_255, zl_999, zl_1000, zl_1023, nI_leI, nI_ltI, nI_eq, nI_clamp, nI_add, bnd1_k, bnd2_k, bnd3_k, bnd4_k, if_pos, if_neg, if_true, if_false, Nat.not_lt_zero, false_or, or_false]
/-! the model's side: a row with one place written anew -/
theorem gd_set {ps : List Nat} {p d j : Nat} (hp : p < ps.length) : (ps.set p d).getD j 0 = if j = p then d else ps.getD j 0 := by
  rw [List.getD_eq_getElem?_getD, List.getD_eq_getElem?_getD, List.getElem?_set]
  by_cases h : j = p
  · subst h; simp [hp]
  · have : ¬ p = j := fun q => h q.symm
    simp [h, this]
theorem PM_set {ps : List Nat} {many : Int32} {row : Nat → Int32} {p d : Nat} (hn : ps.length ≤ 9) (hx : ∀ x ∈ ps, x < 10) (hm : many = nI ps.length) (hp : p < ps.length) (hd : d < 10) (hr : ∀ j, j < ps.length → j ≠ p → row j = nI (ps.getD j 0)) : PM (ps.set p d) many (upd row p (nI d)) := by
  refine ⟨by rw [List.length_set]; exact hn, fun x hxm => ?_, by rw [List.length_set]; exact hm, fun j hj => ?_⟩
  · rcases List.mem_or_eq_of_mem_set hxm with h | h
    · exact hx x h
    · rw [h]; exact hd
  · rw [List.length_set] at hj
    rw [gd_set hp]
    by_cases e : j = p
    · subst e; rw [pk_us, if_pos rfl]
    · rw [pk_un e, if_neg e]; exact hr j hj e
theorem cnt_set {ps : List Nat} {p d : Nat} (hp : p < ps.length) (x : Nat) : (ps.set p d).count x = cs (fun y => ps.count y) (ps.getD p 0) d x := by
  have e : ps.getD p 0 = ps[p] := by rw [List.getD_eq_getElem?_getD, List.getElem?_eq_getElem hp]; rfl
  rw [List.count_set hp, e]
  unfold cs co
  by_cases h1 : x = d
  · by_cases h2 : x = ps[p]
    · subst h1; rw [if_pos rfl, if_pos h2]; simp [h2]
    · have h3 : ¬ ps[p] = x := fun q => h2 q.symm
      subst h1; rw [if_pos rfl, if_neg h2]; simp [h3]
  · have h4 : ¬ d = x := fun q => h1 q.symm
    by_cases h2 : x = ps[p]
    · rw [if_neg h1, if_pos h2]; simp [h2]; rw [← h2]; omega
    · have h3 : ¬ ps[p] = x := fun q => h2 q.symm
      rw [if_neg h1, if_neg h2]; simp [h3, h4]
theorem gt_set {ps : List Nat} {law share pot p d : Nat} (hp : p < ps.length) : gt law share pot (ps.set p d) d = gv law share pot (fun y => ps.count y) (ps.getD p 0) d := by
  unfold gt gv
  have e : (fun x => (ps.set p d).count x) = cs (fun y => ps.count y) (ps.getD p 0) d := funext (fun x => cnt_set hp x)
  rw [e, cnt_set hp]
