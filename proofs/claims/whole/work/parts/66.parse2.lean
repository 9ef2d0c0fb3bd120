/-! the parts of a text -/
def encF (o : Option Nat) : Int32 := match o with | none => -9 | some j => nI j
def lok (b : Nat) (ps : List Nat) (c : Nat) : Bool := if c = 80 then decide (ps.length < 9) else decide (c = 78) && (decide (pcn b < 9) && frE b ps)
def msk (b : Nat) (ps : List Nat) (c : Nat) : Nat := if c = 80 then 1023 - b else fmi b ps ps.length
def prs (L : Nat) (tx : Nat → Nat) : Nat → Nat → Nat → List Nat → Option Nat × Nat × List Nat
  | 0, _, b, ps => (none, b, ps)
  | k + 1, i, b, ps => if L ≤ i then (none, b, ps) else if lok b ps (tx i) then (if okf L tx (i + 1) (msk b ps (tx i)) then (if tx i = 80 then prs L tx k (i + 2) b (ps ++ [tx (i + 1) - 48]) else prs L tx k (i + 2) (b + 2 ^ (tx (i + 1) - 48)) ps) else (some (i + 1), b, ps)) else (some i, b, ps)
def GD (b : Nat) (ps : List Nat) : Prop := b < 1024 ∧ pcn b ≤ 9 ∧ OK b ps
theorem GD_P {L : Nat} {tx : Nat → Nat} {i b : Nat} {ps : List Nat} (h : GD b ps) (hc : tx i = 80) (hl : lok b ps (tx i) = true) (ho : okf L tx (i + 1) (msk b ps (tx i)) = true) : ps.length < 9 ∧ tx (i + 1) - 48 < 10 ∧ bb b (tx (i + 1) - 48) = 0 ∧ GD b (ps ++ [tx (i + 1) - 48]) := by
  obtain ⟨h1, h2, h3, h4⟩ := okf_iff.mp ho
  unfold lok at hl
  rw [if_pos hc] at hl
  have hl' : ps.length < 9 := of_decide_eq_true hl
  unfold msk at h4
  rw [if_pos hc, bm_2 b h.1 _ (by omega)] at h4
  have h5 : bb b (tx (i + 1) - 48) = 0 := by omega
  exact ⟨hl', by omega, h5, h.1, h.2.1, OK_app h.2.2 hl' (by omega) h5⟩
theorem GD_N {L : Nat} {tx : Nat → Nat} {i b : Nat} {ps : List Nat} (h : GD b ps) (hc : ¬ tx i = 80) (hl : lok b ps (tx i) = true) (ho : okf L tx (i + 1) (msk b ps (tx i)) = true) : tx i = 78 ∧ pcn b < 9 ∧ tx (i + 1) - 48 < 10 ∧ fr b ps (tx (i + 1) - 48) = true ∧ bb b (tx (i + 1) - 48) = 0 ∧ GD (b + 2 ^ (tx (i + 1) - 48)) ps := by
  obtain ⟨h1, h2, h3, h4⟩ := okf_iff.mp ho
  unfold lok at hl
  rw [if_neg hc, Bool.and_eq_true, Bool.and_eq_true] at hl
  obtain ⟨l1, l2, l3⟩ := hl
  have hx : ∀ x ∈ ps, x < 10 := fun x hx => (h.2.2.2 x hx).1
  unfold msk at h4
  rw [if_neg hc, (free_bits h.1 hx).2.1 _ (by omega)] at h4
  have hf : fr b ps (tx (i + 1) - 48) = true := by
    by_cases q : fr b ps (tx (i + 1) - 48) = true
    · exact q
    · rw [if_neg q] at h4; cases h4
  have hf2 := hf
  unfold fr at hf2
  rw [Bool.and_eq_true] at hf2
  have hb0 : bb b (tx (i + 1) - 48) = 0 := of_decide_eq_true hf2.1
  have hc0 : ps.count (tx (i + 1) - 48) = 0 := of_decide_eq_true hf2.2
  have h5 := bm_5 b h.1 (tx (i + 1) - 48) (by omega) hb0
  have hp9 : pcn b < 9 := of_decide_eq_true l2
  refine ⟨of_decide_eq_true l1, hp9, by omega, hf, hb0, h5.2.1, by rw [h5.2.2]; omega, h.2.2.1, fun x hxm => ?_⟩
  refine ⟨hx x hxm, ?_⟩
  rw [bm_6 b h.1 _ (by omega) hb0 x (hx x hxm), if_neg (fun q => ?_)]
  · exact (h.2.2.2 x hxm).2
  · rw [q] at hxm
    exact absurd hc0 (by have := List.count_pos_iff.mpr hxm; omega)
theorem prs_good (L : Nat) (tx : Nat → Nat) : ∀ k i b ps, GD b ps → GD (prs L tx k i b ps).2.1 (prs L tx k i b ps).2.2 := by
  intro k
  induction k with
  | zero => intro i b ps h; exact h
  | succ k ih =>
    intro i b ps h
    unfold prs
    split
    · exact h
    · split
      · rename_i hl
        split
        · rename_i ho
          split
          · rename_i hc
            exact ih _ _ _ (GD_P h hc hl ho).2.2.2
          · rename_i hc
            exact ih _ _ _ (GD_N h hc hl ho).2.2.2.2.2
        · exact h
      · exact h
/-! the class reads -/
theorem at_spec {L : Nat} {tx : Nat → Nat} {len : Int32} {f : Nat → Int32} (hT : TX L tx len f) {i : Nat} (hi : i < L) : X9_at len f (nI i) = some (nI (tx i)) := by
  obtain ⟨hL, e, hf⟩ := hT
  unfold X9_at
  rw [if_neg (nI_pos (by omega)), e, if_neg (nI_ge hi (by omega)), if_neg (ix_ok (by omega) (by omega)), nI_clamp (by omega), (hf i hi).2]
theorem cls_step {L : Nat} {tx : Nat → Nat} {len : Int32} {f : Nat → Int32} (hT : TX L tx len f) {i : Nat} (hi : i < L) (n : Nat) (le la sh po ba si : Int32) (nu co : Nat → Int32) : X6_firstFault_b21 (n + 1) le la sh po ba si nu co len f (nI L) (nI i) = bnd9 (X6_takes le la sh po ba si nu co (nI i) (nI (tx i))) (fun r5 w1 w2 w3 w4 w5 w6 w7 w8 => if r5 = 0 then some (nI i, w1, w2, w3, w4, w5, w6, w7, w8) else X6_firstFault_b21 n w1 w2 w3 w4 w5 w6 w7 w8 len f (nI L) (nI (i + 1))) := by
  have hL := hT.1
  show X6_firstFault_b21_s (X6_firstFault_b21 n) _ _ _ _ _ _ _ _ _ _ _ _ = _
  unfold X6_firstFault_b21_s
  rw [if_neg (nI_ge hi (by omega)), at_spec hT hi, bnd1_k, nI_1]
theorem rem2 {i : Nat} (hi : i ≤ 1000) : nI i - nI i / 2 * 2 = nI (i % 2) := pk_rem (d := 2) (by omega) (by omega) (by omega)
theorem cls_end {L : Nat} {tx : Nat → Nat} {len : Int32} {f : Nat → Int32} (hT : TX L tx len f) (n : Nat) (le la sh po ba si : Int32) (nu co : Nat → Int32) : X6_firstFault_b21 (n + 1) le la sh po ba si nu co len f (nI L) (nI L) = some (if L < 6 ∨ L % 2 = 1 then nI L else -9, le, la, sh, po, ba, si, nu, co) := by
  have hL := hT.1
  show X6_firstFault_b21_s (X6_firstFault_b21 n) _ _ _ _ _ _ _ _ _ _ _ _ = _
  unfold X6_firstFault_b21_s X6_firstFault_b47
  rw [if_pos (nI_le (Nat.le_refl _) (by omega)), rem2 (by omega)]
  by_cases h1 : L < 6
  · rw [if_pos (show nI L < 6 from nI_lt (b := 6) h1 (by omega)), if_pos (Or.inl h1)]
  · rw [if_neg (show ¬ nI L < 6 from nI_nlt (b := 6) (by omega) (by omega))]
    by_cases h2 : L % 2 = 1
    · rw [if_pos (Or.inr h2), h2, if_neg (show ¬ nI 1 = 0 by decide)]
    · have h3 : L % 2 = 0 := by omega
      rw [if_neg (show ¬ (L < 6 ∨ L % 2 = 1) by omega), h3, if_pos (show nI 0 = 0 from rfl)]
theorem letter_spec {ps : List Nat} {size : Int32} {nm ct : Nat → Int32} {b t : Nat} (hb : b < 1024) (hC : PC ps size nm ct) (ht : t < 256) (le : Int32) : X6_takesLetter le (nI b) size ct (nI t) = some (if lok b ps t then 1 else 0, nI t) := by
  have hn := hC.1.1
  have hp10 : pcn b ≤ 10 := by have := oc_pc b 10; show sr 10 _ ≤ 10; omega
  unfold X6_takesLetter X5_size X8_barredMany lok
  rw [bitCount_spec b hb, someBar_spec hb hC, bnd1_k, hC.1.2.2.1]
  have c10 : ¬ (1 : Int32) = 0 := by decide
  by_cases h80 : t = 80
  · subst h80
    rw [if_pos (show nI 80 = 80 from rfl), if_pos rfl]
    by_cases h9 : ps.length < 9
    · rw [if_neg (show ¬ (9 : Int32) ≤ nI ps.length from nI_ge (b := 9) h9 (by omega)), if_pos (decide_eq_true h9)]
    · rw [if_pos (show (9 : Int32) ≤ nI ps.length from nI_le (a := 9) (by omega) (by omega)), if_neg (by simp; omega)]
  · have e80 : ¬ nI t = 80 := fun q => h80 ((nI_eq (b := 80) (by omega) (by omega)).mp q)
    rw [if_neg e80, if_neg h80]
    by_cases h78 : t = 78
    · subst h78
      rw [if_pos (show nI 78 = 78 from rfl)]
      by_cases h9 : pcn b < 9
      · rw [if_neg (show ¬ (9 : Int32) ≤ nI (pcn b) from nI_ge (b := 9) h9 (by omega))]
        by_cases hf : frE b ps = true
        · simp only [hf, h9, if_true, decide_true, Bool.and_self, if_neg c10]
        · have hf' : frE b ps = false := by simpa using hf
          simp only [hf', Bool.and_false, Bool.false_eq_true, if_false, if_true]
      · rw [if_pos (show (9 : Int32) ≤ nI (pcn b) from nI_le (a := 9) (by omega) (by omega))]
        simp only [h9, decide_false, Bool.false_and, Bool.and_false, Bool.false_eq_true, if_false]
    · have e78 : ¬ nI t = 78 := fun q => h78 ((nI_eq (b := 78) (by omega) (by omega)).mp q)
      rw [if_neg e78]
      simp only [h78, decide_false, Bool.false_and, Bool.false_eq_true, if_false]
theorem takes_letter {ps : List Nat} {size : Int32} {nm ct : Nat → Int32} {b t i : Nat} (hb : b < 1024) (hC : PC ps size nm ct) (ht : t < 256) (hi : 6 ≤ i) (hi2 : i % 2 = 0) (hi40 : i ≤ 1000) (le la sh po : Int32) : X6_takes le la sh po (nI b) size nm ct (nI i) (nI t) = some (if lok b ps t then 1 else 0, nI t, la, sh, po, nI b, size, nm, ct) := by
  unfold X6_takes
  rw [if_neg (nI_ne0 (by omega) (by omega)), if_neg (show ¬ nI i < 6 from nI_nlt (b := 6) (by omega) (by omega)), rem2 hi40, hi2, if_pos (show nI 0 = 0 from rfl), letter_spec hb hC ht, bnd2_k]
/-- a figure behind a letter -/
theorem takes_figure {ps : List Nat} {size : Int32} {nm ct : Nat → Int32} {b i : Nat} {L : Nat} {tx : Nat → Nat} {len : Int32} {f : Nat → Int32} (hT : TX L tx len f) (hG : GD b ps) (hC : PC ps size nm ct) (hi : 6 ≤ i) (hi2 : i % 2 = 0) (hiL : i + 1 < L) (hl : lok b ps (tx i) = true) (la sh po : Int32) : ∃ b' size' nm' ct', X6_takes (nI (tx i)) la sh po (nI b) size nm ct (nI (i + 1)) (nI (tx (i + 1))) = some (if okf L tx (i + 1) (msk b ps (tx i)) then 1 else 0, nI (tx i), la, sh, po, b', size', nm', ct') ∧ (okf L tx (i + 1) (msk b ps (tx i)) = true → (tx i = 80 → b' = nI b ∧ PC (ps ++ [tx (i + 1) - 48]) size' nm' ct') ∧ (¬ tx i = 80 → b' = nI (b + 2 ^ (tx (i + 1) - 48)) ∧ PC ps size' nm' ct')) := by
  have hL := hT.1
  have ht := (hT.2.2 (i + 1) hiL).1
  have htc := (hT.2.2 i (by omega)).1
  have hx : ∀ x ∈ ps, x < 10 := fun x hx => (hG.2.2.2 x hx).1
  have c10 : ¬ (1 : Int32) = 0 := by decide
  unfold X6_takes X6_takes_b34
  rw [if_neg (nI_ne0 (by omega) (by omega)), if_neg (show ¬ nI (i + 1) < 6 from nI_nlt (b := 6) (by omega) (by omega)), rem2 (by omega), show (i + 1) % 2 = 1 by omega, if_neg (show ¬ nI 1 = 0 by decide), num48 ht]
  by_cases hfig : 48 ≤ tx (i + 1) ∧ tx (i + 1) ≤ 57
  · simp only [if_pos hfig, if_neg c10]
    rw [if_pos (show (6 : Int32) ≤ nI (i + 1) from nI_le (a := 6) (by omega) (by omega))]
    have e48 : nI (tx (i + 1)) - 48 = nI (tx (i + 1) - 48) := pk_sub (b := 48) hfig.1
    rw [e48]
    have hd : tx (i + 1) - 48 < 10 := by omega
    unfold X6_takesNumber
    by_cases hc : tx i = 80
    · have hbm : bb (msk b ps (tx i)) (tx (i + 1) - 48) = 1 - bb b (tx (i + 1) - 48) := by
        unfold msk; rw [if_pos hc]; exact bm_2 b hG.1 _ hd
      have := bb_lt b (tx (i + 1) - 48)
      rw [if_pos (show nI (tx i) = 80 by rw [hc]; rfl), open_spec hG.1 hd]
      by_cases hb0 : bb b (tx (i + 1) - 48) = 0
      · have ho : okf L tx (i + 1) (msk b ps (tx i)) = true := okf_iff.mpr ⟨hiL, hfig.1, hfig.2, by omega⟩
        obtain ⟨hlen, -, -, -⟩ := GD_P hG hc hl ho
        obtain ⟨nm1, ct1, p1, q1⟩ := add_spec hC hlen hd
        simp only [if_pos hb0, if_neg c10, if_pos ho]
        rw [p1]
        exact ⟨_, _, _, _, rfl, fun _ => ⟨fun _ => ⟨rfl, q1⟩, fun q => absurd hc q⟩⟩
      · have ho : ¬ okf L tx (i + 1) (msk b ps (tx i)) = true := fun q => by have := (okf_iff.mp q).2.2.2; omega
        simp only [if_neg hb0, if_true, if_neg ho]
        exact ⟨_, _, _, _, rfl, fun q => absurd q ho⟩
    · have hbm : bb (msk b ps (tx i)) (tx (i + 1) - 48) = if fr b ps (tx (i + 1) - 48) then 1 else 0 := by
        unfold msk; rw [if_neg hc]; exact (free_bits hG.1 hx).2.1 _ hd
      have e80 : ¬ nI (tx i) = 80 := fun q => hc ((nI_eq (b := 80) (by omega) (by omega)).mp q)
      rw [if_neg e80, canBar_spec hG.1 hC hd, bnd1_k]
      by_cases hf : fr b ps (tx (i + 1) - 48) = true
      · rw [if_pos hf] at hbm
        have ho : okf L tx (i + 1) (msk b ps (tx i)) = true := okf_iff.mpr ⟨hiL, hfig.1, hfig.2, hbm⟩
        obtain ⟨-, -, -, -, hb0, -⟩ := GD_N hG hc hl ho
        simp only [if_pos hf, if_neg c10, if_pos ho]
        unfold X8_bar
        rw [(bm_5 b hG.1 _ hd hb0).1]
        exact ⟨_, _, _, _, rfl, fun _ => ⟨fun q => absurd q hc, fun _ => ⟨rfl, hC⟩⟩⟩
      · rw [if_neg hf] at hbm
        have ho : ¬ okf L tx (i + 1) (msk b ps (tx i)) = true := fun q => by have := (okf_iff.mp q).2.2.2; omega
        simp only [if_neg hf, if_true, if_neg ho]
        exact ⟨_, _, _, _, rfl, fun q => absurd q ho⟩
  · have ho : ¬ okf L tx (i + 1) (msk b ps (tx i)) = true := fun q => hfig ⟨(okf_iff.mp q).2.1, (okf_iff.mp q).2.2.1⟩
    simp only [if_neg hfig, if_true, if_neg ho]
    exact ⟨_, _, _, _, rfl, fun q => absurd q ho⟩
theorem bnd9_k {α1 α2 α3 α4 α5 α6 α7 α8 α9 β : Type} (a1 : α1) (a2 : α2) (a3 : α3) (a4 : α4) (a5 : α5) (a6 : α6) (a7 : α7) (a8 : α8) (a9 : α9) (f : α1 → α2 → α3 → α4 → α5 → α6 → α7 → α8 → α9 → Option β) : bnd9 (some (a1, a2, a3, a4, a5, a6, a7, a8, a9)) f = f a1 a2 a3 a4 a5 a6 a7 a8 a9 := rfl
theorem C_parts {L : Nat} {tx : Nat → Nat} {len : Int32} {f : Nat → Int32} (hT : TX L tx len f) (la sh po : Int32) : ∀ k n i b ps le size nm ct, 6 ≤ i → i % 2 = 0 → i ≤ L → L < i + 2 * k → L < n + i → GD b ps → PC ps size nm ct → ∃ le' b' size' nm' ct', X6_firstFault_b21 n le la sh po (nI b) size nm ct len f (nI L) (nI i) = some (encF (prs L tx k i b ps).1, le', la, sh, po, b', size', nm', ct') ∧ ((prs L tx k i b ps).1 = none → b' = nI (prs L tx k i b ps).2.1 ∧ PC (prs L tx k i b ps).2.2 size' nm' ct') := by
  have hL := hT.1
  have c10 : ¬ (1 : Int32) = 0 := by decide
  intro k
  induction k with
  | zero => intro n i b ps le size nm ct h1 h2 h3 h4; omega
  | succ k ih =>
    intro n i b ps le size nm ct h1 h2 h3 h4 h5 hG hC
    obtain ⟨n1, rfl⟩ : ∃ n1, n = n1 + 1 := ⟨n - 1, by omega⟩
    unfold prs
    by_cases hiL : L ≤ i
    · have e : i = L := by omega
      subst e
      simp only [if_pos hiL]
      rw [cls_end hT, if_neg (by omega)]
      exact ⟨_, _, _, _, _, rfl, fun _ => ⟨rfl, hC⟩⟩
    · simp only [if_neg hiL]
      rw [cls_step hT (by omega), takes_letter hG.1 hC (hT.2.2 i (by omega)).1 h1 h2 (by omega), bnd9_k]
      by_cases hl : lok b ps (tx i) = true
      · simp only [if_pos hl, if_neg c10]
        obtain ⟨n2, rfl⟩ : ∃ n2, n1 = n2 + 1 := ⟨n1 - 1, by omega⟩
        by_cases hi1 : i + 1 < L
        · rw [cls_step hT hi1]
          obtain ⟨b', size', nm', ct', p1, q1⟩ := takes_figure hT hG hC h1 h2 hi1 hl la sh po
          rw [p1, bnd9_k]
          by_cases ho : okf L tx (i + 1) (msk b ps (tx i)) = true
          · simp only [if_pos ho, if_neg c10]
            by_cases hc : tx i = 80
            · obtain ⟨rfl, q2⟩ := (q1 ho).1 hc
              simp only [if_pos hc]
              exact ih n2 (i + 2) b _ _ _ _ _ (by omega) (by omega) (by omega) (by omega) (by omega) (GD_P hG hc hl ho).2.2.2 q2
            · obtain ⟨rfl, q2⟩ := (q1 ho).2 hc
              simp only [if_neg hc]
              exact ih n2 (i + 2) _ ps _ _ _ _ (by omega) (by omega) (by omega) (by omega) (by omega) (GD_N hG hc hl ho).2.2.2.2.2 q2
          · simp only [if_neg ho, if_true]
            exact ⟨_, _, _, _, _, rfl, fun q => by cases q⟩
        · have e : i + 1 = L := by omega
          have ho : ¬ okf L tx (i + 1) (msk b ps (tx i)) = true := fun q => hi1 (okf_iff.mp q).1
          simp only [if_neg ho]
          rw [e, cls_end hT, if_pos (by omega)]
          exact ⟨_, _, _, _, _, rfl, fun q => by cases q⟩
      · simp only [if_neg hl, if_true]
        exact ⟨_, _, _, _, _, rfl, fun q => by cases q⟩
/-! the model reads -/
theorem mod_exit {n : Nat} {j : Nat} (hj : j ≤ 1000) (m ba ru sh po len at' : Int32) (sl f : Nat → Int32) : X11_readText_b102 (n + 1) m ba ru sh po len at' (nI j) sl f = some (nI j, m, ba, ru, sh, po, at', nI j, sl) := by
  show X11_readText_b102_s (X11_readText_b102 n) _ _ _ _ _ _ _ _ _ _ = _
  unfold X11_readText_b102_s X11_readText_b270
  rw [if_neg (nI_ne9 hj)]
theorem M_parts {L : Nat} {tx : Nat → Nat} {len : Int32} {f : Nat → Int32} (hT : TX L tx len f) (ru sh po : Int32) : ∀ k n i b ps many sl, 6 ≤ i → i % 2 = 0 → i ≤ L → L < i + 2 * k → k < n → GD b ps → PM ps many sl → ∃ many' b' at' fa' sl', X11_readText_b102 n many (nI b) ru sh po len (nI i) (-9) sl f = some (encF (prs L tx k i b ps).1, many', b', ru, sh, po, at', fa', sl') ∧ ((prs L tx k i b ps).1 = none → b' = nI (prs L tx k i b ps).2.1 ∧ PM (prs L tx k i b ps).2.2 many' sl') := by
  have hL := hT.1
  intro k
  induction k with
  | zero => intro n i b ps many sl h1 h2 h3 h4; omega
  | succ k ih =>
    intro n i b ps many sl h1 h2 h3 h4 h5 hG hM
    obtain ⟨n1, rfl⟩ : ∃ n1, n = n1 + 1 := ⟨n - 1, by omega⟩
    obtain ⟨n2, rfl⟩ : ∃ n2, n1 = n2 + 1 := ⟨n1 - 1, by omega⟩
    have hx : ∀ x ∈ ps, x < 10 := fun x hx => (hG.2.2.2 x hx).1
    have hfb := free_bits hG.1 hx
    unfold prs
    show ∃ many' b' at' fa' sl', X11_readText_b102_s (X11_readText_b102 (n2 + 1)) _ _ _ _ _ _ _ _ _ _ = _ ∧ _
    unfold X11_readText_b102_s
    rw [if_pos rfl, hT.2.1]
    by_cases hiL : L ≤ i
    · simp only [if_pos hiL]
      rw [if_pos (nI_le hiL (by omega))]
      exact ⟨_, _, _, _, _, rfl, fun _ => ⟨rfl, hM⟩⟩
    · simp only [if_neg hiL]
      have hti := hT.2.2 i (by omega)
      rw [if_neg (nI_ge (show i < L by omega) (by omega)), if_neg (ix_ok (show i < 40 by omega) (by omega)), nI_clamp (by omega), hti.2]
      by_cases h80 : tx i = 80
      · have e78 : ¬ nI (tx i) = 78 := fun q => by have := (nI_eq (b := 78) (by omega) (by omega)).mp q; omega
        rw [if_neg e78]
        unfold X11_readText_b190
        rw [if_neg (ix_ok (show i < 40 by omega) (by omega)), nI_clamp (by omega), hti.2, if_pos (show nI (tx i) = 80 by rw [h80]; rfl), hM.2.2.1]
        have hlk : lok b ps (tx i) = decide (ps.length < 9) := by unfold lok; rw [if_pos h80]
        by_cases h9 : ps.length < 9
        · have hl : lok b ps (tx i) = true := by rw [hlk]; exact decide_eq_true h9
          have hmk : msk b ps (tx i) = 1023 - b := by unfold msk; rw [if_pos h80]
          simp only [if_pos hl]
          rw [if_neg (show ¬ (9 : Int32) ≤ nI ps.length from nI_ge (b := 9) h9 (by omega)), bm_1 b hG.1, nI_1, hmk, ← hT.2.1]
          by_cases ho : okf L tx (i + 1) (1023 - b) = true
          · have ho' : okf L tx (i + 1) (msk b ps (tx i)) = true := by rw [hmk]; exact ho
            obtain ⟨-, hd, hb0, hG'⟩ := GD_P hG h80 hl ho'
            rw [figure_ok hT (by omega) ho, bnd3_k]
            simp only [if_pos ho, if_pos h80]
            rw [if_neg (ix_ok (show ps.length < 9 by omega) (by omega)), nI_clamp (by omega), nI_1]
            exact ih (n2 + 1) (i + 2) b _ _ _ (by omega) (by omega) (by have := (okf_iff.mp ho).1; omega) (by omega) (by omega) hG' (PM_app hM h9 hd)
          · rw [figure_bad hT (by omega) (by omega) ho, bnd3_k]
            simp only [if_neg ho]
            rw [if_neg (ix_ok (show ps.length < 9 by omega) (by omega)), mod_exit (by omega)]
            exact ⟨_, _, _, _, _, rfl, fun q => by cases q⟩
        · have hl : ¬ lok b ps (tx i) = true := by rw [hlk]; simp; omega
          simp only [if_neg hl]
          rw [if_pos (show (9 : Int32) ≤ nI ps.length from nI_le (a := 9) (by omega) (by have := hM.1; omega))]
          unfold X11_readText_b259
          rw [mod_exit (by omega)]
          exact ⟨_, _, _, _, _, rfl, fun q => by cases q⟩
      · have e80 : ¬ nI (tx i) = 80 := fun q => h80 ((nI_eq (b := 80) (by omega) (by omega)).mp q)
        have out : ∃ many' b' at' fa' sl', X11_readText_b190 (X11_readText_b102 (n2 + 1)) many (nI b) ru sh po (nI L) (nI i) (-9) sl f = some (encF (some i), many', b', ru, sh, po, at', fa', sl') := by
          unfold X11_readText_b190 X11_readText_b259
          rw [if_neg (ix_ok (show i < 40 by omega) (by omega)), nI_clamp (by omega), hti.2, if_neg e80, mod_exit (by omega)]
          exact ⟨_, _, _, _, _, rfl⟩
        obtain ⟨o1, o2, o3, o4, o5, oe⟩ := out
        have hlk : lok b ps (tx i) = (decide (tx i = 78) && (decide (pcn b < 9) && frE b ps)) := by unfold lok; rw [if_neg h80]
        have hmk : msk b ps (tx i) = fmi b ps ps.length := by unfold msk; rw [if_neg h80]
        by_cases h78 : tx i = 78
        · rw [if_pos (show nI (tx i) = 78 by rw [h78]; rfl), free_spec hG.1 hM, bnd1_k, bnd1_k]
          by_cases hp9 : pcn b = 9
          · have hl : ¬ lok b ps (tx i) = true := by rw [hlk, hp9]; simp
            simp only [if_neg hl, if_pos hp9, if_true]
            rw [oe]
            exact ⟨_, _, _, _, _, rfl, fun q => by cases q⟩
          · simp only [if_neg hp9]
            by_cases hfe : frE b ps = true
            · have hF0 : ¬ fmi b ps ps.length = 0 := fun q => (hfb.2.2.mp q) hfe
              have hl : lok b ps (tx i) = true := by
                rw [hlk, hfe, h78]
                have : pcn b < 9 := by have := hG.2.1; omega
                simp [this]
              simp only [if_pos hl]
              rw [if_neg (nI_ne0 (by omega) (by have := hfb.1; omega)), nI_1, hmk, ← hT.2.1]
              by_cases ho : okf L tx (i + 1) (fmi b ps ps.length) = true
              · have ho' : okf L tx (i + 1) (msk b ps (tx i)) = true := by rw [hmk]; exact ho
                obtain ⟨-, -, hd, -, hb0, hG'⟩ := GD_N hG h80 hl ho'
                rw [figure_ok hT hfb.1 ho, bnd3_k]
                simp only [if_pos ho, if_neg h80, if_true]
                unfold X11_readText_b183
                rw [(bm_5 b hG.1 _ hd hb0).1]
                exact ih (n2 + 1) (i + 2) _ ps _ _ (by omega) (by omega) (by have := (okf_iff.mp ho).1; omega) (by omega) (by omega) hG' hM
              · rw [figure_bad hT (by omega) hfb.1 ho, bnd3_k]
                simp only [if_neg ho, if_neg (nI_ne9 (show i + 1 ≤ 1000 by omega))]
                unfold X11_readText_b183
                rw [mod_exit (by omega)]
                exact ⟨_, _, _, _, _, rfl, fun q => by cases q⟩
            · have hF0 : fmi b ps ps.length = 0 := hfb.2.2.mpr hfe
              have hl : ¬ lok b ps (tx i) = true := by rw [hlk]; simp [hfe]
              simp only [if_neg hl]
              rw [hF0, if_pos (show nI 0 = 0 from rfl), oe]
              exact ⟨_, _, _, _, _, rfl, fun q => by cases q⟩
        · have e78 : ¬ nI (tx i) = 78 := fun q => h78 ((nI_eq (b := 78) (by omega) (by omega)).mp q)
          have hl : ¬ lok b ps (tx i) = true := by rw [hlk]; simp [h78]
          simp only [if_neg hl]
          rw [if_neg e78, oe]
          exact ⟨_, _, _, _, _, rfl, fun q => by cases q⟩
