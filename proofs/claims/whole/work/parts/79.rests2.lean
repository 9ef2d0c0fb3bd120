/-! rests -/
theorem rrC_in {law share pot b d n : Nat} {A : (Nat → Nat) → Nat} {v : Nat → Nat} (selfd : Int32 → Int32 → Int32 → Int32 → (Nat → Int32) → Int32 → Int32 → Option (Int32 × (Nat → Int32))) (hd : d < 10) (hn : n < 5) (hv : ∀ x, d ≤ x → v x = 0) (hself : ∀ (m : Nat) (w : Nat → Nat) (g : Nat → Int32), m ≤ n → (∀ x, d + 1 ≤ x → w x = 0) → (∀ x, x < 10 → g x = nI (w x)) → (∀ x, x < 10 → w x + m ≤ 8) → ∃ g', selfd (nI law) (nI share) (nI pot) (nI b) g (nI (d + 1)) (nI m) = some (nI (SW b A (d + 1) m w), g') ∧ ∀ x, x < 10 → g' x = nI (w x)) (hvn : ∀ x, x < 10 → v x + n ≤ 8) (f : Nat → Int32) (hf : ∀ x, x < 10 → f x = nI (v x)) (s0 : Nat) : ∃ f', X3_restingRows_b55 selfd fU (nI law) (nI share) (nI pot) (nI b) f (nI d) (nI n) (nI s0) 1 = some (nI (s0 + sr n (fun c => ch n (c + 1) * SW b A (d + 1) (n - (c + 1)) (adn v d (c + 1)))), f') ∧ ∀ x, x < 10 → f' x = nI (v x) := by
  refine lupR (fun i g => ∀ x, x < 10 → x ≠ d → g x = nI (v x)) (fun k i g => X3_restingRows_b55 selfd k (nI law) (nI share) (nI pot) (nI b) g (nI d) (nI n) (nI (s0 + sr i (fun c => ch n (c + 1) * SW b A (d + 1) (n - (c + 1)) (adn v d (c + 1))))) (nI (i + 1))) n (fun r => ∃ f', r = some (nI (s0 + sr n (fun c => ch n (c + 1) * SW b A (d + 1) (n - (c + 1)) (adn v d (c + 1)))), f') ∧ ∀ x, x < 10 → f' x = nI (v x)) ?_ ?_ fU 0 f (by omega) (fU_gt (by omega)) (fun x hx _ => hf x hx)
  · intro k i g hi hI
    left
    have e1 : nI n - nI (i + 1) = nI (n - (i + 1)) := pk_sub (by omega)
    obtain ⟨g', p1, q1⟩ := hself (n - (i + 1)) (adn v d (i + 1)) (upd g d (nI (i + 1))) (by omega) (fun x hx => by
      show v x + (if x = d then i + 1 else 0) = 0
      rw [if_neg (by omega), hv x (by omega)]) (fun x hx => by
      by_cases e : x = d
      · subst e
        rw [pk_us]
        show _ = nI (v x + (if x = x then i + 1 else 0))
        rw [if_pos rfl, hv x (Nat.le_refl _), Nat.zero_add]
      · rw [pk_un e, hI x hx e]
        show _ = nI (v x + (if x = d then i + 1 else 0))
        rw [if_neg e, Nat.add_zero]) (fun x hx => by
      show v x + (if x = d then i + 1 else 0) + (n - (i + 1)) ≤ 8
      have := hvn x hx
      by_cases e : x = d
      · rw [if_pos e]; rw [e, hv d (Nat.le_refl _)]; omega
      · rw [if_neg e]; omega)
    refine ⟨g', fun x hx hne => ?_, ?_⟩
    · rw [q1 x hx]
      show nI (v x + (if x = d then i + 1 else 0)) = _
      rw [if_neg hne, Nat.add_zero]
    · show X3_restingRows_b55_s selfd (X3_restingRows_b55 selfd k) _ _ _ _ _ _ _ _ _ = _
      unfold X3_restingRows_b55_s
      rw [if_neg (show ¬ nI n < nI (i + 1) from nI_nlt (by omega) (by omega)), if_neg (ix_ok hd (by omega)), nI_clamp (by omega), choose_spec n (by omega) (i + 1) (by omega), bnd1_k, nI_1, e1, p1, bnd2_k, pk_mul, nI_add, nI_1, sr_s, Nat.add_assoc]
  · intro k g hI
    refine ⟨upd g d 0, ?_, fun x hx => ?_⟩
    · show X3_restingRows_b55_s selfd (X3_restingRows_b55 selfd k) _ _ _ _ _ _ _ _ _ = _
      unfold X3_restingRows_b55_s X3_restingRows_b96
      rw [if_pos (show nI n < nI (n + 1) from nI_lt (by omega) (by omega)), if_neg (ix_ok hd (by omega)), nI_clamp (by omega)]
    · by_cases e : x = d
      · subst e; rw [pk_us, hv x (Nat.le_refl _)]; rfl
      · rw [pk_un e]; exact hI x hx e
theorem rrC_spec {law share pot b : Nat} (hl : law ≤ 2) (hs : share ≤ 1) (hpot : pot ≤ 999) (hb : b < 1024) : ∀ k d n v f, d + k = 10 → n < 5 → (∀ x, d ≤ x → v x = 0) → (∀ x, x < 10 → f x = nI (v x)) → (∀ x, x < 10 → v x + n ≤ 8) → ∃ f', X3_restingRows (k + 2) (nI law) (nI share) (nI pot) (nI b) f (nI d) (nI n) = some (nI (SW b (AR law share pot b) d n v), f') ∧ ∀ x, x < 10 → f' x = nI (v x) := by
  intro k
  have base : ∀ K d v f, (∀ x, x < 10 → f x = nI (v x)) → (∀ x, x < 10 → v x + 0 ≤ 8) → ∃ f', X3_restingRows (K + 1) (nI law) (nI share) (nI pot) (nI b) f (nI d) (nI 0) = some (nI (SW b (AR law share pot b) d 0 v), f') ∧ ∀ x, x < 10 → f' x = nI (v x) := by
    intro K d v f hf hvn
    show ∃ f', X3_restingRows_r (X3_restingRows K) _ _ _ _ _ _ _ = _ ∧ _
    unfold X3_restingRows_r
    rw [if_neg (show ¬ (0 : Int32) < nI 0 by decide), arC_spec hl hs hpot hb (fun d hd => ⟨by have := hvn d hd; omega, hf d hd⟩), bnd1_k]
    refine ⟨f, ?_, hf⟩
    show _ = some (nI (AR law share pot b v), f)
    by_cases h : isAR law share pot b v
    · have e : AR law share pot b v = 1 := if_pos h
      rw [e, if_neg (show ¬ nI 1 = 0 by decide)]; rfl
    · have e : AR law share pot b v = 0 := if_neg h
      rw [e, if_pos (show nI 0 = 0 from rfl)]; rfl
  induction k with
  | zero =>
    intro d n v f hd hn hv hf hvn
    have : d = 10 := by omega
    subst this
    cases n with
    | zero => exact base 1 10 v f hf hvn
    | succ n =>
      refine ⟨f, ?_, hf⟩
      show X3_restingRows_r (X3_restingRows 1) _ _ _ _ _ _ _ = _
      unfold X3_restingRows_r
      rw [if_pos (show (0 : Int32) < nI (n + 1) from nI_lt (a := 0) (by omega) (by omega)), num_spec, nI_toInt (by omega), if_neg (show ¬ ((0 : Int) ≤ ((10 : Nat) : Int) ∧ ((10 : Nat) : Int) < 10) by omega), if_pos rfl, SW_end]
      rfl
  | succ k ih =>
    intro d n v f hd hn hv hf hvn
    cases n with
    | zero => exact base (k + 2) d v f hf hvn
    | succ n =>
      have hd10 : d < 10 := by omega
      obtain ⟨f1, p1, q1⟩ := ih (d + 1) (n + 1) v f (by omega) hn (fun x hx => hv x (by omega)) hf hvn
      show ∃ f', X3_restingRows_r (X3_restingRows (k + 2)) _ _ _ _ _ _ _ = _ ∧ _
      unfold X3_restingRows_r
      rw [if_pos (show (0 : Int32) < nI (n + 1) from nI_lt (a := 0) (by omega) (by omega)), num_spec, nI_toInt (by omega), if_pos (show (0 : Int) ≤ d ∧ (d : Int) < 10 by omega), if_neg (show ¬ (1 : Int32) = 0 by decide), if_pos (show nI d < 10 from nI_lt (b := 10) hd10 (by omega)), nI_1, p1, bnd2_k, open_spec hb hd10]
      by_cases h : bb b d = 0
      · rw [if_pos h, if_neg (show ¬ (1 : Int32) = 0 by decide)]
        obtain ⟨f2, p2, q2⟩ := rrC_in (n := n + 1) (A := AR law share pot b) (v := v) (X3_restingRows (k + 2)) hd10 hn hv (fun m w g hm hw hg hwn => ih (d + 1) m w g (by omega) (by omega) hw hg (fun x hx => by have := hwn x hx; omega)) (fun x hx => by have := hvn x hx; omega) f1 q1 (SW b (AR law share pot b) (d + 1) (n + 1) v)
        refine ⟨f2, ?_, q2⟩
        rw [p2, SW_open hd10 h (n + 1) v, sr_shift (n + 1)]
        have c0 : ch (n + 1) 0 = 1 := rfl
        rw [c0, adn_0, Nat.one_mul]
        rfl
      · rw [if_neg h, if_pos rfl]
        exact ⟨f1, by rw [SW_bar h], q1⟩
/-! the model -/
def gm (law share pot b : Nat) (ps : List Nat) : Nat := if (∀ x ∈ ps, bb b x = 0) then AR law share pot b (fun y => ps.count y) else 0
theorem mod10 {a : Nat} (ha : a < 2 ^ 31) : nI a - nI a / 10 * 10 = nI (a % 10) := by
  have e : nI a / 10 = nI (a / 10) := pk_div (d := 10) ha (by omega) (by omega)
  have e2 : nI (a / 10) * 10 = nI (a / 10 * 10) := pk_mul (a / 10) 10
  rw [e, e2, pk_sub (by omega)]
  congr 1
  omega
theorem reM_row {law share pot b n c : Nat} {s0 : Nat} (s24 : Int32 → Int32 → Int32 → Int32 → Int32 → (Nat → Int32) → Int32 → Int32 → Int32 → Option (Int32 × Int32 × (Nat → Int32))) (hl : law ≤ 2) (hs : share ≤ 1) (hpot : pot ≤ 999) (hb : b < 1024) (hn : n < 5) (hc : c < 10000) (row : Nat → Int32) : ∃ row', X11_rests_b45 s24 fU (nI b) (nI law) (nI share) (nI pot) (nI n) row (nI n) (nI s0) (nI c) (nI c) 1 0 = s24 (nI b) (nI law) (nI share) (nI pot) (nI n) row' (nI n) (nI (s0 + gm law share pot b (dg n c))) (nI (c + 1)) := by
  have c10 : ¬ (1 : Int32) = 0 := by decide
  -- the digits
  have D0 : ∃ (row' : Nat → Int32) (fl : Int32), X11_rests_b45 s24 fU (nI b) (nI law) (nI share) (nI pot) (nI n) row (nI n) (nI s0) (nI c) (nI (c / 10 ^ 0)) 1 (nI 0) = X11_rests_b102 s24 (nI b) (nI law) (nI share) (nI pot) (nI n) row' (nI n) (nI s0) (nI c) fl ∧ (∀ j, j < n → row' j = nI (c / 10 ^ j % 10)) ∧ (fl = 0 ∨ fl = 1) ∧ (fl = 1 ↔ ∀ j, j < n → bb b (c / 10 ^ j % 10) = 0) := by
    refine lupR (σ := (Nat → Int32) × Int32) (fun i s => (∀ j, j < i → s.1 j = nI (c / 10 ^ j % 10)) ∧ (s.2 = 0 ∨ s.2 = 1) ∧ (s.2 = 1 ↔ ∀ j, j < i → bb b (c / 10 ^ j % 10) = 0)) (fun k i s => X11_rests_b45 s24 k (nI b) (nI law) (nI share) (nI pot) (nI n) s.1 (nI n) (nI s0) (nI c) (nI (c / 10 ^ i)) s.2 (nI i)) n (fun r => ∃ (row' : Nat → Int32) (fl : Int32), r = X11_rests_b102 s24 (nI b) (nI law) (nI share) (nI pot) (nI n) row' (nI n) (nI s0) (nI c) fl ∧ (∀ j, j < n → row' j = nI (c / 10 ^ j % 10)) ∧ (fl = 0 ∨ fl = 1) ∧ (fl = 1 ↔ ∀ j, j < n → bb b (c / 10 ^ j % 10) = 0)) ?_ ?_ fU 0 (row, 1) (by omega) (fU_gt (by omega)) ⟨fun j hj => absurd hj (Nat.not_lt_zero j), Or.inr rfl, ⟨fun _ j hj => absurd hj (Nat.not_lt_zero j), fun _ => rfl⟩⟩
    · rintro k i ⟨g, fl⟩ hi ⟨h1, h2, h3⟩
      left
      have hle : c / 10 ^ i ≤ c := Nat.div_le_self _ _
      have hlt : c / 10 ^ i % 10 < 10 := Nat.mod_lt _ (by omega)
      have hix := ix_ok (N := 10) (show i < 10 by omega) (by omega)
      have hix3 : ¬ (nI i < 0 ∨ 10 ≤ i) := fun q => q.elim (nI_pos (by omega)) (by omega)
      have ediv : nI (c / 10 ^ i) / 10 = nI (c / 10 ^ (i + 1)) := by
        rw [Nat.pow_succ, ← Nat.div_div_eq_div_mul]
        exact pk_div (d := 10) (by omega) (by omega) (by omega)
      have hrow : ∀ j, j < i + 1 → upd g i (nI (c / 10 ^ i % 10)) j = nI (c / 10 ^ j % 10) := fun j hj => by
        by_cases e : j = i
        · subst e; rw [pk_us]
        · rw [pk_un e]; exact h1 j (by omega)
      have unf : X11_rests_b45 s24 (k + 1) (nI b) (nI law) (nI share) (nI pot) (nI n) g (nI n) (nI s0) (nI c) (nI (c / 10 ^ i)) fl (nI i) = if fl = 0 then X11_rests_b45 s24 k (nI b) (nI law) (nI share) (nI pot) (nI n) (upd g i (nI (c / 10 ^ i % 10))) (nI n) (nI s0) (nI c) (nI (c / 10 ^ (i + 1))) 0 (nI (i + 1)) else if (if bb b (c / 10 ^ i % 10) = 0 then (0 : Int32) else 1) = 0 then X11_rests_b45 s24 k (nI b) (nI law) (nI share) (nI pot) (nI n) (upd g i (nI (c / 10 ^ i % 10))) (nI n) (nI s0) (nI c) (nI (c / 10 ^ (i + 1))) 1 (nI (i + 1)) else X11_rests_b45 s24 k (nI b) (nI law) (nI share) (nI pot) (nI n) (upd g i (nI (c / 10 ^ i % 10))) (nI n) (nI s0) (nI c) (nI (c / 10 ^ (i + 1))) 0 (nI (i + 1)) := by
        show X11_rests_b45_s s24 (X11_rests_b45 s24 k) _ _ _ _ _ _ _ _ _ _ _ _ = _
        unfold X11_rests_b45_s X11_rests_b93 X11_rests_b94
        rw [if_neg (show ¬ nI n ≤ nI i from nI_ge (by omega) (by omega)), if_neg hix, if_neg hix, mod10 (by omega), ediv, nI_clamp (by omega), pk_us, bar_spec hb hlt, nI_1]
      rcases h2 with e | e
      · have e' : fl = 0 := e
        refine ⟨(upd g i (nI (c / 10 ^ i % 10)), 0), ⟨hrow, Or.inl rfl, ⟨fun q => absurd q (show ¬ (0 : Int32) = 1 by decide), fun q => ?_⟩⟩, ?_⟩
        · exfalso
          have : fl = 1 := h3.mpr (fun j hj => q j (by omega))
          rw [e'] at this
          exact absurd this (by decide)
        · show X11_rests_b45 s24 (k + 1) _ _ _ _ _ g _ _ _ _ fl _ = _
          rw [unf, if_pos e']
      · have e' : fl = 1 := e
        by_cases h : bb b (c / 10 ^ i % 10) = 0
        · refine ⟨(upd g i (nI (c / 10 ^ i % 10)), 1), ⟨hrow, Or.inr rfl, ⟨fun _ j hj => ?_, fun _ => rfl⟩⟩, ?_⟩
          · by_cases q : j = i
            · subst q; exact h
            · exact h3.mp e' j (by omega)
          · show X11_rests_b45 s24 (k + 1) _ _ _ _ _ g _ _ _ _ fl _ = _
            rw [unf, e', if_neg c10, if_pos h, if_pos rfl]
        · refine ⟨(upd g i (nI (c / 10 ^ i % 10)), 0), ⟨hrow, Or.inl rfl, ⟨fun q => absurd q (show ¬ (0 : Int32) = 1 by decide), fun q => absurd (q i (by omega)) h⟩⟩, ?_⟩
          show X11_rests_b45 s24 (k + 1) _ _ _ _ _ g _ _ _ _ fl _ = _
          rw [unf, e', if_neg c10, if_neg h, if_neg c10]
    · rintro k ⟨g, fl⟩ hI
      refine ⟨g, fl, ?_, hI⟩
      show X11_rests_b45_s s24 (X11_rests_b45 s24 k) _ _ _ _ _ _ _ _ _ _ _ _ = _
      unfold X11_rests_b45_s
      rw [if_pos (show nI n ≤ nI n from nI_le (Nat.le_refl _) (by omega))]
  have D : ∃ (row' : Nat → Int32) (fl : Int32), X11_rests_b45 s24 fU (nI b) (nI law) (nI share) (nI pot) (nI n) row (nI n) (nI s0) (nI c) (nI c) 1 0 = X11_rests_b102 s24 (nI b) (nI law) (nI share) (nI pot) (nI n) row' (nI n) (nI s0) (nI c) fl ∧ (∀ j, j < n → row' j = nI (c / 10 ^ j % 10)) ∧ (fl = 0 ∨ fl = 1) ∧ (fl = 1 ↔ ∀ j, j < n → bb b (c / 10 ^ j % 10) = 0) := by
    rw [Nat.pow_zero, Nat.div_one] at D0
    exact D0
  obtain ⟨row1, fl, p1, q1, q2, q3⟩ := D
  have hlen := dg_len n c
  have hopen : (∀ x ∈ dg n c, bb b x = 0) ↔ fl = 1 := by
    rw [q3]
    constructor
    · intro h j hj
      have := h _ (gd_mem (ps := dg n c) (j := j) (by omega))
      rw [dg_get n c j hj] at this
      exact this
    · intro h x hx
      obtain ⟨j, hj, e⟩ := List.getElem_of_mem hx
      have := h j (by omega)
      rw [← dg_get n c j (by omega), List.getD_eq_getElem?_getD, List.getElem?_eq_getElem hj] at this
      rw [← e]; exact this
  rw [p1]
  unfold X11_rests_b102
  rcases q2 with e | e
  · refine ⟨row1, ?_⟩
    have hno : ¬ ∀ x ∈ dg n c, bb b x = 0 := fun q => by
      have := hopen.mp q
      rw [e] at this
      exact absurd this (by decide)
    show X11_rests_b105_s s24 (X11_rests_b105 s24 99999) _ _ _ _ _ _ _ _ _ _ _ = _
    unfold X11_rests_b105_s X11_rests_b145 X11_rests_b156 gm
    rw [if_neg hno, e, if_pos rfl, if_pos rfl, nI_1, Nat.add_zero]
    have : nI s0 + 0 = nI s0 := nI_add s0 0
    rw [this]
    split <;> rfl
  · have hyes := hopen.mpr e
    have hPM : PM (dg n c) (nI n) row1 := ⟨by omega, fun x hx => dg_lt n c x hx, by rw [hlen], fun j hj => by rw [q1 j (by omega), dg_get n c j (by omega)]⟩
    -- each of them
    have hgm : gm law share pot b (dg n c) = AR law share pot b (fun y => (dg n c).count y) := if_pos hyes
    have hAR : isAR law share pot b (fun y => (dg n c).count y) ↔ ∀ j, j < n → wn law share pot b (fun y => (dg n c).count y) ((dg n c).getD j 0) = (dg n c).getD j 0 := by
      constructor
      · intro h j hj
        have hm := gd_mem (ps := dg n c) (j := j) (by omega)
        exact h _ (dg_lt n c _ hm) (List.count_pos_iff.mpr hm)
      · intro h x hx hp
        have hm : x ∈ dg n c := List.count_pos_iff.mp hp
        obtain ⟨j, hj, e2⟩ := List.getElem_of_mem hm
        have := h j (by omega)
        rw [List.getD_eq_getElem?_getD, List.getElem?_eq_getElem hj] at this
        rw [← e2]; exact this
    rw [hgm, e]
    have fin0 : ∀ (k : Nat) (g : Nat → Int32) (i : Nat), ¬ isAR law share pot b (fun y => (dg n c).count y) → X11_rests_b105 s24 (k + 1) (nI b) (nI law) (nI share) (nI pot) (nI n) g (nI n) (nI s0) (nI c) 0 (nI i) = s24 (nI b) (nI law) (nI share) (nI pot) (nI n) g (nI n) (nI (s0 + AR law share pot b (fun y => (dg n c).count y))) (nI (c + 1)) := by
      intro k g i hno
      have hn0 : AR law share pot b (fun y => (dg n c).count y) = 0 := if_neg hno
      show X11_rests_b105_s s24 (X11_rests_b105 s24 k) _ _ _ _ _ _ _ _ _ _ _ = _
      unfold X11_rests_b105_s X11_rests_b145 X11_rests_b156
      have : nI s0 + 0 = nI s0 := nI_add s0 0
      rw [if_pos rfl, if_pos rfl, this, nI_1, hn0, Nat.add_zero]
      split <;> rfl
    refine lupR (σ := (Nat → Int32) × Int32) (fun i s => PM (dg n c) (nI n) s.1 ∧ ((s.2 = 1 ∧ ∀ j, j < i → wn law share pot b (fun y => (dg n c).count y) ((dg n c).getD j 0) = (dg n c).getD j 0) ∨ (s.2 = 0 ∧ ¬ isAR law share pot b (fun y => (dg n c).count y)))) (fun k i s => X11_rests_b105 s24 k (nI b) (nI law) (nI share) (nI pot) (nI n) s.1 (nI n) (nI s0) (nI c) s.2 (nI i)) n (fun r => ∃ row', r = s24 (nI b) (nI law) (nI share) (nI pot) (nI n) row' (nI n) (nI (s0 + AR law share pot b (fun y => (dg n c).count y))) (nI (c + 1))) ?_ ?_ fU 0 (row1, 1) (by omega) (fU_gt (by omega)) ⟨hPM, Or.inl ⟨rfl, fun j hj => absurd hj (Nat.not_lt_zero j)⟩⟩
    · rintro k i ⟨g, fl2⟩ hi ⟨hP, hI⟩
      rcases hI with ⟨e1, hI⟩ | ⟨e1, hI⟩
      · left
        have e1' : fl2 = 1 := e1
        obtain ⟨g', a1, a2⟩ := wantOf_spec (p := i) hl hs hpot hb hP (by omega)
        have hown := dg_lt n c _ (gd_mem (ps := dg n c) (j := i) (by omega))
        have hwn := wn_lt (law := law) (share := share) (b := b) (c := fun y => (dg n c).count y) hpot hown
        have unf : X11_rests_b105 s24 (k + 1) (nI b) (nI law) (nI share) (nI pot) (nI n) g (nI n) (nI s0) (nI c) fl2 (nI i) = if nI (wn law share pot b (fun y => (dg n c).count y) ((dg n c).getD i 0)) = nI ((dg n c).getD i 0) then X11_rests_b105 s24 k (nI b) (nI law) (nI share) (nI pot) (nI n) g' (nI n) (nI s0) (nI c) 1 (nI (i + 1)) else X11_rests_b105 s24 k (nI b) (nI law) (nI share) (nI pot) (nI n) g' (nI n) (nI s0) (nI c) 0 (nI (i + 1)) := by
          rw [e1']
          show X11_rests_b105_s s24 (X11_rests_b105 s24 k) _ _ _ _ _ _ _ _ _ _ _ = _
          unfold X11_rests_b105_s X11_rests_b137
          rw [if_neg (show ¬ nI n ≤ nI i from nI_ge (by omega) (by omega)), if_neg c10, a1, bnd2_k, if_neg (ix_ok (show i < 10 by omega) (by omega)), nI_clamp (by omega), a2.2.2.2 i (by omega), nI_1]
        by_cases h : wn law share pot b (fun y => (dg n c).count y) ((dg n c).getD i 0) = (dg n c).getD i 0
        · refine ⟨(g', 1), ⟨a2, Or.inl ⟨rfl, fun j hj => ?_⟩⟩, ?_⟩
          · by_cases q : j = i
            · subst q; exact h
            · exact hI j (by omega)
          · show X11_rests_b105 s24 (k + 1) _ _ _ _ _ g _ _ _ _ _ = _
            rw [unf, if_pos (by rw [h])]
        · refine ⟨(g', 0), ⟨a2, Or.inr ⟨rfl, fun q => h (hAR.mp q i hi)⟩⟩, ?_⟩
          show X11_rests_b105 s24 (k + 1) _ _ _ _ _ g _ _ _ _ _ = _
          rw [unf, if_neg (fun q => h ((nI_eq (by omega) (by omega)).mp q))]
      · right
        have e1' : fl2 = 0 := e1
        refine ⟨g, ?_⟩
        show X11_rests_b105 s24 (k + 1) _ _ _ _ _ g _ _ _ fl2 _ = _
        rw [e1', fin0 k g i hI]
    · rintro k ⟨g, fl2⟩ ⟨hP, hI⟩
      refine ⟨g, ?_⟩
      show X11_rests_b105 s24 (k + 1) _ _ _ _ _ g _ _ _ fl2 _ = _
      rcases hI with ⟨e1, hI⟩ | ⟨e1, hI⟩
      · have e1' : fl2 = 1 := e1
        rw [e1']
        have h1 : AR law share pot b (fun y => (dg n c).count y) = 1 := if_pos (hAR.mpr hI)
        show X11_rests_b105_s s24 (X11_rests_b105 s24 k) _ _ _ _ _ _ _ _ _ _ _ = _
        unfold X11_rests_b105_s X11_rests_b145 X11_rests_b156
        rw [if_pos (show nI n ≤ nI n from nI_le (Nat.le_refl _) (by omega)), if_neg c10, nI_1, nI_1, h1]
      · have e1' : fl2 = 0 := e1
        rw [e1', fin0 k g n hI]
theorem reM_spec {law share pot b n : Nat} (hl : law ≤ 2) (hs : share ≤ 1) (hpot : pot ≤ 999) (hb : b < 1024) (hn : n < 5) (row : Nat → Int32) : ∃ row', X11_rests_b24 fU (nI b) (nI law) (nI share) (nI pot) (nI n) row (nI n) 0 0 = some (nI (SW b (AR law share pot b) 0 n (fun _ => 0)), nI n, row') := by
  have hK : 10 ^ n ≤ 10000 := by
    have : 10 ^ n ≤ 10 ^ 4 := Nat.pow_le_pow_right (by decide) (by omega)
    exact this
  have hsum : sr (10 ^ n) (fun c => gm law share pot b (dg n c)) = SW b (AR law share pot b) 0 n (fun _ => 0) := by
    rw [← sum_dg]
    apply sr_congr
    intro c _
    rw [gdw_eq]
    unfold gm
    have : (fun y => 0 + (dg n c).count y) = (fun y => (dg n c).count y) := by funext y; rw [Nat.zero_add]
    rw [this]
  rw [← hsum]
  have pw2 := powM_spec 10 (by omega) n (by omega)
  refine lupR (fun c g => True) (fun k c g => X11_rests_b24 k (nI b) (nI law) (nI share) (nI pot) (nI n) g (nI n) (nI (sr c (fun c => gm law share pot b (dg n c)))) (nI c)) (10 ^ n) (fun r => ∃ row', r = some (nI (sr (10 ^ n) (fun c => gm law share pot b (dg n c))), nI n, row')) ?_ ?_ fU 0 row (Nat.zero_le _) (fU_gt (by omega)) trivial
  · intro k c g hc _
    left
    obtain ⟨g', p1⟩ := reM_row (s0 := sr c (fun c => gm law share pot b (dg n c))) (X11_rests_b24 k) hl hs hpot hb hn (show c < 10000 by omega) g
    refine ⟨g', trivial, ?_⟩
    show X11_rests_b24_s (X11_rests_b24 k) _ _ _ _ _ _ _ _ _ = _
    unfold X11_rests_b24_s
    rw [show (10 : Int32) = nI 10 from rfl, pw2, bnd1_k, if_neg (show ¬ (0 : Int32) ≤ lg_cmp (nI c).toInt64 (lN (10 ^ n)) by
      rw [lg_cmp_ge, nI_l (by omega)]
      intro q
      have := (pk_lLE (by omega) (by omega)).mp q
      omega), p1, sr_s]
  · intro k g _
    refine ⟨g, ?_⟩
    show X11_rests_b24_s (X11_rests_b24 k) _ _ _ _ _ _ _ _ _ = _
    unfold X11_rests_b24_s
    rw [show (10 : Int32) = nI 10 from rfl, pw2, bnd1_k, if_pos (show (0 : Int32) ≤ lg_cmp (nI (10 ^ n)).toInt64 (lN (10 ^ n)) by
      rw [lg_cmp_ge, nI_l (by omega)]
      exact (pk_lLE (by omega) (by omega)).mpr (Nat.le_refl _))]
theorem J_rests {law share pot b : Nat} (hR : RU law share pot b) (n : Int32) (now : Nat → Int32) (rm : Int32) (row : Nat → Int32) : ∃ r now' rm' row', X10_rests (nI law) (nI share) (nI pot) (nI b) now n = some (r, now') ∧ X11_rests (nI b) (nI law) (nI share) (nI pot) rm row n = some (r, rm', row') := by
  obtain ⟨hl, hs, hpot, hb, ho⟩ := hR
  have c10 : ¬ (1 : Int32) = 0 := by decide
  unfold X10_rests X11_rests
  rw [in_spec]
  have e0 : (0 : Int64).toInt = 0 := rfl
  have e9 : (4 : Int64).toInt = 4 := rfl
  rw [e0, e9]
  by_cases h0 : 0 ≤ n.toInt ∧ n.toInt < 5
  · obtain ⟨j, hj, -, rfl⟩ := person_nat (n := 5) h0
    simp only [if_pos (show 0 ≤ (nI j).toInt ∧ (nI j).toInt ≤ 4 by omega), if_neg c10]
    obtain ⟨f', p1, -⟩ := rrC_spec hl hs hpot hb 10 0 j (fun _ => 0) (fillI 10 now 0) (by omega) hj (fun x _ => rfl) (fun x hx => by unfold fillI; rw [if_pos (by omega)]; rfl) (fun x hx => by omega)
    obtain ⟨row', p2⟩ := reM_spec hl hs hpot hb hj row
    have p1' : X3_restingRows 12 (nI law) (nI share) (nI pot) (nI b) (fillI 10 now 0) 0 (nI j) = some (nI (SW b (AR law share pot b) 0 j (fun _ => 0)), f') := p1
    unfold X3_rowsAtRest
    rw [if_neg (show ¬ nI j < 0 from nI_pos (by omega)), if_pos (show nI j ≤ 4 from nI_le (b := 4) (by omega) (by omega)), p1', bnd2_k, bnd2_k, p2]
    exact ⟨_, _, _, _, rfl, rfl⟩
  · simp only [if_neg (show ¬ (0 ≤ n.toInt ∧ n.toInt ≤ 4) by omega), if_true]
    by_cases h3 : n < 0
    · simp only [if_pos h3]
      exact ⟨_, _, _, _, rfl, rfl⟩
    · have c4 : ¬ n ≤ (4 : Int32) := by
        rw [z_le]; rw [z_lt] at h3
        have z0 : (0 : Int32).toInt = 0 := rfl
        have z9 : (4 : Int32).toInt = 4 := rfl
        omega
      simp only [if_neg h3, if_neg c4]
      exact ⟨_, _, _, _, rfl, rfl⟩
