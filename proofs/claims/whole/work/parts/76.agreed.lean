/-! the first row in which all are right -/
def okc (law b : Nat) (told : Nat → Nat) (d c : Nat) : Prop := told d ≤ c ∧ (c = 0 ∨ (bb b d = 0 ∧ su law d c = true))
def FE (law b : Nat) (told : Nat → Nat) : Nat → Nat → Prop
  | 0, m => m = 0
  | d + 1, m => ∃ c, c ≤ m ∧ okc law b told d c ∧ FE law b told d (m - c)
def ad (told : Nat → Nat) (d : Nat) : Nat → Nat := fun x => told x + if x = d then 1 else 0
theorem ad_s {told : Nat → Nat} {d : Nat} : ad told d d = told d + 1 := by unfold ad; rw [if_pos rfl]
theorem ad_n {told : Nat → Nat} {d x : Nat} (h : x ≠ d) : ad told d x = told x := by unfold ad; rw [if_neg h]; rfl
theorem FE_mono {law b : Nat} {t1 t2 : Nat → Nat} : ∀ D m, (∀ d, d < D → t1 d ≤ t2 d) → FE law b t2 D m → FE law b t1 D m := by
  intro D
  induction D with
  | zero => intro m _ h; exact h
  | succ D ih =>
    intro m h hf
    obtain ⟨c, h1, h2, h3⟩ := hf
    exact ⟨c, h1, ⟨Nat.le_trans (h D (by omega)) h2.1, h2.2⟩, ih _ (fun d hd => h d (by omega)) h3⟩
theorem FE_open {law b : Nat} {told : Nat → Nat} : ∀ D m, FE law b told D m → ∀ d, d < D → 0 < told d → bb b d = 0 := by
  intro D
  induction D with
  | zero => intro m _ d hd; omega
  | succ D ih =>
    intro m hf d hd hp
    obtain ⟨c, h1, h2, h3⟩ := hf
    by_cases e : d = D
    · subst e
      rcases h2 with ⟨h4, h5 | h5⟩
      · omega
      · exact h5.1
    · exact ih _ h3 d (by omega) hp
theorem FE_next {law b : Nat} {told : Nat → Nat} : ∀ D m, FE law b told D m → sr D told < m → ∃ d, d < D ∧ FE law b (ad told d) D m := by
  intro D
  induction D with
  | zero => intro m h hs; have : m = 0 := h; omega
  | succ D ih =>
    intro m hf hs
    obtain ⟨c, h1, h2, h3⟩ := hf
    rw [sr_s] at hs
    by_cases e : told D < c
    · exact ⟨D, by omega, c, h1, ⟨by rw [ad_s]; omega, h2.2⟩, FE_mono D _ (fun d hd => by rw [ad_n (by omega)]; exact Nat.le_refl _) h3⟩
    · have e2 := h2.1
      obtain ⟨d, hd, h4⟩ := ih (m - c) h3 (by omega)
      exact ⟨d, by omega, c, h1, ⟨by rw [ad_n (by omega)]; exact e2, h2.2⟩, h4⟩
/-! bits -/
def bt (x : Int32) (m : Nat) : Prop := x.toBitVec.getLsbD m = true
theorem bt_or (x y : Int32) (m : Nat) : bt (x ||| y) m ↔ bt x m ∨ bt y m := by
  unfold bt
  rw [Int32.toBitVec_or, BitVec.getLsbD_or]
  simp
theorem sh32 : ∀ k, k < 32 → ((nI k &&& 31).toBitVec.smod 32).toNat = k := by decide +kernel
theorem bt_shl (x : Int32) {c m : Nat} (hc : c < 32) (hm : m < 32) : bt (x <<< (nI c &&& 31)) m ↔ c ≤ m ∧ bt x (m - c) := by
  have e : (x <<< (nI c &&& 31)).toBitVec = x.toBitVec <<< c := by
    have h := sh32 c hc
    have : x.toBitVec <<< c = x.toBitVec <<< ((nI c &&& 31).toBitVec.smod 32).toNat := by rw [h]
    rw [this]; rfl
  unfold bt
  rw [e, BitVec.getLsbD_shiftLeft]
  simp only [hm, decide_true, Bool.true_and, Bool.and_eq_true, Bool.not_eq_true', decide_eq_false_iff_not]
  constructor
  · rintro ⟨h1, h2⟩; exact ⟨by omega, h2⟩
  · rintro ⟨h1, h2⟩; exact ⟨by omega, h2⟩
theorem bt_end (x : Int32) {n : Nat} (hn : n < 32) : ((x >>> (nI n &&& 31)) &&& (1 : Int32)) = 1 ↔ bt x n := by
  have e : (x >>> (nI n &&& 31)).toBitVec = x.toBitVec.sshiftRight n := by
    have h := sh32 n hn
    have : x.toBitVec.sshiftRight n = x.toBitVec.sshiftRight ((nI n &&& 31).toBitVec.smod 32).toNat := by rw [h]
    rw [this]; rfl
  have e1 : (1 : Int32).toBitVec = 1#32 := rfl
  unfold bt
  rw [← Int32.toBitVec_inj, Int32.toBitVec_and, e, e1]
  constructor
  · intro h
    have := congrArg (fun v => BitVec.getLsbD v 0) h
    simp only [BitVec.getLsbD_and, BitVec.getLsbD_sshiftRight] at this
    simp at this
    rw [if_pos hn] at this
    exact this
  · intro h
    apply BitVec.eq_of_getLsbD_eq
    intro i hi
    rw [BitVec.getLsbD_and, BitVec.getLsbD_one, BitVec.getLsbD_sshiftRight]
    by_cases hi0 : i = 0
    · subst hi0
      simp only [Nat.add_zero, if_pos hn, h]
      simp
    · simp [hi0]
theorem bt_1 (m : Nat) (hm : m < 32) : bt 1 m ↔ m = 0 := by
  have : ∀ m, m < 32 → ((1 : Int32).toBitVec.getLsbD m = true ↔ m = 0) := by decide +kernel
  exact this m hm
theorem bt_0 (m : Nat) : ¬ bt 0 m := by
  unfold bt
  have : (0 : Int32).toBitVec = 0#32 := rfl
  rw [this, BitVec.getLsbD_zero]
  decide
/-! the class -/
def RW (law b : Nat) (told : Nat → Nat) (d : Nat) (x : Int32) (m : Nat) : Prop := ∃ c, c ≤ m ∧ okc law b told d c ∧ bt x (m - c)
theorem mx1 {t : Nat} (ht : t < 1000) : (if (1 : Int32) < nI t then nI t else 1) = nI (max 1 t) := by
  by_cases h : 1 < t
  · rw [if_pos (show (1 : Int32) < nI t from nI_lt (a := 1) h (by omega))]; congr 1; omega
  · rw [if_neg (show ¬ (1 : Int32) < nI t from nI_nlt (b := t) (a := 1) (by omega) (by omega)), show max 1 t = 1 by omega]; rfl
theorem rwC_spec {law b d n : Nat} {told : Nat → Nat} {f : Nat → Int32} (x : Int32) (hl : law ≤ 2) (ho : bb b d = 0) (hd : d < 10) (hn : n < 10) (ht : told d < 1000) (hf : f d = nI (told d)) : ∃ y, X7_reachedWith f (nI law) (nI d) (nI n) x = some y ∧ ∀ m, m ≤ n → (bt y m ↔ RW law b told d x m) := by
  unfold X7_reachedWith X7_reachedWith_b17 X7_reachedWith_b30
  rw [num_spec, nI_toInt (by omega), if_pos (show (0 : Int) ≤ d ∧ (d : Int) < 10 by omega), if_neg (show ¬ (1 : Int32) = 0 by decide), if_neg (ix_ok hd (by omega)), nI_clamp (by omega), hf, mx1 ht]
  have main : ∀ s0 : Int32, (∀ m, m ≤ n → (bt s0 m ↔ told d = 0 ∧ bt x m)) → ∃ y, X7_reachedWith_b40 fU f (nI law) (nI d) (nI n) x s0 (nI (max 1 (told d))) = some y ∧ ∀ m, m ≤ n → (bt y m ↔ RW law b told d x m) := by
    intro s0 hs0
    have fin : ∀ y k, n < k → (∀ m, m ≤ n → (bt y m ↔ (told d = 0 ∧ bt x m) ∨ ∃ c, max 1 (told d) ≤ c ∧ c < k ∧ c ≤ m ∧ su law d c = true ∧ bt x (m - c))) → ∀ m, m ≤ n → (bt y m ↔ RW law b told d x m) := by
      intro y k hk h m hm
      rw [h m hm]
      constructor
      · rintro (⟨h1, h2⟩ | ⟨c, h1, h2, h3, h4, h5⟩)
        · exact ⟨0, by omega, ⟨by omega, Or.inl rfl⟩, h2⟩
        · exact ⟨c, h3, ⟨by omega, Or.inr ⟨ho, h4⟩⟩, h5⟩
      · rintro ⟨c, h1, ⟨h2, h3⟩, h4⟩
        by_cases hc : c = 0
        · subst hc; left; exact ⟨by omega, h4⟩
        · right
          rcases h3 with h3 | h3
          · exact absurd h3 hc
          · exact ⟨c, by omega, by omega, h1, h3.2, h4⟩
    by_cases hbig : max 1 (told d) ≤ n + 1
    · refine lupR (fun c s => max 1 (told d) ≤ c ∧ ∀ m, m ≤ n → (bt s m ↔ (told d = 0 ∧ bt x m) ∨ ∃ c', max 1 (told d) ≤ c' ∧ c' < c ∧ c' ≤ m ∧ su law d c' = true ∧ bt x (m - c'))) (fun k c s => X7_reachedWith_b40 k f (nI law) (nI d) (nI n) x s (nI c)) (n + 1) (fun r => ∃ y, r = some y ∧ ∀ m, m ≤ n → (bt y m ↔ RW law b told d x m)) ?_ ?_ fU (max 1 (told d)) s0 hbig (by show n + 1 < 100000 + _; omega) ?_
      · intro k c s hc hI
        left
        by_cases hsu : su law d c = true
        · refine ⟨s ||| (x <<< (nI c &&& 31)), ⟨by have := hI.1; omega, fun m hm => ?_⟩, ?_⟩
          · rw [bt_or, hI.2 m hm, bt_shl x (by omega) (by omega)]
            constructor
            · rintro ((h | ⟨c', h1, h2, h3⟩) | h)
              · left; exact h
              · right; exact ⟨c', h1, by omega, h3⟩
              · right; exact ⟨c, hI.1, by omega, h.1, hsu, h.2⟩
            · rintro (h | ⟨c', h1, h2, h3⟩)
              · left; left; exact h
              · by_cases e : c' = c
                · subst e; right; exact ⟨h3.1, h3.2.2⟩
                · left; right; exact ⟨c', h1, by omega, h3⟩
          · show X7_reachedWith_b40_s (X7_reachedWith_b40 k) _ _ _ _ _ _ _ = _
            unfold X7_reachedWith_b40_s X7_reachedWith_b66
            rw [if_neg (show ¬ nI n < nI c from nI_nlt (by omega) (by omega)), suits_spec hl (by omega) (by omega), if_pos hsu, if_neg (show ¬ (1 : Int32) = 0 by decide), nI_1]
        · refine ⟨s, ⟨by have := hI.1; omega, fun m hm => ?_⟩, ?_⟩
          · rw [hI.2 m hm]
            constructor
            · rintro (h | ⟨c', h1, h2, h3⟩)
              · left; exact h
              · right; exact ⟨c', h1, by omega, h3⟩
            · rintro (h | ⟨c', h1, h2, h3⟩)
              · left; exact h
              · by_cases e : c' = c
                · subst e; exact absurd h3.2.1 hsu
                · right; exact ⟨c', h1, by omega, h3⟩
          · show X7_reachedWith_b40_s (X7_reachedWith_b40 k) _ _ _ _ _ _ _ = _
            unfold X7_reachedWith_b40_s X7_reachedWith_b66
            rw [if_neg (show ¬ nI n < nI c from nI_nlt (by omega) (by omega)), suits_spec hl (by omega) (by omega), if_neg hsu, if_pos rfl, nI_1]
      · intro k s hI
        refine ⟨s, ?_, fin s (n + 1) (by omega) hI.2⟩
        show X7_reachedWith_b40_s (X7_reachedWith_b40 k) _ _ _ _ _ _ _ = _
        unfold X7_reachedWith_b40_s
        rw [if_pos (show nI n < nI (n + 1) from nI_lt (by omega) (by omega))]
      · refine ⟨Nat.le_refl _, fun m hm => ?_⟩
        rw [hs0 m hm]
        constructor
        · intro h; left; exact h
        · rintro (h | ⟨c', h1, h2, -⟩)
          · exact h
          · omega
    · refine ⟨s0, ?_, fin s0 (n + 1) (by omega) (fun m hm => ?_)⟩
      · show X7_reachedWith_b40_s (X7_reachedWith_b40 99999) _ _ _ _ _ _ _ = _
        unfold X7_reachedWith_b40_s
        rw [if_pos (show nI n < nI (max 1 (told d)) from nI_lt (by omega) (by omega))]
      · rw [hs0 m hm]
        constructor
        · intro h; left; exact h
        · rintro (h | ⟨c', h1, h2, -⟩)
          · exact h
          · omega
  by_cases h0 : told d = 0
  · rw [if_pos (show nI (told d) = 0 by rw [h0]; rfl)]
    exact main x (fun m hm => ⟨fun h => ⟨h0, h⟩, fun h => h.2⟩)
  · rw [if_neg (nI_ne0 (by omega) (by omega))]
    exact main 0 (fun m hm => ⟨fun h => absurd h (bt_0 m), fun h => absurd h.1 h0⟩)
theorem cfC_spec {law b n : Nat} {told : Nat → Nat} {f : Nat → Int32} (hl : law ≤ 2) (hb : b < 1024) (hn : n < 10) (hf : ∀ d, d < 10 → told d < 1000 ∧ f d = nI (told d)) (hz : ∀ d, d < 10 → bb b d ≠ 0 → told d = 0) : ∃ r, X7_canBeFilled f (nI law) (nI b) (nI n) = some r ∧ (r = 0 ↔ ¬ FE law b told 10 n) := by
  unfold X7_canBeFilled
  refine lupR (fun d x => ∀ m, m ≤ n → (bt x m ↔ FE law b told d m)) (fun k d x => X7_canBeFilled_b5 k f (nI law) (nI b) (nI n) x (nI d)) 10 (fun r => ∃ v, r = some v ∧ (v = 0 ↔ ¬ FE law b told 10 n)) ?_ ?_ fU 0 1 (by omega) (fU_gt (by omega)) (fun m hm => bt_1 m (by omega))
  · intro k d x hd hI
    left
    by_cases h : bb b d = 0
    · obtain ⟨y, p1, q1⟩ := rwC_spec x hl h hd hn (hf d hd).1 (hf d hd).2
      refine ⟨y, fun m hm => ?_, ?_⟩
      · rw [q1 m hm]
        constructor
        · rintro ⟨c, h1, h2, h3⟩; exact ⟨c, h1, h2, (hI (m - c) (by omega)).mp h3⟩
        · rintro ⟨c, h1, h2, h3⟩; exact ⟨c, h1, h2, (hI (m - c) (by omega)).mpr h3⟩
      · show X7_canBeFilled_b5_s (X7_canBeFilled_b5 k) _ _ _ _ _ _ = _
        unfold X7_canBeFilled_b5_s X7_canBeFilled_b31
        rw [if_neg (show ¬ (10 : Int32) ≤ nI d from nI_ge (b := 10) hd (by omega)), open_spec hb hd, if_pos h, if_neg (show ¬ (1 : Int32) = 0 by decide), p1, bnd1_k, nI_1]
    · refine ⟨x, fun m hm => ?_, ?_⟩
      · rw [hI m hm]
        constructor
        · intro h1; exact ⟨0, by omega, ⟨by rw [hz d hd h]; exact Nat.le_refl _, Or.inl rfl⟩, h1⟩
        · rintro ⟨c, h1, ⟨h2, h3⟩, h4⟩
          rcases h3 with h3 | h3
          · subst h3; exact h4
          · exact absurd h3.1 h
      · show X7_canBeFilled_b5_s (X7_canBeFilled_b5 k) _ _ _ _ _ _ = _
        unfold X7_canBeFilled_b5_s X7_canBeFilled_b31
        rw [if_neg (show ¬ (10 : Int32) ≤ nI d from nI_ge (b := 10) hd (by omega)), open_spec hb hd, if_neg h, if_pos rfl, nI_1]
  · intro k x hI
    show ∃ v, X7_canBeFilled_b5_s (X7_canBeFilled_b5 k) _ _ _ _ _ _ = _ ∧ _
    unfold X7_canBeFilled_b5_s X7_canBeFilled_b37
    rw [if_pos (show (10 : Int32) ≤ nI 10 by decide)]
    by_cases h : FE law b told 10 n
    · refine ⟨1, ?_, ⟨fun q => absurd q (by decide), fun q => absurd h q⟩⟩
      rw [if_pos ((bt_end x (by omega)).mpr ((hI n (Nat.le_refl _)).mpr h))]
    · refine ⟨0, ?_, ⟨fun _ => h, fun _ => rfl⟩⟩
      rw [if_neg (fun q => h ((hI n (Nat.le_refl _)).mp ((bt_end x (by omega)).mp q)))]
/-! the model -/
theorem cbM_in {law b d n j : Nat} {told : Nat → Nat} {tf least thn : Nat → Int32} (s32 : Int32 → Int32 → (Nat → Int32) → (Nat → Int32) → (Nat → Int32) → Int32 → Int32 → Option (Int32 × (Nat → Int32) × (Nat → Int32))) (s40 : Int32 → Int32 → (Nat → Int32) → (Nat → Int32) → (Nat → Int32) → Int32 → Int32 → Int32 → Option (Int32 × (Nat → Int32) × (Nat → Int32))) (hl : law ≤ 2) (hb : b < 1024) (hd : d < 10) (hn : n < 10) (hj : j ≤ n) (ht : told d < 1000) (hs : ∀ q, q ≤ n → (least q = 0 ↔ FE law b told d q)) (h99 : thn j = 99) : ∃ thn', X11_canBe_b61 s32 s40 fU (nI b) (nI law) least thn tf (nI n) (nI d) (nI j) (nI (told d)) = s40 (nI b) (nI law) least thn' tf (nI n) (nI d) (nI (j + 1)) ∧ (thn' j = 0 ↔ FE law b told (d + 1) j) ∧ ∀ q, q ≠ j → thn' q = thn q := by
  have fin : ∀ (y : Nat → Int32) k, j < k → (y j = 0 ↔ ∃ c, c < k ∧ c ≤ j ∧ okc law b told d c ∧ FE law b told d (j - c)) → (y j = 0 ↔ FE law b told (d + 1) j) := by
    intro y k hk h
    rw [h]
    constructor
    · rintro ⟨c, h1, h2, h3⟩; exact ⟨c, h2, h3⟩
    · rintro ⟨c, h2, h3⟩; exact ⟨c, by omega, h2, h3⟩
  by_cases hbig : told d ≤ j + 1
  · refine lupR (fun c g => told d ≤ c ∧ (g j = 0 ↔ ∃ c', c' < c ∧ c' ≤ j ∧ okc law b told d c' ∧ FE law b told d (j - c')) ∧ ∀ q, q ≠ j → g q = thn q) (fun k c g => X11_canBe_b61 s32 s40 k (nI b) (nI law) least g tf (nI n) (nI d) (nI j) (nI c)) (j + 1) (fun r => ∃ thn', r = s40 (nI b) (nI law) least thn' tf (nI n) (nI d) (nI (j + 1)) ∧ (thn' j = 0 ↔ FE law b told (d + 1) j) ∧ ∀ q, q ≠ j → thn' q = thn q) ?_ ?_ fU (told d) thn hbig (by show j + 1 < 100000 + _; omega) ⟨Nat.le_refl _, ?_, fun q _ => rfl⟩
    · intro k c g hc hI
      left
      have e1 : nI j - nI c = nI (j - c) := pk_sub (by omega)
      have hix : ¬ (nI j < 0 ∨ 11 ≤ (nI j).toNatClampNeg) := ix_ok (by omega) (by omega)
      have hix4 : ¬ (nI (j - c) < 0 ∨ 11 ≤ (nI (j - c)).toNatClampNeg) := ix_ok (by omega) (by omega)
      have c10 : ¬ (1 : Int32) = 0 := by decide
      have stay : X11_canBe_b123 s32 s40 (X11_canBe_b61 s32 s40 k) (nI b) (nI law) least g tf (nI n) (nI d) (nI j) (nI c) (nI j) = X11_canBe_b61 s32 s40 k (nI b) (nI law) least g tf (nI n) (nI d) (nI j) (nI (c + 1)) := by
        unfold X11_canBe_b123 X11_canBe_b129
        rw [if_neg hix, if_neg hix, nI_clamp (show j < 2 ^ 31 by omega), nI_1, upd_id rfl]
      have zero : X11_canBe_b129 s32 s40 (X11_canBe_b61 s32 s40 k) (nI b) (nI law) least g tf (nI n) (nI d) (nI j) (nI c) (nI j) 0 = X11_canBe_b61 s32 s40 k (nI b) (nI law) least (upd g j 0) tf (nI n) (nI d) (nI j) (nI (c + 1)) := by
        unfold X11_canBe_b129
        rw [if_neg hix, nI_clamp (show j < 2 ^ 31 by omega), nI_1]
      have no : X11_canBe_b94 s32 s40 (X11_canBe_b61 s32 s40 k) (nI b) (nI law) least g tf (nI n) (nI d) (nI j) (nI c) = X11_canBe_b61 s32 s40 k (nI b) (nI law) least g tf (nI n) (nI d) (nI j) (nI (c + 1)) := by
        unfold X11_canBe_b94 X11_canBe_b95
        rw [if_pos rfl, stay]
      have hFq := hs (j - c) (by omega)
      have yes : ∃ g', X11_canBe_b90 s32 s40 (X11_canBe_b61 s32 s40 k) (nI b) (nI law) least g tf (nI n) (nI d) (nI j) (nI c) = X11_canBe_b61 s32 s40 k (nI b) (nI law) least g' tf (nI n) (nI d) (nI j) (nI (c + 1)) ∧ (g' j = 0 ↔ g j = 0 ∨ FE law b told d (j - c)) ∧ ∀ q, q ≠ j → g' q = g q := by
        unfold X11_canBe_b90 X11_canBe_b95
        rw [if_neg c10, e1, if_neg hix4, nI_clamp (show j - c < 2 ^ 31 by omega), stay, zero]
        by_cases h : least (j - c) = 0
        · refine ⟨upd g j 0, by rw [if_pos h], ⟨fun _ => Or.inr (hFq.mp h), fun _ => pk_us⟩, fun q hq => pk_un hq⟩
        · refine ⟨g, by rw [if_neg h], ⟨fun q => Or.inl q, fun q => q.elim id (fun q => absurd (hFq.mpr q) h)⟩, fun q _ => rfl⟩
      have G1 : ∀ g' : Nat → Int32, okc law b told d c → (g' j = 0 ↔ g j = 0 ∨ FE law b told d (j - c)) → (g' j = 0 ↔ ∃ c', c' < c + 1 ∧ c' ≤ j ∧ okc law b told d c' ∧ FE law b told d (j - c')) := by
        intro g' ho h
        rw [h, hI.2.1]
        constructor
        · rintro (⟨c', h1, h2⟩ | h1)
          · exact ⟨c', by omega, h2⟩
          · exact ⟨c, by omega, by omega, ho, h1⟩
        · rintro ⟨c', h1, h2, h3, h4⟩
          by_cases e : c' = c
          · subst e; right; exact h4
          · left; exact ⟨c', by omega, h2, h3, h4⟩
      have G0 : ¬ okc law b told d c → (g j = 0 ↔ ∃ c', c' < c + 1 ∧ c' ≤ j ∧ okc law b told d c' ∧ FE law b told d (j - c')) := by
        intro ho
        rw [hI.2.1]
        constructor
        · rintro ⟨c', h1, h2⟩; exact ⟨c', by omega, h2⟩
        · rintro ⟨c', h1, h2, h3, h4⟩
          by_cases e : c' = c
          · subst e; exact absurd h3 ho
          · exact ⟨c', by omega, h2, h3, h4⟩
      obtain ⟨g', y1, y2, y3⟩ := yes
      have unf : X11_canBe_b61 s32 s40 (k + 1) (nI b) (nI law) least g tf (nI n) (nI d) (nI j) (nI c) = if nI c = 0 then X11_canBe_b90 s32 s40 (X11_canBe_b61 s32 s40 k) (nI b) (nI law) least g tf (nI n) (nI d) (nI j) (nI c) else if (if bb b d = 0 then (0 : Int32) else 1) = 0 then (if (if su law d c then (1 : Int32) else 0) = 0 then X11_canBe_b94 s32 s40 (X11_canBe_b61 s32 s40 k) (nI b) (nI law) least g tf (nI n) (nI d) (nI j) (nI c) else X11_canBe_b90 s32 s40 (X11_canBe_b61 s32 s40 k) (nI b) (nI law) least g tf (nI n) (nI d) (nI j) (nI c)) else X11_canBe_b94 s32 s40 (X11_canBe_b61 s32 s40 k) (nI b) (nI law) least g tf (nI n) (nI d) (nI j) (nI c) := by
        show X11_canBe_b61_s s32 s40 (X11_canBe_b61 s32 s40 k) _ _ _ _ _ _ _ _ _ = _
        unfold X11_canBe_b61_s
        rw [if_neg (show ¬ nI j < nI c from nI_nlt (by omega) (by omega)), bar_spec hb hd, fine_eq, suits_spec hl (by omega) (by omega)]
      by_cases hc0 : c = 0
      · subst hc0
        refine ⟨g', ⟨by have := hI.1; omega, G1 g' ⟨hI.1, Or.inl rfl⟩ y2, fun q hq => by rw [y3 q hq]; exact hI.2.2 q hq⟩, ?_⟩
        rw [unf, if_pos (show nI 0 = 0 from rfl), y1]
      · by_cases ho : bb b d = 0
        · by_cases hsu : su law d c = true
          · refine ⟨g', ⟨by have := hI.1; omega, G1 g' ⟨hI.1, Or.inr ⟨ho, hsu⟩⟩ y2, fun q hq => by rw [y3 q hq]; exact hI.2.2 q hq⟩, ?_⟩
            rw [unf, if_neg (nI_ne0 (by omega) (by omega)), if_pos ho, if_pos rfl, if_pos hsu, if_neg c10, y1]
          · refine ⟨g, ⟨by have := hI.1; omega, G0 (fun q => q.2.elim hc0 (fun z => hsu z.2)), hI.2.2⟩, ?_⟩
            rw [unf, if_neg (nI_ne0 (by omega) (by omega)), if_pos ho, if_pos rfl, if_neg hsu, if_pos rfl, no]
        · refine ⟨g, ⟨by have := hI.1; omega, G0 (fun q => q.2.elim hc0 (fun z => ho z.1)), hI.2.2⟩, ?_⟩
          rw [unf, if_neg (nI_ne0 (by omega) (by omega)), if_neg ho, if_neg c10, no]
    · intro k g hI
      refine ⟨g, ?_, fin g (j + 1) (by omega) hI.2.1, hI.2.2⟩
      show X11_canBe_b61_s s32 s40 (X11_canBe_b61 s32 s40 k) _ _ _ _ _ _ _ _ _ = _
      unfold X11_canBe_b61_s X11_canBe_b136
      rw [if_pos (show nI j < nI (j + 1) from nI_lt (by omega) (by omega)), nI_1]
    · rw [h99]
      constructor
      · intro q; exact absurd q (by decide)
      · rintro ⟨c, h1, h2, h3, -⟩; have := h3.1; omega
  · refine ⟨thn, ?_, fin thn (j + 1) (by omega) ?_, fun q _ => rfl⟩
    · show X11_canBe_b61_s s32 s40 (X11_canBe_b61 s32 s40 99999) _ _ _ _ _ _ _ _ _ = _
      unfold X11_canBe_b61_s X11_canBe_b136
      rw [if_pos (show nI j < nI (told d) from nI_lt (by omega) (by omega)), nI_1]
    · rw [h99]
      constructor
      · intro q; exact absurd q (by decide)
      · rintro ⟨c, h1, h2, h3, -⟩; have := h3.1; omega
theorem cbM_row {law b d n : Nat} {told : Nat → Nat} {tf least : Nat → Int32} (s32 : Int32 → Int32 → (Nat → Int32) → (Nat → Int32) → (Nat → Int32) → Int32 → Int32 → Option (Int32 × (Nat → Int32) × (Nat → Int32))) (hl : law ≤ 2) (hb : b < 1024) (hd : d < 10) (hn : n < 10) (ht : told d < 1000) (hf : tf d = nI (told d)) (hs : ∀ q, q ≤ n → (least q = 0 ↔ FE law b told d q)) (thn : Nat → Int32) : ∃ least' thn', X11_canBe_b40 s32 fU (nI b) (nI law) least thn tf (nI n) (nI d) 0 = s32 (nI b) (nI law) least' thn' tf (nI n) (nI (d + 1)) ∧ ∀ q, q ≤ n → (least' q = 0 ↔ FE law b told (d + 1) q) := by
  refine lupR (fun j g => ∀ q, q < j → (g q = 0 ↔ FE law b told (d + 1) q)) (fun k j g => X11_canBe_b40 s32 k (nI b) (nI law) least g tf (nI n) (nI d) (nI j)) (n + 1) (fun r => ∃ least' thn', r = s32 (nI b) (nI law) least' thn' tf (nI n) (nI (d + 1)) ∧ ∀ q, q ≤ n → (least' q = 0 ↔ FE law b told (d + 1) q)) ?_ ?_ fU 0 thn (by omega) (fU_gt (by omega)) (fun q hq => absurd hq (Nat.not_lt_zero q))
  · intro k j g hj hI
    left
    obtain ⟨g', p1, q1, q2⟩ := cbM_in (tf := tf) (thn := upd g j 99) s32 (X11_canBe_b40 s32 k) hl hb hd hn (show j ≤ n by omega) ht hs pk_us
    refine ⟨g', fun q hq => ?_, ?_⟩
    · by_cases e : q = j
      · subst e; exact q1
      · rw [q2 q e, pk_un e]; exact hI q (by omega)
    · show X11_canBe_b40_s s32 (X11_canBe_b40 s32 k) _ _ _ _ _ _ _ _ = _
      unfold X11_canBe_b40_s
      rw [if_neg (show ¬ nI n < nI j from nI_nlt (by omega) (by omega)), if_neg (ix_ok (show j < 11 by omega) (by omega)), if_neg (ix_ok (show d < 10 by omega) (by omega)), nI_clamp (show j < 2 ^ 31 by omega), nI_clamp (show d < 2 ^ 31 by omega), hf, p1]
  · intro k g hI
    have key : ∃ least', X11_canBe_b144 s32 fU (nI b) (nI law) least g tf (nI n) (nI d) 0 = s32 (nI b) (nI law) least' g tf (nI n) (nI (d + 1)) ∧ ∀ q, q ≤ n → least' q = g q := by
      refine lupR (fun i r => ∀ q, q < i → r q = g q) (fun m i r => X11_canBe_b144 s32 m (nI b) (nI law) r g tf (nI n) (nI d) (nI i)) (n + 1) (fun r => ∃ least', r = s32 (nI b) (nI law) least' g tf (nI n) (nI (d + 1)) ∧ ∀ q, q ≤ n → least' q = g q) ?_ ?_ fU 0 least (by omega) (fU_gt (by omega)) (fun q hq => absurd hq (Nat.not_lt_zero q))
      · intro m i r hi hI2
        left
        refine ⟨upd r i (g i), fun q hq => ?_, ?_⟩
        · by_cases e : q = i
          · subst e; rw [pk_us]
          · rw [pk_un e]; exact hI2 q (by omega)
        · show X11_canBe_b144_s s32 (X11_canBe_b144 s32 m) _ _ _ _ _ _ _ _ = _
          unfold X11_canBe_b144_s
          rw [if_neg (show ¬ nI n < nI i from nI_nlt (by omega) (by omega)), if_neg (ix_ok (show i < 11 by omega) (by omega)), if_neg (ix_ok (show i < 11 by omega) (by omega)), nI_clamp (by omega), nI_1]
      · intro m r hI2
        refine ⟨r, ?_, fun q hq => hI2 q (by omega)⟩
        show X11_canBe_b144_s s32 (X11_canBe_b144 s32 m) _ _ _ _ _ _ _ _ = _
        unfold X11_canBe_b144_s X11_canBe_b167
        rw [if_pos (show nI n < nI (n + 1) from nI_lt (by omega) (by omega)), nI_1]
    obtain ⟨l', p1, q1⟩ := key
    refine ⟨l', g, ?_, fun q hq => by rw [q1 q hq]; exact hI q (by omega)⟩
    show X11_canBe_b40_s s32 (X11_canBe_b40 s32 k) _ _ _ _ _ _ _ _ = _
    unfold X11_canBe_b40_s X11_canBe_b142
    rw [if_pos (show nI n < nI (n + 1) from nI_lt (by omega) (by omega)), p1]
theorem cbM_spec {law b n : Nat} {told : Nat → Nat} {tf : Nat → Int32} (hl : law ≤ 2) (hb : b < 1024) (hn : n < 10) (hf : ∀ d, d < 10 → told d < 1000 ∧ tf d = nI (told d)) (least thn : Nat → Int32) : ∃ r least' thn', X11_canBe (nI b) (nI law) least thn tf (nI n) = some (r, least', thn') ∧ (r = 0 ↔ ¬ FE law b told 10 n) := by
  unfold X11_canBe
  refine lupR (fun i g => ∀ q, q < i → (g q = 0 ↔ FE law b told 0 q)) (fun k i g => X11_canBe_b2 k (nI b) (nI law) g thn tf (nI n) (nI i)) 11 (fun r => ∃ v least' thn', r = some (v, least', thn') ∧ (v = 0 ↔ ¬ FE law b told 10 n)) ?_ ?_ fU 0 least (by omega) (fU_gt (by omega)) (fun q hq => absurd hq (Nat.not_lt_zero q))
  · intro k i g hi hI
    left
    by_cases e : i = 0
    · subst e
      refine ⟨upd g 0 0, fun q hq => ?_, ?_⟩
      · have : q = 0 := by omega
        subst this
        exact ⟨fun _ => rfl, fun _ => pk_us⟩
      · show X11_canBe_b2_s (X11_canBe_b2 k) _ _ _ _ _ _ _ = _
        unfold X11_canBe_b2_s X11_canBe_b23
        rw [if_neg (show ¬ (11 : Int32) ≤ nI 0 by decide), if_pos (show nI 0 = 0 from rfl), if_neg (ix_ok (show 0 < 11 by omega) (by omega)), nI_clamp (by omega), nI_1]
    · refine ⟨upd g i 99, fun q hq => ?_, ?_⟩
      · by_cases e2 : q = i
        · subst e2; rw [pk_us]
          exact ⟨fun q => absurd q (by decide), fun q => absurd q e⟩
        · rw [pk_un e2]; exact hI q (by omega)
      · show X11_canBe_b2_s (X11_canBe_b2 k) _ _ _ _ _ _ _ = _
        unfold X11_canBe_b2_s X11_canBe_b23
        rw [if_neg (show ¬ (11 : Int32) ≤ nI i from nI_ge (b := 11) hi (by omega)), if_neg (nI_ne0 (by omega) (by omega)), if_neg (ix_ok (show i < 11 by omega) (by omega)), nI_clamp (by omega), nI_1]
  · intro k g hI
    have key : ∃ v least' thn', X11_canBe_b32 fU (nI b) (nI law) g thn tf (nI n) 0 = some (v, least', thn') ∧ (v = 0 ↔ ¬ FE law b told 10 n) := by
      refine lupR (σ := (Nat → Int32) × (Nat → Int32)) (fun d s => ∀ q, q ≤ n → (s.1 q = 0 ↔ FE law b told d q)) (fun k d s => X11_canBe_b32 k (nI b) (nI law) s.1 s.2 tf (nI n) (nI d)) 10 (fun r => ∃ v least' thn', r = some (v, least', thn') ∧ (v = 0 ↔ ¬ FE law b told 10 n)) ?_ ?_ fU 0 (g, thn) (by omega) (fU_gt (by omega)) (fun q hq => hI q (by omega))
      · intro k d s hd hI2
        left
        obtain ⟨l', t', p1, q1⟩ := cbM_row (tf := tf) (X11_canBe_b32 k) hl hb hd hn (hf d hd).1 (hf d hd).2 hI2 s.2
        refine ⟨(l', t'), q1, ?_⟩
        show X11_canBe_b32_s (X11_canBe_b32 k) _ _ _ _ _ _ _ = _
        unfold X11_canBe_b32_s
        rw [if_neg (show ¬ (10 : Int32) ≤ nI d from nI_ge (b := 10) hd (by omega)), p1]
      · intro k s hI2
        show ∃ v least' thn', X11_canBe_b32_s (X11_canBe_b32 k) _ _ _ _ _ _ _ = _ ∧ _
        unfold X11_canBe_b32_s X11_canBe_b173
        rw [if_pos (show (10 : Int32) ≤ nI 10 by decide), if_neg (ix_ok (show n < 11 by omega) (by omega)), nI_clamp (by omega)]
        by_cases h : FE law b told 10 n
        · exact ⟨1, s.1, s.2, by rw [if_pos ((hI2 n (Nat.le_refl _)).mpr h)], ⟨fun q => absurd q (by decide), fun q => absurd h q⟩⟩
        · exact ⟨0, s.1, s.2, by rw [if_neg (fun q => h ((hI2 n (Nat.le_refl _)).mp q))], ⟨fun _ => h, fun _ => rfl⟩⟩
    obtain ⟨v, l', t', p1, p2⟩ := key
    refine ⟨v, l', t', ?_, p2⟩
    show X11_canBe_b2_s (X11_canBe_b2 k) _ _ _ _ _ _ _ = _
    unfold X11_canBe_b2_s X11_canBe_b30
    rw [if_pos (show (11 : Int32) ≤ nI 11 by decide), p1]
