/-! agreed -/
def TF (told : Nat → Nat) (f : Nat → Int32) : Prop := ∀ d, d < 10 → told d < 900 ∧ f d = nI (told d)
theorem TF_ad {told : Nat → Nat} {f : Nat → Int32} (h : TF told f) {d : Nat} (hd : d < 10) (hb : told d < 899) : TF (ad told d) (upd f d (f d + 1)) := by
  intro q hq
  by_cases e : q = d
  · subst e
    rw [ad_s, pk_us, (h q hq).2, nI_1]
    exact ⟨by omega, rfl⟩
  · rw [ad_n e, pk_un e]; exact h q hq
theorem TF_lt {told : Nat → Nat} {f : Nat → Int32} (h : TF told f) : ∀ d, d < 10 → told d < 1000 ∧ f d = nI (told d) := fun d hd => ⟨by have := (h d hd).1; omega, (h d hd).2⟩
theorem lfC_spec {law b n x : Nat} {told : Nat → Nat} {f : Nat → Int32} (hl : law ≤ 2) (hb : b < 1024) (hn : n < 10) (hx : x ≤ 10) (hT : TF told f) (h899 : ∀ d, d < 10 → told d < 899) (hz : ∀ d, d < 10 → bb b d ≠ 0 → told d = 0) : ∃ r f', X7_leastFrom f (nI law) (nI b) (nI x) (nI n) = some (nI r, f') ∧ ((r = 10 ∧ (∀ d, x ≤ d → d < 10 → ¬ FE law b (ad told d) 10 n) ∧ TF told f') ∨ (r < 10 ∧ x ≤ r ∧ FE law b (ad told r) 10 n ∧ (∀ d, x ≤ d → d < r → ¬ FE law b (ad told d) 10 n) ∧ TF (ad told r) f')) := by
  unfold X7_leastFrom
  have e0 : (if (0 : Int32) < nI x then nI x else 0) = nI x := by
    by_cases h : 0 < x
    · rw [if_pos (show (0 : Int32) < nI x from nI_lt (a := 0) h (by omega))]
    · have : x = 0 := by omega
      subst this; rfl
  rw [e0]
  refine lupR (fun d g => x ≤ d ∧ TF told g ∧ ∀ e, x ≤ e → e < d → ¬ FE law b (ad told e) 10 n) (fun k d g => X7_leastFrom_b7 k g (nI law) (nI b) (nI n) (nI d)) 10 (fun r => ∃ v f', r = some (nI v, f') ∧ ((v = 10 ∧ (∀ d, x ≤ d → d < 10 → ¬ FE law b (ad told d) 10 n) ∧ TF told f') ∨ (v < 10 ∧ x ≤ v ∧ FE law b (ad told v) 10 n ∧ (∀ d, x ≤ d → d < v → ¬ FE law b (ad told d) 10 n) ∧ TF (ad told v) f'))) ?_ ?_ fU x f hx (by show 10 < 100000 + _; omega) ⟨Nat.le_refl _, hT, fun e h1 h2 => by omega⟩
  · intro k d g hd hI
    obtain ⟨hxd, hg, hno⟩ := hI
    have grow : ¬ FE law b (ad told d) 10 n → ∀ e, x ≤ e → e < d + 1 → ¬ FE law b (ad told e) 10 n := by
      intro h e h1 h2
      by_cases q : e = d
      · subst q; exact h
      · exact hno e h1 (by omega)
    by_cases h : bb b d = 0
    · obtain ⟨r, p1, q1⟩ := cfC_spec (told := ad told d) hl hb hn (TF_lt (TF_ad hg hd (h899 d hd))) (fun e he hne => by
        by_cases q : e = d
        · subst q; exact absurd h hne
        · rw [ad_n q]; exact hz e he hne)
      have unf : X7_leastFrom_b7 (k + 1) g (nI law) (nI b) (nI n) (nI d) = if r = 0 then X7_leastFrom_b7 k (upd (upd g d (g d + 1)) d ((upd g d (g d + 1)) d - 1)) (nI law) (nI b) (nI n) (nI (d + 1)) else some (nI d, upd g d (g d + 1)) := by
        show X7_leastFrom_b7_s (X7_leastFrom_b7 k) _ _ _ _ _ = _
        unfold X7_leastFrom_b7_s X7_leastFrom_b57
        have hix := ix_ok (N := 10) hd (by omega)
        rw [if_neg (show ¬ (10 : Int32) ≤ nI d from nI_ge (b := 10) hd (by omega)), open_spec hb hd, if_pos h, if_neg (show ¬ (1 : Int32) = 0 by decide), if_neg hix, if_neg hix, nI_clamp (by omega), p1, bnd1_k, nI_1]
        by_cases hr : r = 0
        · rw [if_pos hr, if_pos hr, if_neg (show ¬ (nI d < 0 ∨ 10 ≤ d) from fun q => q.elim (nI_pos (by omega)) (by omega)), if_neg (show ¬ (nI d < 0 ∨ 10 ≤ d) from fun q => q.elim (nI_pos (by omega)) (by omega))]
        · rw [if_neg hr, if_neg hr]
      by_cases hr : r = 0
      · left
        refine ⟨_, ⟨by omega, ?_, grow (q1.mp hr)⟩, by rw [unf, if_pos hr]⟩
        intro q hq
        by_cases e : q = d
        · subst e
          rw [pk_us, pk_us, (hg q hq).2, nI_1, nI_pred]
          exact ⟨(hg q hq).1, rfl⟩
        · rw [pk_un e, pk_un e]; exact hg q hq
      · right
        have hF : FE law b (ad told d) 10 n := Classical.byContradiction (fun q => hr (q1.mpr q))
        refine ⟨d, upd g d (g d + 1), by rw [unf, if_neg hr], Or.inr ⟨hd, hxd, hF, hno, TF_ad hg hd (h899 d hd)⟩⟩
    · left
      refine ⟨g, ⟨by omega, hg, grow (fun hF => h (FE_open 10 n hF d hd (by rw [ad_s]; omega)))⟩, ?_⟩
      show X7_leastFrom_b7_s (X7_leastFrom_b7 k) _ _ _ _ _ = _
      unfold X7_leastFrom_b7_s X7_leastFrom_b57
      rw [if_neg (show ¬ (10 : Int32) ≤ nI d from nI_ge (b := 10) hd (by omega)), open_spec hb hd, if_neg h, if_pos rfl, nI_1]
  · intro k g hI
    refine ⟨10, g, ?_, Or.inl ⟨rfl, hI.2.2, hI.2.1⟩⟩
    show X7_leastFrom_b7_s (X7_leastFrom_b7 k) _ _ _ _ _ = _
    unfold X7_leastFrom_b7_s
    rw [if_pos (show (10 : Int32) ≤ nI 10 by decide)]
    rfl
/-- the model's search of the next number -/
theorem agM_in {law b n p i r : Nat} {told : Nat → Nat} {tf : Nat → Int32} (s50 : Int32 → Int32 → Int32 → (Nat → Int32) → (Nat → Int32) → (Nat → Int32) → Int32 → Int32 → Int32 → Option (Int32 × (Nat → Int32) × (Nat → Int32) × (Nat → Int32))) (hl : law ≤ 2) (hb : b < 1024) (hn : n < 10) (hr : r < 10) (hT : TF told tf) (h899 : ∀ d, d < 10 → told d < 899) (hF : FE law b (ad told r) 10 n) (hno : ∀ d, d < r → ¬ FE law b (ad told d) 10 n) (least thn : Nat → Int32) : ∃ least' thn' tf', X11_agreed_b68 s50 fU (nI n) (nI b) (nI law) least thn (upd tf 0 (tf 0 + 1)) (nI p) (nI i) 0 = s50 (nI n) (nI b) (nI law) least' thn' tf' (nI p) (nI r) (nI (i + 1)) ∧ TF (ad told r) tf' := by
  refine lupR (σ := (Nat → Int32) × (Nat → Int32) × (Nat → Int32)) (fun d s => TF (ad told d) s.2.2) (fun k d s => X11_agreed_b68 s50 k (nI n) (nI b) (nI law) s.1 s.2.1 s.2.2 (nI p) (nI i) (nI d)) r (fun z => ∃ least' thn' tf', z = s50 (nI n) (nI b) (nI law) least' thn' tf' (nI p) (nI r) (nI (i + 1)) ∧ TF (ad told r) tf') ?_ ?_ fU 0 (least, thn, upd tf 0 (tf 0 + 1)) (by omega) (fU_gt (by omega)) (TF_ad hT (by omega) (h899 0 (by omega)))
  · intro k d s hd hI
    left
    obtain ⟨v, l', t', p1, q1⟩ := cbM_spec hl hb hn (TF_lt hI) s.1 s.2.1
    refine ⟨(l', t', upd (upd s.2.2 d (s.2.2 d - 1)) (d + 1) ((upd s.2.2 d (s.2.2 d - 1)) (d + 1) + 1)), ?_, ?_⟩
    · intro q hq
      have hs : TF (ad told d) s.2.2 := hI
      show ad told (d + 1) q < 900 ∧ upd (upd s.2.2 d (s.2.2 d - 1)) (d + 1) ((upd s.2.2 d (s.2.2 d - 1)) (d + 1) + 1) q = nI (ad told (d + 1) q)
      by_cases e1 : q = d + 1
      · subst e1
        rw [ad_s, pk_us, pk_un (by omega), (hs _ hq).2, ad_n (by omega), nI_1]
        have := h899 (d + 1) hq
        exact ⟨by omega, rfl⟩
      · rw [ad_n e1, pk_un e1]
        by_cases e2 : q = d
        · subst e2
          rw [pk_us, (hs _ hq).2, ad_s, nI_pred]
          have := h899 q hq
          exact ⟨by omega, rfl⟩
        · rw [pk_un e2]
          have := hs q hq
          rw [ad_n e2] at this
          exact this
    · show X11_agreed_b68_s s50 (X11_agreed_b68 s50 k) _ _ _ _ _ _ _ _ _ = _
      unfold X11_agreed_b68_s
      have hix : ¬ (nI d < 0 ∨ 10 ≤ (nI d).toNatClampNeg) := ix_ok (by omega) (by omega)
      have hix2 : ¬ (nI (d + 1) < 0 ∨ 10 ≤ (nI (d + 1)).toNatClampNeg) := ix_ok (by omega) (by omega)
      rw [p1, bnd3_k, if_pos (q1.mpr (hno d hd)), nI_1, if_neg hix, if_neg hix, if_neg hix2, if_neg hix2, nI_clamp (show d < 2 ^ 31 by omega), nI_clamp (show d + 1 < 2 ^ 31 by omega)]
  · intro k s hI
    obtain ⟨v, l', t', p1, q1⟩ := cbM_spec hl hb hn (TF_lt hI) s.1 s.2.1
    refine ⟨l', t', s.2.2, ?_, hI⟩
    show X11_agreed_b68_s s50 (X11_agreed_b68 s50 k) _ _ _ _ _ _ _ _ _ = _
    unfold X11_agreed_b68_s X11_agreed_b107
    rw [p1, bnd3_k, if_neg (fun q => q1.mp q hF), nI_1]
theorem sr_ad {told : Nat → Nat} {d : Nat} (hd : d < 10) : sr 10 (ad told d) = sr 10 told + 1 := by
  have := sr_upd (f := told) (g := ad told d) hd (fun i _ hne => ad_n hne)
  rw [ad_s] at this
  omega
theorem sr_el {f : Nat → Nat} {n d : Nat} (hd : d < n) : f d ≤ sr n f := by
  induction n with
  | zero => omega
  | succ n ih =>
    rw [sr_s]
    by_cases e : d = n
    · subst e; omega
    · have := ih (by omega); omega
theorem J_agreed {ps : List Nat} {size many : Int32} {nm ct sl : Nat → Int32} {law share pot b : Nat} (hR : RU law share pot b) (hC : PC ps size nm ct) (hM : PM ps many sl) (p : Int32) (needed least thn tf : Nat → Int32) : ∃ r needed' least' thn' tf', X10_agreed (nI law) (nI b) size needed p = some (r, needed') ∧ X11_agreed many (nI b) (nI law) least thn tf p = some (r, least', thn', tf') := by
  obtain ⟨hl, hs, hpot, hb, ho⟩ := hR
  have hn := hM.1
  have c10 : ¬ (1 : Int32) = 0 := by decide
  unfold X10_agreed X11_agreed X5_size
  rw [hC.1.2.2.1, has_spec hn, hM.2.2.1, isPerson_spec hn]
  by_cases h0 : 0 ≤ p.toInt ∧ p.toInt < ps.length
  · obtain ⟨j, hj, -, rfl⟩ := person_nat h0
    simp only [if_pos h0, if_neg c10]
    -- the model starts with nothing told
    have st : ∃ tf0, TF (fun _ => 0) tf0 ∧ X11_agreed_b12 fU (nI ps.length) (nI b) (nI law) least thn tf (nI j) 0 = X11_agreed_b31 (nI ps.length) (nI b) (nI law) least thn tf0 (nI j) := by
      refine lupR (fun i g => ∀ q, q < i → g q = nI 0) (fun k i g => X11_agreed_b12 k (nI ps.length) (nI b) (nI law) least thn g (nI j) (nI i)) 10 (fun z => ∃ tf0, TF (fun _ => 0) tf0 ∧ z = X11_agreed_b31 (nI ps.length) (nI b) (nI law) least thn tf0 (nI j)) ?_ ?_ fU 0 tf (by omega) (fU_gt (by omega)) (fun q hq => absurd hq (Nat.not_lt_zero q))
      · intro k i g hi hI
        left
        refine ⟨upd g i (nI 0), fun q hq => ?_, ?_⟩
        · by_cases e : q = i
          · subst e; rw [pk_us]
          · rw [pk_un e]; exact hI q (by omega)
        · show X11_agreed_b12_s (X11_agreed_b12 k) _ _ _ _ _ _ _ _ = _
          unfold X11_agreed_b12_s
          rw [if_neg (show ¬ (10 : Int32) ≤ nI i from nI_ge (b := 10) hi (by omega)), if_neg (ix_ok hi (by omega)), nI_clamp (by omega), nI_1]
          rfl
      · intro k g hI
        refine ⟨g, fun d hd => ⟨by show 0 < 900; omega, hI d hd⟩, ?_⟩
        show X11_agreed_b12_s (X11_agreed_b12 k) _ _ _ _ _ _ _ _ = _
        unfold X11_agreed_b12_s
        rw [if_pos (show (10 : Int32) ≤ nI 10 by decide)]
    obtain ⟨tf0, hT0, est⟩ := st
    obtain ⟨v, l0, t0, pv, qv⟩ := cbM_spec hl hb (show ps.length < 10 by omega) (TF_lt hT0) least thn
    have hTC : TF (fun _ => 0) (fillI 10 needed 0) := fun d hd => ⟨by show 0 < 900; omega, by unfold fillI; rw [if_pos (by omega)]; rfl⟩
    rw [est]
    unfold X11_agreed_b31 X7_firstAllRight
    rw [pv, bnd3_k]
    by_cases hF : FE law b (fun _ => 0) 10 ps.length
    · rw [if_neg (fun q => qv.mp q hF)]
      have key := lupR (σ := (Nat → Nat) × Nat × (Nat → Int32) × (Nat → Int32) × (Nat → Int32) × (Nat → Int32) × Int32)
        (fun i s => s.2.1 < 10 ∧ TF s.1 s.2.2.1 ∧ TF s.1 s.2.2.2.2.2.1 ∧ FE law b s.1 10 ps.length ∧ sr 10 s.1 = i ∧ (∀ d, d < s.2.1 → ¬ FE law b (ad s.1 d) 10 ps.length) ∧ (0 < i → s.2.2.2.2.2.2 = nI s.2.1))
        (fun k i s => (X7_firstAllRight_b14 k s.2.2.1 (nI law) (nI b) (nI j) (nI ps.length) (nI s.2.1) (nI i), X11_agreed_b50 k (nI ps.length) (nI b) (nI law) s.2.2.2.1 s.2.2.2.2.1 s.2.2.2.2.2.1 (nI j) s.2.2.2.2.2.2 (nI i)))
        (j + 1) (fun z => ∃ r needed' least' thn' tf', z.1 = some (r, needed') ∧ z.2 = some (r, least', thn', tf')) ?_ ?_ fU 0 (fun _ => 0, 0, fillI 10 needed 0, l0, t0, tf0, -9) (by omega) (fU_gt (by omega)) ⟨by show 0 < 10; omega, hTC, hT0, hF, sr_zero 10, fun d hd => absurd hd (Nat.not_lt_zero d), fun h => absurd h (Nat.lt_irrefl 0)⟩
      · obtain ⟨r, n', l', t', f', k1, k2⟩ := key
        have k1' : X7_firstAllRight_b14 fU (fillI 10 needed 0) (nI law) (nI b) (nI j) (nI ps.length) 0 0 = some (r, n') := k1
        have k2' : X11_agreed_b50 fU (nI ps.length) (nI b) (nI law) l0 t0 tf0 (nI j) (-9) 0 = some (r, l', t', f') := k2
        rw [k1', k2', bnd2_k]
        exact ⟨_, _, _, _, _, rfl, rfl⟩
      · rintro k i ⟨told, x, f, l, t, tf1, y⟩ hi ⟨hx, hf, htf, hFE, hsum, hno, -⟩
        left
        have h899 : ∀ d, d < 10 → told d < 899 := fun d hd => by
          have := sr_el (f := told) hd
          have e : sr 10 told = i := hsum
          omega
        have hz : ∀ d, d < 10 → bb b d ≠ 0 → told d = 0 := fun d hd hne => by
          by_cases q : told d = 0
          · exact q
          · exact absurd (FE_open 10 _ hFE d hd (Nat.pos_of_ne_zero q)) hne
        obtain ⟨r, f', p1, q1⟩ := lfC_spec (x := x) hl hb (show ps.length < 10 by omega) (by have : x < 10 := hx; omega) hf h899 hz
        obtain ⟨d0, hd0, hd1⟩ := FE_next 10 ps.length hFE (by have e : sr 10 told = i := hsum; omega)
        have hr : r < 10 ∧ FE law b (ad told r) 10 ps.length ∧ (∀ d, d < r → ¬ FE law b (ad told d) 10 ps.length) ∧ TF (ad told r) f' := by
          rcases q1 with ⟨-, hn1, -⟩ | ⟨h1, h2, h3, h4, h5⟩
          · exfalso
            by_cases hc : d0 < x
            · exact hno d0 hc hd1
            · exact hn1 d0 (by omega) hd0 hd1
          · refine ⟨h1, h3, fun d hd => ?_, h5⟩
            by_cases hc : d < x
            · exact hno d hc
            · exact h4 d (by omega) hd
        obtain ⟨hr1, hr2, hr3, hr4⟩ := hr
        obtain ⟨l', t', tf', a1, a2⟩ := agM_in (p := j) (i := i) (X11_agreed_b50 k) hl hb (show ps.length < 10 by omega) hr1 htf h899 hr2 hr3 l t
        refine ⟨(ad told r, r, f', l', t', tf', nI r), ⟨hr1, hr4, a2, hr2, ?_, fun d hd hq => ?_, fun _ => rfl⟩, ?_⟩
        · show sr 10 (ad told r) = i + 1
          rw [sr_ad hr1]; have e : sr 10 told = i := hsum; omega
        · refine hr3 d hd (FE_mono 10 _ (fun e he => ?_) hq)
          show ad told d e ≤ ad (ad told r) d e
          unfold ad; omega
        · show (X7_firstAllRight_b14_s (X7_firstAllRight_b14 k) _ _ _ _ _ _ _, X11_agreed_b50_s (X11_agreed_b50 k) _ _ _ _ _ _ _ _ _) = _
          unfold X7_firstAllRight_b14_s X11_agreed_b50_s
          have z0 : (0 : Int32).toNatClampNeg = 0 := rfl
          rw [if_neg (show ¬ nI j < nI i from nI_nlt (by omega) (by omega)), if_neg (show ¬ nI ps.length ≤ nI i from nI_ge (by omega) (by omega)), p1, bnd2_k, nI_1, if_neg (show ¬ nI j < nI i from nI_nlt (by omega) (by omega)), if_neg (show ¬ ((0 : Int32) < 0 ∨ 10 ≤ (0 : Int32).toNatClampNeg) by decide), if_neg (show ¬ ((0 : Int32) < 0 ∨ 10 ≤ (0 : Int32).toNatClampNeg) by decide), z0, a1]
      · rintro k ⟨told, x, f, l, t, tf1, y⟩ ⟨hx, hf, htf, hFE, hsum, hno, hy⟩
        have hy1 : y = nI x := hy (by omega)
        have hx1 : x < 10 := hx
        refine ⟨nI x, f, l, t, tf1, ?_, ?_⟩
        · show X7_firstAllRight_b14_s (X7_firstAllRight_b14 k) _ _ _ _ _ _ _ = _
          unfold X7_firstAllRight_b14_s X7_firstAllRight_b42
          rw [if_pos (show nI j < nI (j + 1) from nI_lt (by omega) (by omega)), if_neg (show ¬ (10 : Int32) ≤ nI x from nI_ge (b := 10) hx1 (by omega))]
        · show X11_agreed_b50_s (X11_agreed_b50 k) _ _ _ _ _ _ _ _ _ = _
          unfold X11_agreed_b50_s
          rw [if_pos (show nI j < nI (j + 1) from nI_lt (by omega) (by omega))]
          show some (y, l, t, tf1) = _
          rw [hy1]
    · rw [if_pos (qv.mpr hF)]
      have key : ∃ n', X7_firstAllRight_b14 fU (fillI 10 needed 0) (nI law) (nI b) (nI j) (nI ps.length) 0 0 = some (-9, n') := by
        refine lupR (σ := (Nat → Int32) × Nat) (fun i s => TF (fun _ => 0) s.1 ∧ s.2 ≤ 10 ∧ (0 < i → s.2 = 10)) (fun k i s => X7_firstAllRight_b14 k s.1 (nI law) (nI b) (nI j) (nI ps.length) (nI s.2) (nI i)) (j + 1) (fun z => ∃ n', z = some (-9, n')) ?_ ?_ fU 0 (fillI 10 needed 0, 0) (by omega) (fU_gt (by omega)) ⟨hTC, by show 0 ≤ 10; omega, fun h => absurd h (Nat.lt_irrefl 0)⟩
        · rintro k i ⟨f, x⟩ hi ⟨hf, hx, -⟩
          left
          obtain ⟨r, f', p1, q1⟩ := lfC_spec (x := x) hl hb (show ps.length < 10 by omega) hx hf (fun d hd => by show 0 < 899; omega) (fun d hd _ => rfl)
          have hr : r = 10 ∧ TF (fun _ => 0) f' := by
            rcases q1 with ⟨h1, -, h3⟩ | ⟨-, -, h3, -⟩
            · exact ⟨h1, h3⟩
            · exact absurd (FE_mono 10 _ (fun d hd => Nat.zero_le _) h3) hF
          refine ⟨(f', r), ⟨hr.2, by show r ≤ 10; omega, fun _ => hr.1⟩, ?_⟩
          show X7_firstAllRight_b14_s (X7_firstAllRight_b14 k) _ _ _ _ _ _ _ = _
          unfold X7_firstAllRight_b14_s
          rw [if_neg (show ¬ nI j < nI i from nI_nlt (by omega) (by omega)), if_neg (show ¬ nI ps.length ≤ nI i from nI_ge (by omega) (by omega)), p1, bnd2_k, nI_1]
        · rintro k ⟨f, x⟩ ⟨hf, hx, hx2⟩
          have hx3 : x = 10 := hx2 (by omega)
          subst hx3
          refine ⟨f, ?_⟩
          show X7_firstAllRight_b14_s (X7_firstAllRight_b14 k) _ _ _ _ _ _ _ = _
          unfold X7_firstAllRight_b14_s X7_firstAllRight_b42
          rw [if_pos (show nI j < nI (j + 1) from nI_lt (by omega) (by omega)), if_pos (show (10 : Int32) ≤ nI 10 by decide)]
      obtain ⟨n', k1⟩ := key
      rw [k1, bnd2_k]
      exact ⟨_, _, _, _, _, rfl, rfl⟩
  · simp only [if_neg h0, if_true]
    exact ⟨_, _, _, _, _, rfl, rfl⟩
