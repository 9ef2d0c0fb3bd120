/-! table -/
theorem tableM_spec {l : List Nat} {rs : Nat → Int32} {m : Int32} (hP : PM l m rs) (rb rr rsh rp many ba ru sh po len at' fa ac : Int32) (sl f kp : Nat → Int32) : ∃ sl', X11_table_b54 fU m rb rr rsh rp many ba ru sh po len at' fa ac rs sl f kp 0 = some (many, m, rb, rr, rsh, rp, many, ba, ru, sh, po, at', fa, 0, rs, sl', upd (upd kp 0 0) 1 0) ∧ ∀ p, p < 9 → sl' p = rs p := by
  refine lupR (fun i g => ∀ p, p < i → g p = rs p) (fun n i g => X11_table_b54 n m rb rr rsh rp many ba ru sh po len at' fa ac rs g f kp (nI i)) 9 (fun r => ∃ sl', r = some (many, m, rb, rr, rsh, rp, many, ba, ru, sh, po, at', fa, 0, rs, sl', upd (upd kp 0 0) 1 0) ∧ ∀ p, p < 9 → sl' p = rs p) ?_ ?_ fU 0 sl (by omega) (fU_gt (by omega)) (fun p hp => absurd hp (Nat.not_lt_zero p))
  · intro n i g hi hI
    left
    refine ⟨upd g i (rs i), fun p hp => ?_, ?_⟩
    · by_cases e : p = i
      · subst e; rw [pk_us]
      · rw [pk_un e]; exact hI p (by omega)
    · show X11_table_b54_s (X11_table_b54 n) _ _ _ _ _ _ _ _ _ _ _ _ _ _ _ _ _ _ _ = _
      unfold X11_table_b54_s
      simp (disch := omega) only [zl_0, zl_1, zl_2, zl_3, zl_4, zl_5, zl_6, zl_7, zl_8, zl_9, zl_10, zl_11, zl_12, zl_15, zl_16, zl_20, zl_40, zl_48, zl_60, zl_78, zl_80, zl_84, zl_99, zl_100, zl_128, zl_160, zl_255, zl_999, zl_1000, zl_1023, nI_leI, nI_ltI, nI_eq, nI_clamp, nI_add, bnd1_k, bnd2_k, bnd3_k, bnd4_k, if_pos, if_neg, if_true, if_false, Nat.not_lt_zero, false_or, or_false]
  · intro n g hI
    refine ⟨g, ?_, hI⟩
    show X11_table_b54_s (X11_table_b54 n) _ _ _ _ _ _ _ _ _ _ _ _ _ _ _ _ _ _ _ = _
    unfold X11_table_b54_s X11_table_b78
    have en : vp_nar .boolean (0 : Int32) = 0 := by decide
    rw [if_pos (show (9 : Int32) ≤ nI 9 by decide), en, if_neg (show ¬ ((0 : Int32) < 0 ∨ 2 ≤ (0 : Int32).toNatClampNeg) by decide), if_neg (show ¬ ((1 : Int32) < 0 ∨ 2 ≤ (1 : Int32).toNatClampNeg) by decide)]
    rfl
theorem open_of {b : Nat} (h : pcn b ≤ 9) : ∃ d, d < 10 ∧ bb b d = 0 := by
  have hp : oc b 10 + pcn b = 10 := oc_pc b 10
  obtain ⟨i, h1, h2, -⟩ := oc_ex b 0 10 (by omega)
  exact ⟨i, h1, h2⟩
theorem J_table {L : Nat} {tx : Nat → Nat} {lC lM : Int32} {fC fM : Nat → Int32} (hTC : TX L tx lC fC) (hTM : TX L tx lM fM)
    {ps : List Nat} {as : List (List Nat)} {ks : Nat → Option (List Nat)} {size many aC aM next : Int32} {nm ct sl bf kp kf : Nat → Int32} {row slots : Nat → Int64} {law share pot b : Nat} (hR : RU law share pot b) (hC : PC ps size nm ct) (hM : PM ps many sl) (hok : OK b ps) (hmC : MC as aC row) (hmM : MM as aM next bf) (hA : AS b as) (hsC : SC ks slots) (hsM : SM ks kp kf) (hsA : SA b ks)
    (le la sh po ba si : Int32) (nu co : Nat → Int32) (m0 b0 r0 s0 p0 a0 f0 : Int32) (rs : Nat → Int32) :
    ∃ r law' share' pot' b' ps' as' ks' le' la' sh' po' ba' si' nu' co' size' nm' ct' aC' slots' m1 b1 ru1 sh1 po1 many' at1 fa1 aM' rs' sl' kp',
      X10_table lC fC le la sh po ba si nu co (nI law) (nI share) (nI pot) (nI b) size nm ct aC slots = some (r, le', la', sh', po', ba', si', nu', co', nI law', nI share', nI pot', nI b', size', nm', ct', aC', slots') ∧
      X11_table m0 b0 r0 s0 p0 many (nI b) (nI law) (nI share) (nI pot) lM a0 f0 aM rs sl fM kp = some (r, m1, b1, ru1, sh1, po1, many', nI b', nI law', nI share', nI pot', at1, fa1, aM', rs', sl', kp') ∧
      RU law' share' pot' b' ∧ PC ps' size' nm' ct' ∧ PM ps' many' sl' ∧ OK b' ps' ∧ MC as' aC' row ∧ MM as' aM' next bf ∧ AS b' as' ∧ SC ks' slots' ∧ SM ks' kp' kf ∧ SA b' ks' := by
  obtain ⟨le', la', sh', po', ba', si', nu', co', p1, q1⟩ := C_first hTC le la sh po ba si nu co
  obtain ⟨m1, b1, ru1, sh1, po1, at1, fa1, sl1, p2, q2⟩ := M_head hTM m0 b0 r0 s0 p0 a0 f0 rs
  have h9 := encF_9 (o := (ful L tx).1) (fun j hj => ful_le hTC.1 hj)
  unfold X10_table X11_table
  rw [p1, bnd9_k, p2, bnd9_k]
  by_cases hn : (ful L tx).1 = none
  · have e9 : encF (ful L tx).1 = -9 := h9.mpr hn
    obtain ⟨rfl, rfl, rfl, rfl, hPC⟩ := q1 hn
    obtain ⟨rfl, rfl, rfl, rfl, hPM⟩ := q2 hn
    obtain ⟨g1, g2, g3, g4⟩ := ful_head hn
    rw [if_pos e9, if_pos e9]
    have hx : ∀ x ∈ (ful L tx).2.2, x < 10 := hPM.2.1
    obtain ⟨nm1, ct1, p3, q3⟩ := unpack_spec hPC.1.1 hx size nm ct
    obtain ⟨sl2, p4, q4⟩ := tableM_spec hPM (nI (ful L tx).2.1) (nI (tx 1 - 48)) (nI (tx 2 - 48)) (nI (ptx tx)) m1 (nI (ful L tx).2.1) (nI (tx 1 - 48)) (nI (tx 2 - 48)) (nI (ptx tx)) lM at1 fa1 aM sl fM kp
    unfold X8_become X2_dropActs X2_dropSlots X5_size
    rw [bnd4_k, pack_spec hPC.1, bnd1_k, p3, bnd3_k, bnd1_k, bnd1_k, p4]
    have hm1 := hPM.2.2.1
    refine ⟨nI (ful L tx).2.2.length, tx 1 - 48, tx 2 - 48, ptx tx, (ful L tx).2.1, (ful L tx).2.2, [], fun _ => none, le', nI (tx 1 - 48), nI (tx 2 - 48), nI (ptx tx), nI (ful L tx).2.1, si', nu', co', nI (ful L tx).2.2.length, nm1, ct1, 0, fillJ 2 slots (-1), m1, nI (ful L tx).2.1, nI (tx 1 - 48), nI (tx 2 - 48), nI (ptx tx), m1, at1, fa1, 0, sl1, sl2, upd (upd kp 0 0) 1 0, rfl, ?_, ⟨g1, g2, g3, g4.1, open_of g4.2.1⟩, q3, ⟨hPM.1, hPM.2.1, hPM.2.2.1, fun j hj => by rw [q4 j (by have := hPM.1; omega)]; exact hPM.2.2.2 j hj⟩, g4.2.2, ⟨by simp, rfl, fun i hi => by simp at hi⟩, ⟨by simp, rfl, by obtain ⟨-, -, nx, hnx, en, -⟩ := hmM; exact ⟨nx, hnx, en, fun i hi => by simp at hi⟩⟩, fun l hl => by simp at hl, fun s hs => ?_, fun s hs => ⟨fun _ => ?_, fun l q => by cases q⟩, fun s l _ q => by cases q⟩
    · rw [← hm1]
    · unfold fillJ; rw [if_pos hs]; rfl
    · by_cases e1 : s = 1
      · subst e1; rw [pk_us]
      · have e0 : s = 0 := by omega
        subst e0; rw [pk_un (by decide), pk_us]
  · have e9 : ¬ encF (ful L tx).1 = -9 := fun q => hn (h9.mp q)
    rw [if_neg e9, if_neg e9]
    exact ⟨_, law, share, pot, b, ps, as, ks, _, _, _, _, _, _, _, _, _, _, _, _, _, _, _, _, _, _, _, _, _, _, _, _, _, rfl, rfl, hR, hC, hM, hok, hmC, hmM, hA, hsC, hsM, hsA⟩
