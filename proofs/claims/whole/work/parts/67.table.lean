/-! the head of a text; fault, table -/
theorem b7 : ∀ d, d < 10 → (bb 7 d = 1 ↔ d ≤ 2) := by decide
theorem b3 : ∀ d, d < 10 → (bb 3 d = 1 ↔ d ≤ 1) := by decide
theorem b1023 : ∀ d, d < 10 → bb 1023 d = 1 := by decide
theorem th1 {L : Nat} {tx : Nat → Nat} {len : Int32} {f : Nat → Int32} (hT : TX L tx len f) (h : 1 < L) (le la sh po ba si : Int32) (nu co : Nat → Int32) : ∃ la', X6_takes le la sh po ba si nu co (nI 1) (nI (tx 1)) = some (if okf L tx 1 7 then 1 else 0, le, la', sh, po, ba, si, nu, co) ∧ (okf L tx 1 7 = true → la' = nI (tx 1 - 48)) := by
  have ht := (hT.2.2 1 h).1
  unfold X6_takes X6_takes_b34 X6_takesHead X8_takeLaw
  rw [if_neg (show ¬ nI 1 = 0 by decide), if_pos (show nI 1 < 6 by decide), num48 ht, if_neg (show ¬ (6 : Int32) ≤ nI 1 by decide), if_pos (show nI 1 = 1 from rfl)]
  by_cases hf : 48 ≤ tx 1 ∧ tx 1 ≤ 57
  · have e48 : nI (tx 1) - 48 = nI (tx 1 - 48) := pk_sub (b := 48) hf.1
    rw [if_pos hf, if_neg (show ¬ (1 : Int32) = 0 by decide), e48, if_neg (nI_pos (by omega))]
    by_cases h2 : tx 1 - 48 ≤ 2
    · have ho : okf L tx 1 7 = true := okf_iff.mpr ⟨h, hf.1, hf.2, (b7 _ (by omega)).mpr h2⟩
      rw [if_neg (show ¬ (2 : Int32) < nI (tx 1 - 48) from nI_nlt (a := 2) (by omega) (by omega)), if_pos ho]
      exact ⟨_, rfl, fun _ => rfl⟩
    · have ho : ¬ okf L tx 1 7 = true := fun q => h2 ((b7 _ (by omega)).mp (okf_iff.mp q).2.2.2)
      rw [if_pos (show (2 : Int32) < nI (tx 1 - 48) from nI_lt (a := 2) (by omega) (by omega)), if_neg ho]
      exact ⟨_, rfl, fun q => absurd q ho⟩
  · have ho : ¬ okf L tx 1 7 = true := fun q => hf ⟨(okf_iff.mp q).2.1, (okf_iff.mp q).2.2.1⟩
    rw [if_neg hf, if_pos rfl, if_neg ho]
    exact ⟨_, rfl, fun q => absurd q ho⟩
theorem th2 {L : Nat} {tx : Nat → Nat} {len : Int32} {f : Nat → Int32} (hT : TX L tx len f) (h : 2 < L) (le la sh po ba si : Int32) (nu co : Nat → Int32) : ∃ sh', X6_takes le la sh po ba si nu co (nI 2) (nI (tx 2)) = some (if okf L tx 2 3 then 1 else 0, le, la, sh', po, ba, si, nu, co) ∧ (okf L tx 2 3 = true → sh' = nI (tx 2 - 48)) := by
  have ht := (hT.2.2 2 h).1
  unfold X6_takes X6_takes_b34 X6_takesHead X8_takeShare
  rw [if_neg (show ¬ nI 2 = 0 by decide), if_pos (show nI 2 < 6 by decide), num48 ht, if_neg (show ¬ (6 : Int32) ≤ nI 2 by decide), if_neg (show ¬ nI 2 = 1 by decide), if_pos (show nI 2 = 2 from rfl)]
  by_cases hf : 48 ≤ tx 2 ∧ tx 2 ≤ 57
  · have e48 : nI (tx 2) - 48 = nI (tx 2 - 48) := pk_sub (b := 48) hf.1
    rw [if_pos hf, if_neg (show ¬ (1 : Int32) = 0 by decide), e48, if_neg (nI_pos (by omega))]
    by_cases h2 : tx 2 - 48 ≤ 1
    · have ho : okf L tx 2 3 = true := okf_iff.mpr ⟨h, hf.1, hf.2, (b3 _ (by omega)).mpr h2⟩
      rw [if_neg (show ¬ (1 : Int32) < nI (tx 2 - 48) from nI_nlt (a := 1) (by omega) (by omega)), if_pos ho]
      exact ⟨_, rfl, fun _ => rfl⟩
    · have ho : ¬ okf L tx 2 3 = true := fun q => h2 ((b3 _ (by omega)).mp (okf_iff.mp q).2.2.2)
      rw [if_pos (show (1 : Int32) < nI (tx 2 - 48) from nI_lt (a := 1) (by omega) (by omega)), if_neg ho]
      exact ⟨_, rfl, fun q => absurd q ho⟩
  · have ho : ¬ okf L tx 2 3 = true := fun q => hf ⟨(okf_iff.mp q).2.1, (okf_iff.mp q).2.2.1⟩
    rw [if_neg hf, if_pos rfl, if_neg ho]
    exact ⟨_, rfl, fun q => absurd q ho⟩
theorem th3 {L : Nat} {tx : Nat → Nat} {len : Int32} {f : Nat → Int32} (hT : TX L tx len f) {j : Nat} (hj : 3 ≤ j ∧ j ≤ 5) (h : j < L) (le la sh : Int32) (x : Nat) (ba si : Int32) (nu co : Nat → Int32) : ∃ po', X6_takes le la sh (nI x) ba si nu co (nI j) (nI (tx j)) = some (if okf L tx j 1023 then 1 else 0, le, la, sh, po', ba, si, nu, co) ∧ (okf L tx j 1023 = true → po' = nI (x * 10 + (tx j - 48))) := by
  have ht := (hT.2.2 j h).1
  unfold X6_takes X6_takes_b34 X6_takesHead X8_takePotFigure
  rw [if_neg (nI_ne0 (by omega) (by omega)), if_pos (show nI j < 6 from nI_lt (b := 6) (by omega) (by omega)), num48 ht, if_neg (show ¬ (6 : Int32) ≤ nI j from nI_ge (b := 6) (by omega) (by omega)), if_neg (show ¬ nI j = 1 from fun q => by have := (nI_eq (b := 1) (by omega) (by omega)).mp q; omega), if_neg (show ¬ nI j = 2 from fun q => by have := (nI_eq (b := 2) (by omega) (by omega)).mp q; omega)]
  by_cases hf : 48 ≤ tx j ∧ tx j ≤ 57
  · have e48 : nI (tx j) - 48 = nI (tx j - 48) := pk_sub (b := 48) hf.1
    have ho : okf L tx j 1023 = true := okf_iff.mpr ⟨h, hf.1, hf.2, b1023 _ (by omega)⟩
    have e10 : nI x * 10 + nI (tx j - 48) = nI (x * 10 + (tx j - 48)) := by
      rw [show (10 : Int32) = nI 10 from rfl, pk_mul, nI_add]
    rw [if_pos hf, if_neg (show ¬ (1 : Int32) = 0 by decide), e48, e10, if_pos ho]
    exact ⟨_, rfl, fun _ => rfl⟩
  · have ho : ¬ okf L tx j 1023 = true := fun q => hf ⟨(okf_iff.mp q).2.1, (okf_iff.mp q).2.2.1⟩
    rw [if_neg hf, if_pos rfl, if_neg ho]
    exact ⟨_, rfl, fun q => absurd q ho⟩
def hdf (L : Nat) (tx : Nat → Nat) : Option Nat := if 0 < L ∧ tx 0 = 84 then (if okf L tx 1 7 then (if okf L tx 2 3 then (if okf L tx 3 1023 then (if okf L tx 4 1023 then (if okf L tx 5 1023 then none else some 5) else some 4) else some 3) else some 2) else some 1) else some 0
def ptx (tx : Nat → Nat) : Nat := ((0 * 10 + (tx 3 - 48)) * 10 + (tx 4 - 48)) * 10 + (tx 5 - 48)
def ful (L : Nat) (tx : Nat → Nat) : Option Nat × Nat × List Nat := match hdf L tx with | some j => (some j, 0, []) | none => prs L tx 20 6 0 []
theorem GD_0 : GD 0 [] := ⟨by decide, by decide, by simp, fun x hx => by simp at hx⟩
theorem C_head {L : Nat} {tx : Nat → Nat} {len : Int32} {f : Nat → Int32} (hT : TX L tx len f) (le si : Int32) (nu co : Nat → Int32) (hC : PC [] si nu co) : ∃ le' la' sh' po' b' si' nu' co', X6_firstFault_b21 fU le 0 0 0 0 si nu co len f (nI L) 0 = some (encF (ful L tx).1, le', la', sh', po', b', si', nu', co') ∧ ((ful L tx).1 = none → la' = nI (tx 1 - 48) ∧ sh' = nI (tx 2 - 48) ∧ po' = nI (ptx tx) ∧ b' = nI (ful L tx).2.1 ∧ PC (ful L tx).2.2 si' nu' co') := by
  have hL := hT.1
  have c10 : ¬ (1 : Int32) = 0 := by decide
  have z0 : (0 : Int32) = nI 0 := rfl
  rw [show fU = 99999 + 1 from rfl]
  unfold ful hdf
  by_cases h0 : 0 < L
  · rw [z0, cls_step hT h0]
    have t0 : X6_takes le (nI 0) (nI 0) (nI 0) (nI 0) si nu co (nI 0) (nI (tx 0)) = some (if tx 0 = 84 then 1 else 0, le, nI 0, nI 0, nI 0, nI 0, si, nu, co) := by
      unfold X6_takes
      rw [if_pos (show nI 0 = 0 from rfl)]
      have ht := (hT.2.2 0 h0).1
      by_cases h84 : tx 0 = 84
      · rw [if_pos h84, if_pos (show nI (tx 0) = 84 by rw [h84]; rfl)]
      · rw [if_neg h84, if_neg (show ¬ nI (tx 0) = 84 from fun q => h84 ((nI_eq (b := 84) (by omega) (by omega)).mp q))]
    rw [t0, bnd9_k]
    by_cases h84 : tx 0 = 84
    · simp only [if_pos h84, if_neg c10, h84, h0, and_self, if_true]
      rw [show (99999 : Nat) = 99998 + 1 from rfl]
      by_cases l1 : 1 < L
      · rw [cls_step hT l1]
        obtain ⟨la1, p1, q1⟩ := th1 hT l1 le (nI 0) (nI 0) (nI 0) (nI 0) si nu co
        rw [p1, bnd9_k]
        by_cases o1 : okf L tx 1 7 = true
        · have q1 := q1 o1
          subst q1
          simp only [if_pos o1, if_neg c10]
          rw [show (99998 : Nat) = 99997 + 1 from rfl]
          by_cases l2 : 2 < L
          · rw [cls_step hT l2]
            obtain ⟨sh1, p2, q2⟩ := th2 hT l2 le (nI (tx 1 - 48)) (nI 0) (nI 0) (nI 0) si nu co
            rw [p2, bnd9_k]
            by_cases o2 : okf L tx 2 3 = true
            · have q2 := q2 o2
              subst q2
              simp only [if_pos o2, if_neg c10]
              rw [show (99997 : Nat) = 99996 + 1 from rfl]
              by_cases l3 : 3 < L
              · rw [cls_step hT l3]
                obtain ⟨po1, p3, q3⟩ := th3 hT (j := 3) (by omega) l3 le (nI (tx 1 - 48)) (nI (tx 2 - 48)) 0 (nI 0) si nu co
                rw [p3, bnd9_k]
                by_cases o3 : okf L tx 3 1023 = true
                · have q3 := q3 o3
                  subst q3
                  simp only [if_pos o3, if_neg c10]
                  rw [show (99996 : Nat) = 99995 + 1 from rfl]
                  by_cases l4 : 4 < L
                  · rw [cls_step hT l4]
                    obtain ⟨po2, p4, q4⟩ := th3 hT (j := 4) (by omega) l4 le (nI (tx 1 - 48)) (nI (tx 2 - 48)) (0 * 10 + (tx 3 - 48)) (nI 0) si nu co
                    rw [p4, bnd9_k]
                    by_cases o4 : okf L tx 4 1023 = true
                    · have q4 := q4 o4
                      subst q4
                      simp only [if_pos o4, if_neg c10]
                      rw [show (99995 : Nat) = 99994 + 1 from rfl]
                      by_cases l5 : 5 < L
                      · rw [cls_step hT l5]
                        obtain ⟨po3, p5, q5⟩ := th3 hT (j := 5) (by omega) l5 le (nI (tx 1 - 48)) (nI (tx 2 - 48)) ((0 * 10 + (tx 3 - 48)) * 10 + (tx 4 - 48)) (nI 0) si nu co
                        rw [p5, bnd9_k]
                        by_cases o5 : okf L tx 5 1023 = true
                        · have q5 := q5 o5
                          subst q5
                          simp only [if_pos o5, if_neg c10]
                          obtain ⟨le', b', si', nu', co', pp, qq⟩ := C_parts hT (nI (tx 1 - 48)) (nI (tx 2 - 48)) (nI (ptx tx)) 20 99994 6 0 [] le si nu co (by omega) (by omega) (by omega) (by omega) (by omega) GD_0 hC
                          refine ⟨_, _, _, _, _, _, _, _, pp, fun q => ?_⟩
                          obtain ⟨a1, a2⟩ := qq q
                          exact ⟨rfl, rfl, rfl, a1, a2⟩
                        · simp only [if_neg o5, if_true]
                          exact ⟨_, _, _, _, _, _, _, _, rfl, fun q => by cases q⟩
                      · have o5 : ¬ okf L tx 5 1023 = true := fun q => l5 (okf_iff.mp q).1
                        simp only [if_neg o5]
                        have e : (5 : Nat) = L := by omega
                        rw [show nI (4 + 1) = nI L from congrArg nI e, cls_end hT, if_pos (Or.inl (by omega)), ← e]
                        exact ⟨_, _, _, _, _, _, _, _, rfl, fun q => by cases q⟩
                    · simp only [if_neg o4, if_true]
                      exact ⟨_, _, _, _, _, _, _, _, rfl, fun q => by cases q⟩
                  · have o4 : ¬ okf L tx 4 1023 = true := fun q => l4 (okf_iff.mp q).1
                    simp only [if_neg o4]
                    have e : (4 : Nat) = L := by omega
                    rw [show nI (3 + 1) = nI L from congrArg nI e, cls_end hT, if_pos (Or.inl (by omega)), ← e]
                    exact ⟨_, _, _, _, _, _, _, _, rfl, fun q => by cases q⟩
                · simp only [if_neg o3, if_true]
                  exact ⟨_, _, _, _, _, _, _, _, rfl, fun q => by cases q⟩
              · have o3 : ¬ okf L tx 3 1023 = true := fun q => l3 (okf_iff.mp q).1
                simp only [if_neg o3]
                have e : (3 : Nat) = L := by omega
                rw [show nI (2 + 1) = nI L from congrArg nI e, cls_end hT, if_pos (Or.inl (by omega)), ← e]
                exact ⟨_, _, _, _, _, _, _, _, rfl, fun q => by cases q⟩
            · simp only [if_neg o2, if_true]
              exact ⟨_, _, _, _, _, _, _, _, rfl, fun q => by cases q⟩
          · have o2 : ¬ okf L tx 2 3 = true := fun q => l2 (okf_iff.mp q).1
            simp only [if_neg o2]
            have e : (2 : Nat) = L := by omega
            rw [show nI (1 + 1) = nI L from congrArg nI e, cls_end hT, if_pos (Or.inl (by omega)), ← e]
            exact ⟨_, _, _, _, _, _, _, _, rfl, fun q => by cases q⟩
        · simp only [if_neg o1, if_true]
          exact ⟨_, _, _, _, _, _, _, _, rfl, fun q => by cases q⟩
      · have o1 : ¬ okf L tx 1 7 = true := fun q => l1 (okf_iff.mp q).1
        simp only [if_neg o1]
        have e : (1 : Nat) = L := by omega
        rw [show nI (0 + 1) = nI L from congrArg nI e, cls_end hT, if_pos (Or.inl (by omega)), ← e]
        exact ⟨_, _, _, _, _, _, _, _, rfl, fun q => by cases q⟩
    · have hn : ¬ (0 < L ∧ tx 0 = 84) := fun q => h84 q.2
      simp only [if_neg h84, if_neg hn, if_true]
      exact ⟨_, _, _, _, _, _, _, _, rfl, fun q => by cases q⟩
  · have hn : ¬ (0 < L ∧ tx 0 = 84) := fun q => h0 q.1
    simp only [if_neg hn]
    have e : (0 : Nat) = L := by omega
    have cE := cls_end hT 99999 le 0 0 0 0 si nu co
    rw [if_pos (Or.inl (by omega)), ← e] at cE
    rw [← e]
    exact ⟨_, _, _, _, _, _, _, _, cE, fun q => by cases q⟩
theorem M_head {L : Nat} {tx : Nat → Nat} {len : Int32} {f : Nat → Int32} (hT : TX L tx len f) (m0 b0 r0 s0 p0 a0 f0 : Int32) (sl : Nat → Int32) : ∃ m' b' ru' sh' po' at' fa' sl', X11_readText m0 b0 r0 s0 p0 len a0 f0 sl f = some (encF (ful L tx).1, m', b', ru', sh', po', at', fa', sl') ∧ ((ful L tx).1 = none → ru' = nI (tx 1 - 48) ∧ sh' = nI (tx 2 - 48) ∧ po' = nI (ptx tx) ∧ b' = nI (ful L tx).2.1 ∧ PM (ful L tx).2.2 m' sl') := by
  have hL := hT.1
  have hPM : PM [] 0 sl := ⟨by simp, fun x hx => by simp at hx, rfl, fun j hj => by simp at hj⟩
  have z1 : (1 : Int32) = nI 1 := rfl
  unfold X11_readText ful hdf
  by_cases h0 : 0 < L
  · rw [if_neg (show ¬ len = 0 by rw [hT.2.1]; exact nI_ne0 h0 (by omega)), if_neg (show ¬ ((0 : Int32) < 0 ∨ 40 ≤ (0 : Int32).toNatClampNeg) by decide)]
    have e0 : f (0 : Int32).toNatClampNeg = nI (tx 0) := (hT.2.2 0 h0).2
    have ht := (hT.2.2 0 h0).1
    rw [e0]
    by_cases h84 : tx 0 = 84
    · rw [if_pos (show nI (tx 0) = 84 by rw [h84]; rfl)]
      simp only [h84, h0, and_self, if_true]
      rw [show (7 : Int32) = nI 7 from rfl, show (3 : Int32) = nI 3 from rfl, show (1023 : Int32) = nI 1023 from rfl, z1]
      by_cases o1 : okf L tx 1 7 = true
      · rw [figure_ok hT (by decide) o1, bnd3_k]
        simp only [if_pos o1]
        by_cases o2 : okf L tx 2 3 = true
        · rw [figure_ok hT (by decide) o2, bnd3_k]
          simp only [if_pos o2]
          by_cases o3 : okf L tx 3 1023 = true
          · rw [figure_ok hT (by decide) o3, bnd3_k]
            simp only [if_pos o3]
            by_cases o4 : okf L tx 4 1023 = true
            · rw [figure_ok hT (by decide) o4, bnd3_k]
              simp only [if_pos o4]
              by_cases o5 : okf L tx 5 1023 = true
              · rw [figure_ok hT (by decide) o5, bnd3_k]
                simp only [if_pos o5]
                have ep : (100 : Int32) * nI (tx 3 - 48) + (10 : Int32) * nI (tx 4 - 48) + nI (tx 5 - 48) = nI (ptx tx) := by
                  rw [show (100 : Int32) = nI 100 from rfl, show (10 : Int32) = nI 10 from rfl, pk_mul, pk_mul, nI_add, nI_add]
                  congr 1
                  unfold ptx
                  omega
                rw [ep]
                have := (okf_iff.mp o5).1
                obtain ⟨m', b', at', fa', sl', pp, qq⟩ := M_parts hT (nI (tx 1 - 48)) (nI (tx 2 - 48)) (nI (ptx tx)) 20 fU 6 0 [] 0 sl (by omega) (by omega) (by omega) (by omega) (fU_gt (by omega)) GD_0 hPM
                refine ⟨_, _, _, _, _, _, _, _, pp, fun q => ?_⟩
                obtain ⟨a1, a2⟩ := qq q
                exact ⟨rfl, rfl, rfl, a1, a2⟩
              · rw [figure_bad hT (by omega) (by decide) o5, bnd3_k, show fU = 99999 + 1 from rfl, mod_exit (by omega)]
                simp only [if_neg o5]
                exact ⟨_, _, _, _, _, _, _, _, rfl, fun q => by cases q⟩
            · rw [figure_bad hT (by omega) (by decide) o4, bnd3_k, figure_skip (by omega), bnd3_k, show fU = 99999 + 1 from rfl, mod_exit (by omega)]
              simp only [if_neg o4]
              exact ⟨_, _, _, _, _, _, _, _, rfl, fun q => by cases q⟩
          · rw [figure_bad hT (by omega) (by decide) o3, bnd3_k, figure_skip (by omega), bnd3_k, figure_skip (by omega), bnd3_k, show fU = 99999 + 1 from rfl, mod_exit (by omega)]
            simp only [if_neg o3]
            exact ⟨_, _, _, _, _, _, _, _, rfl, fun q => by cases q⟩
        · rw [figure_bad hT (by omega) (by decide) o2, bnd3_k, figure_skip (by omega), bnd3_k, figure_skip (by omega), bnd3_k, figure_skip (by omega), bnd3_k, show fU = 99999 + 1 from rfl, mod_exit (by omega)]
          simp only [if_neg o2]
          exact ⟨_, _, _, _, _, _, _, _, rfl, fun q => by cases q⟩
      · rw [figure_bad hT (by omega) (by decide) o1, bnd3_k, figure_skip (by omega), bnd3_k, figure_skip (by omega), bnd3_k, figure_skip (by omega), bnd3_k, figure_skip (by omega), bnd3_k, show fU = 99999 + 1 from rfl, mod_exit (by omega)]
        simp only [if_neg o1]
        exact ⟨_, _, _, _, _, _, _, _, rfl, fun q => by cases q⟩
    · have hn : ¬ (0 < L ∧ tx 0 = 84) := fun q => h84 q.2
      rw [if_neg (show ¬ nI (tx 0) = 84 from fun q => h84 ((nI_eq (b := 84) (by omega) (by omega)).mp q))]
      simp only [if_neg hn]
      exact ⟨_, _, _, _, _, _, _, _, rfl, fun q => by cases q⟩
  · have hn : ¬ (0 < L ∧ tx 0 = 84) := fun q => h0 q.1
    have e : L = 0 := by omega
    rw [if_pos (show len = 0 by rw [hT.2.1, e]; rfl)]
    simp only [if_neg hn]
    exact ⟨_, _, _, _, _, _, _, _, rfl, fun q => by cases q⟩
theorem C_first {L : Nat} {tx : Nat → Nat} {len : Int32} {f : Nat → Int32} (hT : TX L tx len f) (le la sh po ba si : Int32) (nu co : Nat → Int32) : ∃ le' la' sh' po' b' si' nu' co', X6_firstFault le la sh po ba si nu co len f = some (encF (ful L tx).1, le', la', sh', po', b', si', nu', co') ∧ ((ful L tx).1 = none → la' = nI (tx 1 - 48) ∧ sh' = nI (tx 2 - 48) ∧ po' = nI (ptx tx) ∧ b' = nI (ful L tx).2.1 ∧ PC (ful L tx).2.2 si' nu' co') := by
  obtain ⟨ct0, a0, hP0⟩ := clear_spec si nu co
  unfold X6_firstFault X8_clear X9_length
  rw [bnd4_k, a0, bnd2_k]
  have h := C_head hT le 0 nu ct0 hP0
  rw [← hT.2.1] at h
  exact h
theorem J_fault {L : Nat} {tx : Nat → Nat} {lC lM : Int32} {fC fM : Nat → Int32} (hC : TX L tx lC fC) (hM : TX L tx lM fM) (le la sh po ba si : Int32) (nu co : Nat → Int32) (m0 b0 r0 s0 p0 a0 f0 : Int32) (sl : Nat → Int32) : ∃ r le' la' sh' po' b' si' nu' co' m1 b1 ru1 sh1 po1 at1 fa1 sl1, X10_fault lC fC le la sh po ba si nu co = some (r, le', la', sh', po', b', si', nu', co') ∧ X11_fault m0 b0 r0 s0 p0 lM a0 f0 sl fM = some (r, m1, b1, ru1, sh1, po1, at1, fa1, sl1) := by
  obtain ⟨le', la', sh', po', b', si', nu', co', p1, -⟩ := C_first hC le la sh po ba si nu co
  obtain ⟨m1, b1, ru1, sh1, po1, at1, fa1, sl1, p2, -⟩ := M_head hM m0 b0 r0 s0 p0 a0 f0 sl
  unfold X10_fault X11_fault
  rw [p1, p2]
  exact ⟨_, _, _, _, _, _, _, _, _, _, _, _, _, _, _, _, _, rfl, rfl⟩
theorem ful_head {L : Nat} {tx : Nat → Nat} (h : (ful L tx).1 = none) : tx 1 - 48 ≤ 2 ∧ tx 2 - 48 ≤ 1 ∧ ptx tx ≤ 999 ∧ GD (ful L tx).2.1 (ful L tx).2.2 := by
  unfold ful hdf at h ⊢
  by_cases h0 : 0 < L ∧ tx 0 = 84
  · simp only [if_pos h0] at h ⊢
    by_cases o1 : okf L tx 1 7 = true
    · simp only [if_pos o1] at h ⊢
      by_cases o2 : okf L tx 2 3 = true
      · simp only [if_pos o2] at h ⊢
        by_cases o3 : okf L tx 3 1023 = true
        · simp only [if_pos o3] at h ⊢
          by_cases o4 : okf L tx 4 1023 = true
          · simp only [if_pos o4] at h ⊢
            by_cases o5 : okf L tx 5 1023 = true
            · simp only [if_pos o5] at h ⊢
              obtain ⟨-, a1, a2, a3⟩ := okf_iff.mp o1
              obtain ⟨-, c1, c2, c3⟩ := okf_iff.mp o2
              obtain ⟨-, d1, d2, -⟩ := okf_iff.mp o3
              obtain ⟨-, e1, e2, -⟩ := okf_iff.mp o4
              obtain ⟨-, f1, f2, -⟩ := okf_iff.mp o5
              refine ⟨(b7 _ (by omega)).mp a3, (b3 _ (by omega)).mp c3, ?_, prs_good L tx 20 6 0 [] GD_0⟩
              unfold ptx; omega
            · simp only [if_neg o5] at h; cases h
          · simp only [if_neg o4] at h; cases h
        · simp only [if_neg o3] at h; cases h
      · simp only [if_neg o2] at h; cases h
    · simp only [if_neg o1] at h; cases h
  · simp only [if_neg h0] at h; cases h
theorem encF_9 {o : Option Nat} (h : ∀ j, o = some j → j ≤ 1000) : encF o = -9 ↔ o = none := by
  cases o with
  | none => exact ⟨fun _ => rfl, fun _ => rfl⟩
  | some j => exact ⟨fun q => absurd q (nI_ne9 (h j rfl)), fun q => by cases q⟩
theorem prs_le (L : Nat) (tx : Nat → Nat) : ∀ k i b ps j, (prs L tx k i b ps).1 = some j → j ≤ L := by
  intro k
  induction k with
  | zero => intro i b ps j h; cases h
  | succ k ih =>
    intro i b ps j h
    unfold prs at h
    split at h
    · cases h
    · split at h
      · split at h
        · split at h
          · exact ih _ _ _ _ h
          · exact ih _ _ _ _ h
        · cases h; omega
      · cases h; omega
theorem ful_le {L : Nat} {tx : Nat → Nat} {j : Nat} (hL : L ≤ 40) (h : (ful L tx).1 = some j) : j ≤ 1000 := by
  unfold ful at h
  split at h
  · rename_i q he
    cases h
    unfold hdf at he
    repeat' split at he
    all_goals first | (cases he; done) | (have := Option.some.inj he; omega)
  · have := prs_le L tx 20 6 0 [] j h
    omega
