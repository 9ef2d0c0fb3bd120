/-! walks, by program: X11_figure X11_ones X11_free -/
abbrev rm_X11_figure : Room := { frames := 1, cells := 0, slots := 0, locals := 25 }
theorem in_X11_figure_X11 : ∀ w ∈ wsX110, w ∈ wsX11_figure := fun _ h => List.mem_cons_of_mem _ (List.mem_append_right _ h)
set_option maxHeartbeats 4000000 in
set_option maxRecDepth 100000 in
theorem cn_X11_figure (l : Launch) (dC : Nat → ClassId) (dI : Nat → Nat → Nat) (cI cJ cZ : ClassId) (q_t q_t_readSlips q_t_slips q_t_text q_t_row q_t_before q_t_anew q_t_sums q_t_spare q_t_least q_t_then q_t_told q_t_tens q_t_paidTo q_t_paid q_t_isKept q_t_kept : Nat) (sz : Nat) (v_t_readMany : Int32) (v_t_readBarred : Int32) (v_t_readRule : Int32) (v_t_readShare : Int32) (v_t_readPot : Int32) (v_t_many : Int32) (v_t_barred : Int32) (v_t_rule : Int32) (v_t_share : Int32) (v_t_pot : Int32) (v_t_length : Int32) (v_t_at : Int32) (v_t_faultAt : Int32) (v_t_rowMany : Int32) (v_t_acts : Int32) (v_t_next : Int32) (v_t_payments : Int32) (v_t_seed : Int64) (f_t_text : (Nat → Int32)) (p1 : Int32) (res : Int32) (r_v_t_at : Int32) (r_v_t_faultAt : Int32) (h : X11_figure v_t_length v_t_at v_t_faultAt f_t_text p1 = some (res, r_v_t_at, r_v_t_faultAt)) : Met l yX11_figure wsX11_figure rm_X11_figure (pcW dC dI cI cJ cZ [(q_t, .inr (11, [.ref q_t_readSlips, .int v_t_readMany, .int v_t_readBarred, .int v_t_readRule, .int v_t_readShare, .int v_t_readPot, .ref q_t_slips, .int v_t_many, .int v_t_barred, .int v_t_rule, .int v_t_share, .int v_t_pot, .ref q_t_text, .int v_t_length, .int v_t_at, .int v_t_faultAt, .ref q_t_row, .int v_t_rowMany, .int v_t_acts, .int v_t_next, .ref q_t_before, .ref q_t_anew, .ref q_t_sums, .ref q_t_spare, .ref q_t_least, .ref q_t_then, .ref q_t_told, .ref q_t_tens, .int v_t_payments, .ref q_t_paidTo, .ref q_t_paid, .long v_t_seed, .ref q_t_isKept, .ref q_t_kept])), (q_t_text, .inl (cI, 40, .inl f_t_text))] sz [.ref q_t, .int p1]) (va_Qi (fun (r : Int32) (_ : Unit) => r = res) (bW dC dI (va_A [(q_t, .inr (11, [.ref q_t_readSlips, .int v_t_readMany, .int v_t_readBarred, .int v_t_readRule, .int v_t_readShare, .int v_t_readPot, .ref q_t_slips, .int v_t_many, .int v_t_barred, .int v_t_rule, .int v_t_share, .int v_t_pot, .ref q_t_text, .int v_t_length, .int v_t_at, .int v_t_faultAt, .ref q_t_row, .int v_t_rowMany, .int v_t_acts, .int v_t_next, .ref q_t_before, .ref q_t_anew, .ref q_t_sums, .ref q_t_spare, .ref q_t_least, .ref q_t_then, .ref q_t_told, .ref q_t_tens, .int v_t_payments, .ref q_t_paidTo, .ref q_t_paid, .long v_t_seed, .ref q_t_isKept, .ref q_t_kept])), (q_t_text, .inl (cI, 40, .inl f_t_text))] sz) [(q_t, .inr (11, [.ref q_t_readSlips, .int v_t_readMany, .int v_t_readBarred, .int v_t_readRule, .int v_t_readShare, .int v_t_readPot, .ref q_t_slips, .int v_t_many, .int v_t_barred, .int v_t_rule, .int v_t_share, .int v_t_pot, .ref q_t_text, .int v_t_length, .int r_v_t_at, .int r_v_t_faultAt, .ref q_t_row, .int v_t_rowMany, .int v_t_acts, .int v_t_next, .ref q_t_before, .ref q_t_anew, .ref q_t_sums, .ref q_t_spare, .ref q_t_least, .ref q_t_then, .ref q_t_told, .ref q_t_tens, .int v_t_payments, .ref q_t_paidTo, .ref q_t_paid, .long v_t_seed, .ref q_t_isKept, .ref q_t_kept])), (q_t_text, .inl (cI, 40, .inl f_t_text))]) (va_A [(q_t, .inr (11, [.ref q_t_readSlips, .int v_t_readMany, .int v_t_readBarred, .int v_t_readRule, .int v_t_readShare, .int v_t_readPot, .ref q_t_slips, .int v_t_many, .int v_t_barred, .int v_t_rule, .int v_t_share, .int v_t_pot, .ref q_t_text, .int v_t_length, .int v_t_at, .int v_t_faultAt, .ref q_t_row, .int v_t_rowMany, .int v_t_acts, .int v_t_next, .ref q_t_before, .ref q_t_anew, .ref q_t_sums, .ref q_t_spare, .ref q_t_least, .ref q_t_then, .ref q_t_told, .ref q_t_tens, .int v_t_payments, .ref q_t_paidTo, .ref q_t_paid, .long v_t_seed, .ref q_t_isKept, .ref q_t_kept])), (q_t_text, .inl (cI, 40, .inl f_t_text))] sz)) 0 0 (va_A [(q_t, .inr (11, [.ref q_t_readSlips, .int v_t_readMany, .int v_t_readBarred, .int v_t_readRule, .int v_t_readShare, .int v_t_readPot, .ref q_t_slips, .int v_t_many, .int v_t_barred, .int v_t_rule, .int v_t_share, .int v_t_pot, .ref q_t_text, .int v_t_length, .int v_t_at, .int v_t_faultAt, .ref q_t_row, .int v_t_rowMany, .int v_t_acts, .int v_t_next, .ref q_t_before, .ref q_t_anew, .ref q_t_sums, .ref q_t_spare, .ref q_t_least, .ref q_t_then, .ref q_t_told, .ref q_t_tens, .int v_t_payments, .ref q_t_paidTo, .ref q_t_paid, .long v_t_seed, .ref q_t_isKept, .ref q_t_kept])), (q_t_text, .inl (cI, 40, .inl f_t_text))] sz) := by
  refine Met.ofW (cc := cX11_figure) (maxL := 3) (ret := (some .int)) (by decide) rfl ?_
  intro p e s m args below meth c s₁ B hml hv
  obtain ⟨rfl, hsz, hP, hKK, hD0⟩ := hv
  have hx := B.exec
  have hb := B.bytes
  have hr := B.returns
  have hts := atoms_spec (ws := wsX11_figure) B.pre
  have hown : s.vm.findClass RX11 = some m.cls := findClass_of_methodNamed B.named
  have hlocks := B.notSynchronized
  have hK := hKK.1
  subst hsz
  have hD := hD0.self (sz := s.heap.size)
  generalize hAe : va_A [(q_t, .inr (11, [.ref q_t_readSlips, .int v_t_readMany, .int v_t_readBarred, .int v_t_readRule, .int v_t_readShare, .int v_t_readPot, .ref q_t_slips, .int v_t_many, .int v_t_barred, .int v_t_rule, .int v_t_share, .int v_t_pot, .ref q_t_text, .int v_t_length, .int v_t_at, .int v_t_faultAt, .ref q_t_row, .int v_t_rowMany, .int v_t_acts, .int v_t_next, .ref q_t_before, .ref q_t_anew, .ref q_t_sums, .ref q_t_spare, .ref q_t_least, .ref q_t_then, .ref q_t_told, .ref q_t_tens, .int v_t_payments, .ref q_t_paidTo, .ref q_t_paid, .long v_t_seed, .ref q_t_isKept, .ref q_t_kept])), (q_t_text, .inl (cI, 40, .inl f_t_text))] s.heap.size = A at hD ⊢
  have hA : ∀ q : Nat, s.heap.size ≤ q → A q := fun q h => by rw [← hAe]; exact Or.inr h
  have hS : va_S A s.heap s.heap [] := va_S.rf
  have hl := lv_entry ([.ref q_t, .int p1]) (n := 3) (Nat.le_of_ble_eq_true rfl)
  rw [lg_entry_eq]
  generalize (lg_sl ([.ref q_t, .int p1]) ++ List.replicate (3 - (lg_sl ([.ref q_t, .int p1])).length) Slot.unset).toArray = ls at hl ⊢
  have hl : lv_has ls 3 [(0, .ref q_t), (1, .int p1)] := hl
  have B_78 : ∀ (v_t_at : Int32) (v_t_faultAt : Int32) (s1 : Int32), X11_figure_b78 v_t_length v_t_at v_t_faultAt f_t_text s1 = some (res, r_v_t_at, r_v_t_faultAt) → ∀ (H : Heap) (locs : List Loc) (ls : Array Slot), va_P (dC, dI) vwCl [(q_t, .inr (11, [.ref q_t_readSlips, .int v_t_readMany, .int v_t_readBarred, .int v_t_readRule, .int v_t_readShare, .int v_t_readPot, .ref q_t_slips, .int v_t_many, .int v_t_barred, .int v_t_rule, .int v_t_share, .int v_t_pot, .ref q_t_text, .int v_t_length, .int v_t_at, .int v_t_faultAt, .ref q_t_row, .int v_t_rowMany, .int v_t_acts, .int v_t_next, .ref q_t_before, .ref q_t_anew, .ref q_t_sums, .ref q_t_spare, .ref q_t_least, .ref q_t_then, .ref q_t_told, .ref q_t_tens, .int v_t_payments, .ref q_t_paidTo, .ref q_t_paid, .long v_t_seed, .ref q_t_isKept, .ref q_t_kept])), (q_t_text, .inl (cI, 40, .inl f_t_text))] H → va_D A [(q_t, .inr (11, [.ref q_t_readSlips, .int v_t_readMany, .int v_t_readBarred, .int v_t_readRule, .int v_t_readShare, .int v_t_readPot, .ref q_t_slips, .int v_t_many, .int v_t_barred, .int v_t_rule, .int v_t_share, .int v_t_pot, .ref q_t_text, .int v_t_length, .int v_t_at, .int v_t_faultAt, .ref q_t_row, .int v_t_rowMany, .int v_t_acts, .int v_t_next, .ref q_t_before, .ref q_t_anew, .ref q_t_sums, .ref q_t_spare, .ref q_t_least, .ref q_t_then, .ref q_t_told, .ref q_t_tens, .int v_t_payments, .ref q_t_paidTo, .ref q_t_paid, .long v_t_seed, .ref q_t_isKept, .ref q_t_kept])), (q_t_text, .inl (cI, 40, .inl f_t_text))] → va_S A s.heap H locs → lv_has ls 3 [] → W p l e (headSpec wsX11_figure rm_X11_figure).room s m ([.ref q_t, .int p1] : List Value).toArray below meth c H locs 0 0 (MQ below (va_Qi (fun (r : Int32) (_ : Unit) => r = res) (bW dC dI A [(q_t, .inr (11, [.ref q_t_readSlips, .int v_t_readMany, .int v_t_readBarred, .int v_t_readRule, .int v_t_readShare, .int v_t_readPot, .ref q_t_slips, .int v_t_many, .int v_t_barred, .int v_t_rule, .int v_t_share, .int v_t_pot, .ref q_t_text, .int v_t_length, .int r_v_t_at, .int r_v_t_faultAt, .ref q_t_row, .int v_t_rowMany, .int v_t_acts, .int v_t_next, .ref q_t_before, .ref q_t_anew, .ref q_t_sums, .ref q_t_spare, .ref q_t_least, .ref q_t_then, .ref q_t_told, .ref q_t_tens, .int v_t_payments, .ref q_t_paidTo, .ref q_t_paid, .long v_t_seed, .ref q_t_isKept, .ref q_t_kept])), (q_t_text, .inl (cI, 40, .inl f_t_text))]) A) ([.ref q_t, .int p1] : List Value).toArray s 0 0 A) (F0 m 78 ls [.int s1, .ref q_t]) := by
    intro v_t_at v_t_faultAt s1 h H locs ls hP hD hS hl
    unfold X11_figure_b78 at h
    refine va_put (D := (dC, dI)) (ci := 11) (v := .int s1) (ty := .int) (C := RX11) (T := TX11) (N := 34) hx hb hts in_X11_figure_X11 tyX11 tyX11_ok nmX11 hown hK hP hD hS 0 rfl rfl 15 (by decide) (hts (.fieldLink RX11 72 "RightIfAsManyModel" "faultAt" "I") (List.mem_of_getElem? (i := 1) rfl)) (fun _ h9 => h9) rfl (by decide +kernel) rfl rfl (Nat.le_of_ble_eq_true rfl) dX11_figure_78 (fun H locs hP hD hS => ?_)
    have hP : va_P (dC, dI) vwCl [(q_t, .inr (11, [.ref q_t_readSlips, .int v_t_readMany, .int v_t_readBarred, .int v_t_readRule, .int v_t_readShare, .int v_t_readPot, .ref q_t_slips, .int v_t_many, .int v_t_barred, .int v_t_rule, .int v_t_share, .int v_t_pot, .ref q_t_text, .int v_t_length, .int v_t_at, .int s1, .ref q_t_row, .int v_t_rowMany, .int v_t_acts, .int v_t_next, .ref q_t_before, .ref q_t_anew, .ref q_t_sums, .ref q_t_spare, .ref q_t_least, .ref q_t_then, .ref q_t_told, .ref q_t_tens, .int v_t_payments, .ref q_t_paidTo, .ref q_t_paid, .long v_t_seed, .ref q_t_isKept, .ref q_t_kept])), (q_t_text, .inl (cI, 40, .inl f_t_text))] H := hP
    have hD : va_D A [(q_t, .inr (11, [.ref q_t_readSlips, .int v_t_readMany, .int v_t_readBarred, .int v_t_readRule, .int v_t_readShare, .int v_t_readPot, .ref q_t_slips, .int v_t_many, .int v_t_barred, .int v_t_rule, .int v_t_share, .int v_t_pot, .ref q_t_text, .int v_t_length, .int v_t_at, .int s1, .ref q_t_row, .int v_t_rowMany, .int v_t_acts, .int v_t_next, .ref q_t_before, .ref q_t_anew, .ref q_t_sums, .ref q_t_spare, .ref q_t_least, .ref q_t_then, .ref q_t_told, .ref q_t_tens, .int v_t_payments, .ref q_t_paidTo, .ref q_t_paid, .long v_t_seed, .ref q_t_isKept, .ref q_t_kept])), (q_t_text, .inl (cI, 40, .inl f_t_text))] := hD
    refine lv_iconst (v := (0 : Int32)) hx hb dX11_figure_81 (by decide) ?_
    replace h := Option.some.inj h
    obtain ⟨e1, e2, e3⟩ := pr3 h
    exact W.iret (v := (0 : Int32)) hx hb hr (fun t ht hW => ⟨⟨_, (), rfl, e1, (by rw [ht, ← e2, ← e3]; exact hP), (by rw [← e2, ← e3]; exact hD)⟩, hS.F ht⟩) hS.2.2 dX11_figure_82
  have B_57 : ∀ (v_t_at : Int32) (v_t_faultAt : Int32) , X11_figure_b57 v_t_length v_t_at v_t_faultAt f_t_text = some (res, r_v_t_at, r_v_t_faultAt) → ∀ (H : Heap) (locs : List Loc) (ls : Array Slot), va_P (dC, dI) vwCl [(q_t, .inr (11, [.ref q_t_readSlips, .int v_t_readMany, .int v_t_readBarred, .int v_t_readRule, .int v_t_readShare, .int v_t_readPot, .ref q_t_slips, .int v_t_many, .int v_t_barred, .int v_t_rule, .int v_t_share, .int v_t_pot, .ref q_t_text, .int v_t_length, .int v_t_at, .int v_t_faultAt, .ref q_t_row, .int v_t_rowMany, .int v_t_acts, .int v_t_next, .ref q_t_before, .ref q_t_anew, .ref q_t_sums, .ref q_t_spare, .ref q_t_least, .ref q_t_then, .ref q_t_told, .ref q_t_tens, .int v_t_payments, .ref q_t_paidTo, .ref q_t_paid, .long v_t_seed, .ref q_t_isKept, .ref q_t_kept])), (q_t_text, .inl (cI, 40, .inl f_t_text))] H → va_D A [(q_t, .inr (11, [.ref q_t_readSlips, .int v_t_readMany, .int v_t_readBarred, .int v_t_readRule, .int v_t_readShare, .int v_t_readPot, .ref q_t_slips, .int v_t_many, .int v_t_barred, .int v_t_rule, .int v_t_share, .int v_t_pot, .ref q_t_text, .int v_t_length, .int v_t_at, .int v_t_faultAt, .ref q_t_row, .int v_t_rowMany, .int v_t_acts, .int v_t_next, .ref q_t_before, .ref q_t_anew, .ref q_t_sums, .ref q_t_spare, .ref q_t_least, .ref q_t_then, .ref q_t_told, .ref q_t_tens, .int v_t_payments, .ref q_t_paidTo, .ref q_t_paid, .long v_t_seed, .ref q_t_isKept, .ref q_t_kept])), (q_t_text, .inl (cI, 40, .inl f_t_text))] → va_S A s.heap H locs → lv_has ls 3 [(0, .ref q_t)] → W p l e (headSpec wsX11_figure rm_X11_figure).room s m ([.ref q_t, .int p1] : List Value).toArray below meth c H locs 0 0 (MQ below (va_Qi (fun (r : Int32) (_ : Unit) => r = res) (bW dC dI A [(q_t, .inr (11, [.ref q_t_readSlips, .int v_t_readMany, .int v_t_readBarred, .int v_t_readRule, .int v_t_readShare, .int v_t_readPot, .ref q_t_slips, .int v_t_many, .int v_t_barred, .int v_t_rule, .int v_t_share, .int v_t_pot, .ref q_t_text, .int v_t_length, .int r_v_t_at, .int r_v_t_faultAt, .ref q_t_row, .int v_t_rowMany, .int v_t_acts, .int v_t_next, .ref q_t_before, .ref q_t_anew, .ref q_t_sums, .ref q_t_spare, .ref q_t_least, .ref q_t_then, .ref q_t_told, .ref q_t_tens, .int v_t_payments, .ref q_t_paidTo, .ref q_t_paid, .long v_t_seed, .ref q_t_isKept, .ref q_t_kept])), (q_t_text, .inl (cI, 40, .inl f_t_text))]) A) ([.ref q_t, .int p1] : List Value).toArray s 0 0 A) (F0 m 57 ls []) := by
    intro v_t_at v_t_faultAt h H locs ls hP hD hS hl
    unfold X11_figure_b57 at h
    refine lv_aload_n hx hb dX11_figure_57 rfl (lv_at hl 0 rfl) ?_
    refine lv_aload_n hx hb dX11_figure_58 rfl (lv_at hl 0 rfl) ?_
    refine va_get (D := (dC, dI)) (ci := 11) (v := .int v_t_faultAt) (C := RX11) (T := TX11) (N := 34) hx hb hts in_X11_figure_X11 hown hK hP 0 rfl rfl 15 (by decide) (hts (.fieldLink RX11 72 "RightIfAsManyModel" "faultAt" "I") (List.mem_of_getElem? (i := 1) rfl)) (fun _ h9 => h9) rfl dX11_figure_59 ?_
    refine lv_bipush (v := (-9 : Int32)) hx hb dX11_figure_62 (by decide) ?_
    refine lv_icmp_ne (tgt := 74) hx hb dX11_figure_64 (by decide) (fun c1 => ?_) (fun c1 => ?_)
    · replace h := ite_f h c1
      refine lv_aload_n hx hb dX11_figure_74 rfl (lv_at hl 0 rfl) ?_
      refine va_get (D := (dC, dI)) (ci := 11) (v := .int v_t_faultAt) (C := RX11) (T := TX11) (N := 34) hx hb hts in_X11_figure_X11 hown hK hP 0 rfl rfl 15 (by decide) (hts (.fieldLink RX11 72 "RightIfAsManyModel" "faultAt" "I") (List.mem_of_getElem? (i := 1) rfl)) (fun _ h9 => h9) rfl dX11_figure_75 ?_
      exact B_78 v_t_at v_t_faultAt v_t_faultAt h H locs ls hP hD hS (lv_sub hl [] rfl)
    replace h := ite_t h c1
    refine lv_aload_n hx hb dX11_figure_67 rfl (lv_at hl 0 rfl) ?_
    refine va_get (D := (dC, dI)) (ci := 11) (v := .int v_t_at) (C := RX11) (T := TX11) (N := 34) hx hb hts in_X11_figure_X11 hown hK hP 0 rfl rfl 14 (by decide) (hts (.fieldLink RX11 75 "RightIfAsManyModel" "at" "I") (List.mem_of_getElem? (i := 2) rfl)) (fun _ h9 => h9) rfl dX11_figure_68 ?_
    refine lv_goto (tgt := 78) hx hb dX11_figure_71 (by decide) ?_
    exact B_78 v_t_at v_t_faultAt v_t_at h H locs ls hP hD hS (lv_sub hl [] rfl)
  have B_36 : ∀ (v_t_at : Int32) (v_t_faultAt : Int32) (x1 : Int32) (s0 : Int32), X11_figure_b36 v_t_length v_t_at v_t_faultAt f_t_text x1 s0 = some (res, r_v_t_at, r_v_t_faultAt) → ∀ (H : Heap) (locs : List Loc) (ls : Array Slot), va_P (dC, dI) vwCl [(q_t, .inr (11, [.ref q_t_readSlips, .int v_t_readMany, .int v_t_readBarred, .int v_t_readRule, .int v_t_readShare, .int v_t_readPot, .ref q_t_slips, .int v_t_many, .int v_t_barred, .int v_t_rule, .int v_t_share, .int v_t_pot, .ref q_t_text, .int v_t_length, .int v_t_at, .int v_t_faultAt, .ref q_t_row, .int v_t_rowMany, .int v_t_acts, .int v_t_next, .ref q_t_before, .ref q_t_anew, .ref q_t_sums, .ref q_t_spare, .ref q_t_least, .ref q_t_then, .ref q_t_told, .ref q_t_tens, .int v_t_payments, .ref q_t_paidTo, .ref q_t_paid, .long v_t_seed, .ref q_t_isKept, .ref q_t_kept])), (q_t_text, .inl (cI, 40, .inl f_t_text))] H → va_D A [(q_t, .inr (11, [.ref q_t_readSlips, .int v_t_readMany, .int v_t_readBarred, .int v_t_readRule, .int v_t_readShare, .int v_t_readPot, .ref q_t_slips, .int v_t_many, .int v_t_barred, .int v_t_rule, .int v_t_share, .int v_t_pot, .ref q_t_text, .int v_t_length, .int v_t_at, .int v_t_faultAt, .ref q_t_row, .int v_t_rowMany, .int v_t_acts, .int v_t_next, .ref q_t_before, .ref q_t_anew, .ref q_t_sums, .ref q_t_spare, .ref q_t_least, .ref q_t_then, .ref q_t_told, .ref q_t_tens, .int v_t_payments, .ref q_t_paidTo, .ref q_t_paid, .long v_t_seed, .ref q_t_isKept, .ref q_t_kept])), (q_t_text, .inl (cI, 40, .inl f_t_text))] → va_S A s.heap H locs → lv_has ls 3 [(0, .ref q_t), (1, .int x1)] → W p l e (headSpec wsX11_figure rm_X11_figure).room s m ([.ref q_t, .int p1] : List Value).toArray below meth c H locs 0 0 (MQ below (va_Qi (fun (r : Int32) (_ : Unit) => r = res) (bW dC dI A [(q_t, .inr (11, [.ref q_t_readSlips, .int v_t_readMany, .int v_t_readBarred, .int v_t_readRule, .int v_t_readShare, .int v_t_readPot, .ref q_t_slips, .int v_t_many, .int v_t_barred, .int v_t_rule, .int v_t_share, .int v_t_pot, .ref q_t_text, .int v_t_length, .int r_v_t_at, .int r_v_t_faultAt, .ref q_t_row, .int v_t_rowMany, .int v_t_acts, .int v_t_next, .ref q_t_before, .ref q_t_anew, .ref q_t_sums, .ref q_t_spare, .ref q_t_least, .ref q_t_then, .ref q_t_told, .ref q_t_tens, .int v_t_payments, .ref q_t_paidTo, .ref q_t_paid, .long v_t_seed, .ref q_t_isKept, .ref q_t_kept])), (q_t_text, .inl (cI, 40, .inl f_t_text))]) A) ([.ref q_t, .int p1] : List Value).toArray s 0 0 A) (F0 m 36 ls [.int s0]) := by
    intro v_t_at v_t_faultAt x1 s0 h H locs ls hP hD hS hl
    unfold X11_figure_b36 at h
    refine lv_istore_n (lv' := [(2, .int s0), (0, .ref q_t), (1, .int x1)]) hx hb dX11_figure_36 rfl hl (by decide) rfl (fun ls hl => ?_)
    refine lv_iload_n hx hb dX11_figure_37 rfl (lv_at hl 0 rfl) ?_
    refine lv_i2l hx hb dX11_figure_38 rfl ?_
    refine lv_lconst (v := (0 : Int64)) hx hb dX11_figure_39 (by decide) ?_
    refine lv_ldc2 (v := (9 : Int64)) hx hb hown (hts (.constantLong RX11 78 (9)) (List.mem_of_getElem? (i := 5) rfl)) dX11_figure_40 ?_
    refine kRz (res := (X11_in s0.toInt64 (0 : Int64) (9 : Int64))) (va_runS (As := [.long s0.toInt64, .long (0 : Int64), .long (9 : Int64)]) (rest := []) ⟨hx, hb, hml, hown, hts⟩ (cn_X11_in l dC dI cI cJ cZ    s0.toInt64 (0 : Int64) (9 : Int64) (X11_in s0.toInt64 (0 : Int64) (9 : Int64)) rfl) (va_cwS 3 hts gX11_figure_X11_in rfl rfl rfl (by decide +kernel) ⟨Nat.le_of_ble_eq_true rfl, Nat.le_of_ble_eq_true rfl⟩) (preRS hKK (hP.sub (ws' := []) [] rfl)) rfl rfl hl.1 rfl (lv_room (Nat.le_of_ble_eq_true rfl)) dX11_figure_43 ⟨Nat.zero_le _, Nat.zero_le _⟩) (fun hz2 => ?_)
    refine lv_if_eq (tgt := 57) hx hb dX11_figure_46 (by decide) (fun c3 => ?_) (fun c3 => ?_)
    · replace h := ite_t h c3
      exact B_57 v_t_at v_t_faultAt h H locs ls hP hD hS (lv_sub hl [1] rfl)
    replace h := ite_f h c3
    refine lv_iload_n hx hb dX11_figure_49 rfl (lv_at hl 2 rfl) ?_
    refine lv_iload_n hx hb dX11_figure_50 rfl (lv_at hl 0 rfl) ?_
    refine lv_ishr hx hb dX11_figure_51 ?_
    refine lv_iconst (v := (1 : Int32)) hx hb dX11_figure_52 (by decide) ?_
    refine lv_iand hx hb dX11_figure_53 ?_
    refine lv_if_ne (tgt := 83) hx hb dX11_figure_54 (by decide) (fun c4 => ?_) (fun c4 => ?_)
    · replace h := ite_f h c4
      refine lv_aload_n hx hb dX11_figure_83 rfl (lv_at hl 1 rfl) ?_
      refine lv_dup hx hb dX11_figure_84 rfl ?_
      refine va_get (D := (dC, dI)) (ci := 11) (v := .int v_t_at) (C := RX11) (T := TX11) (N := 34) hx hb hts in_X11_figure_X11 hown hK hP 0 rfl rfl 14 (by decide) (hts (.fieldLink RX11 75 "RightIfAsManyModel" "at" "I") (List.mem_of_getElem? (i := 2) rfl)) (fun _ h9 => h9) rfl dX11_figure_85 ?_
      refine lv_iconst (v := (1 : Int32)) hx hb dX11_figure_88 (by decide) ?_
      refine lv_iadd hx hb dX11_figure_89 ?_
      refine va_put (D := (dC, dI)) (ci := 11) (v := .int (v_t_at + (1 : Int32))) (ty := .int) (C := RX11) (T := TX11) (N := 34) hx hb hts in_X11_figure_X11 tyX11 tyX11_ok nmX11 hown hK hP hD hS 0 rfl rfl 14 (by decide) (hts (.fieldLink RX11 75 "RightIfAsManyModel" "at" "I") (List.mem_of_getElem? (i := 2) rfl)) (fun _ h9 => h9) rfl (by decide +kernel) rfl rfl (Nat.le_of_ble_eq_true rfl) dX11_figure_90 (fun H locs hP hD hS => ?_)
      have hP : va_P (dC, dI) vwCl [(q_t, .inr (11, [.ref q_t_readSlips, .int v_t_readMany, .int v_t_readBarred, .int v_t_readRule, .int v_t_readShare, .int v_t_readPot, .ref q_t_slips, .int v_t_many, .int v_t_barred, .int v_t_rule, .int v_t_share, .int v_t_pot, .ref q_t_text, .int v_t_length, .int (v_t_at + (1 : Int32)), .int v_t_faultAt, .ref q_t_row, .int v_t_rowMany, .int v_t_acts, .int v_t_next, .ref q_t_before, .ref q_t_anew, .ref q_t_sums, .ref q_t_spare, .ref q_t_least, .ref q_t_then, .ref q_t_told, .ref q_t_tens, .int v_t_payments, .ref q_t_paidTo, .ref q_t_paid, .long v_t_seed, .ref q_t_isKept, .ref q_t_kept])), (q_t_text, .inl (cI, 40, .inl f_t_text))] H := hP
      have hD : va_D A [(q_t, .inr (11, [.ref q_t_readSlips, .int v_t_readMany, .int v_t_readBarred, .int v_t_readRule, .int v_t_readShare, .int v_t_readPot, .ref q_t_slips, .int v_t_many, .int v_t_barred, .int v_t_rule, .int v_t_share, .int v_t_pot, .ref q_t_text, .int v_t_length, .int (v_t_at + (1 : Int32)), .int v_t_faultAt, .ref q_t_row, .int v_t_rowMany, .int v_t_acts, .int v_t_next, .ref q_t_before, .ref q_t_anew, .ref q_t_sums, .ref q_t_spare, .ref q_t_least, .ref q_t_then, .ref q_t_told, .ref q_t_tens, .int v_t_payments, .ref q_t_paidTo, .ref q_t_paid, .long v_t_seed, .ref q_t_isKept, .ref q_t_kept])), (q_t_text, .inl (cI, 40, .inl f_t_text))] := hD
      refine lv_iload_n hx hb dX11_figure_93 rfl (lv_at hl 0 rfl) ?_
      replace h := Option.some.inj h
      obtain ⟨e1, e2, e3⟩ := pr3 h
      exact W.iret (v := s0) hx hb hr (fun t ht hW => ⟨⟨_, (), rfl, e1, (by rw [ht, ← e2, ← e3]; exact hP), (by rw [← e2, ← e3]; exact hD)⟩, hS.F ht⟩) hS.2.2 dX11_figure_94
    replace h := ite_t h c4
    exact B_57 v_t_at v_t_faultAt h H locs ls hP hD hS (lv_sub hl [1] rfl)
  have B_35 : ∀ (v_t_at : Int32) (v_t_faultAt : Int32) (x1 : Int32), X11_figure_b35 v_t_length v_t_at v_t_faultAt f_t_text x1 = some (res, r_v_t_at, r_v_t_faultAt) → ∀ (H : Heap) (locs : List Loc) (ls : Array Slot), va_P (dC, dI) vwCl [(q_t, .inr (11, [.ref q_t_readSlips, .int v_t_readMany, .int v_t_readBarred, .int v_t_readRule, .int v_t_readShare, .int v_t_readPot, .ref q_t_slips, .int v_t_many, .int v_t_barred, .int v_t_rule, .int v_t_share, .int v_t_pot, .ref q_t_text, .int v_t_length, .int v_t_at, .int v_t_faultAt, .ref q_t_row, .int v_t_rowMany, .int v_t_acts, .int v_t_next, .ref q_t_before, .ref q_t_anew, .ref q_t_sums, .ref q_t_spare, .ref q_t_least, .ref q_t_then, .ref q_t_told, .ref q_t_tens, .int v_t_payments, .ref q_t_paidTo, .ref q_t_paid, .long v_t_seed, .ref q_t_isKept, .ref q_t_kept])), (q_t_text, .inl (cI, 40, .inl f_t_text))] H → va_D A [(q_t, .inr (11, [.ref q_t_readSlips, .int v_t_readMany, .int v_t_readBarred, .int v_t_readRule, .int v_t_readShare, .int v_t_readPot, .ref q_t_slips, .int v_t_many, .int v_t_barred, .int v_t_rule, .int v_t_share, .int v_t_pot, .ref q_t_text, .int v_t_length, .int v_t_at, .int v_t_faultAt, .ref q_t_row, .int v_t_rowMany, .int v_t_acts, .int v_t_next, .ref q_t_before, .ref q_t_anew, .ref q_t_sums, .ref q_t_spare, .ref q_t_least, .ref q_t_then, .ref q_t_told, .ref q_t_tens, .int v_t_payments, .ref q_t_paidTo, .ref q_t_paid, .long v_t_seed, .ref q_t_isKept, .ref q_t_kept])), (q_t_text, .inl (cI, 40, .inl f_t_text))] → va_S A s.heap H locs → lv_has ls 3 [(0, .ref q_t), (1, .int x1)] → W p l e (headSpec wsX11_figure rm_X11_figure).room s m ([.ref q_t, .int p1] : List Value).toArray below meth c H locs 0 0 (MQ below (va_Qi (fun (r : Int32) (_ : Unit) => r = res) (bW dC dI A [(q_t, .inr (11, [.ref q_t_readSlips, .int v_t_readMany, .int v_t_readBarred, .int v_t_readRule, .int v_t_readShare, .int v_t_readPot, .ref q_t_slips, .int v_t_many, .int v_t_barred, .int v_t_rule, .int v_t_share, .int v_t_pot, .ref q_t_text, .int v_t_length, .int r_v_t_at, .int r_v_t_faultAt, .ref q_t_row, .int v_t_rowMany, .int v_t_acts, .int v_t_next, .ref q_t_before, .ref q_t_anew, .ref q_t_sums, .ref q_t_spare, .ref q_t_least, .ref q_t_then, .ref q_t_told, .ref q_t_tens, .int v_t_payments, .ref q_t_paidTo, .ref q_t_paid, .long v_t_seed, .ref q_t_isKept, .ref q_t_kept])), (q_t_text, .inl (cI, 40, .inl f_t_text))]) A) ([.ref q_t, .int p1] : List Value).toArray s 0 0 A) (F0 m 35 ls []) := by
    intro v_t_at v_t_faultAt x1 h H locs ls hP hD hS hl
    unfold X11_figure_b35 at h
    refine lv_iconst (v := (-1 : Int32)) hx hb dX11_figure_35 (by decide) ?_
    exact B_36 v_t_at v_t_faultAt x1 (-1 : Int32) h H locs ls hP hD hS (lv_sub hl [0, 1] rfl)
  unfold X11_figure at h
  obtain ⟨H, hHe⟩ : ∃ H, H = s.heap := ⟨_, rfl⟩
  obtain ⟨locs, hLe⟩ : ∃ x : List Loc, x = [] := ⟨_, rfl⟩
  rw [← hHe] at hP
  have hS : va_S A s.heap H locs := by rw [hHe, hLe]; exact hS
  suffices hW : W p l e (headSpec wsX11_figure rm_X11_figure).room s m ([.ref q_t, .int p1] : List Value).toArray below meth c H locs 0 0 (MQ below (va_Qi (fun (r : Int32) (_ : Unit) => r = res) (bW dC dI A [(q_t, .inr (11, [.ref q_t_readSlips, .int v_t_readMany, .int v_t_readBarred, .int v_t_readRule, .int v_t_readShare, .int v_t_readPot, .ref q_t_slips, .int v_t_many, .int v_t_barred, .int v_t_rule, .int v_t_share, .int v_t_pot, .ref q_t_text, .int v_t_length, .int r_v_t_at, .int r_v_t_faultAt, .ref q_t_row, .int v_t_rowMany, .int v_t_acts, .int v_t_next, .ref q_t_before, .ref q_t_anew, .ref q_t_sums, .ref q_t_spare, .ref q_t_least, .ref q_t_then, .ref q_t_told, .ref q_t_tens, .int v_t_payments, .ref q_t_paidTo, .ref q_t_paid, .long v_t_seed, .ref q_t_isKept, .ref q_t_kept])), (q_t_text, .inl (cI, 40, .inl f_t_text))]) A) ([.ref q_t, .int p1] : List Value).toArray s 0 0 A) (F0 m 0 ls []) by rw [hHe, hLe] at hW; exact hW
  refine lv_aload_n hx hb dX11_figure_0 rfl (lv_at hl 0 rfl) ?_
  refine va_get (D := (dC, dI)) (ci := 11) (v := .int v_t_faultAt) (C := RX11) (T := TX11) (N := 34) hx hb hts in_X11_figure_X11 hown hK hP 0 rfl rfl 15 (by decide) (hts (.fieldLink RX11 72 "RightIfAsManyModel" "faultAt" "I") (List.mem_of_getElem? (i := 1) rfl)) (fun _ h9 => h9) rfl dX11_figure_1 ?_
  refine lv_bipush (v := (-9 : Int32)) hx hb dX11_figure_4 (by decide) ?_
  refine lv_icmp_ne (tgt := 35) hx hb dX11_figure_6 (by decide) (fun c5 => ?_) (fun c5 => ?_)
  · replace h := ite_f h c5
    exact B_35 v_t_at v_t_faultAt p1 h H locs ls hP hD hS (lv_sub hl [0, 1] rfl)
  replace h := ite_t h c5
  refine lv_aload_n hx hb dX11_figure_9 rfl (lv_at hl 0 rfl) ?_
  refine va_get (D := (dC, dI)) (ci := 11) (v := .int v_t_at) (C := RX11) (T := TX11) (N := 34) hx hb hts in_X11_figure_X11 hown hK hP 0 rfl rfl 14 (by decide) (hts (.fieldLink RX11 75 "RightIfAsManyModel" "at" "I") (List.mem_of_getElem? (i := 2) rfl)) (fun _ h9 => h9) rfl dX11_figure_10 ?_
  refine lv_aload_n hx hb dX11_figure_13 rfl (lv_at hl 0 rfl) ?_
  refine va_get (D := (dC, dI)) (ci := 11) (v := .int v_t_length) (C := RX11) (T := TX11) (N := 34) hx hb hts in_X11_figure_X11 hown hK hP 0 rfl rfl 13 (by decide) (hts (.fieldLink RX11 66 "RightIfAsManyModel" "length" "I") (List.mem_of_getElem? (i := 3) rfl)) (fun _ h9 => h9) rfl dX11_figure_14 ?_
  refine lv_icmp_ge (tgt := 35) hx hb dX11_figure_17 (by decide) (fun c6 => ?_) (fun c6 => ?_)
  · replace h := ite_t h c6
    exact B_35 v_t_at v_t_faultAt p1 h H locs ls hP hD hS (lv_sub hl [0, 1] rfl)
  replace h := ite_f h c6
  refine lv_aload_n hx hb dX11_figure_20 rfl (lv_at hl 0 rfl) ?_
  refine va_get (D := (dC, dI)) (ci := 11) (v := .ref q_t_text) (C := RX11) (T := TX11) (N := 34) hx hb hts in_X11_figure_X11 hown hK hP 0 rfl rfl 12 (by decide) (hts (.fieldLink RX11 16 "RightIfAsManyModel" "text" "[I") (List.mem_of_getElem? (i := 4) rfl)) (fun _ h9 => h9) rfl dX11_figure_21 ?_
  refine lv_aload_n hx hb dX11_figure_24 rfl (lv_at hl 0 rfl) ?_
  refine va_get (D := (dC, dI)) (ci := 11) (v := .int v_t_at) (C := RX11) (T := TX11) (N := 34) hx hb hts in_X11_figure_X11 hown hK hP 0 rfl rfl 14 (by decide) (hts (.fieldLink RX11 75 "RightIfAsManyModel" "at" "I") (List.mem_of_getElem? (i := 2) rfl)) (fun _ h9 => h9) rfl dX11_figure_25 ?_
  obtain ⟨hg7, h⟩ := grd_s h
  refine va_iald hx hb hK hP 1 0 rfl rfl hg7 dX11_figure_28 ?_
  refine lv_bipush (v := (48 : Int32)) hx hb dX11_figure_29 (by decide) ?_
  refine lv_isub hx hb dX11_figure_31 ?_
  refine lv_goto (tgt := 36) hx hb dX11_figure_32 (by decide) ?_
  exact B_36 v_t_at v_t_faultAt p1 ((f_t_text v_t_at.toNatClampNeg) - (48 : Int32)) h H locs ls hP hD hS (lv_sub hl [0, 1] rfl)
abbrev rm_X11_ones : Room := { frames := 0, cells := 0, slots := 0, locals := 0 }
set_option maxHeartbeats 4000000 in
set_option maxRecDepth 100000 in
theorem cn_X11_ones (l : Launch) (dC : Nat → ClassId) (dI : Nat → Nat → Nat) (cI cJ cZ : ClassId) (p0 : Int32) (res : Int32) (h : X11_ones p0 = some res) : Met l yX11_ones wsX11_ones rm_X11_ones (pcR dC dI cI cJ cZ [] [.int p0]) (vp_Si (fun r => r = res)) 0 0 (fun _ => False) := by
  refine Met.ofW (cc := cX11_ones) (maxL := 3) (ret := (some .int)) (by decide) rfl ?_
  intro p e s m args below meth c s₁ B hml hv
  obtain ⟨rfl, hP, hKK⟩ := hv
  have hx := B.exec
  have hb := B.bytes
  have hr := B.returns
  have hts := atoms_spec (ws := wsX11_ones) B.pre
  have hown : s.vm.findClass RX11 = some m.cls := findClass_of_methodNamed B.named
  have hlocks := B.notSynchronized
  have hK := hKK.1
  have hl := lv_entry ([.int p0]) (n := 3) (Nat.le_of_ble_eq_true rfl)
  rw [lg_entry_eq]
  generalize (lg_sl ([.int p0]) ++ List.replicate (3 - (lg_sl ([.int p0])).length) Slot.unset).toArray = ls at hl ⊢
  have hl : lv_has ls 3 [(0, .int p0)] := hl
  have L_4 : ∀ (n4 : Nat) , ∀  (x0 : Int32) (x1 : Int32) (x2 : Int32), X11_ones_b4 n4 x0 x1 x2 = some res → ∀ (ls : Array Slot), lv_has ls 3 [(0, .int x0), (1, .int x1), (2, .int x2)] → W p l e (headSpec wsX11_ones rm_X11_ones).room s m ([.int p0] : List Value).toArray below meth c s.heap [] 0 0 (MQ below (vp_Si (fun r => r = res)) ([.int p0] : List Value).toArray s 0 0 (fun _ => False)) (F0 m 4 ls []) := by
    intro n4
    induction n4 with
    | zero => intro x0 x1 x2 h ls hl; exact absurd h (fun h => by cases h)
    | succ n4 ih_4 =>
      intro x0 x1 x2 h ls hl
      replace h : X11_ones_b4_s (X11_ones_b4 n4) x0 x1 x2 = some res := h
      unfold X11_ones_b4_s at h
      refine lv_iload_n hx hb dX11_ones_4 rfl (lv_at hl 2 rfl) ?_
      refine lv_bipush (v := (10 : Int32)) hx hb dX11_ones_5 (by decide) ?_
      refine lv_icmp_ge (tgt := 24) hx hb dX11_ones_7 (by decide) (fun c1 => ?_) (fun c1 => ?_)
      · replace h := ite_t h c1
        refine lv_iload_n hx hb dX11_ones_24 rfl (lv_at hl 1 rfl) ?_
        have e1 := Option.some.inj h
        exact W.iret (v := x1) hx hb hr (fun t ht hW => ⟨_, rfl, e1, ht⟩) (fun q hq => by cases hq) dX11_ones_25
      replace h := ite_f h c1
      refine lv_iload_n hx hb dX11_ones_10 rfl (lv_at hl 1 rfl) ?_
      refine lv_iload_n hx hb dX11_ones_11 rfl (lv_at hl 0 rfl) ?_
      refine lv_iload_n hx hb dX11_ones_12 rfl (lv_at hl 2 rfl) ?_
      refine lv_ishr hx hb dX11_ones_13 ?_
      refine lv_iconst (v := (1 : Int32)) hx hb dX11_ones_14 (by decide) ?_
      refine lv_iand hx hb dX11_ones_15 ?_
      refine lv_iadd hx hb dX11_ones_16 ?_
      refine lv_istore_n (lv' := [(1, .int (x1 + ((x0 >>> (x2 &&& 31)) &&& (1 : Int32)))), (0, .int x0), (2, .int x2)]) hx hb dX11_ones_17 rfl hl (by decide) rfl (fun ls hl => ?_)
      refine lv_iinc (v := (x2 + (1 : Int32))) (lv' := [(2, .int (x2 + (1 : Int32))), (1, .int (x1 + ((x0 >>> (x2 &&& 31)) &&& (1 : Int32)))), (0, .int x0)]) hx hb dX11_ones_18 hl (k := 2) rfl rfl (by decide) rfl (fun ls hl => ?_)
      refine lv_goto (tgt := 4) hx hb dX11_ones_21 (by decide) ?_
      exact ih_4 x0 (x1 + ((x0 >>> (x2 &&& 31)) &&& (1 : Int32))) (x2 + (1 : Int32)) h ls (lv_sub hl [2, 1, 0] rfl)
  unfold X11_ones at h
  refine lv_iconst (v := (0 : Int32)) hx hb dX11_ones_0 (by decide) ?_
  refine lv_istore_n (lv' := [(1, .int (0 : Int32)), (0, .int p0)]) hx hb dX11_ones_1 rfl hl (by decide) rfl (fun ls hl => ?_)
  refine lv_iconst (v := (0 : Int32)) hx hb dX11_ones_2 (by decide) ?_
  refine lv_istore_n (lv' := [(2, .int (0 : Int32)), (1, .int (0 : Int32)), (0, .int p0)]) hx hb dX11_ones_3 rfl hl (by decide) rfl (fun ls hl => ?_)
  exact L_4 fU p0 (0 : Int32) (0 : Int32) h ls (lv_sub hl [2, 1, 0] rfl)
abbrev rm_X11_free : Room := { frames := 1, cells := 0, slots := 0, locals := 22 }
theorem in_X11_free_X11 : ∀ w ∈ wsX110, w ∈ wsX11_free := fun _ h => List.mem_cons_of_mem _ (List.mem_append_right _ h)
set_option maxHeartbeats 4000000 in
set_option maxRecDepth 100000 in
theorem cn_X11_free (l : Launch) (dC : Nat → ClassId) (dI : Nat → Nat → Nat) (cI cJ cZ : ClassId) (q_t q_t_readSlips q_t_slips q_t_text q_t_row q_t_before q_t_anew q_t_sums q_t_spare q_t_least q_t_then q_t_told q_t_tens q_t_paidTo q_t_paid q_t_isKept q_t_kept : Nat) (v_t_readMany : Int32) (v_t_readBarred : Int32) (v_t_readRule : Int32) (v_t_readShare : Int32) (v_t_readPot : Int32) (v_t_many : Int32) (v_t_barred : Int32) (v_t_rule : Int32) (v_t_share : Int32) (v_t_pot : Int32) (v_t_length : Int32) (v_t_at : Int32) (v_t_faultAt : Int32) (v_t_rowMany : Int32) (v_t_acts : Int32) (v_t_next : Int32) (v_t_payments : Int32) (v_t_seed : Int64) (f_t_readSlips : (Nat → Int32)) (res : Int32) (h : X11_free v_t_readMany v_t_readBarred f_t_readSlips = some res) : Met l yX11_free wsX11_free rm_X11_free (pcR dC dI cI cJ cZ [(q_t, .inr (11, [.ref q_t_readSlips, .int v_t_readMany, .int v_t_readBarred, .int v_t_readRule, .int v_t_readShare, .int v_t_readPot, .ref q_t_slips, .int v_t_many, .int v_t_barred, .int v_t_rule, .int v_t_share, .int v_t_pot, .ref q_t_text, .int v_t_length, .int v_t_at, .int v_t_faultAt, .ref q_t_row, .int v_t_rowMany, .int v_t_acts, .int v_t_next, .ref q_t_before, .ref q_t_anew, .ref q_t_sums, .ref q_t_spare, .ref q_t_least, .ref q_t_then, .ref q_t_told, .ref q_t_tens, .int v_t_payments, .ref q_t_paidTo, .ref q_t_paid, .long v_t_seed, .ref q_t_isKept, .ref q_t_kept])), (q_t_readSlips, .inl (cI, 9, .inl f_t_readSlips))] [.ref q_t]) (vp_Si (fun r => r = res)) 0 0 (fun _ => False) := by
  refine Met.ofW (cc := cX11_free) (maxL := 3) (ret := (some .int)) (by decide) rfl ?_
  intro p e s m args below meth c s₁ B hml hv
  obtain ⟨rfl, hP, hKK⟩ := hv
  have hx := B.exec
  have hb := B.bytes
  have hr := B.returns
  have hts := atoms_spec (ws := wsX11_free) B.pre
  have hown : s.vm.findClass RX11 = some m.cls := findClass_of_methodNamed B.named
  have hlocks := B.notSynchronized
  have hK := hKK.1
  have hl := lv_entry ([.ref q_t]) (n := 3) (Nat.le_of_ble_eq_true rfl)
  rw [lg_entry_eq]
  generalize (lg_sl ([.ref q_t]) ++ List.replicate (3 - (lg_sl ([.ref q_t])).length) Slot.unset).toArray = ls at hl ⊢
  have hl : lv_has ls 3 [(0, .ref q_t)] := hl
  have B_40 : ∀  (x1 : Int32), X11_free_b40 v_t_readMany v_t_readBarred f_t_readSlips x1 = some res → ∀ (ls : Array Slot), lv_has ls 3 [(0, .ref q_t), (1, .int x1)] → W p l e (headSpec wsX11_free rm_X11_free).room s m ([.ref q_t] : List Value).toArray below meth c s.heap [] 0 0 (MQ below (vp_Si (fun r => r = res)) ([.ref q_t] : List Value).toArray s 0 0 (fun _ => False)) (F0 m 40 ls []) := by
    intro x1 h ls hl
    unfold X11_free_b40 at h
    refine lv_aload_n hx hb dX11_free_40 rfl (lv_at hl 0 rfl) ?_
    refine va_get (D := (dC, dI)) (ci := 11) (v := .int v_t_readBarred) (C := RX11) (T := TX11) (N := 34) hx hb hts in_X11_free_X11 hown hK hP 0 rfl rfl 2 (by decide) (hts (.fieldLink RX11 80 "RightIfAsManyModel" "readBarred" "I") (List.mem_of_getElem? (i := 1) rfl)) (fun _ h9 => h9) rfl dX11_free_41 ?_
    obtain ⟨r1, hc1, h⟩ := bnd1_s h
    refine kRi (res := r1) (va_runS (As := [.int v_t_readBarred]) (rest := []) ⟨hx, hb, hml, hown, hts⟩ (cn_X11_ones l dC dI cI cJ cZ    v_t_readBarred r1 hc1) (va_cwS 1 hts gX11_free_X11_ones rfl rfl rfl (by decide +kernel) ⟨Nat.le_of_ble_eq_true rfl, Nat.le_of_ble_eq_true rfl⟩) (preRS hKK (hP.sub (ws' := []) [] rfl)) rfl rfl hl.1 rfl (lv_room (Nat.le_of_ble_eq_true rfl)) dX11_free_44 ⟨Nat.zero_le _, Nat.zero_le _⟩) ?_
    refine lv_bipush (v := (9 : Int32)) hx hb dX11_free_47 (by decide) ?_
    refine lv_icmp_ne (tgt := 56) hx hb dX11_free_49 (by decide) (fun c2 => ?_) (fun c2 => ?_)
    · replace h := ite_f h c2
      refine lv_iload_n hx hb dX11_free_56 rfl (lv_at hl 1 rfl) ?_
      have e1 := Option.some.inj h
      exact W.iret (v := x1) hx hb hr (fun t ht hW => ⟨_, rfl, e1, ht⟩) (fun q hq => by cases hq) dX11_free_57
    replace h := ite_t h c2
    refine lv_iconst (v := (0 : Int32)) hx hb dX11_free_52 (by decide) ?_
    refine lv_goto (tgt := 57) hx hb dX11_free_53 (by decide) ?_
    have e1 := Option.some.inj h
    exact W.iret (v := (0 : Int32)) hx hb hr (fun t ht hW => ⟨_, rfl, e1, ht⟩) (fun q hq => by cases hq) dX11_free_57
  have L_13 : ∀ (n13 : Nat) , ∀  (x1 : Int32) (x2 : Int32), X11_free_b13 n13 v_t_readMany v_t_readBarred f_t_readSlips x1 x2 = some res → ∀ (ls : Array Slot), lv_has ls 3 [(0, .ref q_t), (1, .int x1), (2, .int x2)] → W p l e (headSpec wsX11_free rm_X11_free).room s m ([.ref q_t] : List Value).toArray below meth c s.heap [] 0 0 (MQ below (vp_Si (fun r => r = res)) ([.ref q_t] : List Value).toArray s 0 0 (fun _ => False)) (F0 m 13 ls []) := by
    intro n13
    induction n13 with
    | zero => intro x1 x2 h ls hl; exact absurd h (fun h => by cases h)
    | succ n13 ih_13 =>
      intro x1 x2 h ls hl
      replace h : X11_free_b13_s (X11_free_b13 n13) v_t_readMany v_t_readBarred f_t_readSlips x1 x2 = some res := h
      unfold X11_free_b13_s at h
      refine lv_iload_n hx hb dX11_free_13 rfl (lv_at hl 2 rfl) ?_
      refine lv_aload_n hx hb dX11_free_14 rfl (lv_at hl 0 rfl) ?_
      refine va_get (D := (dC, dI)) (ci := 11) (v := .int v_t_readMany) (C := RX11) (T := TX11) (N := 34) hx hb hts in_X11_free_X11 hown hK hP 0 rfl rfl 1 (by decide) (hts (.fieldLink RX11 83 "RightIfAsManyModel" "readMany" "I") (List.mem_of_getElem? (i := 2) rfl)) (fun _ h9 => h9) rfl dX11_free_15 ?_
      refine lv_icmp_ge (tgt := 40) hx hb dX11_free_18 (by decide) (fun c3 => ?_) (fun c3 => ?_)
      · replace h := ite_t h c3
        exact B_40 x1 h ls (lv_sub hl [0, 1] rfl)
      replace h := ite_f h c3
      refine lv_iload_n hx hb dX11_free_21 rfl (lv_at hl 1 rfl) ?_
      refine lv_iconst (v := (1 : Int32)) hx hb dX11_free_22 (by decide) ?_
      refine lv_aload_n hx hb dX11_free_23 rfl (lv_at hl 0 rfl) ?_
      refine va_get (D := (dC, dI)) (ci := 11) (v := .ref q_t_readSlips) (C := RX11) (T := TX11) (N := 34) hx hb hts in_X11_free_X11 hown hK hP 0 rfl rfl 0 (by decide) (hts (.fieldLink RX11 7 "RightIfAsManyModel" "readSlips" "[I") (List.mem_of_getElem? (i := 3) rfl)) (fun _ h9 => h9) rfl dX11_free_24 ?_
      refine lv_iload_n hx hb dX11_free_27 rfl (lv_at hl 2 rfl) ?_
      obtain ⟨hg4, h⟩ := grd_s h
      refine va_iald hx hb hK hP 1 0 rfl rfl hg4 dX11_free_28 ?_
      refine lv_ishl hx hb dX11_free_29 ?_
      refine lv_iconst (v := (-1 : Int32)) hx hb dX11_free_30 (by decide) ?_
      refine lv_ixor hx hb dX11_free_31 ?_
      refine lv_iand hx hb dX11_free_32 ?_
      refine lv_istore_n (lv' := [(1, .int (x1 &&& (((1 : Int32) <<< ((f_t_readSlips x2.toNatClampNeg) &&& 31)) ^^^ (-1 : Int32)))), (0, .ref q_t), (2, .int x2)]) hx hb dX11_free_33 rfl hl (by decide) rfl (fun ls hl => ?_)
      refine lv_iinc (v := (x2 + (1 : Int32))) (lv' := [(2, .int (x2 + (1 : Int32))), (1, .int (x1 &&& (((1 : Int32) <<< ((f_t_readSlips x2.toNatClampNeg) &&& 31)) ^^^ (-1 : Int32)))), (0, .ref q_t)]) hx hb dX11_free_34 hl (k := 2) rfl rfl (by decide) rfl (fun ls hl => ?_)
      refine lv_goto (tgt := 13) hx hb dX11_free_37 (by decide) ?_
      exact ih_13 (x1 &&& (((1 : Int32) <<< ((f_t_readSlips x2.toNatClampNeg) &&& 31)) ^^^ (-1 : Int32))) (x2 + (1 : Int32)) h ls (lv_sub hl [2, 1, 0] rfl)
  unfold X11_free at h
  refine lv_sipush (v := (1023 : Int32)) hx hb dX11_free_0 (by decide) ?_
  refine lv_aload_n hx hb dX11_free_3 rfl (lv_at hl 0 rfl) ?_
  refine va_get (D := (dC, dI)) (ci := 11) (v := .int v_t_readBarred) (C := RX11) (T := TX11) (N := 34) hx hb hts in_X11_free_X11 hown hK hP 0 rfl rfl 2 (by decide) (hts (.fieldLink RX11 80 "RightIfAsManyModel" "readBarred" "I") (List.mem_of_getElem? (i := 1) rfl)) (fun _ h9 => h9) rfl dX11_free_4 ?_
  refine lv_iconst (v := (-1 : Int32)) hx hb dX11_free_7 (by decide) ?_
  refine lv_ixor hx hb dX11_free_8 ?_
  refine lv_iand hx hb dX11_free_9 ?_
  refine lv_istore_n (lv' := [(1, .int ((1023 : Int32) &&& (v_t_readBarred ^^^ (-1 : Int32)))), (0, .ref q_t)]) hx hb dX11_free_10 rfl hl (by decide) rfl (fun ls hl => ?_)
  refine lv_iconst (v := (0 : Int32)) hx hb dX11_free_11 (by decide) ?_
  refine lv_istore_n (lv' := [(2, .int (0 : Int32)), (1, .int ((1023 : Int32) &&& (v_t_readBarred ^^^ (-1 : Int32)))), (0, .ref q_t)]) hx hb dX11_free_12 rfl hl (by decide) rfl (fun ls hl => ?_)
  exact L_13 fU ((1023 : Int32) &&& (v_t_readBarred ^^^ (-1 : Int32))) (0 : Int32) h ls (lv_sub hl [2, 1, 0] rfl)
