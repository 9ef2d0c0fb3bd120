/-! walks, by program: X11_tenths X11_areTen X11_part X11_allRight X11_mean -/
abbrev rm_X11_tenths : Room := { frames := 1, cells := 0, slots := 0, locals := 25 }
theorem in_X11_tenths_X11 : ∀ w ∈ wsX110, w ∈ wsX11_tenths := fun _ h => List.mem_cons_of_mem _ (List.mem_append_right _ h)
set_option maxHeartbeats 4000000 in
set_option maxRecDepth 100000 in
theorem cn_X11_tenths (l : Launch) (dC : Nat → ClassId) (dI : Nat → Nat → Nat) (cI cJ cZ : ClassId) (q_t q_t_readSlips q_t_slips q_t_text q_t_row q_t_before q_t_anew q_t_sums q_t_spare q_t_least q_t_then q_t_told q_t_tens q_t_paidTo q_t_paid q_t_isKept q_t_kept : Nat) (sz : Nat) (v_t_readMany : Int32) (v_t_readBarred : Int32) (v_t_readRule : Int32) (v_t_readShare : Int32) (v_t_readPot : Int32) (v_t_many : Int32) (v_t_barred : Int32) (v_t_rule : Int32) (v_t_share : Int32) (v_t_pot : Int32) (v_t_length : Int32) (v_t_at : Int32) (v_t_faultAt : Int32) (v_t_rowMany : Int32) (v_t_acts : Int32) (v_t_next : Int32) (v_t_payments : Int32) (v_t_seed : Int64) (f_t_tens : (Nat → Int32)) (p1 : Int32) (p2 : Int32) (res : Int32) (r_f_t_tens : (Nat → Int32)) (h : X11_tenths f_t_tens p1 p2 = some (res, r_f_t_tens)) : Met l yX11_tenths wsX11_tenths rm_X11_tenths (pcW dC dI cI cJ cZ [(q_t, .inr (11, [.ref q_t_readSlips, .int v_t_readMany, .int v_t_readBarred, .int v_t_readRule, .int v_t_readShare, .int v_t_readPot, .ref q_t_slips, .int v_t_many, .int v_t_barred, .int v_t_rule, .int v_t_share, .int v_t_pot, .ref q_t_text, .int v_t_length, .int v_t_at, .int v_t_faultAt, .ref q_t_row, .int v_t_rowMany, .int v_t_acts, .int v_t_next, .ref q_t_before, .ref q_t_anew, .ref q_t_sums, .ref q_t_spare, .ref q_t_least, .ref q_t_then, .ref q_t_told, .ref q_t_tens, .int v_t_payments, .ref q_t_paidTo, .ref q_t_paid, .long v_t_seed, .ref q_t_isKept, .ref q_t_kept])), (q_t_tens, .inl (cI, 10, .inl f_t_tens))] sz [.ref q_t, .int p1, .int p2]) (va_Qi (fun (r : Int32) (_ : Unit) => r = res) (bW dC dI (va_A [(q_t, .inr (11, [.ref q_t_readSlips, .int v_t_readMany, .int v_t_readBarred, .int v_t_readRule, .int v_t_readShare, .int v_t_readPot, .ref q_t_slips, .int v_t_many, .int v_t_barred, .int v_t_rule, .int v_t_share, .int v_t_pot, .ref q_t_text, .int v_t_length, .int v_t_at, .int v_t_faultAt, .ref q_t_row, .int v_t_rowMany, .int v_t_acts, .int v_t_next, .ref q_t_before, .ref q_t_anew, .ref q_t_sums, .ref q_t_spare, .ref q_t_least, .ref q_t_then, .ref q_t_told, .ref q_t_tens, .int v_t_payments, .ref q_t_paidTo, .ref q_t_paid, .long v_t_seed, .ref q_t_isKept, .ref q_t_kept])), (q_t_tens, .inl (cI, 10, .inl f_t_tens))] sz) [(q_t, .inr (11, [.ref q_t_readSlips, .int v_t_readMany, .int v_t_readBarred, .int v_t_readRule, .int v_t_readShare, .int v_t_readPot, .ref q_t_slips, .int v_t_many, .int v_t_barred, .int v_t_rule, .int v_t_share, .int v_t_pot, .ref q_t_text, .int v_t_length, .int v_t_at, .int v_t_faultAt, .ref q_t_row, .int v_t_rowMany, .int v_t_acts, .int v_t_next, .ref q_t_before, .ref q_t_anew, .ref q_t_sums, .ref q_t_spare, .ref q_t_least, .ref q_t_then, .ref q_t_told, .ref q_t_tens, .int v_t_payments, .ref q_t_paidTo, .ref q_t_paid, .long v_t_seed, .ref q_t_isKept, .ref q_t_kept])), (q_t_tens, .inl (cI, 10, .inl r_f_t_tens))]) (va_A [(q_t, .inr (11, [.ref q_t_readSlips, .int v_t_readMany, .int v_t_readBarred, .int v_t_readRule, .int v_t_readShare, .int v_t_readPot, .ref q_t_slips, .int v_t_many, .int v_t_barred, .int v_t_rule, .int v_t_share, .int v_t_pot, .ref q_t_text, .int v_t_length, .int v_t_at, .int v_t_faultAt, .ref q_t_row, .int v_t_rowMany, .int v_t_acts, .int v_t_next, .ref q_t_before, .ref q_t_anew, .ref q_t_sums, .ref q_t_spare, .ref q_t_least, .ref q_t_then, .ref q_t_told, .ref q_t_tens, .int v_t_payments, .ref q_t_paidTo, .ref q_t_paid, .long v_t_seed, .ref q_t_isKept, .ref q_t_kept])), (q_t_tens, .inl (cI, 10, .inl f_t_tens))] sz)) 0 0 (va_A [(q_t, .inr (11, [.ref q_t_readSlips, .int v_t_readMany, .int v_t_readBarred, .int v_t_readRule, .int v_t_readShare, .int v_t_readPot, .ref q_t_slips, .int v_t_many, .int v_t_barred, .int v_t_rule, .int v_t_share, .int v_t_pot, .ref q_t_text, .int v_t_length, .int v_t_at, .int v_t_faultAt, .ref q_t_row, .int v_t_rowMany, .int v_t_acts, .int v_t_next, .ref q_t_before, .ref q_t_anew, .ref q_t_sums, .ref q_t_spare, .ref q_t_least, .ref q_t_then, .ref q_t_told, .ref q_t_tens, .int v_t_payments, .ref q_t_paidTo, .ref q_t_paid, .long v_t_seed, .ref q_t_isKept, .ref q_t_kept])), (q_t_tens, .inl (cI, 10, .inl f_t_tens))] sz) := by
  refine Met.ofW (cc := cX11_tenths) (maxL := 4) (ret := (some .int)) (by decide) rfl ?_
  intro p e s m args below meth c s₁ B hml hv
  obtain ⟨rfl, hsz, hP, hKK, hD0⟩ := hv
  have hx := B.exec
  have hb := B.bytes
  have hr := B.returns
  have hts := atoms_spec (ws := wsX11_tenths) B.pre
  have hown : s.vm.findClass RX11 = some m.cls := findClass_of_methodNamed B.named
  have hlocks := B.notSynchronized
  have hK := hKK.1
  subst hsz
  have hD := hD0.self (sz := s.heap.size)
  generalize hAe : va_A [(q_t, .inr (11, [.ref q_t_readSlips, .int v_t_readMany, .int v_t_readBarred, .int v_t_readRule, .int v_t_readShare, .int v_t_readPot, .ref q_t_slips, .int v_t_many, .int v_t_barred, .int v_t_rule, .int v_t_share, .int v_t_pot, .ref q_t_text, .int v_t_length, .int v_t_at, .int v_t_faultAt, .ref q_t_row, .int v_t_rowMany, .int v_t_acts, .int v_t_next, .ref q_t_before, .ref q_t_anew, .ref q_t_sums, .ref q_t_spare, .ref q_t_least, .ref q_t_then, .ref q_t_told, .ref q_t_tens, .int v_t_payments, .ref q_t_paidTo, .ref q_t_paid, .long v_t_seed, .ref q_t_isKept, .ref q_t_kept])), (q_t_tens, .inl (cI, 10, .inl f_t_tens))] s.heap.size = A at hD ⊢
  have hA : ∀ q : Nat, s.heap.size ≤ q → A q := fun q h => by rw [← hAe]; exact Or.inr h
  have hS : va_S A s.heap s.heap [] := va_S.rf
  have hl := lv_entry ([.ref q_t, .int p1, .int p2]) (n := 4) (Nat.le_of_ble_eq_true rfl)
  rw [lg_entry_eq]
  generalize (lg_sl ([.ref q_t, .int p1, .int p2]) ++ List.replicate (4 - (lg_sl ([.ref q_t, .int p1, .int p2])).length) Slot.unset).toArray = ls at hl ⊢
  have hl : lv_has ls 4 [(0, .ref q_t), (1, .int p1), (2, .int p2)] := hl
  unfold X11_tenths at h
  obtain ⟨H, hHe⟩ : ∃ H, H = s.heap := ⟨_, rfl⟩
  obtain ⟨locs, hLe⟩ : ∃ x : List Loc, x = [] := ⟨_, rfl⟩
  rw [← hHe] at hP
  have hS : va_S A s.heap H locs := by rw [hHe, hLe]; exact hS
  suffices hW : W p l e (headSpec wsX11_tenths rm_X11_tenths).room s m ([.ref q_t, .int p1, .int p2] : List Value).toArray below meth c H locs 0 0 (MQ below (va_Qi (fun (r : Int32) (_ : Unit) => r = res) (bW dC dI A [(q_t, .inr (11, [.ref q_t_readSlips, .int v_t_readMany, .int v_t_readBarred, .int v_t_readRule, .int v_t_readShare, .int v_t_readPot, .ref q_t_slips, .int v_t_many, .int v_t_barred, .int v_t_rule, .int v_t_share, .int v_t_pot, .ref q_t_text, .int v_t_length, .int v_t_at, .int v_t_faultAt, .ref q_t_row, .int v_t_rowMany, .int v_t_acts, .int v_t_next, .ref q_t_before, .ref q_t_anew, .ref q_t_sums, .ref q_t_spare, .ref q_t_least, .ref q_t_then, .ref q_t_told, .ref q_t_tens, .int v_t_payments, .ref q_t_paidTo, .ref q_t_paid, .long v_t_seed, .ref q_t_isKept, .ref q_t_kept])), (q_t_tens, .inl (cI, 10, .inl r_f_t_tens))]) A) ([.ref q_t, .int p1, .int p2] : List Value).toArray s 0 0 A) (F0 m 0 ls []) by rw [hHe, hLe] at hW; exact hW
  refine lv_iload_n hx hb dX11_tenths_0 rfl (lv_at hl 1 rfl) ?_
  refine lv_i2l hx hb dX11_tenths_1 rfl ?_
  refine lv_lconst (v := (0 : Int64)) hx hb dX11_tenths_2 (by decide) ?_
  refine lv_ldc2 (v := (9 : Int64)) hx hb hown (hts (.constantLong RX11 78 (9)) (List.mem_of_getElem? (i := 1) rfl)) dX11_tenths_3 ?_
  refine kRz (res := (X11_in p1.toInt64 (0 : Int64) (9 : Int64))) (va_runS (As := [.long p1.toInt64, .long (0 : Int64), .long (9 : Int64)]) (rest := []) ⟨hx, hb, hml, hown, hts⟩ (cn_X11_in l dC dI cI cJ cZ    p1.toInt64 (0 : Int64) (9 : Int64) (X11_in p1.toInt64 (0 : Int64) (9 : Int64)) rfl) (va_cwS 3 hts gX11_tenths_X11_in rfl rfl rfl (by decide +kernel) ⟨Nat.le_of_ble_eq_true rfl, Nat.le_of_ble_eq_true rfl⟩) (preRS hKK (hP.sub (ws' := []) [] rfl)) rfl rfl hl.1 rfl (lv_room (Nat.le_of_ble_eq_true rfl)) dX11_tenths_6 ⟨Nat.zero_le _, Nat.zero_le _⟩) (fun hz1 => ?_)
  refine lv_if_eq (tgt := 24) hx hb dX11_tenths_9 (by decide) (fun c2 => ?_) (fun c2 => ?_)
  · replace h := ite_t h c2
    refine lv_bipush (v := (-2 : Int32)) hx hb dX11_tenths_24 (by decide) ?_
    replace h := Option.some.inj h
    obtain ⟨e1, e2⟩ := pr2 h
    exact W.iret (v := (-2 : Int32)) hx hb hr (fun t ht hW => ⟨⟨_, (), rfl, e1, (by rw [ht, ← e2]; exact hP), (by rw [← e2]; exact hD)⟩, hS.F ht⟩) hS.2.2 dX11_tenths_26
  replace h := ite_f h c2
  refine lv_iload_n hx hb dX11_tenths_12 rfl (lv_at hl 2 rfl) ?_
  refine lv_i2l hx hb dX11_tenths_13 rfl ?_
  refine lv_lconst (v := (0 : Int64)) hx hb dX11_tenths_14 (by decide) ?_
  refine lv_ldc2 (v := (10 : Int64)) hx hb hown (hts (.constantLong RX11 182 (10)) (List.mem_of_getElem? (i := 2) rfl)) dX11_tenths_15 ?_
  refine kRz (res := (X11_in p2.toInt64 (0 : Int64) (10 : Int64))) (va_runS (As := [.long p2.toInt64, .long (0 : Int64), .long (10 : Int64)]) (rest := []) ⟨hx, hb, hml, hown, hts⟩ (cn_X11_in l dC dI cI cJ cZ    p2.toInt64 (0 : Int64) (10 : Int64) (X11_in p2.toInt64 (0 : Int64) (10 : Int64)) rfl) (va_cwS 3 hts gX11_tenths_X11_in rfl rfl rfl (by decide +kernel) ⟨Nat.le_of_ble_eq_true rfl, Nat.le_of_ble_eq_true rfl⟩) (preRS hKK (hP.sub (ws' := []) [] rfl)) rfl rfl hl.1 rfl (lv_room (Nat.le_of_ble_eq_true rfl)) dX11_tenths_18 ⟨Nat.zero_le _, Nat.zero_le _⟩) (fun hz3 => ?_)
  refine lv_if_ne (tgt := 27) hx hb dX11_tenths_21 (by decide) (fun c4 => ?_) (fun c4 => ?_)
  · replace h := ite_f h c4
    refine lv_aload_n hx hb dX11_tenths_27 rfl (lv_at hl 0 rfl) ?_
    refine va_get (D := (dC, dI)) (ci := 11) (v := .ref q_t_tens) (C := RX11) (T := TX11) (N := 34) hx hb hts in_X11_tenths_X11 hown hK hP 0 rfl rfl 27 (by decide) (hts (.fieldLink RX11 44 "RightIfAsManyModel" "tens" "[I") (List.mem_of_getElem? (i := 3) rfl)) (fun _ h9 => h9) rfl dX11_tenths_28 ?_
    refine lv_iload_n hx hb dX11_tenths_31 rfl (lv_at hl 1 rfl) ?_
    obtain ⟨hg5, h⟩ := grd_s h
    refine va_iald hx hb hK hP 1 0 rfl rfl hg5 dX11_tenths_32 ?_
    refine lv_istore_n (lv' := [(3, .int (f_t_tens p1.toNatClampNeg)), (0, .ref q_t), (1, .int p1), (2, .int p2)]) hx hb dX11_tenths_33 rfl hl (by decide) rfl (fun ls hl => ?_)
    refine lv_aload_n hx hb dX11_tenths_34 rfl (lv_at hl 1 rfl) ?_
    refine va_get (D := (dC, dI)) (ci := 11) (v := .ref q_t_tens) (C := RX11) (T := TX11) (N := 34) hx hb hts in_X11_tenths_X11 hown hK hP 0 rfl rfl 27 (by decide) (hts (.fieldLink RX11 44 "RightIfAsManyModel" "tens" "[I") (List.mem_of_getElem? (i := 3) rfl)) (fun _ h9 => h9) rfl dX11_tenths_35 ?_
    refine lv_iload_n hx hb dX11_tenths_38 rfl (lv_at hl 2 rfl) ?_
    refine lv_iload_n hx hb dX11_tenths_39 rfl (lv_at hl 3 rfl) ?_
    obtain ⟨hg6, h⟩ := grd_s h
    refine va_iast hx hb hK hP hD hS 1 0 rfl rfl hg6 dX11_tenths_40 (fun H locs hP hD hS => ?_)
    have hP : va_P (dC, dI) vwCl [(q_t, .inr (11, [.ref q_t_readSlips, .int v_t_readMany, .int v_t_readBarred, .int v_t_readRule, .int v_t_readShare, .int v_t_readPot, .ref q_t_slips, .int v_t_many, .int v_t_barred, .int v_t_rule, .int v_t_share, .int v_t_pot, .ref q_t_text, .int v_t_length, .int v_t_at, .int v_t_faultAt, .ref q_t_row, .int v_t_rowMany, .int v_t_acts, .int v_t_next, .ref q_t_before, .ref q_t_anew, .ref q_t_sums, .ref q_t_spare, .ref q_t_least, .ref q_t_then, .ref q_t_told, .ref q_t_tens, .int v_t_payments, .ref q_t_paidTo, .ref q_t_paid, .long v_t_seed, .ref q_t_isKept, .ref q_t_kept])), (q_t_tens, .inl (cI, 10, .inl (upd f_t_tens p1.toNatClampNeg p2)))] H := hP
    have hD : va_D A [(q_t, .inr (11, [.ref q_t_readSlips, .int v_t_readMany, .int v_t_readBarred, .int v_t_readRule, .int v_t_readShare, .int v_t_readPot, .ref q_t_slips, .int v_t_many, .int v_t_barred, .int v_t_rule, .int v_t_share, .int v_t_pot, .ref q_t_text, .int v_t_length, .int v_t_at, .int v_t_faultAt, .ref q_t_row, .int v_t_rowMany, .int v_t_acts, .int v_t_next, .ref q_t_before, .ref q_t_anew, .ref q_t_sums, .ref q_t_spare, .ref q_t_least, .ref q_t_then, .ref q_t_told, .ref q_t_tens, .int v_t_payments, .ref q_t_paidTo, .ref q_t_paid, .long v_t_seed, .ref q_t_isKept, .ref q_t_kept])), (q_t_tens, .inl (cI, 10, .inl (upd f_t_tens p1.toNatClampNeg p2)))] := hD
    refine lv_iload_n hx hb dX11_tenths_41 rfl (lv_at hl 0 rfl) ?_
    replace h := Option.some.inj h
    obtain ⟨e1, e2⟩ := pr2 h
    exact W.iret (v := (f_t_tens p1.toNatClampNeg)) hx hb hr (fun t ht hW => ⟨⟨_, (), rfl, e1, (by rw [ht, ← e2]; exact hP), (by rw [← e2]; exact hD)⟩, hS.F ht⟩) hS.2.2 dX11_tenths_42
  replace h := ite_t h c4
  refine lv_bipush (v := (-2 : Int32)) hx hb dX11_tenths_24 (by decide) ?_
  replace h := Option.some.inj h
  obtain ⟨e1, e2⟩ := pr2 h
  exact W.iret (v := (-2 : Int32)) hx hb hr (fun t ht hW => ⟨⟨_, (), rfl, e1, (by rw [ht, ← e2]; exact hP), (by rw [← e2]; exact hD)⟩, hS.F ht⟩) hS.2.2 dX11_tenths_26
abbrev rm_X11_areTen : Room := { frames := 0, cells := 0, slots := 0, locals := 0 }
theorem in_X11_areTen_X11 : ∀ w ∈ wsX110, w ∈ wsX11_areTen := fun _ h => List.mem_cons_of_mem _ (List.mem_append_right _ h)
set_option maxHeartbeats 4000000 in
set_option maxRecDepth 100000 in
theorem cn_X11_areTen (l : Launch) (dC : Nat → ClassId) (dI : Nat → Nat → Nat) (cI cJ cZ : ClassId) (q_t q_t_readSlips q_t_slips q_t_text q_t_row q_t_before q_t_anew q_t_sums q_t_spare q_t_least q_t_then q_t_told q_t_tens q_t_paidTo q_t_paid q_t_isKept q_t_kept : Nat) (v_t_readMany : Int32) (v_t_readBarred : Int32) (v_t_readRule : Int32) (v_t_readShare : Int32) (v_t_readPot : Int32) (v_t_many : Int32) (v_t_barred : Int32) (v_t_rule : Int32) (v_t_share : Int32) (v_t_pot : Int32) (v_t_length : Int32) (v_t_at : Int32) (v_t_faultAt : Int32) (v_t_rowMany : Int32) (v_t_acts : Int32) (v_t_next : Int32) (v_t_payments : Int32) (v_t_seed : Int64) (f_t_tens : (Nat → Int32)) (res : Int32) (h : X11_areTen f_t_tens = some res) : Met l yX11_areTen wsX11_areTen rm_X11_areTen (pcR dC dI cI cJ cZ [(q_t, .inr (11, [.ref q_t_readSlips, .int v_t_readMany, .int v_t_readBarred, .int v_t_readRule, .int v_t_readShare, .int v_t_readPot, .ref q_t_slips, .int v_t_many, .int v_t_barred, .int v_t_rule, .int v_t_share, .int v_t_pot, .ref q_t_text, .int v_t_length, .int v_t_at, .int v_t_faultAt, .ref q_t_row, .int v_t_rowMany, .int v_t_acts, .int v_t_next, .ref q_t_before, .ref q_t_anew, .ref q_t_sums, .ref q_t_spare, .ref q_t_least, .ref q_t_then, .ref q_t_told, .ref q_t_tens, .int v_t_payments, .ref q_t_paidTo, .ref q_t_paid, .long v_t_seed, .ref q_t_isKept, .ref q_t_kept])), (q_t_tens, .inl (cI, 10, .inl f_t_tens))] [.ref q_t]) (vp_Si (fun r => r = res ∧ r &&& 1 = r)) 0 0 (fun _ => False) := by
  refine Met.ofW (cc := cX11_areTen) (maxL := 3) (ret := (some .boolean)) (by decide) rfl ?_
  intro p e s m args below meth c s₁ B hml hv
  obtain ⟨rfl, hP, hKK⟩ := hv
  have hx := B.exec
  have hb := B.bytes
  have hr := B.returns
  have hts := atoms_spec (ws := wsX11_areTen) B.pre
  have hown : s.vm.findClass RX11 = some m.cls := findClass_of_methodNamed B.named
  have hlocks := B.notSynchronized
  have hK := hKK.1
  have hl := lv_entry ([.ref q_t]) (n := 3) (Nat.le_of_ble_eq_true rfl)
  rw [lg_entry_eq]
  generalize (lg_sl ([.ref q_t]) ++ List.replicate (3 - (lg_sl ([.ref q_t])).length) Slot.unset).toArray = ls at hl ⊢
  have hl : lv_has ls 3 [(0, .ref q_t)] := hl
  have B_25 : ∀  (x1 : Int32), X11_areTen_b25 f_t_tens x1 = some res → ∀ (ls : Array Slot), lv_has ls 3 [(1, .int x1)] → W p l e (headSpec wsX11_areTen rm_X11_areTen).room s m ([.ref q_t] : List Value).toArray below meth c s.heap [] 0 0 (MQ below (vp_Si (fun r => r = res ∧ r &&& 1 = r)) ([.ref q_t] : List Value).toArray s 0 0 (fun _ => False)) (F0 m 25 ls []) := by
    intro x1 h ls hl
    unfold X11_areTen_b25 at h
    refine lv_iload_n hx hb dX11_areTen_25 rfl (lv_at hl 0 rfl) ?_
    refine lv_bipush (v := (10 : Int32)) hx hb dX11_areTen_26 (by decide) ?_
    refine lv_icmp_ne (tgt := 35) hx hb dX11_areTen_28 (by decide) (fun c1 => ?_) (fun c1 => ?_)
    · replace h := ite_f h c1
      refine lv_iconst (v := (0 : Int32)) hx hb dX11_areTen_35 (by decide) ?_
      have e1 := Option.some.inj h
      exact W.zret (v := (0 : Int32)) (ty := .boolean) hx hb hr (congrArg Value.int rfl) (fun t ht hW => ⟨_, rfl, ⟨e1, rfl⟩, ht⟩) (fun q hq => by cases hq) dX11_areTen_36
    replace h := ite_t h c1
    refine lv_iconst (v := (1 : Int32)) hx hb dX11_areTen_31 (by decide) ?_
    refine lv_goto (tgt := 36) hx hb dX11_areTen_32 (by decide) ?_
    have e1 := Option.some.inj h
    exact W.zret (v := (1 : Int32)) (ty := .boolean) hx hb hr (congrArg Value.int rfl) (fun t ht hW => ⟨_, rfl, ⟨e1, rfl⟩, ht⟩) (fun q hq => by cases hq) dX11_areTen_36
  have L_4 : ∀ (n4 : Nat) , ∀  (x1 : Int32) (x2 : Int32), X11_areTen_b4 n4 f_t_tens x1 x2 = some res → ∀ (ls : Array Slot), lv_has ls 3 [(0, .ref q_t), (1, .int x1), (2, .int x2)] → W p l e (headSpec wsX11_areTen rm_X11_areTen).room s m ([.ref q_t] : List Value).toArray below meth c s.heap [] 0 0 (MQ below (vp_Si (fun r => r = res ∧ r &&& 1 = r)) ([.ref q_t] : List Value).toArray s 0 0 (fun _ => False)) (F0 m 4 ls []) := by
    intro n4
    induction n4 with
    | zero => intro x1 x2 h ls hl; exact absurd h (fun h => by cases h)
    | succ n4 ih_4 =>
      intro x1 x2 h ls hl
      replace h : X11_areTen_b4_s (X11_areTen_b4 n4) f_t_tens x1 x2 = some res := h
      unfold X11_areTen_b4_s at h
      refine lv_iload_n hx hb dX11_areTen_4 rfl (lv_at hl 2 rfl) ?_
      refine lv_bipush (v := (10 : Int32)) hx hb dX11_areTen_5 (by decide) ?_
      refine lv_icmp_ge (tgt := 25) hx hb dX11_areTen_7 (by decide) (fun c2 => ?_) (fun c2 => ?_)
      · replace h := ite_t h c2
        exact B_25 x1 h ls (lv_sub hl [1] rfl)
      replace h := ite_f h c2
      refine lv_iload_n hx hb dX11_areTen_10 rfl (lv_at hl 1 rfl) ?_
      refine lv_aload_n hx hb dX11_areTen_11 rfl (lv_at hl 0 rfl) ?_
      refine va_get (D := (dC, dI)) (ci := 11) (v := .ref q_t_tens) (C := RX11) (T := TX11) (N := 34) hx hb hts in_X11_areTen_X11 hown hK hP 0 rfl rfl 27 (by decide) (hts (.fieldLink RX11 44 "RightIfAsManyModel" "tens" "[I") (List.mem_of_getElem? (i := 1) rfl)) (fun _ h9 => h9) rfl dX11_areTen_12 ?_
      refine lv_iload_n hx hb dX11_areTen_15 rfl (lv_at hl 2 rfl) ?_
      obtain ⟨hg3, h⟩ := grd_s h
      refine va_iald hx hb hK hP 1 0 rfl rfl hg3 dX11_areTen_16 ?_
      refine lv_iadd hx hb dX11_areTen_17 ?_
      refine lv_istore_n (lv' := [(1, .int (x1 + (f_t_tens x2.toNatClampNeg))), (0, .ref q_t), (2, .int x2)]) hx hb dX11_areTen_18 rfl hl (by decide) rfl (fun ls hl => ?_)
      refine lv_iinc (v := (x2 + (1 : Int32))) (lv' := [(2, .int (x2 + (1 : Int32))), (1, .int (x1 + (f_t_tens x2.toNatClampNeg))), (0, .ref q_t)]) hx hb dX11_areTen_19 hl (k := 2) rfl rfl (by decide) rfl (fun ls hl => ?_)
      refine lv_goto (tgt := 4) hx hb dX11_areTen_22 (by decide) ?_
      exact ih_4 (x1 + (f_t_tens x2.toNatClampNeg)) (x2 + (1 : Int32)) h ls (lv_sub hl [2, 1, 0] rfl)
  unfold X11_areTen at h
  refine lv_iconst (v := (0 : Int32)) hx hb dX11_areTen_0 (by decide) ?_
  refine lv_istore_n (lv' := [(1, .int (0 : Int32)), (0, .ref q_t)]) hx hb dX11_areTen_1 rfl hl (by decide) rfl (fun ls hl => ?_)
  refine lv_iconst (v := (0 : Int32)) hx hb dX11_areTen_2 (by decide) ?_
  refine lv_istore_n (lv' := [(2, .int (0 : Int32)), (1, .int (0 : Int32)), (0, .ref q_t)]) hx hb dX11_areTen_3 rfl hl (by decide) rfl (fun ls hl => ?_)
  exact L_4 fU (0 : Int32) (0 : Int32) h ls (lv_sub hl [2, 1, 0] rfl)
abbrev rm_X11_part : Room := { frames := 0, cells := 0, slots := 0, locals := 0 }
set_option maxHeartbeats 4000000 in
set_option maxRecDepth 100000 in
theorem cn_X11_part (l : Launch) (dC : Nat → ClassId) (dI : Nat → Nat → Nat) (cI cJ cZ : ClassId) (p0 : Int64) (p2 : Int64) (p4 : Int32) (res : Int64) (h : X11_part p0 p2 p4 = some res) : Met l yX11_part wsX11_part rm_X11_part (pcR dC dI cI cJ cZ [] [.long p0, .long p2, .int p4]) (vp_Sl (fun r => r = res)) 0 0 (fun _ => False) := by
  refine Met.ofW (cc := cX11_part) (maxL := 11) (ret := (some .long)) (by decide) rfl ?_
  intro p e s m args below meth c s₁ B hml hv
  obtain ⟨rfl, hP, hKK⟩ := hv
  have hx := B.exec
  have hb := B.bytes
  have hr := B.returns
  have hts := atoms_spec (ws := wsX11_part) B.pre
  have hown : s.vm.findClass RX11 = some m.cls := findClass_of_methodNamed B.named
  have hlocks := B.notSynchronized
  have hK := hKK.1
  have hl := lv_entry ([.long p0, .long p2, .int p4]) (n := 11) (Nat.le_of_ble_eq_true rfl)
  rw [lg_entry_eq]
  generalize (lg_sl ([.long p0, .long p2, .int p4]) ++ List.replicate (11 - (lg_sl ([.long p0, .long p2, .int p4])).length) Slot.unset).toArray = ls at hl ⊢
  have hl : lv_has ls 11 [(0, .long p0), (2, .long p2), (4, .int p4)] := hl
  have B_31 : ∀  (x0 : Int64) (x2 : Int64) (x4 : Int32) (x5 : Int64), X11_part_b31 x0 x2 x4 x5 = some res → ∀ (ls : Array Slot), lv_has ls 11 [(0, .long x0), (2, .long x2), (4, .int x4), (5, .long x5)] → W p l e (headSpec wsX11_part rm_X11_part).room s m ([.long p0, .long p2, .int p4] : List Value).toArray below meth c s.heap [] 0 0 (MQ below (vp_Sl (fun r => r = res)) ([.long p0, .long p2, .int p4] : List Value).toArray s 0 0 (fun _ => False)) (F0 m 31 ls []) := by
    intro x0 x2 x4 x5 h ls hl
    unfold X11_part_b31 at h
    refine lv_iload hx hb dX11_part_31 (lv_at hl 2 rfl) ?_
    refine lv_if_eq (tgt := 43) hx hb dX11_part_33 (by decide) (fun c1 => ?_) (fun c1 => ?_)
    · replace h := ite_t h c1
      refine lv_lload_n hx hb dX11_part_43 rfl (lv_at hl 1 rfl) ?_
      refine lv_lload hx hb dX11_part_44 (lv_at hl 3 rfl) ?_
      obtain ⟨hg2, h⟩ := grd_s h
      refine lv_ldiv hx hb dX11_part_46 hg2 ?_
      have e1 := Option.some.inj h
      exact W.lret (v := (x2 / x5)) hx hb hr (fun t ht hW => ⟨_, rfl, e1, ht⟩) (fun q hq => by cases hq) dX11_part_47
    replace h := ite_f h c1
    refine lv_lload_n hx hb dX11_part_36 rfl (lv_at hl 0 rfl) ?_
    refine lv_lload hx hb dX11_part_37 (lv_at hl 3 rfl) ?_
    obtain ⟨hg3, h⟩ := grd_s h
    refine lv_ldiv hx hb dX11_part_39 hg3 ?_
    refine lv_goto (tgt := 47) hx hb dX11_part_40 (by decide) ?_
    have e1 := Option.some.inj h
    exact W.lret (v := (x0 / x5)) hx hb hr (fun t ht hW => ⟨_, rfl, e1, ht⟩) (fun q hq => by cases hq) dX11_part_47
  have L_6 : ∀ (n6 : Nat) , ∀  (x0 : Int64) (x2 : Int64) (x4 : Int32) (x5 : Int64) (x7 : Int64), X11_part_b6 n6 x0 x2 x4 x5 x7 = some res → ∀ (ls : Array Slot), lv_has ls 11 [(0, .long x0), (2, .long x2), (4, .int x4), (5, .long x5), (7, .long x7)] → W p l e (headSpec wsX11_part rm_X11_part).room s m ([.long p0, .long p2, .int p4] : List Value).toArray below meth c s.heap [] 0 0 (MQ below (vp_Sl (fun r => r = res)) ([.long p0, .long p2, .int p4] : List Value).toArray s 0 0 (fun _ => False)) (F0 m 6 ls []) := by
    intro n6
    induction n6 with
    | zero => intro x0 x2 x4 x5 x7 h ls hl; exact absurd h (fun h => by cases h)
    | succ n6 ih_6 =>
      intro x0 x2 x4 x5 x7 h ls hl
      replace h : X11_part_b6_s (X11_part_b6 n6) x0 x2 x4 x5 x7 = some res := h
      unfold X11_part_b6_s at h
      refine lv_lload hx hb dX11_part_6 (lv_at hl 4 rfl) ?_
      refine lv_lconst (v := (0 : Int64)) hx hb dX11_part_8 (by decide) ?_
      refine W.lcmp hx hb dX11_part_9 ?_
      refine lv_if_eq (tgt := 31) hx hb dX11_part_10 (by decide) (fun c4 => ?_) (fun c4 => ?_)
      · replace h := ite_t h c4
        exact B_31 x0 x2 x4 x5 h ls (lv_sub hl [0, 1, 2, 3] rfl)
      replace h := ite_f h c4
      refine lv_lload hx hb dX11_part_13 (lv_at hl 3 rfl) ?_
      refine lv_lload hx hb dX11_part_15 (lv_at hl 4 rfl) ?_
      obtain ⟨hg5, h⟩ := grd_s h
      refine lv_lrem hx hb dX11_part_17 hg5 ?_
      refine lv_lstore (lv' := [(9, .long (x5 - x5 / x7 * x7)), (0, .long x0), (2, .long x2), (4, .int x4), (5, .long x5), (7, .long x7)]) hx hb dX11_part_18 hl (by decide) rfl (fun ls hl => ?_)
      refine lv_lload hx hb dX11_part_20 (lv_at hl 5 rfl) ?_
      refine lv_lstore (lv' := [(5, .long x7), (9, .long (x5 - x5 / x7 * x7)), (0, .long x0), (2, .long x2), (4, .int x4), (7, .long x7)]) hx hb dX11_part_22 hl (by decide) rfl (fun ls hl => ?_)
      refine lv_lload hx hb dX11_part_24 (lv_at hl 1 rfl) ?_
      refine lv_lstore (lv' := [(7, .long (x5 - x5 / x7 * x7)), (5, .long x7), (9, .long (x5 - x5 / x7 * x7)), (0, .long x0), (2, .long x2), (4, .int x4)]) hx hb dX11_part_26 hl (by decide) rfl (fun ls hl => ?_)
      refine lv_goto (tgt := 6) hx hb dX11_part_28 (by decide) ?_
      exact ih_6 x0 x2 x4 x7 (x5 - x5 / x7 * x7) h ls (lv_sub hl [3, 4, 5, 1, 0] rfl)
  unfold X11_part at h
  refine lv_lload_n hx hb dX11_part_0 rfl (lv_at hl 0 rfl) ?_
  refine lv_lstore (lv' := [(5, .long p0), (0, .long p0), (2, .long p2), (4, .int p4)]) hx hb dX11_part_1 hl (by decide) rfl (fun ls hl => ?_)
  refine lv_lload_n hx hb dX11_part_3 rfl (lv_at hl 2 rfl) ?_
  refine lv_lstore (lv' := [(7, .long p2), (5, .long p0), (0, .long p0), (2, .long p2), (4, .int p4)]) hx hb dX11_part_4 hl (by decide) rfl (fun ls hl => ?_)
  exact L_6 fU p0 p2 p4 p0 p2 h ls (lv_sub hl [2, 3, 4, 1, 0] rfl)
abbrev rm_X11_allRight : Room := { frames := 2, cells := 0, slots := 0, locals := 51 }
theorem in_X11_allRight_X11 : ∀ w ∈ wsX110, w ∈ wsX11_allRight := fun _ h => List.mem_cons_of_mem _ (List.mem_append_right _ h)
set_option maxHeartbeats 4000000 in
set_option maxRecDepth 100000 in
theorem cn_X11_allRight (l : Launch) (dC : Nat → ClassId) (dI : Nat → Nat → Nat) (cI cJ cZ : ClassId) (q_t q_t_readSlips q_t_slips q_t_text q_t_row q_t_before q_t_anew q_t_sums q_t_spare q_t_least q_t_then q_t_told q_t_tens q_t_paidTo q_t_paid q_t_isKept q_t_kept : Nat) (sz : Nat) (v_t_readMany : Int32) (v_t_readBarred : Int32) (v_t_readRule : Int32) (v_t_readShare : Int32) (v_t_readPot : Int32) (v_t_many : Int32) (v_t_barred : Int32) (v_t_rule : Int32) (v_t_share : Int32) (v_t_pot : Int32) (v_t_length : Int32) (v_t_at : Int32) (v_t_faultAt : Int32) (v_t_rowMany : Int32) (v_t_acts : Int32) (v_t_next : Int32) (v_t_payments : Int32) (v_t_seed : Int64) (f_t_sums : (Nat → Int64)) (f_t_spare : (Nat → Int64)) (f_t_tens : (Nat → Int32)) (p1 : Int32) (p2 : Int32) (res : Int64) (r_f_t_sums : (Nat → Int64)) (r_f_t_spare : (Nat → Int64)) (h : X11_allRight v_t_barred v_t_rule f_t_sums f_t_spare f_t_tens p1 p2 = some (res, r_f_t_sums, r_f_t_spare)) : Met l yX11_allRight wsX11_allRight rm_X11_allRight (pcW dC dI cI cJ cZ [(q_t, .inr (11, [.ref q_t_readSlips, .int v_t_readMany, .int v_t_readBarred, .int v_t_readRule, .int v_t_readShare, .int v_t_readPot, .ref q_t_slips, .int v_t_many, .int v_t_barred, .int v_t_rule, .int v_t_share, .int v_t_pot, .ref q_t_text, .int v_t_length, .int v_t_at, .int v_t_faultAt, .ref q_t_row, .int v_t_rowMany, .int v_t_acts, .int v_t_next, .ref q_t_before, .ref q_t_anew, .ref q_t_sums, .ref q_t_spare, .ref q_t_least, .ref q_t_then, .ref q_t_told, .ref q_t_tens, .int v_t_payments, .ref q_t_paidTo, .ref q_t_paid, .long v_t_seed, .ref q_t_isKept, .ref q_t_kept])), (q_t_sums, .inl (cJ, 11, .inr (.inl f_t_sums))), (q_t_spare, .inl (cJ, 11, .inr (.inl f_t_spare))), (q_t_tens, .inl (cI, 10, .inl f_t_tens))] sz [.ref q_t, .int p1, .int p2]) (va_Ql (fun (r : Int64) (_ : Unit) => r = res) (bW dC dI (va_A [(q_t, .inr (11, [.ref q_t_readSlips, .int v_t_readMany, .int v_t_readBarred, .int v_t_readRule, .int v_t_readShare, .int v_t_readPot, .ref q_t_slips, .int v_t_many, .int v_t_barred, .int v_t_rule, .int v_t_share, .int v_t_pot, .ref q_t_text, .int v_t_length, .int v_t_at, .int v_t_faultAt, .ref q_t_row, .int v_t_rowMany, .int v_t_acts, .int v_t_next, .ref q_t_before, .ref q_t_anew, .ref q_t_sums, .ref q_t_spare, .ref q_t_least, .ref q_t_then, .ref q_t_told, .ref q_t_tens, .int v_t_payments, .ref q_t_paidTo, .ref q_t_paid, .long v_t_seed, .ref q_t_isKept, .ref q_t_kept])), (q_t_sums, .inl (cJ, 11, .inr (.inl f_t_sums))), (q_t_spare, .inl (cJ, 11, .inr (.inl f_t_spare))), (q_t_tens, .inl (cI, 10, .inl f_t_tens))] sz) [(q_t, .inr (11, [.ref q_t_readSlips, .int v_t_readMany, .int v_t_readBarred, .int v_t_readRule, .int v_t_readShare, .int v_t_readPot, .ref q_t_slips, .int v_t_many, .int v_t_barred, .int v_t_rule, .int v_t_share, .int v_t_pot, .ref q_t_text, .int v_t_length, .int v_t_at, .int v_t_faultAt, .ref q_t_row, .int v_t_rowMany, .int v_t_acts, .int v_t_next, .ref q_t_before, .ref q_t_anew, .ref q_t_sums, .ref q_t_spare, .ref q_t_least, .ref q_t_then, .ref q_t_told, .ref q_t_tens, .int v_t_payments, .ref q_t_paidTo, .ref q_t_paid, .long v_t_seed, .ref q_t_isKept, .ref q_t_kept])), (q_t_sums, .inl (cJ, 11, .inr (.inl r_f_t_sums))), (q_t_spare, .inl (cJ, 11, .inr (.inl r_f_t_spare))), (q_t_tens, .inl (cI, 10, .inl f_t_tens))]) (va_A [(q_t, .inr (11, [.ref q_t_readSlips, .int v_t_readMany, .int v_t_readBarred, .int v_t_readRule, .int v_t_readShare, .int v_t_readPot, .ref q_t_slips, .int v_t_many, .int v_t_barred, .int v_t_rule, .int v_t_share, .int v_t_pot, .ref q_t_text, .int v_t_length, .int v_t_at, .int v_t_faultAt, .ref q_t_row, .int v_t_rowMany, .int v_t_acts, .int v_t_next, .ref q_t_before, .ref q_t_anew, .ref q_t_sums, .ref q_t_spare, .ref q_t_least, .ref q_t_then, .ref q_t_told, .ref q_t_tens, .int v_t_payments, .ref q_t_paidTo, .ref q_t_paid, .long v_t_seed, .ref q_t_isKept, .ref q_t_kept])), (q_t_sums, .inl (cJ, 11, .inr (.inl f_t_sums))), (q_t_spare, .inl (cJ, 11, .inr (.inl f_t_spare))), (q_t_tens, .inl (cI, 10, .inl f_t_tens))] sz)) 0 0 (va_A [(q_t, .inr (11, [.ref q_t_readSlips, .int v_t_readMany, .int v_t_readBarred, .int v_t_readRule, .int v_t_readShare, .int v_t_readPot, .ref q_t_slips, .int v_t_many, .int v_t_barred, .int v_t_rule, .int v_t_share, .int v_t_pot, .ref q_t_text, .int v_t_length, .int v_t_at, .int v_t_faultAt, .ref q_t_row, .int v_t_rowMany, .int v_t_acts, .int v_t_next, .ref q_t_before, .ref q_t_anew, .ref q_t_sums, .ref q_t_spare, .ref q_t_least, .ref q_t_then, .ref q_t_told, .ref q_t_tens, .int v_t_payments, .ref q_t_paidTo, .ref q_t_paid, .long v_t_seed, .ref q_t_isKept, .ref q_t_kept])), (q_t_sums, .inl (cJ, 11, .inr (.inl f_t_sums))), (q_t_spare, .inl (cJ, 11, .inr (.inl f_t_spare))), (q_t_tens, .inl (cI, 10, .inl f_t_tens))] sz) := by
  refine Met.ofW (cc := cX11_allRight) (maxL := 3) (ret := (some .long)) (by decide) rfl ?_
  intro p e s m args below meth c s₁ B hml hv
  obtain ⟨rfl, hsz, hP, hKK, hD0⟩ := hv
  have hx := B.exec
  have hb := B.bytes
  have hr := B.returns
  have hts := atoms_spec (ws := wsX11_allRight) B.pre
  have hown : s.vm.findClass RX11 = some m.cls := findClass_of_methodNamed B.named
  have hlocks := B.notSynchronized
  have hK := hKK.1
  subst hsz
  have hD := hD0.self (sz := s.heap.size)
  generalize hAe : va_A [(q_t, .inr (11, [.ref q_t_readSlips, .int v_t_readMany, .int v_t_readBarred, .int v_t_readRule, .int v_t_readShare, .int v_t_readPot, .ref q_t_slips, .int v_t_many, .int v_t_barred, .int v_t_rule, .int v_t_share, .int v_t_pot, .ref q_t_text, .int v_t_length, .int v_t_at, .int v_t_faultAt, .ref q_t_row, .int v_t_rowMany, .int v_t_acts, .int v_t_next, .ref q_t_before, .ref q_t_anew, .ref q_t_sums, .ref q_t_spare, .ref q_t_least, .ref q_t_then, .ref q_t_told, .ref q_t_tens, .int v_t_payments, .ref q_t_paidTo, .ref q_t_paid, .long v_t_seed, .ref q_t_isKept, .ref q_t_kept])), (q_t_sums, .inl (cJ, 11, .inr (.inl f_t_sums))), (q_t_spare, .inl (cJ, 11, .inr (.inl f_t_spare))), (q_t_tens, .inl (cI, 10, .inl f_t_tens))] s.heap.size = A at hD ⊢
  have hA : ∀ q : Nat, s.heap.size ≤ q → A q := fun q h => by rw [← hAe]; exact Or.inr h
  have hS : va_S A s.heap s.heap [] := va_S.rf
  have hl := lv_entry ([.ref q_t, .int p1, .int p2]) (n := 3) (Nat.le_of_ble_eq_true rfl)
  rw [lg_entry_eq]
  generalize (lg_sl ([.ref q_t, .int p1, .int p2]) ++ List.replicate (3 - (lg_sl ([.ref q_t, .int p1, .int p2])).length) Slot.unset).toArray = ls at hl ⊢
  have hl : lv_has ls 3 [(0, .ref q_t), (1, .int p1), (2, .int p2)] := hl
  unfold X11_allRight at h
  obtain ⟨H, hHe⟩ : ∃ H, H = s.heap := ⟨_, rfl⟩
  obtain ⟨locs, hLe⟩ : ∃ x : List Loc, x = [] := ⟨_, rfl⟩
  rw [← hHe] at hP
  have hS : va_S A s.heap H locs := by rw [hHe, hLe]; exact hS
  suffices hW : W p l e (headSpec wsX11_allRight rm_X11_allRight).room s m ([.ref q_t, .int p1, .int p2] : List Value).toArray below meth c H locs 0 0 (MQ below (va_Ql (fun (r : Int64) (_ : Unit) => r = res) (bW dC dI A [(q_t, .inr (11, [.ref q_t_readSlips, .int v_t_readMany, .int v_t_readBarred, .int v_t_readRule, .int v_t_readShare, .int v_t_readPot, .ref q_t_slips, .int v_t_many, .int v_t_barred, .int v_t_rule, .int v_t_share, .int v_t_pot, .ref q_t_text, .int v_t_length, .int v_t_at, .int v_t_faultAt, .ref q_t_row, .int v_t_rowMany, .int v_t_acts, .int v_t_next, .ref q_t_before, .ref q_t_anew, .ref q_t_sums, .ref q_t_spare, .ref q_t_least, .ref q_t_then, .ref q_t_told, .ref q_t_tens, .int v_t_payments, .ref q_t_paidTo, .ref q_t_paid, .long v_t_seed, .ref q_t_isKept, .ref q_t_kept])), (q_t_sums, .inl (cJ, 11, .inr (.inl r_f_t_sums))), (q_t_spare, .inl (cJ, 11, .inr (.inl r_f_t_spare))), (q_t_tens, .inl (cI, 10, .inl f_t_tens))]) A) ([.ref q_t, .int p1, .int p2] : List Value).toArray s 0 0 A) (F0 m 0 ls []) by rw [hHe, hLe] at hW; exact hW
  refine lv_iload_n hx hb dX11_allRight_0 rfl (lv_at hl 1 rfl) ?_
  refine lv_i2l hx hb dX11_allRight_1 rfl ?_
  refine lv_lconst (v := (0 : Int64)) hx hb dX11_allRight_2 (by decide) ?_
  refine lv_ldc2 (v := (9 : Int64)) hx hb hown (hts (.constantLong RX11 78 (9)) (List.mem_of_getElem? (i := 1) rfl)) dX11_allRight_3 ?_
  refine kRz (res := (X11_in p1.toInt64 (0 : Int64) (9 : Int64))) (va_runS (As := [.long p1.toInt64, .long (0 : Int64), .long (9 : Int64)]) (rest := []) ⟨hx, hb, hml, hown, hts⟩ (cn_X11_in l dC dI cI cJ cZ    p1.toInt64 (0 : Int64) (9 : Int64) (X11_in p1.toInt64 (0 : Int64) (9 : Int64)) rfl) (va_cwS 3 hts gX11_allRight_X11_in rfl rfl rfl (by decide +kernel) ⟨Nat.le_of_ble_eq_true rfl, Nat.le_of_ble_eq_true rfl⟩) (preRS hKK (hP.sub (ws' := []) [] rfl)) rfl rfl hl.1 rfl (lv_room (Nat.le_of_ble_eq_true rfl)) dX11_allRight_6 ⟨Nat.zero_le _, Nat.zero_le _⟩) (fun hz1 => ?_)
  refine lv_if_ne (tgt := 16) hx hb dX11_allRight_9 (by decide) (fun c2 => ?_) (fun c2 => ?_)
  · replace h := ite_f h c2
    refine lv_aload_n hx hb dX11_allRight_16 rfl (lv_at hl 0 rfl) ?_
    obtain ⟨r3, hc3, h⟩ := bnd1_s h
    refine kRz (res := r3) (va_runV (As := []) (rest := []) ⟨hx, hb, hml, hown, hts⟩ (cn_X11_areTen l dC dI cI cJ cZ q_t q_t_readSlips q_t_slips q_t_text q_t_row q_t_before q_t_anew q_t_sums q_t_spare q_t_least q_t_then q_t_told q_t_tens q_t_paidTo q_t_paid q_t_isKept q_t_kept  v_t_readMany v_t_readBarred v_t_readRule v_t_readShare v_t_readPot v_t_many v_t_barred v_t_rule v_t_share v_t_pot v_t_length v_t_at v_t_faultAt v_t_rowMany v_t_acts v_t_next v_t_payments v_t_seed f_t_tens  r3 hc3) (cwV 0 hts gX11_allRight_X11_areTen rfl rfl rfl (by decide +kernel) ⟨Nat.le_of_ble_eq_true rfl, Nat.le_of_ble_eq_true rfl⟩) (preR hKK (hP.sub (ws' := [(q_t, .inr (11, [.ref q_t_readSlips, .int v_t_readMany, .int v_t_readBarred, .int v_t_readRule, .int v_t_readShare, .int v_t_readPot, .ref q_t_slips, .int v_t_many, .int v_t_barred, .int v_t_rule, .int v_t_share, .int v_t_pot, .ref q_t_text, .int v_t_length, .int v_t_at, .int v_t_faultAt, .ref q_t_row, .int v_t_rowMany, .int v_t_acts, .int v_t_next, .ref q_t_before, .ref q_t_anew, .ref q_t_sums, .ref q_t_spare, .ref q_t_least, .ref q_t_then, .ref q_t_told, .ref q_t_tens, .int v_t_payments, .ref q_t_paidTo, .ref q_t_paid, .long v_t_seed, .ref q_t_isKept, .ref q_t_kept])), (q_t_tens, .inl (cI, 10, .inl f_t_tens))]) [0, 3] rfl) (ci := 11) (q0 := 0) rfl rfl) rfl rfl hl.1 rfl (lv_room (Nat.le_of_ble_eq_true rfl)) dX11_allRight_17 ⟨Nat.zero_le _, Nat.zero_le _⟩) (fun hz4 => ?_)
    refine lv_if_eq (tgt := 42) hx hb dX11_allRight_20 (by decide) (fun c5 => ?_) (fun c5 => ?_)
    · replace h := ite_t h c5
      refine lv_ldc2 (v := (-3 : Int64)) hx hb hown (hts (.constantLong RX11 194 (-3)) (List.mem_of_getElem? (i := 3) rfl)) dX11_allRight_42 ?_
      replace h := Option.some.inj h
      obtain ⟨e1, e2, e3⟩ := pr3 h
      exact W.lret (v := (-3 : Int64)) hx hb hr (fun t ht hW => ⟨⟨_, (), rfl, e1, (by rw [ht, ← e2, ← e3]; exact hP), (by rw [← e2, ← e3]; exact hD)⟩, hS.F ht⟩) hS.2.2 dX11_allRight_45
    replace h := ite_f h c5
    refine lv_aload_n hx hb dX11_allRight_23 rfl (lv_at hl 0 rfl) ?_
    refine lv_iload_n hx hb dX11_allRight_24 rfl (lv_at hl 1 rfl) ?_
    refine lv_iconst (v := (1 : Int32)) hx hb dX11_allRight_25 (by decide) ?_
    obtain ⟨r6, w6_1, w6_2, hc6, h⟩ := bnd3_s h
    refine kWl (res := r6) (wc := [(q_t, .inr (11, [.ref q_t_readSlips, .int v_t_readMany, .int v_t_readBarred, .int v_t_readRule, .int v_t_readShare, .int v_t_readPot, .ref q_t_slips, .int v_t_many, .int v_t_barred, .int v_t_rule, .int v_t_share, .int v_t_pot, .ref q_t_text, .int v_t_length, .int v_t_at, .int v_t_faultAt, .ref q_t_row, .int v_t_rowMany, .int v_t_acts, .int v_t_next, .ref q_t_before, .ref q_t_anew, .ref q_t_sums, .ref q_t_spare, .ref q_t_least, .ref q_t_then, .ref q_t_told, .ref q_t_tens, .int v_t_payments, .ref q_t_paidTo, .ref q_t_paid, .long v_t_seed, .ref q_t_isKept, .ref q_t_kept])), (q_t_sums, .inl (cJ, 11, .inr (.inl f_t_sums))), (q_t_spare, .inl (cJ, 11, .inr (.inl f_t_spare))), (q_t_tens, .inl (cI, 10, .inl f_t_tens))]) (wr := []) (w1 := [(q_t, .inr (11, [.ref q_t_readSlips, .int v_t_readMany, .int v_t_readBarred, .int v_t_readRule, .int v_t_readShare, .int v_t_readPot, .ref q_t_slips, .int v_t_many, .int v_t_barred, .int v_t_rule, .int v_t_share, .int v_t_pot, .ref q_t_text, .int v_t_length, .int v_t_at, .int v_t_faultAt, .ref q_t_row, .int v_t_rowMany, .int v_t_acts, .int v_t_next, .ref q_t_before, .ref q_t_anew, .ref q_t_sums, .ref q_t_spare, .ref q_t_least, .ref q_t_then, .ref q_t_told, .ref q_t_tens, .int v_t_payments, .ref q_t_paidTo, .ref q_t_paid, .long v_t_seed, .ref q_t_isKept, .ref q_t_kept])), (q_t_sums, .inl (cJ, 11, .inr (.inl w6_1))), (q_t_spare, .inl (cJ, 11, .inr (.inl w6_2))), (q_t_tens, .inl (cI, 10, .inl f_t_tens))]) (wn := [(q_t, .inr (11, [.ref q_t_readSlips, .int v_t_readMany, .int v_t_readBarred, .int v_t_readRule, .int v_t_readShare, .int v_t_readPot, .ref q_t_slips, .int v_t_many, .int v_t_barred, .int v_t_rule, .int v_t_share, .int v_t_pot, .ref q_t_text, .int v_t_length, .int v_t_at, .int v_t_faultAt, .ref q_t_row, .int v_t_rowMany, .int v_t_acts, .int v_t_next, .ref q_t_before, .ref q_t_anew, .ref q_t_sums, .ref q_t_spare, .ref q_t_least, .ref q_t_then, .ref q_t_told, .ref q_t_tens, .int v_t_payments, .ref q_t_paidTo, .ref q_t_paid, .long v_t_seed, .ref q_t_isKept, .ref q_t_kept])), (q_t_sums, .inl (cJ, 11, .inr (.inl w6_1))), (q_t_spare, .inl (cJ, 11, .inr (.inl w6_2))), (q_t_tens, .inl (cI, 10, .inl f_t_tens))]) hP hD hS hA [0, 1, 2, 3] [] [0, 1, 2, 3] rfl rfl (by decide) (by decide) rfl (by decide) (va_runV (As := [.int p1, .int (1 : Int32)]) (rest := []) ⟨hx, hb, hml, hown, hts⟩ (cn_X11_layWays l dC dI cI cJ cZ q_t q_t_readSlips q_t_slips q_t_text q_t_row q_t_before q_t_anew q_t_sums q_t_spare q_t_least q_t_then q_t_told q_t_tens q_t_paidTo q_t_paid q_t_isKept q_t_kept H.size v_t_readMany v_t_readBarred v_t_readRule v_t_readShare v_t_readPot v_t_many v_t_barred v_t_rule v_t_share v_t_pot v_t_length v_t_at v_t_faultAt v_t_rowMany v_t_acts v_t_next v_t_payments v_t_seed f_t_sums f_t_spare f_t_tens p1 (1 : Int32) r6 w6_1 w6_2 hc6) (cwV 2 hts gX11_allRight_X11_layWays rfl rfl rfl (by decide +kernel) ⟨Nat.le_of_ble_eq_true rfl, Nat.le_of_ble_eq_true rfl⟩) (preW hKK (hP.sub (ws' := [(q_t, .inr (11, [.ref q_t_readSlips, .int v_t_readMany, .int v_t_readBarred, .int v_t_readRule, .int v_t_readShare, .int v_t_readPot, .ref q_t_slips, .int v_t_many, .int v_t_barred, .int v_t_rule, .int v_t_share, .int v_t_pot, .ref q_t_text, .int v_t_length, .int v_t_at, .int v_t_faultAt, .ref q_t_row, .int v_t_rowMany, .int v_t_acts, .int v_t_next, .ref q_t_before, .ref q_t_anew, .ref q_t_sums, .ref q_t_spare, .ref q_t_least, .ref q_t_then, .ref q_t_told, .ref q_t_tens, .int v_t_payments, .ref q_t_paidTo, .ref q_t_paid, .long v_t_seed, .ref q_t_isKept, .ref q_t_kept])), (q_t_sums, .inl (cJ, 11, .inr (.inl f_t_sums))), (q_t_spare, .inl (cJ, 11, .inr (.inl f_t_spare))), (q_t_tens, .inl (cI, 10, .inl f_t_tens))]) [0, 1, 2, 3] rfl) (hD.sub (ws' := [(q_t, .inr (11, [.ref q_t_readSlips, .int v_t_readMany, .int v_t_readBarred, .int v_t_readRule, .int v_t_readShare, .int v_t_readPot, .ref q_t_slips, .int v_t_many, .int v_t_barred, .int v_t_rule, .int v_t_share, .int v_t_pot, .ref q_t_text, .int v_t_length, .int v_t_at, .int v_t_faultAt, .ref q_t_row, .int v_t_rowMany, .int v_t_acts, .int v_t_next, .ref q_t_before, .ref q_t_anew, .ref q_t_sums, .ref q_t_spare, .ref q_t_least, .ref q_t_then, .ref q_t_told, .ref q_t_tens, .int v_t_payments, .ref q_t_paidTo, .ref q_t_paid, .long v_t_seed, .ref q_t_isKept, .ref q_t_kept])), (q_t_sums, .inl (cJ, 11, .inr (.inl f_t_sums))), (q_t_spare, .inl (cJ, 11, .inr (.inl f_t_spare))), (q_t_tens, .inl (cI, 10, .inl f_t_tens))]) [0, 1, 2, 3] (by decide) rfl) (ci := 11) (q0 := 0) rfl rfl) rfl rfl hl.1 rfl (lv_room (Nat.le_of_ble_eq_true rfl)) dX11_allRight_26 ⟨Nat.zero_le _, Nat.zero_le _⟩) (fun H locs hP hD hS => ?_)
    refine lv_bipush (v := (10 : Int32)) hx hb dX11_allRight_29 (by decide) ?_
    refine lv_iload_n hx hb dX11_allRight_31 rfl (lv_at hl 1 rfl) ?_
    obtain ⟨r7, hc7, h⟩ := bnd1_s h
    refine kRl (res := r7) (va_runS (As := [.int (10 : Int32), .int p1]) (rest := [.long r6]) ⟨hx, hb, hml, hown, hts⟩ (cn_X11_power l dC dI cI cJ cZ    (10 : Int32) p1 r7 hc7) (va_cwS 2 hts gX11_allRight_X11_power rfl rfl rfl (by decide +kernel) ⟨Nat.le_of_ble_eq_true rfl, Nat.le_of_ble_eq_true rfl⟩) (preRS hKK (hP.sub (ws' := []) [] rfl)) rfl rfl hl.1 rfl (lv_room (Nat.le_of_ble_eq_true rfl)) dX11_allRight_32 ⟨Nat.zero_le _, Nat.zero_le _⟩) ?_
    refine lv_iload_n hx hb dX11_allRight_35 rfl (lv_at hl 2 rfl) ?_
    obtain ⟨r8, hc8, h⟩ := bnd1_s h
    refine kRl (res := r8) (va_runS (As := [.long r6, .long r7, .int p2]) (rest := []) ⟨hx, hb, hml, hown, hts⟩ (cn_X11_part l dC dI cI cJ cZ    r6 r7 p2 r8 hc8) (va_cwS 3 hts gX11_allRight_X11_part rfl rfl rfl (by decide +kernel) ⟨Nat.le_of_ble_eq_true rfl, Nat.le_of_ble_eq_true rfl⟩) (preRS hKK (hP.sub (ws' := []) [] rfl)) rfl rfl hl.1 rfl (lv_room (Nat.le_of_ble_eq_true rfl)) dX11_allRight_36 ⟨Nat.zero_le _, Nat.zero_le _⟩) ?_
    refine lv_goto (tgt := 45) hx hb dX11_allRight_39 (by decide) ?_
    replace h := Option.some.inj h
    obtain ⟨e1, e2, e3⟩ := pr3 h
    exact W.lret (v := r8) hx hb hr (fun t ht hW => ⟨⟨_, (), rfl, e1, (by rw [ht, ← e2, ← e3]; exact hP), (by rw [← e2, ← e3]; exact hD)⟩, hS.F ht⟩) hS.2.2 dX11_allRight_45
  replace h := ite_t h c2
  refine lv_ldc2 (v := (-2 : Int64)) hx hb hown (hts (.constantLong RX11 184 (-2)) (List.mem_of_getElem? (i := 2) rfl)) dX11_allRight_12 ?_
  replace h := Option.some.inj h
  obtain ⟨e1, e2, e3⟩ := pr3 h
  exact W.lret (v := (-2 : Int64)) hx hb hr (fun t ht hW => ⟨⟨_, (), rfl, e1, (by rw [ht, ← e2, ← e3]; exact hP), (by rw [← e2, ← e3]; exact hD)⟩, hS.F ht⟩) hS.2.2 dX11_allRight_15
abbrev rm_X11_mean : Room := { frames := 1, cells := 0, slots := 0, locals := 30 }
theorem in_X11_mean_X11 : ∀ w ∈ wsX110, w ∈ wsX11_mean := fun _ h => List.mem_cons_of_mem _ (List.mem_append_right _ h)
set_option maxHeartbeats 4000000 in
set_option maxRecDepth 100000 in
theorem cn_X11_mean (l : Launch) (dC : Nat → ClassId) (dI : Nat → Nat → Nat) (cI cJ cZ : ClassId) (q_t q_t_readSlips q_t_slips q_t_text q_t_row q_t_before q_t_anew q_t_sums q_t_spare q_t_least q_t_then q_t_told q_t_tens q_t_paidTo q_t_paid q_t_isKept q_t_kept : Nat) (v_t_readMany : Int32) (v_t_readBarred : Int32) (v_t_readRule : Int32) (v_t_readShare : Int32) (v_t_readPot : Int32) (v_t_many : Int32) (v_t_barred : Int32) (v_t_rule : Int32) (v_t_share : Int32) (v_t_pot : Int32) (v_t_length : Int32) (v_t_at : Int32) (v_t_faultAt : Int32) (v_t_rowMany : Int32) (v_t_acts : Int32) (v_t_next : Int32) (v_t_payments : Int32) (v_t_seed : Int64) (f_t_tens : (Nat → Int32)) (p1 : Int32) (p2 : Int32) (res : Int64) (h : X11_mean v_t_rule f_t_tens p1 p2 = some res) : Met l yX11_mean wsX11_mean rm_X11_mean (pcR dC dI cI cJ cZ [(q_t, .inr (11, [.ref q_t_readSlips, .int v_t_readMany, .int v_t_readBarred, .int v_t_readRule, .int v_t_readShare, .int v_t_readPot, .ref q_t_slips, .int v_t_many, .int v_t_barred, .int v_t_rule, .int v_t_share, .int v_t_pot, .ref q_t_text, .int v_t_length, .int v_t_at, .int v_t_faultAt, .ref q_t_row, .int v_t_rowMany, .int v_t_acts, .int v_t_next, .ref q_t_before, .ref q_t_anew, .ref q_t_sums, .ref q_t_spare, .ref q_t_least, .ref q_t_then, .ref q_t_told, .ref q_t_tens, .int v_t_payments, .ref q_t_paidTo, .ref q_t_paid, .long v_t_seed, .ref q_t_isKept, .ref q_t_kept])), (q_t_tens, .inl (cI, 10, .inl f_t_tens))] [.ref q_t, .int p1, .int p2]) (vp_Sl (fun r => r = res)) 0 0 (fun _ => False) := by
  refine Met.ofW (cc := cX11_mean) (maxL := 7) (ret := (some .long)) (by decide) rfl ?_
  intro p e s m args below meth c s₁ B hml hv
  obtain ⟨rfl, hP, hKK⟩ := hv
  have hx := B.exec
  have hb := B.bytes
  have hr := B.returns
  have hts := atoms_spec (ws := wsX11_mean) B.pre
  have hown : s.vm.findClass RX11 = some m.cls := findClass_of_methodNamed B.named
  have hlocks := B.notSynchronized
  have hK := hKK.1
  have hl := lv_entry ([.ref q_t, .int p1, .int p2]) (n := 7) (Nat.le_of_ble_eq_true rfl)
  rw [lg_entry_eq]
  generalize (lg_sl ([.ref q_t, .int p1, .int p2]) ++ List.replicate (7 - (lg_sl ([.ref q_t, .int p1, .int p2])).length) Slot.unset).toArray = ls at hl ⊢
  have hl : lv_has ls 7 [(0, .ref q_t), (1, .int p1), (2, .int p2)] := hl
  have B_119 : ∀  (x1 : Int32) (x2 : Int32) (x3 : Int64), X11_mean_b119 v_t_rule f_t_tens x1 x2 x3 = some res → ∀ (ls : Array Slot), lv_has ls 7 [(1, .int x1), (2, .int x2), (3, .long x3)] → W p l e (headSpec wsX11_mean rm_X11_mean).room s m ([.ref q_t, .int p1, .int p2] : List Value).toArray below meth c s.heap [] 0 0 (MQ below (vp_Sl (fun r => r = res)) ([.ref q_t, .int p1, .int p2] : List Value).toArray s 0 0 (fun _ => False)) (F0 m 119 ls []) := by
    intro x1 x2 x3 h ls hl
    unfold X11_mean_b119 at h
    refine lv_lload_n hx hb dX11_mean_119 rfl (lv_at hl 2 rfl) ?_
    refine lv_bipush (v := (10 : Int32)) hx hb dX11_mean_120 (by decide) ?_
    refine lv_iload_n hx hb dX11_mean_122 rfl (lv_at hl 0 rfl) ?_
    obtain ⟨r9, hc9, h⟩ := bnd1_s h
    refine kRl (res := r9) (va_runS (As := [.int (10 : Int32), .int x1]) (rest := [.long x3]) ⟨hx, hb, hml, hown, hts⟩ (cn_X11_power l dC dI cI cJ cZ    (10 : Int32) x1 r9 hc9) (va_cwS 2 hts gX11_mean_X11_power rfl rfl rfl (by decide +kernel) ⟨Nat.le_of_ble_eq_true rfl, Nat.le_of_ble_eq_true rfl⟩) (preRS hKK (hP.sub (ws' := []) [] rfl)) rfl rfl hl.1 rfl (lv_room (Nat.le_of_ble_eq_true rfl)) dX11_mean_123 ⟨Nat.zero_le _, Nat.zero_le _⟩) ?_
    refine lv_iload_n hx hb dX11_mean_126 rfl (lv_at hl 1 rfl) ?_
    obtain ⟨r10, hc10, h⟩ := bnd1_s h
    refine kRl (res := r10) (va_runS (As := [.long x3, .long r9, .int x2]) (rest := []) ⟨hx, hb, hml, hown, hts⟩ (cn_X11_part l dC dI cI cJ cZ    x3 r9 x2 r10 hc10) (va_cwS 3 hts gX11_mean_X11_part rfl rfl rfl (by decide +kernel) ⟨Nat.le_of_ble_eq_true rfl, Nat.le_of_ble_eq_true rfl⟩) (preRS hKK (hP.sub (ws' := []) [] rfl)) rfl rfl hl.1 rfl (lv_room (Nat.le_of_ble_eq_true rfl)) dX11_mean_127 ⟨Nat.zero_le _, Nat.zero_le _⟩) ?_
    have e1 := Option.some.inj h
    exact W.lret (v := r10) hx hb hr (fun t ht hW => ⟨_, rfl, e1, ht⟩) (fun q hq => by cases hq) dX11_mean_130
  have L_32 : ∀ (n32 : Nat) , ∀  (x1 : Int32) (x2 : Int32) (x3 : Int64) (x5 : Int32), X11_mean_b32 n32 v_t_rule f_t_tens x1 x2 x3 x5 = some res → ∀ (ls : Array Slot), lv_has ls 7 [(0, .ref q_t), (1, .int x1), (2, .int x2), (3, .long x3), (5, .int x5)] → W p l e (headSpec wsX11_mean rm_X11_mean).room s m ([.ref q_t, .int p1, .int p2] : List Value).toArray below meth c s.heap [] 0 0 (MQ below (vp_Sl (fun r => r = res)) ([.ref q_t, .int p1, .int p2] : List Value).toArray s 0 0 (fun _ => False)) (F0 m 32 ls []) := by
    intro n32
    induction n32 with
    | zero => intro x1 x2 x3 x5 h ls hl; exact absurd h (fun h => by cases h)
    | succ n32 ih_32 =>
      have B_113 : ∀  (x1 : Int32) (x2 : Int32) (x3 : Int64) (x5 : Int32), X11_mean_b113 (X11_mean_b32 n32) v_t_rule f_t_tens x1 x2 x3 x5 = some res → ∀ (ls : Array Slot), lv_has ls 7 [(0, .ref q_t), (1, .int x1), (2, .int x2), (3, .long x3), (5, .int x5)] → W p l e (headSpec wsX11_mean rm_X11_mean).room s m ([.ref q_t, .int p1, .int p2] : List Value).toArray below meth c s.heap [] 0 0 (MQ below (vp_Sl (fun r => r = res)) ([.ref q_t, .int p1, .int p2] : List Value).toArray s 0 0 (fun _ => False)) (F0 m 113 ls []) := by
        intro x1 x2 x3 x5 h ls hl
        unfold X11_mean_b113 at h
        refine lv_iinc (v := (x5 + (1 : Int32))) (lv' := [(5, .int (x5 + (1 : Int32))), (0, .ref q_t), (1, .int x1), (2, .int x2), (3, .long x3)]) hx hb dX11_mean_113 hl (k := 4) rfl rfl (by decide) rfl (fun ls hl => ?_)
        refine lv_goto (tgt := 32) hx hb dX11_mean_116 (by decide) ?_
        exact ih_32 x1 x2 x3 (x5 + (1 : Int32)) h ls (lv_sub hl [1, 2, 3, 4, 0] rfl)
      have L_42 : ∀ (n42 : Nat) , ∀  (x1 : Int32) (x2 : Int32) (x3 : Int64) (x5 : Int32) (x6 : Int32), X11_mean_b42 (X11_mean_b32 n32) n42 v_t_rule f_t_tens x1 x2 x3 x5 x6 = some res → ∀ (ls : Array Slot), lv_has ls 7 [(0, .ref q_t), (1, .int x1), (2, .int x2), (3, .long x3), (5, .int x5), (6, .int x6)] → W p l e (headSpec wsX11_mean rm_X11_mean).room s m ([.ref q_t, .int p1, .int p2] : List Value).toArray below meth c s.heap [] 0 0 (MQ below (vp_Sl (fun r => r = res)) ([.ref q_t, .int p1, .int p2] : List Value).toArray s 0 0 (fun _ => False)) (F0 m 42 ls []) := by
        intro n42
        induction n42 with
        | zero => intro x1 x2 x3 x5 x6 h ls hl; exact absurd h (fun h => by cases h)
        | succ n42 ih_42 =>
          have B_105 : ∀  (x1 : Int32) (x2 : Int32) (x5 : Int32) (x6 : Int32) (s0 : Int64) (s1 : Int64), X11_mean_b105 (X11_mean_b32 n32) (X11_mean_b42 (X11_mean_b32 n32) n42) v_t_rule f_t_tens x1 x2 x5 x6 s0 s1 = some res → ∀ (ls : Array Slot), lv_has ls 7 [(0, .ref q_t), (1, .int x1), (2, .int x2), (5, .int x5), (6, .int x6)] → W p l e (headSpec wsX11_mean rm_X11_mean).room s m ([.ref q_t, .int p1, .int p2] : List Value).toArray below meth c s.heap [] 0 0 (MQ below (vp_Sl (fun r => r = res)) ([.ref q_t, .int p1, .int p2] : List Value).toArray s 0 0 (fun _ => False)) (F0 m 105 ls [.long s1, .long s0]) := by
            intro x1 x2 x5 x6 s0 s1 h ls hl
            unfold X11_mean_b105 at h
            refine lv_ladd hx hb dX11_mean_105 ?_
            refine lv_lstore_n (lv' := [(3, .long (s0 + s1)), (0, .ref q_t), (1, .int x1), (2, .int x2), (5, .int x5), (6, .int x6)]) hx hb dX11_mean_106 rfl hl (by decide) rfl (fun ls hl => ?_)
            refine lv_iinc (v := (x6 + (1 : Int32))) (lv' := [(6, .int (x6 + (1 : Int32))), (3, .long (s0 + s1)), (0, .ref q_t), (1, .int x1), (2, .int x2), (5, .int x5)]) hx hb dX11_mean_107 hl (k := 5) rfl rfl (by decide) rfl (fun ls hl => ?_)
            refine lv_goto (tgt := 42) hx hb dX11_mean_110 (by decide) ?_
            exact ih_42 x1 x2 (s0 + s1) x5 (x6 + (1 : Int32)) h ls (lv_sub hl [2, 3, 4, 1, 5, 0] rfl)
          intro x1 x2 x3 x5 x6 h ls hl
          replace h : X11_mean_b42_s (X11_mean_b32 n32) (X11_mean_b42 (X11_mean_b32 n32) n42) v_t_rule f_t_tens x1 x2 x3 x5 x6 = some res := h
          unfold X11_mean_b42_s at h
          refine lv_iload hx hb dX11_mean_42 (lv_at hl 5 rfl) ?_
          refine lv_iload_n hx hb dX11_mean_44 rfl (lv_at hl 1 rfl) ?_
          refine lv_icmp_gt (tgt := 113) hx hb dX11_mean_45 (by decide) (fun c1 => ?_) (fun c1 => ?_)
          · replace h := ite_t h c1
            exact B_113 x1 x2 x3 x5 h ls (lv_sub hl [0, 1, 2, 3, 4] rfl)
          replace h := ite_f h c1
          refine lv_lload_n hx hb dX11_mean_48 rfl (lv_at hl 3 rfl) ?_
          refine lv_aload_n hx hb dX11_mean_49 rfl (lv_at hl 0 rfl) ?_
          refine lv_iload hx hb dX11_mean_50 (lv_at hl 4 rfl) ?_
          refine lv_iload hx hb dX11_mean_52 (lv_at hl 5 rfl) ?_
          refine kRz (res := (X11_isFine v_t_rule x5 x6)) (va_runV (As := [.int x5, .int x6]) (rest := [.long x3]) ⟨hx, hb, hml, hown, hts⟩ (cn_X11_isFine l dC dI cI cJ cZ q_t q_t_readSlips q_t_slips q_t_text q_t_row q_t_before q_t_anew q_t_sums q_t_spare q_t_least q_t_then q_t_told q_t_tens q_t_paidTo q_t_paid q_t_isKept q_t_kept  v_t_readMany v_t_readBarred v_t_readRule v_t_readShare v_t_readPot v_t_many v_t_barred v_t_rule v_t_share v_t_pot v_t_length v_t_at v_t_faultAt v_t_rowMany v_t_acts v_t_next v_t_payments v_t_seed x5 x6 (X11_isFine v_t_rule x5 x6) rfl) (cwV 2 hts gX11_mean_X11_isFine rfl rfl rfl (by decide +kernel) ⟨Nat.le_of_ble_eq_true rfl, Nat.le_of_ble_eq_true rfl⟩) (preR hKK (hP.sub (ws' := [(q_t, .inr (11, [.ref q_t_readSlips, .int v_t_readMany, .int v_t_readBarred, .int v_t_readRule, .int v_t_readShare, .int v_t_readPot, .ref q_t_slips, .int v_t_many, .int v_t_barred, .int v_t_rule, .int v_t_share, .int v_t_pot, .ref q_t_text, .int v_t_length, .int v_t_at, .int v_t_faultAt, .ref q_t_row, .int v_t_rowMany, .int v_t_acts, .int v_t_next, .ref q_t_before, .ref q_t_anew, .ref q_t_sums, .ref q_t_spare, .ref q_t_least, .ref q_t_then, .ref q_t_told, .ref q_t_tens, .int v_t_payments, .ref q_t_paidTo, .ref q_t_paid, .long v_t_seed, .ref q_t_isKept, .ref q_t_kept]))]) [0] rfl) (ci := 11) (q0 := 0) rfl rfl) rfl rfl hl.1 rfl (lv_room (Nat.le_of_ble_eq_true rfl)) dX11_mean_54 ⟨Nat.zero_le _, Nat.zero_le _⟩) (fun hz2 => ?_)
          refine lv_if_eq (tgt := 104) hx hb dX11_mean_57 (by decide) (fun c3 => ?_) (fun c3 => ?_)
          · replace h := ite_t h c3
            refine lv_lconst (v := (0 : Int64)) hx hb dX11_mean_104 (by decide) ?_
            exact B_105 x1 x2 x5 x6 x3 (0 : Int64) h ls (lv_sub hl [0, 1, 2, 4, 5] rfl)
          replace h := ite_f h c3
          refine lv_iload hx hb dX11_mean_60 (lv_at hl 5 rfl) ?_
          refine lv_i2l hx hb dX11_mean_62 rfl ?_
          refine lv_iload_n hx hb dX11_mean_63 rfl (lv_at hl 1 rfl) ?_
          refine lv_iload hx hb dX11_mean_64 (lv_at hl 5 rfl) ?_
          obtain ⟨r4, hc4, h⟩ := bnd1_s h
          refine kRl (res := r4) (va_runS (As := [.int x1, .int x6]) (rest := [.long x6.toInt64, .long x3]) ⟨hx, hb, hml, hown, hts⟩ (cn_X11_over l dC dI cI cJ cZ    x1 x6 r4 hc4) (va_cwS 2 hts gX11_mean_X11_over rfl rfl rfl (by decide +kernel) ⟨Nat.le_of_ble_eq_true rfl, Nat.le_of_ble_eq_true rfl⟩) (preRS hKK (hP.sub (ws' := []) [] rfl)) rfl rfl hl.1 rfl (lv_room (Nat.le_of_ble_eq_true rfl)) dX11_mean_66 ⟨Nat.zero_le _, Nat.zero_le _⟩) ?_
          refine lv_lmul hx hb dX11_mean_69 ?_
          refine lv_aload_n hx hb dX11_mean_70 rfl (lv_at hl 0 rfl) ?_
          refine va_get (D := (dC, dI)) (ci := 11) (v := .ref q_t_tens) (C := RX11) (T := TX11) (N := 34) hx hb hts in_X11_mean_X11 hown hK hP 0 rfl rfl 27 (by decide) (hts (.fieldLink RX11 44 "RightIfAsManyModel" "tens" "[I") (List.mem_of_getElem? (i := 4) rfl)) (fun _ h9 => h9) rfl dX11_mean_71 ?_
          refine lv_iload hx hb dX11_mean_74 (lv_at hl 4 rfl) ?_
          obtain ⟨hg5, h⟩ := grd_s h
          refine va_iald hx hb hK hP 1 0 rfl rfl hg5 dX11_mean_76 ?_
          refine lv_iload hx hb dX11_mean_77 (lv_at hl 5 rfl) ?_
          obtain ⟨r6, hc6, h⟩ := bnd1_s h
          refine kRl (res := r6) (va_runS (As := [.int (f_t_tens x5.toNatClampNeg), .int x6]) (rest := [.long (x6.toInt64 * r4), .long x3]) ⟨hx, hb, hml, hown, hts⟩ (cn_X11_power l dC dI cI cJ cZ    (f_t_tens x5.toNatClampNeg) x6 r6 hc6) (va_cwS 2 hts gX11_mean_X11_power rfl rfl rfl (by decide +kernel) ⟨Nat.le_of_ble_eq_true rfl, Nat.le_of_ble_eq_true rfl⟩) (preRS hKK (hP.sub (ws' := []) [] rfl)) rfl rfl hl.1 rfl (lv_room (Nat.le_of_ble_eq_true rfl)) dX11_mean_79 ⟨Nat.zero_le _, Nat.zero_le _⟩) ?_
          refine lv_lmul hx hb dX11_mean_82 ?_
          refine lv_bipush (v := (10 : Int32)) hx hb dX11_mean_83 (by decide) ?_
          refine lv_aload_n hx hb dX11_mean_85 rfl (lv_at hl 0 rfl) ?_
          refine va_get (D := (dC, dI)) (ci := 11) (v := .ref q_t_tens) (C := RX11) (T := TX11) (N := 34) hx hb hts in_X11_mean_X11 hown hK hP 0 rfl rfl 27 (by decide) (hts (.fieldLink RX11 44 "RightIfAsManyModel" "tens" "[I") (List.mem_of_getElem? (i := 4) rfl)) (fun _ h9 => h9) rfl dX11_mean_86 ?_
          refine lv_iload hx hb dX11_mean_89 (lv_at hl 4 rfl) ?_
          obtain ⟨hg7, h⟩ := grd_s h
          refine va_iald hx hb hK hP 1 0 rfl rfl hg7 dX11_mean_91 ?_
          refine lv_isub hx hb dX11_mean_92 ?_
          refine lv_iload_n hx hb dX11_mean_93 rfl (lv_at hl 1 rfl) ?_
          refine lv_iload hx hb dX11_mean_94 (lv_at hl 5 rfl) ?_
          refine lv_isub hx hb dX11_mean_96 ?_
          obtain ⟨r8, hc8, h⟩ := bnd1_s h
          refine kRl (res := r8) (va_runS (As := [.int ((10 : Int32) - (f_t_tens x5.toNatClampNeg)), .int (x1 - x6)]) (rest := [.long ((x6.toInt64 * r4) * r6), .long x3]) ⟨hx, hb, hml, hown, hts⟩ (cn_X11_power l dC dI cI cJ cZ    ((10 : Int32) - (f_t_tens x5.toNatClampNeg)) (x1 - x6) r8 hc8) (va_cwS 2 hts gX11_mean_X11_power rfl rfl rfl (by decide +kernel) ⟨Nat.le_of_ble_eq_true rfl, Nat.le_of_ble_eq_true rfl⟩) (preRS hKK (hP.sub (ws' := []) [] rfl)) rfl rfl hl.1 rfl (lv_room (Nat.le_of_ble_eq_true rfl)) dX11_mean_97 ⟨Nat.zero_le _, Nat.zero_le _⟩) ?_
          refine lv_lmul hx hb dX11_mean_100 ?_
          refine lv_goto (tgt := 105) hx hb dX11_mean_101 (by decide) ?_
          exact B_105 x1 x2 x5 x6 x3 (((x6.toInt64 * r4) * r6) * r8) h ls (lv_sub hl [0, 1, 2, 4, 5] rfl)
      intro x1 x2 x3 x5 h ls hl
      replace h : X11_mean_b32_s (X11_mean_b32 n32) v_t_rule f_t_tens x1 x2 x3 x5 = some res := h
      unfold X11_mean_b32_s at h
      refine lv_iload hx hb dX11_mean_32 (lv_at hl 4 rfl) ?_
      refine lv_bipush (v := (10 : Int32)) hx hb dX11_mean_34 (by decide) ?_
      refine lv_icmp_ge (tgt := 119) hx hb dX11_mean_36 (by decide) (fun c11 => ?_) (fun c11 => ?_)
      · replace h := ite_t h c11
        exact B_119 x1 x2 x3 h ls (lv_sub hl [1, 2, 3] rfl)
      replace h := ite_f h c11
      refine lv_iconst (v := (1 : Int32)) hx hb dX11_mean_39 (by decide) ?_
      refine lv_istore (lv' := [(6, .int (1 : Int32)), (0, .ref q_t), (1, .int x1), (2, .int x2), (3, .long x3), (5, .int x5)]) hx hb dX11_mean_40 hl (by decide) rfl (fun ls hl => ?_)
      exact L_42 fU x1 x2 x3 x5 (1 : Int32) h ls (lv_sub hl [1, 2, 3, 4, 5, 0] rfl)
  unfold X11_mean at h
  refine lv_iload_n hx hb dX11_mean_0 rfl (lv_at hl 1 rfl) ?_
  refine lv_i2l hx hb dX11_mean_1 rfl ?_
  refine lv_lconst (v := (0 : Int64)) hx hb dX11_mean_2 (by decide) ?_
  refine lv_ldc2 (v := (9 : Int64)) hx hb hown (hts (.constantLong RX11 78 (9)) (List.mem_of_getElem? (i := 1) rfl)) dX11_mean_3 ?_
  refine kRz (res := (X11_in p1.toInt64 (0 : Int64) (9 : Int64))) (va_runS (As := [.long p1.toInt64, .long (0 : Int64), .long (9 : Int64)]) (rest := []) ⟨hx, hb, hml, hown, hts⟩ (cn_X11_in l dC dI cI cJ cZ    p1.toInt64 (0 : Int64) (9 : Int64) (X11_in p1.toInt64 (0 : Int64) (9 : Int64)) rfl) (va_cwS 3 hts gX11_mean_X11_in rfl rfl rfl (by decide +kernel) ⟨Nat.le_of_ble_eq_true rfl, Nat.le_of_ble_eq_true rfl⟩) (preRS hKK (hP.sub (ws' := []) [] rfl)) rfl rfl hl.1 rfl (lv_room (Nat.le_of_ble_eq_true rfl)) dX11_mean_6 ⟨Nat.zero_le _, Nat.zero_le _⟩) (fun hz12 => ?_)
  refine lv_if_ne (tgt := 16) hx hb dX11_mean_9 (by decide) (fun c13 => ?_) (fun c13 => ?_)
  · replace h := ite_f h c13
    refine lv_aload_n hx hb dX11_mean_16 rfl (lv_at hl 0 rfl) ?_
    obtain ⟨r14, hc14, h⟩ := bnd1_s h
    refine kRz (res := r14) (va_runV (As := []) (rest := []) ⟨hx, hb, hml, hown, hts⟩ (cn_X11_areTen l dC dI cI cJ cZ q_t q_t_readSlips q_t_slips q_t_text q_t_row q_t_before q_t_anew q_t_sums q_t_spare q_t_least q_t_then q_t_told q_t_tens q_t_paidTo q_t_paid q_t_isKept q_t_kept  v_t_readMany v_t_readBarred v_t_readRule v_t_readShare v_t_readPot v_t_many v_t_barred v_t_rule v_t_share v_t_pot v_t_length v_t_at v_t_faultAt v_t_rowMany v_t_acts v_t_next v_t_payments v_t_seed f_t_tens  r14 hc14) (cwV 0 hts gX11_mean_X11_areTen rfl rfl rfl (by decide +kernel) ⟨Nat.le_of_ble_eq_true rfl, Nat.le_of_ble_eq_true rfl⟩) (preR hKK (hP.sub (ws' := [(q_t, .inr (11, [.ref q_t_readSlips, .int v_t_readMany, .int v_t_readBarred, .int v_t_readRule, .int v_t_readShare, .int v_t_readPot, .ref q_t_slips, .int v_t_many, .int v_t_barred, .int v_t_rule, .int v_t_share, .int v_t_pot, .ref q_t_text, .int v_t_length, .int v_t_at, .int v_t_faultAt, .ref q_t_row, .int v_t_rowMany, .int v_t_acts, .int v_t_next, .ref q_t_before, .ref q_t_anew, .ref q_t_sums, .ref q_t_spare, .ref q_t_least, .ref q_t_then, .ref q_t_told, .ref q_t_tens, .int v_t_payments, .ref q_t_paidTo, .ref q_t_paid, .long v_t_seed, .ref q_t_isKept, .ref q_t_kept])), (q_t_tens, .inl (cI, 10, .inl f_t_tens))]) [0, 1] rfl) (ci := 11) (q0 := 0) rfl rfl) rfl rfl hl.1 rfl (lv_room (Nat.le_of_ble_eq_true rfl)) dX11_mean_17 ⟨Nat.zero_le _, Nat.zero_le _⟩) (fun hz15 => ?_)
    refine lv_if_ne (tgt := 27) hx hb dX11_mean_20 (by decide) (fun c16 => ?_) (fun c16 => ?_)
    · replace h := ite_f h c16
      refine lv_lconst (v := (0 : Int64)) hx hb dX11_mean_27 (by decide) ?_
      refine lv_lstore_n (lv' := [(3, .long (0 : Int64)), (0, .ref q_t), (1, .int p1), (2, .int p2)]) hx hb dX11_mean_28 rfl hl (by decide) rfl (fun ls hl => ?_)
      refine lv_iconst (v := (0 : Int32)) hx hb dX11_mean_29 (by decide) ?_
      refine lv_istore (lv' := [(5, .int (0 : Int32)), (3, .long (0 : Int64)), (0, .ref q_t), (1, .int p1), (2, .int p2)]) hx hb dX11_mean_30 hl (by decide) rfl (fun ls hl => ?_)
      exact L_32 fU p1 p2 (0 : Int64) (0 : Int32) h ls (lv_sub hl [2, 3, 4, 1, 0] rfl)
    replace h := ite_t h c16
    refine lv_ldc2 (v := (-3 : Int64)) hx hb hown (hts (.constantLong RX11 194 (-3)) (List.mem_of_getElem? (i := 3) rfl)) dX11_mean_23 ?_
    have e1 := Option.some.inj h
    exact W.lret (v := (-3 : Int64)) hx hb hr (fun t ht hW => ⟨_, rfl, e1, ht⟩) (fun q hq => by cases hq) dX11_mean_26
  replace h := ite_t h c13
  refine lv_ldc2 (v := (-2 : Int64)) hx hb hown (hts (.constantLong RX11 184 (-2)) (List.mem_of_getElem? (i := 2) rfl)) dX11_mean_12 ?_
  have e1 := Option.some.inj h
  exact W.lret (v := (-2 : Int64)) hx hb hr (fun t ht hW => ⟨_, rfl, e1, ht⟩) (fun q hq => by cases hq) dX11_mean_15
