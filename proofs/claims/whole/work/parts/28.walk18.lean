/-! walks, by program: X11_isFine X11_wroteIn X11_isRight X11_getsOf X11_wantOf -/
abbrev rm_X11_isFine : Room := { frames := 0, cells := 0, slots := 0, locals := 0 }
theorem in_X11_isFine_X11 : ∀ w ∈ wsX110, w ∈ wsX11_isFine := fun _ h => List.mem_cons_of_mem _ (List.mem_append_right _ h)
set_option maxHeartbeats 4000000 in
set_option maxRecDepth 100000 in
theorem cn_X11_isFine (l : Launch) (dC : Nat → ClassId) (dI : Nat → Nat → Nat) (cI cJ cZ : ClassId) (q_t q_t_readSlips q_t_slips q_t_text q_t_row q_t_before q_t_anew q_t_sums q_t_spare q_t_least q_t_then q_t_told q_t_tens q_t_paidTo q_t_paid q_t_isKept q_t_kept : Nat) (v_t_readMany : Int32) (v_t_readBarred : Int32) (v_t_readRule : Int32) (v_t_readShare : Int32) (v_t_readPot : Int32) (v_t_many : Int32) (v_t_barred : Int32) (v_t_rule : Int32) (v_t_share : Int32) (v_t_pot : Int32) (v_t_length : Int32) (v_t_at : Int32) (v_t_faultAt : Int32) (v_t_rowMany : Int32) (v_t_acts : Int32) (v_t_next : Int32) (v_t_payments : Int32) (v_t_seed : Int64) (p1 : Int32) (p2 : Int32) (res : Int32) (h : X11_isFine v_t_rule p1 p2 = res) : Met l yX11_isFine wsX11_isFine rm_X11_isFine (pcR dC dI cI cJ cZ [(q_t, .inr (11, [.ref q_t_readSlips, .int v_t_readMany, .int v_t_readBarred, .int v_t_readRule, .int v_t_readShare, .int v_t_readPot, .ref q_t_slips, .int v_t_many, .int v_t_barred, .int v_t_rule, .int v_t_share, .int v_t_pot, .ref q_t_text, .int v_t_length, .int v_t_at, .int v_t_faultAt, .ref q_t_row, .int v_t_rowMany, .int v_t_acts, .int v_t_next, .ref q_t_before, .ref q_t_anew, .ref q_t_sums, .ref q_t_spare, .ref q_t_least, .ref q_t_then, .ref q_t_told, .ref q_t_tens, .int v_t_payments, .ref q_t_paidTo, .ref q_t_paid, .long v_t_seed, .ref q_t_isKept, .ref q_t_kept]))] [.ref q_t, .int p1, .int p2]) (vp_Si (fun r => r = res ∧ r &&& 1 = r)) 0 0 (fun _ => False) := by
  refine Met.ofW (cc := cX11_isFine) (maxL := 3) (ret := (some .boolean)) (by decide) rfl ?_
  intro p e s m args below meth c s₁ B hml hv
  obtain ⟨rfl, hP, hKK⟩ := hv
  have hx := B.exec
  have hb := B.bytes
  have hr := B.returns
  have hts := atoms_spec (ws := wsX11_isFine) B.pre
  have hown : s.vm.findClass RX11 = some m.cls := findClass_of_methodNamed B.named
  have hlocks := B.notSynchronized
  have hK := hKK.1
  have hl := lv_entry ([.ref q_t, .int p1, .int p2]) (n := 3) (Nat.le_of_ble_eq_true rfl)
  rw [lg_entry_eq]
  generalize (lg_sl ([.ref q_t, .int p1, .int p2]) ++ List.replicate (3 - (lg_sl ([.ref q_t, .int p1, .int p2])).length) Slot.unset).toArray = ls at hl ⊢
  have hl : lv_has ls 3 [(0, .ref q_t), (1, .int p1), (2, .int p2)] := hl
  unfold X11_isFine at h
  refine lv_aload_n hx hb dX11_isFine_0 rfl (lv_at hl 0 rfl) ?_
  refine va_get (D := (dC, dI)) (ci := 11) (v := .int v_t_rule) (C := RX11) (T := TX11) (N := 34) hx hb hts in_X11_isFine_X11 hown hK hP 0 rfl rfl 9 (by decide) (hts (.fieldLink RX11 115 "RightIfAsManyModel" "rule" "I") (List.mem_of_getElem? (i := 1) rfl)) (fun _ h9 => h9) rfl dX11_isFine_1 ?_
  refine lv_if_ne (tgt := 20) hx hb dX11_isFine_4 (by decide) (fun c1 => ?_) (fun c1 => ?_)
  · replace h := ite_f h c1
    refine lv_aload_n hx hb dX11_isFine_20 rfl (lv_at hl 0 rfl) ?_
    refine va_get (D := (dC, dI)) (ci := 11) (v := .int v_t_rule) (C := RX11) (T := TX11) (N := 34) hx hb hts in_X11_isFine_X11 hown hK hP 0 rfl rfl 9 (by decide) (hts (.fieldLink RX11 115 "RightIfAsManyModel" "rule" "I") (List.mem_of_getElem? (i := 1) rfl)) (fun _ h9 => h9) rfl dX11_isFine_21 ?_
    refine lv_iconst (v := (1 : Int32)) hx hb dX11_isFine_24 (by decide) ?_
    refine lv_icmp_ne (tgt := 41) hx hb dX11_isFine_25 (by decide) (fun c2 => ?_) (fun c2 => ?_)
    · replace h := ite_f h c2
      refine lv_iload_n hx hb dX11_isFine_41 rfl (lv_at hl 2 rfl) ?_
      refine lv_iload_n hx hb dX11_isFine_42 rfl (lv_at hl 1 rfl) ?_
      refine lv_icmp_gt (tgt := 50) hx hb dX11_isFine_43 (by decide) (fun c3 => ?_) (fun c3 => ?_)
      · replace h := ite_t h c3
        refine lv_iconst (v := (0 : Int32)) hx hb dX11_isFine_50 (by decide) ?_
        have e1 := h
        exact W.zret (v := (0 : Int32)) (ty := .boolean) hx hb hr (congrArg Value.int rfl) (fun t ht hW => ⟨_, rfl, ⟨e1, rfl⟩, ht⟩) (fun q hq => by cases hq) dX11_isFine_51
      replace h := ite_f h c3
      refine lv_iconst (v := (1 : Int32)) hx hb dX11_isFine_46 (by decide) ?_
      refine lv_goto (tgt := 51) hx hb dX11_isFine_47 (by decide) ?_
      have e1 := h
      exact W.zret (v := (1 : Int32)) (ty := .boolean) hx hb hr (congrArg Value.int rfl) (fun t ht hW => ⟨_, rfl, ⟨e1, rfl⟩, ht⟩) (fun q hq => by cases hq) dX11_isFine_51
    replace h := ite_t h c2
    refine lv_iload_n hx hb dX11_isFine_28 rfl (lv_at hl 2 rfl) ?_
    refine lv_iload_n hx hb dX11_isFine_29 rfl (lv_at hl 1 rfl) ?_
    refine lv_icmp_lt (tgt := 37) hx hb dX11_isFine_30 (by decide) (fun c4 => ?_) (fun c4 => ?_)
    · replace h := ite_t h c4
      refine lv_iconst (v := (0 : Int32)) hx hb dX11_isFine_37 (by decide) ?_
      refine lv_goto (tgt := 51) hx hb dX11_isFine_38 (by decide) ?_
      have e1 := h
      exact W.zret (v := (0 : Int32)) (ty := .boolean) hx hb hr (congrArg Value.int rfl) (fun t ht hW => ⟨_, rfl, ⟨e1, rfl⟩, ht⟩) (fun q hq => by cases hq) dX11_isFine_51
    replace h := ite_f h c4
    refine lv_iconst (v := (1 : Int32)) hx hb dX11_isFine_33 (by decide) ?_
    refine lv_goto (tgt := 51) hx hb dX11_isFine_34 (by decide) ?_
    have e1 := h
    exact W.zret (v := (1 : Int32)) (ty := .boolean) hx hb hr (congrArg Value.int rfl) (fun t ht hW => ⟨_, rfl, ⟨e1, rfl⟩, ht⟩) (fun q hq => by cases hq) dX11_isFine_51
  replace h := ite_t h c1
  refine lv_iload_n hx hb dX11_isFine_7 rfl (lv_at hl 2 rfl) ?_
  refine lv_iload_n hx hb dX11_isFine_8 rfl (lv_at hl 1 rfl) ?_
  refine lv_icmp_ne (tgt := 16) hx hb dX11_isFine_9 (by decide) (fun c5 => ?_) (fun c5 => ?_)
  · replace h := ite_f h c5
    refine lv_iconst (v := (0 : Int32)) hx hb dX11_isFine_16 (by decide) ?_
    refine lv_goto (tgt := 51) hx hb dX11_isFine_17 (by decide) ?_
    have e1 := h
    exact W.zret (v := (0 : Int32)) (ty := .boolean) hx hb hr (congrArg Value.int rfl) (fun t ht hW => ⟨_, rfl, ⟨e1, rfl⟩, ht⟩) (fun q hq => by cases hq) dX11_isFine_51
  replace h := ite_t h c5
  refine lv_iconst (v := (1 : Int32)) hx hb dX11_isFine_12 (by decide) ?_
  refine lv_goto (tgt := 51) hx hb dX11_isFine_13 (by decide) ?_
  have e1 := h
  exact W.zret (v := (1 : Int32)) (ty := .boolean) hx hb hr (congrArg Value.int rfl) (fun t ht hW => ⟨_, rfl, ⟨e1, rfl⟩, ht⟩) (fun q hq => by cases hq) dX11_isFine_51
abbrev rm_X11_wroteIn : Room := { frames := 0, cells := 0, slots := 0, locals := 0 }
theorem in_X11_wroteIn_X11 : ∀ w ∈ wsX110, w ∈ wsX11_wroteIn := fun _ h => List.mem_cons_of_mem _ (List.mem_append_right _ h)
set_option maxHeartbeats 4000000 in
set_option maxRecDepth 100000 in
theorem cn_X11_wroteIn (l : Launch) (dC : Nat → ClassId) (dI : Nat → Nat → Nat) (cI cJ cZ : ClassId) (q_t q_t_readSlips q_t_slips q_t_text q_t_row q_t_before q_t_anew q_t_sums q_t_spare q_t_least q_t_then q_t_told q_t_tens q_t_paidTo q_t_paid q_t_isKept q_t_kept : Nat) (v_t_readMany : Int32) (v_t_readBarred : Int32) (v_t_readRule : Int32) (v_t_readShare : Int32) (v_t_readPot : Int32) (v_t_many : Int32) (v_t_barred : Int32) (v_t_rule : Int32) (v_t_share : Int32) (v_t_pot : Int32) (v_t_length : Int32) (v_t_at : Int32) (v_t_faultAt : Int32) (v_t_rowMany : Int32) (v_t_acts : Int32) (v_t_next : Int32) (v_t_payments : Int32) (v_t_seed : Int64) (f_t_row : (Nat → Int32)) (p1 : Int32) (res : Int32) (h : X11_wroteIn v_t_rowMany f_t_row p1 = some res) : Met l yX11_wroteIn wsX11_wroteIn rm_X11_wroteIn (pcR dC dI cI cJ cZ [(q_t, .inr (11, [.ref q_t_readSlips, .int v_t_readMany, .int v_t_readBarred, .int v_t_readRule, .int v_t_readShare, .int v_t_readPot, .ref q_t_slips, .int v_t_many, .int v_t_barred, .int v_t_rule, .int v_t_share, .int v_t_pot, .ref q_t_text, .int v_t_length, .int v_t_at, .int v_t_faultAt, .ref q_t_row, .int v_t_rowMany, .int v_t_acts, .int v_t_next, .ref q_t_before, .ref q_t_anew, .ref q_t_sums, .ref q_t_spare, .ref q_t_least, .ref q_t_then, .ref q_t_told, .ref q_t_tens, .int v_t_payments, .ref q_t_paidTo, .ref q_t_paid, .long v_t_seed, .ref q_t_isKept, .ref q_t_kept])), (q_t_row, .inl (cI, 10, .inl f_t_row))] [.ref q_t, .int p1]) (vp_Si (fun r => r = res)) 0 0 (fun _ => False) := by
  refine Met.ofW (cc := cX11_wroteIn) (maxL := 4) (ret := (some .int)) (by decide) rfl ?_
  intro p e s m args below meth c s₁ B hml hv
  obtain ⟨rfl, hP, hKK⟩ := hv
  have hx := B.exec
  have hb := B.bytes
  have hr := B.returns
  have hts := atoms_spec (ws := wsX11_wroteIn) B.pre
  have hown : s.vm.findClass RX11 = some m.cls := findClass_of_methodNamed B.named
  have hlocks := B.notSynchronized
  have hK := hKK.1
  have hl := lv_entry ([.ref q_t, .int p1]) (n := 4) (Nat.le_of_ble_eq_true rfl)
  rw [lg_entry_eq]
  generalize (lg_sl ([.ref q_t, .int p1]) ++ List.replicate (4 - (lg_sl ([.ref q_t, .int p1])).length) Slot.unset).toArray = ls at hl ⊢
  have hl : lv_has ls 4 [(0, .ref q_t), (1, .int p1)] := hl
  have L_4 : ∀ (n4 : Nat) , ∀  (x1 : Int32) (x2 : Int32) (x3 : Int32), X11_wroteIn_b4 n4 v_t_rowMany f_t_row x1 x2 x3 = some res → ∀ (ls : Array Slot), lv_has ls 4 [(0, .ref q_t), (1, .int x1), (2, .int x2), (3, .int x3)] → W p l e (headSpec wsX11_wroteIn rm_X11_wroteIn).room s m ([.ref q_t, .int p1] : List Value).toArray below meth c s.heap [] 0 0 (MQ below (vp_Si (fun r => r = res)) ([.ref q_t, .int p1] : List Value).toArray s 0 0 (fun _ => False)) (F0 m 4 ls []) := by
    intro n4
    induction n4 with
    | zero => intro x1 x2 x3 h ls hl; exact absurd h (fun h => by cases h)
    | succ n4 ih_4 =>
      have B_28 : ∀  (x1 : Int32) (x3 : Int32) (s0 : Int32) (s1 : Int32), X11_wroteIn_b28 (X11_wroteIn_b4 n4) v_t_rowMany f_t_row x1 x3 s0 s1 = some res → ∀ (ls : Array Slot), lv_has ls 4 [(0, .ref q_t), (1, .int x1), (3, .int x3)] → W p l e (headSpec wsX11_wroteIn rm_X11_wroteIn).room s m ([.ref q_t, .int p1] : List Value).toArray below meth c s.heap [] 0 0 (MQ below (vp_Si (fun r => r = res)) ([.ref q_t, .int p1] : List Value).toArray s 0 0 (fun _ => False)) (F0 m 28 ls [.int s1, .int s0]) := by
        intro x1 x3 s0 s1 h ls hl
        unfold X11_wroteIn_b28 at h
        refine lv_iadd hx hb dX11_wroteIn_28 ?_
        refine lv_istore_n (lv' := [(2, .int (s0 + s1)), (0, .ref q_t), (1, .int x1), (3, .int x3)]) hx hb dX11_wroteIn_29 rfl hl (by decide) rfl (fun ls hl => ?_)
        refine lv_iinc (v := (x3 + (1 : Int32))) (lv' := [(3, .int (x3 + (1 : Int32))), (2, .int (s0 + s1)), (0, .ref q_t), (1, .int x1)]) hx hb dX11_wroteIn_30 hl (k := 3) rfl rfl (by decide) rfl (fun ls hl => ?_)
        refine lv_goto (tgt := 4) hx hb dX11_wroteIn_33 (by decide) ?_
        exact ih_4 x1 (s0 + s1) (x3 + (1 : Int32)) h ls (lv_sub hl [2, 3, 1, 0] rfl)
      intro x1 x2 x3 h ls hl
      replace h : X11_wroteIn_b4_s (X11_wroteIn_b4 n4) v_t_rowMany f_t_row x1 x2 x3 = some res := h
      unfold X11_wroteIn_b4_s at h
      refine lv_iload_n hx hb dX11_wroteIn_4 rfl (lv_at hl 3 rfl) ?_
      refine lv_aload_n hx hb dX11_wroteIn_5 rfl (lv_at hl 0 rfl) ?_
      refine va_get (D := (dC, dI)) (ci := 11) (v := .int v_t_rowMany) (C := RX11) (T := TX11) (N := 34) hx hb hts in_X11_wroteIn_X11 hown hK hP 0 rfl rfl 17 (by decide) (hts (.fieldLink RX11 127 "RightIfAsManyModel" "rowMany" "I") (List.mem_of_getElem? (i := 1) rfl)) (fun _ h9 => h9) rfl dX11_wroteIn_6 ?_
      refine lv_icmp_ge (tgt := 36) hx hb dX11_wroteIn_9 (by decide) (fun c1 => ?_) (fun c1 => ?_)
      · replace h := ite_t h c1
        refine lv_iload_n hx hb dX11_wroteIn_36 rfl (lv_at hl 2 rfl) ?_
        have e1 := Option.some.inj h
        exact W.iret (v := x2) hx hb hr (fun t ht hW => ⟨_, rfl, e1, ht⟩) (fun q hq => by cases hq) dX11_wroteIn_37
      replace h := ite_f h c1
      refine lv_iload_n hx hb dX11_wroteIn_12 rfl (lv_at hl 2 rfl) ?_
      refine lv_aload_n hx hb dX11_wroteIn_13 rfl (lv_at hl 0 rfl) ?_
      refine va_get (D := (dC, dI)) (ci := 11) (v := .ref q_t_row) (C := RX11) (T := TX11) (N := 34) hx hb hts in_X11_wroteIn_X11 hown hK hP 0 rfl rfl 16 (by decide) (hts (.fieldLink RX11 19 "RightIfAsManyModel" "row" "[I") (List.mem_of_getElem? (i := 2) rfl)) (fun _ h9 => h9) rfl dX11_wroteIn_14 ?_
      refine lv_iload_n hx hb dX11_wroteIn_17 rfl (lv_at hl 3 rfl) ?_
      obtain ⟨hg2, h⟩ := grd_s h
      refine va_iald hx hb hK hP 1 0 rfl rfl hg2 dX11_wroteIn_18 ?_
      refine lv_iload_n hx hb dX11_wroteIn_19 rfl (lv_at hl 1 rfl) ?_
      refine lv_icmp_ne (tgt := 27) hx hb dX11_wroteIn_20 (by decide) (fun c3 => ?_) (fun c3 => ?_)
      · replace h := ite_f h c3
        refine lv_iconst (v := (0 : Int32)) hx hb dX11_wroteIn_27 (by decide) ?_
        exact B_28 x1 x3 x2 (0 : Int32) h ls (lv_sub hl [0, 1, 3] rfl)
      replace h := ite_t h c3
      refine lv_iconst (v := (1 : Int32)) hx hb dX11_wroteIn_23 (by decide) ?_
      refine lv_goto (tgt := 28) hx hb dX11_wroteIn_24 (by decide) ?_
      exact B_28 x1 x3 x2 (1 : Int32) h ls (lv_sub hl [0, 1, 3] rfl)
  unfold X11_wroteIn at h
  refine lv_iconst (v := (0 : Int32)) hx hb dX11_wroteIn_0 (by decide) ?_
  refine lv_istore_n (lv' := [(2, .int (0 : Int32)), (0, .ref q_t), (1, .int p1)]) hx hb dX11_wroteIn_1 rfl hl (by decide) rfl (fun ls hl => ?_)
  refine lv_iconst (v := (0 : Int32)) hx hb dX11_wroteIn_2 (by decide) ?_
  refine lv_istore_n (lv' := [(3, .int (0 : Int32)), (2, .int (0 : Int32)), (0, .ref q_t), (1, .int p1)]) hx hb dX11_wroteIn_3 rfl hl (by decide) rfl (fun ls hl => ?_)
  exact L_4 fU p1 (0 : Int32) (0 : Int32) h ls (lv_sub hl [2, 3, 1, 0] rfl)
abbrev rm_X11_isRight : Room := { frames := 1, cells := 0, slots := 0, locals := 23 }
theorem in_X11_isRight_X11 : ∀ w ∈ wsX110, w ∈ wsX11_isRight := fun _ h => List.mem_cons_of_mem _ (List.mem_append_right _ h)
set_option maxHeartbeats 4000000 in
set_option maxRecDepth 100000 in
theorem cn_X11_isRight (l : Launch) (dC : Nat → ClassId) (dI : Nat → Nat → Nat) (cI cJ cZ : ClassId) (q_t q_t_readSlips q_t_slips q_t_text q_t_row q_t_before q_t_anew q_t_sums q_t_spare q_t_least q_t_then q_t_told q_t_tens q_t_paidTo q_t_paid q_t_isKept q_t_kept : Nat) (v_t_readMany : Int32) (v_t_readBarred : Int32) (v_t_readRule : Int32) (v_t_readShare : Int32) (v_t_readPot : Int32) (v_t_many : Int32) (v_t_barred : Int32) (v_t_rule : Int32) (v_t_share : Int32) (v_t_pot : Int32) (v_t_length : Int32) (v_t_at : Int32) (v_t_faultAt : Int32) (v_t_rowMany : Int32) (v_t_acts : Int32) (v_t_next : Int32) (v_t_payments : Int32) (v_t_seed : Int64) (f_t_row : (Nat → Int32)) (p1 : Int32) (res : Int32) (h : X11_isRight v_t_rule v_t_rowMany f_t_row p1 = some res) : Met l yX11_isRight wsX11_isRight rm_X11_isRight (pcR dC dI cI cJ cZ [(q_t, .inr (11, [.ref q_t_readSlips, .int v_t_readMany, .int v_t_readBarred, .int v_t_readRule, .int v_t_readShare, .int v_t_readPot, .ref q_t_slips, .int v_t_many, .int v_t_barred, .int v_t_rule, .int v_t_share, .int v_t_pot, .ref q_t_text, .int v_t_length, .int v_t_at, .int v_t_faultAt, .ref q_t_row, .int v_t_rowMany, .int v_t_acts, .int v_t_next, .ref q_t_before, .ref q_t_anew, .ref q_t_sums, .ref q_t_spare, .ref q_t_least, .ref q_t_then, .ref q_t_told, .ref q_t_tens, .int v_t_payments, .ref q_t_paidTo, .ref q_t_paid, .long v_t_seed, .ref q_t_isKept, .ref q_t_kept])), (q_t_row, .inl (cI, 10, .inl f_t_row))] [.ref q_t, .int p1]) (vp_Si (fun r => r = res ∧ r &&& 1 = r)) 0 0 (fun _ => False) := by
  refine Met.ofW (cc := cX11_isRight) (maxL := 2) (ret := (some .boolean)) (by decide) rfl ?_
  intro p e s m args below meth c s₁ B hml hv
  obtain ⟨rfl, hP, hKK⟩ := hv
  have hx := B.exec
  have hb := B.bytes
  have hr := B.returns
  have hts := atoms_spec (ws := wsX11_isRight) B.pre
  have hown : s.vm.findClass RX11 = some m.cls := findClass_of_methodNamed B.named
  have hlocks := B.notSynchronized
  have hK := hKK.1
  have hl := lv_entry ([.ref q_t, .int p1]) (n := 2) (Nat.le_of_ble_eq_true rfl)
  rw [lg_entry_eq]
  generalize (lg_sl ([.ref q_t, .int p1]) ++ List.replicate (2 - (lg_sl ([.ref q_t, .int p1])).length) Slot.unset).toArray = ls at hl ⊢
  have hl : lv_has ls 2 [(0, .ref q_t), (1, .int p1)] := hl
  unfold X11_isRight at h
  refine lv_aload_n hx hb dX11_isRight_0 rfl (lv_at hl 0 rfl) ?_
  refine lv_aload_n hx hb dX11_isRight_1 rfl (lv_at hl 0 rfl) ?_
  refine va_get (D := (dC, dI)) (ci := 11) (v := .ref q_t_row) (C := RX11) (T := TX11) (N := 34) hx hb hts in_X11_isRight_X11 hown hK hP 0 rfl rfl 16 (by decide) (hts (.fieldLink RX11 19 "RightIfAsManyModel" "row" "[I") (List.mem_of_getElem? (i := 1) rfl)) (fun _ h9 => h9) rfl dX11_isRight_2 ?_
  refine lv_iload_n hx hb dX11_isRight_5 rfl (lv_at hl 1 rfl) ?_
  obtain ⟨hg1, h⟩ := grd_s h
  refine va_iald hx hb hK hP 1 0 rfl rfl hg1 dX11_isRight_6 ?_
  refine lv_aload_n hx hb dX11_isRight_7 rfl (lv_at hl 0 rfl) ?_
  refine lv_aload_n hx hb dX11_isRight_8 rfl (lv_at hl 0 rfl) ?_
  refine va_get (D := (dC, dI)) (ci := 11) (v := .ref q_t_row) (C := RX11) (T := TX11) (N := 34) hx hb hts in_X11_isRight_X11 hown hK hP 0 rfl rfl 16 (by decide) (hts (.fieldLink RX11 19 "RightIfAsManyModel" "row" "[I") (List.mem_of_getElem? (i := 1) rfl)) (fun _ h9 => h9) rfl dX11_isRight_9 ?_
  refine lv_iload_n hx hb dX11_isRight_12 rfl (lv_at hl 1 rfl) ?_
  obtain ⟨hg2, h⟩ := grd_s h
  refine va_iald hx hb hK hP 1 0 rfl rfl hg2 dX11_isRight_13 ?_
  obtain ⟨r3, hc3, h⟩ := bnd1_s h
  refine kRi (res := r3) (va_runV (As := [.int (f_t_row p1.toNatClampNeg)]) (rest := [.int (f_t_row p1.toNatClampNeg), .ref q_t]) ⟨hx, hb, hml, hown, hts⟩ (cn_X11_wroteIn l dC dI cI cJ cZ q_t q_t_readSlips q_t_slips q_t_text q_t_row q_t_before q_t_anew q_t_sums q_t_spare q_t_least q_t_then q_t_told q_t_tens q_t_paidTo q_t_paid q_t_isKept q_t_kept  v_t_readMany v_t_readBarred v_t_readRule v_t_readShare v_t_readPot v_t_many v_t_barred v_t_rule v_t_share v_t_pot v_t_length v_t_at v_t_faultAt v_t_rowMany v_t_acts v_t_next v_t_payments v_t_seed f_t_row (f_t_row p1.toNatClampNeg) r3 hc3) (cwV 1 hts gX11_isRight_X11_wroteIn rfl rfl rfl (by decide +kernel) ⟨Nat.le_of_ble_eq_true rfl, Nat.le_of_ble_eq_true rfl⟩) (preR hKK (hP.sub (ws' := [(q_t, .inr (11, [.ref q_t_readSlips, .int v_t_readMany, .int v_t_readBarred, .int v_t_readRule, .int v_t_readShare, .int v_t_readPot, .ref q_t_slips, .int v_t_many, .int v_t_barred, .int v_t_rule, .int v_t_share, .int v_t_pot, .ref q_t_text, .int v_t_length, .int v_t_at, .int v_t_faultAt, .ref q_t_row, .int v_t_rowMany, .int v_t_acts, .int v_t_next, .ref q_t_before, .ref q_t_anew, .ref q_t_sums, .ref q_t_spare, .ref q_t_least, .ref q_t_then, .ref q_t_told, .ref q_t_tens, .int v_t_payments, .ref q_t_paidTo, .ref q_t_paid, .long v_t_seed, .ref q_t_isKept, .ref q_t_kept])), (q_t_row, .inl (cI, 10, .inl f_t_row))]) [0, 1] rfl) (ci := 11) (q0 := 0) rfl rfl) rfl rfl hl.1 rfl (lv_room (Nat.le_of_ble_eq_true rfl)) dX11_isRight_14 ⟨Nat.zero_le _, Nat.zero_le _⟩) ?_
  refine kRz (res := (X11_isFine v_t_rule (f_t_row p1.toNatClampNeg) r3)) (va_runV (As := [.int (f_t_row p1.toNatClampNeg), .int r3]) (rest := []) ⟨hx, hb, hml, hown, hts⟩ (cn_X11_isFine l dC dI cI cJ cZ q_t q_t_readSlips q_t_slips q_t_text q_t_row q_t_before q_t_anew q_t_sums q_t_spare q_t_least q_t_then q_t_told q_t_tens q_t_paidTo q_t_paid q_t_isKept q_t_kept  v_t_readMany v_t_readBarred v_t_readRule v_t_readShare v_t_readPot v_t_many v_t_barred v_t_rule v_t_share v_t_pot v_t_length v_t_at v_t_faultAt v_t_rowMany v_t_acts v_t_next v_t_payments v_t_seed (f_t_row p1.toNatClampNeg) r3 (X11_isFine v_t_rule (f_t_row p1.toNatClampNeg) r3) rfl) (cwV 2 hts gX11_isRight_X11_isFine rfl rfl rfl (by decide +kernel) ⟨Nat.le_of_ble_eq_true rfl, Nat.le_of_ble_eq_true rfl⟩) (preR hKK (hP.sub (ws' := [(q_t, .inr (11, [.ref q_t_readSlips, .int v_t_readMany, .int v_t_readBarred, .int v_t_readRule, .int v_t_readShare, .int v_t_readPot, .ref q_t_slips, .int v_t_many, .int v_t_barred, .int v_t_rule, .int v_t_share, .int v_t_pot, .ref q_t_text, .int v_t_length, .int v_t_at, .int v_t_faultAt, .ref q_t_row, .int v_t_rowMany, .int v_t_acts, .int v_t_next, .ref q_t_before, .ref q_t_anew, .ref q_t_sums, .ref q_t_spare, .ref q_t_least, .ref q_t_then, .ref q_t_told, .ref q_t_tens, .int v_t_payments, .ref q_t_paidTo, .ref q_t_paid, .long v_t_seed, .ref q_t_isKept, .ref q_t_kept]))]) [0] rfl) (ci := 11) (q0 := 0) rfl rfl) rfl rfl hl.1 rfl (lv_room (Nat.le_of_ble_eq_true rfl)) dX11_isRight_17 ⟨Nat.zero_le _, Nat.zero_le _⟩) (fun hz4 => ?_)
  have e1 := Option.some.inj h
  exact W.zret (v := (X11_isFine v_t_rule (f_t_row p1.toNatClampNeg) r3)) (ty := .boolean) hx hb hr (congrArg Value.int hz4) (fun t ht hW => ⟨_, rfl, ⟨e1, hz4⟩, ht⟩) (fun q hq => by cases hq) dX11_isRight_20
abbrev rm_X11_getsOf : Room := { frames := 2, cells := 0, slots := 0, locals := 44 }
theorem in_X11_getsOf_X11 : ∀ w ∈ wsX110, w ∈ wsX11_getsOf := fun _ h => List.mem_cons_of_mem _ (List.mem_append_right _ h)
set_option maxHeartbeats 4000000 in
set_option maxRecDepth 100000 in
theorem cn_X11_getsOf (l : Launch) (dC : Nat → ClassId) (dI : Nat → Nat → Nat) (cI cJ cZ : ClassId) (q_t q_t_readSlips q_t_slips q_t_text q_t_row q_t_before q_t_anew q_t_sums q_t_spare q_t_least q_t_then q_t_told q_t_tens q_t_paidTo q_t_paid q_t_isKept q_t_kept : Nat) (v_t_readMany : Int32) (v_t_readBarred : Int32) (v_t_readRule : Int32) (v_t_readShare : Int32) (v_t_readPot : Int32) (v_t_many : Int32) (v_t_barred : Int32) (v_t_rule : Int32) (v_t_share : Int32) (v_t_pot : Int32) (v_t_length : Int32) (v_t_at : Int32) (v_t_faultAt : Int32) (v_t_rowMany : Int32) (v_t_acts : Int32) (v_t_next : Int32) (v_t_payments : Int32) (v_t_seed : Int64) (f_t_row : (Nat → Int32)) (p1 : Int32) (res : Int32) (h : X11_getsOf v_t_rule v_t_share v_t_pot v_t_rowMany f_t_row p1 = some res) : Met l yX11_getsOf wsX11_getsOf rm_X11_getsOf (pcR dC dI cI cJ cZ [(q_t, .inr (11, [.ref q_t_readSlips, .int v_t_readMany, .int v_t_readBarred, .int v_t_readRule, .int v_t_readShare, .int v_t_readPot, .ref q_t_slips, .int v_t_many, .int v_t_barred, .int v_t_rule, .int v_t_share, .int v_t_pot, .ref q_t_text, .int v_t_length, .int v_t_at, .int v_t_faultAt, .ref q_t_row, .int v_t_rowMany, .int v_t_acts, .int v_t_next, .ref q_t_before, .ref q_t_anew, .ref q_t_sums, .ref q_t_spare, .ref q_t_least, .ref q_t_then, .ref q_t_told, .ref q_t_tens, .int v_t_payments, .ref q_t_paidTo, .ref q_t_paid, .long v_t_seed, .ref q_t_isKept, .ref q_t_kept])), (q_t_row, .inl (cI, 10, .inl f_t_row))] [.ref q_t, .int p1]) (vp_Si (fun r => r = res)) 0 0 (fun _ => False) := by
  refine Met.ofW (cc := cX11_getsOf) (maxL := 5) (ret := (some .int)) (by decide) rfl ?_
  intro p e s m args below meth c s₁ B hml hv
  obtain ⟨rfl, hP, hKK⟩ := hv
  have hx := B.exec
  have hb := B.bytes
  have hr := B.returns
  have hts := atoms_spec (ws := wsX11_getsOf) B.pre
  have hown : s.vm.findClass RX11 = some m.cls := findClass_of_methodNamed B.named
  have hlocks := B.notSynchronized
  have hK := hKK.1
  have hl := lv_entry ([.ref q_t, .int p1]) (n := 5) (Nat.le_of_ble_eq_true rfl)
  rw [lg_entry_eq]
  generalize (lg_sl ([.ref q_t, .int p1]) ++ List.replicate (5 - (lg_sl ([.ref q_t, .int p1])).length) Slot.unset).toArray = ls at hl ⊢
  have hl : lv_has ls 5 [(0, .ref q_t), (1, .int p1)] := hl
  have B_72 : ∀  (x1 : Int32) (x2 : Int32) (x3 : Int32), X11_getsOf_b72 v_t_rule v_t_share v_t_pot v_t_rowMany f_t_row x1 x2 x3 = some res → ∀ (ls : Array Slot), lv_has ls 5 [(0, .ref q_t), (1, .int x1), (2, .int x2), (3, .int x3)] → W p l e (headSpec wsX11_getsOf rm_X11_getsOf).room s m ([.ref q_t, .int p1] : List Value).toArray below meth c s.heap [] 0 0 (MQ below (vp_Si (fun r => r = res)) ([.ref q_t, .int p1] : List Value).toArray s 0 0 (fun _ => False)) (F0 m 72 ls []) := by
    intro x1 x2 x3 h ls hl
    unfold X11_getsOf_b72 at h
    refine lv_aload_n hx hb dX11_getsOf_72 rfl (lv_at hl 0 rfl) ?_
    refine va_get (D := (dC, dI)) (ci := 11) (v := .int v_t_share) (C := RX11) (T := TX11) (N := 34) hx hb hts in_X11_getsOf_X11 hown hK hP 0 rfl rfl 10 (by decide) (hts (.fieldLink RX11 118 "RightIfAsManyModel" "share" "I") (List.mem_of_getElem? (i := 3) rfl)) (fun _ h9 => h9) rfl dX11_getsOf_73 ?_
    refine lv_if_ne (tgt := 88) hx hb dX11_getsOf_76 (by decide) (fun c5 => ?_) (fun c5 => ?_)
    · replace h := ite_f h c5
      refine lv_iload_n hx hb dX11_getsOf_88 rfl (lv_at hl 3 rfl) ?_
      refine lv_if_ne (tgt := 96) hx hb dX11_getsOf_89 (by decide) (fun c6 => ?_) (fun c6 => ?_)
      · replace h := ite_f h c6
        refine lv_aload_n hx hb dX11_getsOf_96 rfl (lv_at hl 0 rfl) ?_
        refine va_get (D := (dC, dI)) (ci := 11) (v := .int v_t_pot) (C := RX11) (T := TX11) (N := 34) hx hb hts in_X11_getsOf_X11 hown hK hP 0 rfl rfl 11 (by decide) (hts (.fieldLink RX11 121 "RightIfAsManyModel" "pot" "I") (List.mem_of_getElem? (i := 4) rfl)) (fun _ h9 => h9) rfl dX11_getsOf_97 ?_
        refine lv_aload_n hx hb dX11_getsOf_100 rfl (lv_at hl 0 rfl) ?_
        refine va_get (D := (dC, dI)) (ci := 11) (v := .ref q_t_row) (C := RX11) (T := TX11) (N := 34) hx hb hts in_X11_getsOf_X11 hown hK hP 0 rfl rfl 16 (by decide) (hts (.fieldLink RX11 19 "RightIfAsManyModel" "row" "[I") (List.mem_of_getElem? (i := 2) rfl)) (fun _ h9 => h9) rfl dX11_getsOf_101 ?_
        refine lv_iload_n hx hb dX11_getsOf_104 rfl (lv_at hl 1 rfl) ?_
        obtain ⟨hg7, h⟩ := grd_s h
        refine va_iald hx hb hK hP 1 0 rfl rfl hg7 dX11_getsOf_105 ?_
        refine lv_imul hx hb dX11_getsOf_106 ?_
        refine lv_iload_n hx hb dX11_getsOf_107 rfl (lv_at hl 3 rfl) ?_
        obtain ⟨hg8, h⟩ := grd_s h
        refine lv_idiv hx hb dX11_getsOf_108 hg8 ?_
        have e1 := Option.some.inj h
        exact W.iret (v := ((v_t_pot * (f_t_row x1.toNatClampNeg)) / x3)) hx hb hr (fun t ht hW => ⟨_, rfl, e1, ht⟩) (fun q hq => by cases hq) dX11_getsOf_109
      replace h := ite_t h c6
      refine lv_iconst (v := (0 : Int32)) hx hb dX11_getsOf_92 (by decide) ?_
      refine lv_goto (tgt := 109) hx hb dX11_getsOf_93 (by decide) ?_
      have e1 := Option.some.inj h
      exact W.iret (v := (0 : Int32)) hx hb hr (fun t ht hW => ⟨_, rfl, e1, ht⟩) (fun q hq => by cases hq) dX11_getsOf_109
    replace h := ite_t h c5
    refine lv_aload_n hx hb dX11_getsOf_79 rfl (lv_at hl 0 rfl) ?_
    refine va_get (D := (dC, dI)) (ci := 11) (v := .int v_t_pot) (C := RX11) (T := TX11) (N := 34) hx hb hts in_X11_getsOf_X11 hown hK hP 0 rfl rfl 11 (by decide) (hts (.fieldLink RX11 121 "RightIfAsManyModel" "pot" "I") (List.mem_of_getElem? (i := 4) rfl)) (fun _ h9 => h9) rfl dX11_getsOf_80 ?_
    refine lv_iload_n hx hb dX11_getsOf_83 rfl (lv_at hl 2 rfl) ?_
    obtain ⟨hg9, h⟩ := grd_s h
    refine lv_idiv hx hb dX11_getsOf_84 hg9 ?_
    refine lv_goto (tgt := 109) hx hb dX11_getsOf_85 (by decide) ?_
    have e1 := Option.some.inj h
    exact W.iret (v := (v_t_pot / x2)) hx hb hr (fun t ht hW => ⟨_, rfl, e1, ht⟩) (fun q hq => by cases hq) dX11_getsOf_109
  have L_17 : ∀ (n17 : Nat) , ∀  (x1 : Int32) (x2 : Int32) (x3 : Int32) (x4 : Int32), X11_getsOf_b17 n17 v_t_rule v_t_share v_t_pot v_t_rowMany f_t_row x1 x2 x3 x4 = some res → ∀ (ls : Array Slot), lv_has ls 5 [(0, .ref q_t), (1, .int x1), (2, .int x2), (3, .int x3), (4, .int x4)] → W p l e (headSpec wsX11_getsOf rm_X11_getsOf).room s m ([.ref q_t, .int p1] : List Value).toArray below meth c s.heap [] 0 0 (MQ below (vp_Si (fun r => r = res)) ([.ref q_t, .int p1] : List Value).toArray s 0 0 (fun _ => False)) (F0 m 17 ls []) := by
    intro n17
    induction n17 with
    | zero => intro x1 x2 x3 x4 h ls hl; exact absurd h (fun h => by cases h)
    | succ n17 ih_17 =>
      have B_64 : ∀  (x1 : Int32) (x2 : Int32) (x4 : Int32) (s0 : Int32) (s1 : Int32), X11_getsOf_b64 (X11_getsOf_b17 n17) v_t_rule v_t_share v_t_pot v_t_rowMany f_t_row x1 x2 x4 s0 s1 = some res → ∀ (ls : Array Slot), lv_has ls 5 [(0, .ref q_t), (1, .int x1), (2, .int x2), (4, .int x4)] → W p l e (headSpec wsX11_getsOf rm_X11_getsOf).room s m ([.ref q_t, .int p1] : List Value).toArray below meth c s.heap [] 0 0 (MQ below (vp_Si (fun r => r = res)) ([.ref q_t, .int p1] : List Value).toArray s 0 0 (fun _ => False)) (F0 m 64 ls [.int s1, .int s0]) := by
        intro x1 x2 x4 s0 s1 h ls hl
        unfold X11_getsOf_b64 at h
        refine lv_iadd hx hb dX11_getsOf_64 ?_
        refine lv_istore_n (lv' := [(3, .int (s0 + s1)), (0, .ref q_t), (1, .int x1), (2, .int x2), (4, .int x4)]) hx hb dX11_getsOf_65 rfl hl (by decide) rfl (fun ls hl => ?_)
        refine lv_iinc (v := (x4 + (1 : Int32))) (lv' := [(4, .int (x4 + (1 : Int32))), (3, .int (s0 + s1)), (0, .ref q_t), (1, .int x1), (2, .int x2)]) hx hb dX11_getsOf_66 hl (k := 4) rfl rfl (by decide) rfl (fun ls hl => ?_)
        refine lv_goto (tgt := 17) hx hb dX11_getsOf_69 (by decide) ?_
        exact ih_17 x1 x2 (s0 + s1) (x4 + (1 : Int32)) h ls (lv_sub hl [2, 3, 4, 1, 0] rfl)
      have B_41 : ∀  (x1 : Int32) (x3 : Int32) (x4 : Int32) (s0 : Int32) (s1 : Int32), X11_getsOf_b41 (X11_getsOf_b17 n17) v_t_rule v_t_share v_t_pot v_t_rowMany f_t_row x1 x3 x4 s0 s1 = some res → ∀ (ls : Array Slot), lv_has ls 5 [(0, .ref q_t), (1, .int x1), (3, .int x3), (4, .int x4)] → W p l e (headSpec wsX11_getsOf rm_X11_getsOf).room s m ([.ref q_t, .int p1] : List Value).toArray below meth c s.heap [] 0 0 (MQ below (vp_Si (fun r => r = res)) ([.ref q_t, .int p1] : List Value).toArray s 0 0 (fun _ => False)) (F0 m 41 ls [.int s1, .int s0]) := by
        intro x1 x3 x4 s0 s1 h ls hl
        unfold X11_getsOf_b41 at h
        refine lv_iadd hx hb dX11_getsOf_41 ?_
        refine lv_istore_n (lv' := [(2, .int (s0 + s1)), (0, .ref q_t), (1, .int x1), (3, .int x3), (4, .int x4)]) hx hb dX11_getsOf_42 rfl hl (by decide) rfl (fun ls hl => ?_)
        refine lv_iload_n hx hb dX11_getsOf_43 rfl (lv_at hl 3 rfl) ?_
        refine lv_aload_n hx hb dX11_getsOf_44 rfl (lv_at hl 1 rfl) ?_
        refine lv_iload hx hb dX11_getsOf_45 (lv_at hl 4 rfl) ?_
        obtain ⟨r1, hc1, h⟩ := bnd1_s h
        refine kRz (res := r1) (va_runV (As := [.int x4]) (rest := [.int x3]) ⟨hx, hb, hml, hown, hts⟩ (cn_X11_isRight l dC dI cI cJ cZ q_t q_t_readSlips q_t_slips q_t_text q_t_row q_t_before q_t_anew q_t_sums q_t_spare q_t_least q_t_then q_t_told q_t_tens q_t_paidTo q_t_paid q_t_isKept q_t_kept  v_t_readMany v_t_readBarred v_t_readRule v_t_readShare v_t_readPot v_t_many v_t_barred v_t_rule v_t_share v_t_pot v_t_length v_t_at v_t_faultAt v_t_rowMany v_t_acts v_t_next v_t_payments v_t_seed f_t_row x4 r1 hc1) (cwV 1 hts gX11_getsOf_X11_isRight rfl rfl rfl (by decide +kernel) ⟨Nat.le_of_ble_eq_true rfl, Nat.le_of_ble_eq_true rfl⟩) (preR hKK (hP.sub (ws' := [(q_t, .inr (11, [.ref q_t_readSlips, .int v_t_readMany, .int v_t_readBarred, .int v_t_readRule, .int v_t_readShare, .int v_t_readPot, .ref q_t_slips, .int v_t_many, .int v_t_barred, .int v_t_rule, .int v_t_share, .int v_t_pot, .ref q_t_text, .int v_t_length, .int v_t_at, .int v_t_faultAt, .ref q_t_row, .int v_t_rowMany, .int v_t_acts, .int v_t_next, .ref q_t_before, .ref q_t_anew, .ref q_t_sums, .ref q_t_spare, .ref q_t_least, .ref q_t_then, .ref q_t_told, .ref q_t_tens, .int v_t_payments, .ref q_t_paidTo, .ref q_t_paid, .long v_t_seed, .ref q_t_isKept, .ref q_t_kept])), (q_t_row, .inl (cI, 10, .inl f_t_row))]) [0, 1] rfl) (ci := 11) (q0 := 0) rfl rfl) rfl rfl hl.1 rfl (lv_room (Nat.le_of_ble_eq_true rfl)) dX11_getsOf_47 ⟨Nat.zero_le _, Nat.zero_le _⟩) (fun hz2 => ?_)
        refine lv_if_eq (tgt := 63) hx hb dX11_getsOf_50 (by decide) (fun c3 => ?_) (fun c3 => ?_)
        · replace h := ite_t h c3
          refine lv_iconst (v := (0 : Int32)) hx hb dX11_getsOf_63 (by decide) ?_
          exact B_64 x1 (s0 + s1) x4 x3 (0 : Int32) h ls (lv_sub hl [1, 2, 0, 4] rfl)
        replace h := ite_f h c3
        refine lv_aload_n hx hb dX11_getsOf_53 rfl (lv_at hl 1 rfl) ?_
        refine va_get (D := (dC, dI)) (ci := 11) (v := .ref q_t_row) (C := RX11) (T := TX11) (N := 34) hx hb hts in_X11_getsOf_X11 hown hK hP 0 rfl rfl 16 (by decide) (hts (.fieldLink RX11 19 "RightIfAsManyModel" "row" "[I") (List.mem_of_getElem? (i := 2) rfl)) (fun _ h9 => h9) rfl dX11_getsOf_54 ?_
        refine lv_iload hx hb dX11_getsOf_57 (lv_at hl 4 rfl) ?_
        obtain ⟨hg4, h⟩ := grd_s h
        refine va_iald hx hb hK hP 1 0 rfl rfl hg4 dX11_getsOf_59 ?_
        refine lv_goto (tgt := 64) hx hb dX11_getsOf_60 (by decide) ?_
        exact B_64 x1 (s0 + s1) x4 x3 (f_t_row x4.toNatClampNeg) h ls (lv_sub hl [1, 2, 0, 4] rfl)
      intro x1 x2 x3 x4 h ls hl
      replace h : X11_getsOf_b17_s (X11_getsOf_b17 n17) v_t_rule v_t_share v_t_pot v_t_rowMany f_t_row x1 x2 x3 x4 = some res := h
      unfold X11_getsOf_b17_s at h
      refine lv_iload hx hb dX11_getsOf_17 (lv_at hl 4 rfl) ?_
      refine lv_aload_n hx hb dX11_getsOf_19 rfl (lv_at hl 0 rfl) ?_
      refine va_get (D := (dC, dI)) (ci := 11) (v := .int v_t_rowMany) (C := RX11) (T := TX11) (N := 34) hx hb hts in_X11_getsOf_X11 hown hK hP 0 rfl rfl 17 (by decide) (hts (.fieldLink RX11 127 "RightIfAsManyModel" "rowMany" "I") (List.mem_of_getElem? (i := 1) rfl)) (fun _ h9 => h9) rfl dX11_getsOf_20 ?_
      refine lv_icmp_ge (tgt := 72) hx hb dX11_getsOf_23 (by decide) (fun c10 => ?_) (fun c10 => ?_)
      · replace h := ite_t h c10
        exact B_72 x1 x2 x3 h ls (lv_sub hl [0, 1, 2, 3] rfl)
      replace h := ite_f h c10
      refine lv_iload_n hx hb dX11_getsOf_26 rfl (lv_at hl 2 rfl) ?_
      refine lv_aload_n hx hb dX11_getsOf_27 rfl (lv_at hl 0 rfl) ?_
      refine lv_iload hx hb dX11_getsOf_28 (lv_at hl 4 rfl) ?_
      obtain ⟨r11, hc11, h⟩ := bnd1_s h
      refine kRz (res := r11) (va_runV (As := [.int x4]) (rest := [.int x2]) ⟨hx, hb, hml, hown, hts⟩ (cn_X11_isRight l dC dI cI cJ cZ q_t q_t_readSlips q_t_slips q_t_text q_t_row q_t_before q_t_anew q_t_sums q_t_spare q_t_least q_t_then q_t_told q_t_tens q_t_paidTo q_t_paid q_t_isKept q_t_kept  v_t_readMany v_t_readBarred v_t_readRule v_t_readShare v_t_readPot v_t_many v_t_barred v_t_rule v_t_share v_t_pot v_t_length v_t_at v_t_faultAt v_t_rowMany v_t_acts v_t_next v_t_payments v_t_seed f_t_row x4 r11 hc11) (cwV 1 hts gX11_getsOf_X11_isRight rfl rfl rfl (by decide +kernel) ⟨Nat.le_of_ble_eq_true rfl, Nat.le_of_ble_eq_true rfl⟩) (preR hKK (hP.sub (ws' := [(q_t, .inr (11, [.ref q_t_readSlips, .int v_t_readMany, .int v_t_readBarred, .int v_t_readRule, .int v_t_readShare, .int v_t_readPot, .ref q_t_slips, .int v_t_many, .int v_t_barred, .int v_t_rule, .int v_t_share, .int v_t_pot, .ref q_t_text, .int v_t_length, .int v_t_at, .int v_t_faultAt, .ref q_t_row, .int v_t_rowMany, .int v_t_acts, .int v_t_next, .ref q_t_before, .ref q_t_anew, .ref q_t_sums, .ref q_t_spare, .ref q_t_least, .ref q_t_then, .ref q_t_told, .ref q_t_tens, .int v_t_payments, .ref q_t_paidTo, .ref q_t_paid, .long v_t_seed, .ref q_t_isKept, .ref q_t_kept])), (q_t_row, .inl (cI, 10, .inl f_t_row))]) [0, 1] rfl) (ci := 11) (q0 := 0) rfl rfl) rfl rfl hl.1 rfl (lv_room (Nat.le_of_ble_eq_true rfl)) dX11_getsOf_30 ⟨Nat.zero_le _, Nat.zero_le _⟩) (fun hz12 => ?_)
      refine lv_if_eq (tgt := 40) hx hb dX11_getsOf_33 (by decide) (fun c13 => ?_) (fun c13 => ?_)
      · replace h := ite_t h c13
        refine lv_iconst (v := (0 : Int32)) hx hb dX11_getsOf_40 (by decide) ?_
        exact B_41 x1 x3 x4 x2 (0 : Int32) h ls (lv_sub hl [0, 1, 3, 4] rfl)
      replace h := ite_f h c13
      refine lv_iconst (v := (1 : Int32)) hx hb dX11_getsOf_36 (by decide) ?_
      refine lv_goto (tgt := 41) hx hb dX11_getsOf_37 (by decide) ?_
      exact B_41 x1 x3 x4 x2 (1 : Int32) h ls (lv_sub hl [0, 1, 3, 4] rfl)
  unfold X11_getsOf at h
  refine lv_aload_n hx hb dX11_getsOf_0 rfl (lv_at hl 0 rfl) ?_
  refine lv_iload_n hx hb dX11_getsOf_1 rfl (lv_at hl 1 rfl) ?_
  obtain ⟨r14, hc14, h⟩ := bnd1_s h
  refine kRz (res := r14) (va_runV (As := [.int p1]) (rest := []) ⟨hx, hb, hml, hown, hts⟩ (cn_X11_isRight l dC dI cI cJ cZ q_t q_t_readSlips q_t_slips q_t_text q_t_row q_t_before q_t_anew q_t_sums q_t_spare q_t_least q_t_then q_t_told q_t_tens q_t_paidTo q_t_paid q_t_isKept q_t_kept  v_t_readMany v_t_readBarred v_t_readRule v_t_readShare v_t_readPot v_t_many v_t_barred v_t_rule v_t_share v_t_pot v_t_length v_t_at v_t_faultAt v_t_rowMany v_t_acts v_t_next v_t_payments v_t_seed f_t_row p1 r14 hc14) (cwV 1 hts gX11_getsOf_X11_isRight rfl rfl rfl (by decide +kernel) ⟨Nat.le_of_ble_eq_true rfl, Nat.le_of_ble_eq_true rfl⟩) (preR hKK (hP.sub (ws' := [(q_t, .inr (11, [.ref q_t_readSlips, .int v_t_readMany, .int v_t_readBarred, .int v_t_readRule, .int v_t_readShare, .int v_t_readPot, .ref q_t_slips, .int v_t_many, .int v_t_barred, .int v_t_rule, .int v_t_share, .int v_t_pot, .ref q_t_text, .int v_t_length, .int v_t_at, .int v_t_faultAt, .ref q_t_row, .int v_t_rowMany, .int v_t_acts, .int v_t_next, .ref q_t_before, .ref q_t_anew, .ref q_t_sums, .ref q_t_spare, .ref q_t_least, .ref q_t_then, .ref q_t_told, .ref q_t_tens, .int v_t_payments, .ref q_t_paidTo, .ref q_t_paid, .long v_t_seed, .ref q_t_isKept, .ref q_t_kept])), (q_t_row, .inl (cI, 10, .inl f_t_row))]) [0, 1] rfl) (ci := 11) (q0 := 0) rfl rfl) rfl rfl hl.1 rfl (lv_room (Nat.le_of_ble_eq_true rfl)) dX11_getsOf_2 ⟨Nat.zero_le _, Nat.zero_le _⟩) (fun hz15 => ?_)
  refine lv_if_ne (tgt := 10) hx hb dX11_getsOf_5 (by decide) (fun c16 => ?_) (fun c16 => ?_)
  · replace h := ite_f h c16
    refine lv_iconst (v := (0 : Int32)) hx hb dX11_getsOf_10 (by decide) ?_
    refine lv_istore_n (lv' := [(2, .int (0 : Int32)), (0, .ref q_t), (1, .int p1)]) hx hb dX11_getsOf_11 rfl hl (by decide) rfl (fun ls hl => ?_)
    refine lv_iconst (v := (0 : Int32)) hx hb dX11_getsOf_12 (by decide) ?_
    refine lv_istore_n (lv' := [(3, .int (0 : Int32)), (2, .int (0 : Int32)), (0, .ref q_t), (1, .int p1)]) hx hb dX11_getsOf_13 rfl hl (by decide) rfl (fun ls hl => ?_)
    refine lv_iconst (v := (0 : Int32)) hx hb dX11_getsOf_14 (by decide) ?_
    refine lv_istore (lv' := [(4, .int (0 : Int32)), (3, .int (0 : Int32)), (2, .int (0 : Int32)), (0, .ref q_t), (1, .int p1)]) hx hb dX11_getsOf_15 hl (by decide) rfl (fun ls hl => ?_)
    exact L_17 fU p1 (0 : Int32) (0 : Int32) (0 : Int32) h ls (lv_sub hl [3, 4, 2, 1, 0] rfl)
  replace h := ite_t h c16
  refine lv_iconst (v := (0 : Int32)) hx hb dX11_getsOf_8 (by decide) ?_
  have e1 := Option.some.inj h
  exact W.iret (v := (0 : Int32)) hx hb hr (fun t ht hW => ⟨_, rfl, e1, ht⟩) (fun q hq => by cases hq) dX11_getsOf_9
abbrev rm_X11_wantOf : Room := { frames := 3, cells := 0, slots := 0, locals := 68 }
theorem in_X11_wantOf_X11 : ∀ w ∈ wsX110, w ∈ wsX11_wantOf := fun _ h => List.mem_cons_of_mem _ (List.mem_append_right _ h)
set_option maxHeartbeats 4000000 in
set_option maxRecDepth 100000 in
theorem cn_X11_wantOf (l : Launch) (dC : Nat → ClassId) (dI : Nat → Nat → Nat) (cI cJ cZ : ClassId) (q_t q_t_readSlips q_t_slips q_t_text q_t_row q_t_before q_t_anew q_t_sums q_t_spare q_t_least q_t_then q_t_told q_t_tens q_t_paidTo q_t_paid q_t_isKept q_t_kept : Nat) (sz : Nat) (v_t_readMany : Int32) (v_t_readBarred : Int32) (v_t_readRule : Int32) (v_t_readShare : Int32) (v_t_readPot : Int32) (v_t_many : Int32) (v_t_barred : Int32) (v_t_rule : Int32) (v_t_share : Int32) (v_t_pot : Int32) (v_t_length : Int32) (v_t_at : Int32) (v_t_faultAt : Int32) (v_t_rowMany : Int32) (v_t_acts : Int32) (v_t_next : Int32) (v_t_payments : Int32) (v_t_seed : Int64) (f_t_row : (Nat → Int32)) (p1 : Int32) (res : Int32) (r_f_t_row : (Nat → Int32)) (h : X11_wantOf v_t_barred v_t_rule v_t_share v_t_pot v_t_rowMany f_t_row p1 = some (res, r_f_t_row)) : Met l yX11_wantOf wsX11_wantOf rm_X11_wantOf (pcW dC dI cI cJ cZ [(q_t, .inr (11, [.ref q_t_readSlips, .int v_t_readMany, .int v_t_readBarred, .int v_t_readRule, .int v_t_readShare, .int v_t_readPot, .ref q_t_slips, .int v_t_many, .int v_t_barred, .int v_t_rule, .int v_t_share, .int v_t_pot, .ref q_t_text, .int v_t_length, .int v_t_at, .int v_t_faultAt, .ref q_t_row, .int v_t_rowMany, .int v_t_acts, .int v_t_next, .ref q_t_before, .ref q_t_anew, .ref q_t_sums, .ref q_t_spare, .ref q_t_least, .ref q_t_then, .ref q_t_told, .ref q_t_tens, .int v_t_payments, .ref q_t_paidTo, .ref q_t_paid, .long v_t_seed, .ref q_t_isKept, .ref q_t_kept])), (q_t_row, .inl (cI, 10, .inl f_t_row))] sz [.ref q_t, .int p1]) (va_Qi (fun (r : Int32) (_ : Unit) => r = res) (bW dC dI (va_A [(q_t, .inr (11, [.ref q_t_readSlips, .int v_t_readMany, .int v_t_readBarred, .int v_t_readRule, .int v_t_readShare, .int v_t_readPot, .ref q_t_slips, .int v_t_many, .int v_t_barred, .int v_t_rule, .int v_t_share, .int v_t_pot, .ref q_t_text, .int v_t_length, .int v_t_at, .int v_t_faultAt, .ref q_t_row, .int v_t_rowMany, .int v_t_acts, .int v_t_next, .ref q_t_before, .ref q_t_anew, .ref q_t_sums, .ref q_t_spare, .ref q_t_least, .ref q_t_then, .ref q_t_told, .ref q_t_tens, .int v_t_payments, .ref q_t_paidTo, .ref q_t_paid, .long v_t_seed, .ref q_t_isKept, .ref q_t_kept])), (q_t_row, .inl (cI, 10, .inl f_t_row))] sz) [(q_t, .inr (11, [.ref q_t_readSlips, .int v_t_readMany, .int v_t_readBarred, .int v_t_readRule, .int v_t_readShare, .int v_t_readPot, .ref q_t_slips, .int v_t_many, .int v_t_barred, .int v_t_rule, .int v_t_share, .int v_t_pot, .ref q_t_text, .int v_t_length, .int v_t_at, .int v_t_faultAt, .ref q_t_row, .int v_t_rowMany, .int v_t_acts, .int v_t_next, .ref q_t_before, .ref q_t_anew, .ref q_t_sums, .ref q_t_spare, .ref q_t_least, .ref q_t_then, .ref q_t_told, .ref q_t_tens, .int v_t_payments, .ref q_t_paidTo, .ref q_t_paid, .long v_t_seed, .ref q_t_isKept, .ref q_t_kept])), (q_t_row, .inl (cI, 10, .inl r_f_t_row))]) (va_A [(q_t, .inr (11, [.ref q_t_readSlips, .int v_t_readMany, .int v_t_readBarred, .int v_t_readRule, .int v_t_readShare, .int v_t_readPot, .ref q_t_slips, .int v_t_many, .int v_t_barred, .int v_t_rule, .int v_t_share, .int v_t_pot, .ref q_t_text, .int v_t_length, .int v_t_at, .int v_t_faultAt, .ref q_t_row, .int v_t_rowMany, .int v_t_acts, .int v_t_next, .ref q_t_before, .ref q_t_anew, .ref q_t_sums, .ref q_t_spare, .ref q_t_least, .ref q_t_then, .ref q_t_told, .ref q_t_tens, .int v_t_payments, .ref q_t_paidTo, .ref q_t_paid, .long v_t_seed, .ref q_t_isKept, .ref q_t_kept])), (q_t_row, .inl (cI, 10, .inl f_t_row))] sz)) 0 0 (va_A [(q_t, .inr (11, [.ref q_t_readSlips, .int v_t_readMany, .int v_t_readBarred, .int v_t_readRule, .int v_t_readShare, .int v_t_readPot, .ref q_t_slips, .int v_t_many, .int v_t_barred, .int v_t_rule, .int v_t_share, .int v_t_pot, .ref q_t_text, .int v_t_length, .int v_t_at, .int v_t_faultAt, .ref q_t_row, .int v_t_rowMany, .int v_t_acts, .int v_t_next, .ref q_t_before, .ref q_t_anew, .ref q_t_sums, .ref q_t_spare, .ref q_t_least, .ref q_t_then, .ref q_t_told, .ref q_t_tens, .int v_t_payments, .ref q_t_paidTo, .ref q_t_paid, .long v_t_seed, .ref q_t_isKept, .ref q_t_kept])), (q_t_row, .inl (cI, 10, .inl f_t_row))] sz) := by
  refine Met.ofW (cc := cX11_wantOf) (maxL := 7) (ret := (some .int)) (by decide) rfl ?_
  intro p e s m args below meth c s₁ B hml hv
  obtain ⟨rfl, hsz, hP, hKK, hD0⟩ := hv
  have hx := B.exec
  have hb := B.bytes
  have hr := B.returns
  have hts := atoms_spec (ws := wsX11_wantOf) B.pre
  have hown : s.vm.findClass RX11 = some m.cls := findClass_of_methodNamed B.named
  have hlocks := B.notSynchronized
  have hK := hKK.1
  subst hsz
  have hD := hD0.self (sz := s.heap.size)
  generalize hAe : va_A [(q_t, .inr (11, [.ref q_t_readSlips, .int v_t_readMany, .int v_t_readBarred, .int v_t_readRule, .int v_t_readShare, .int v_t_readPot, .ref q_t_slips, .int v_t_many, .int v_t_barred, .int v_t_rule, .int v_t_share, .int v_t_pot, .ref q_t_text, .int v_t_length, .int v_t_at, .int v_t_faultAt, .ref q_t_row, .int v_t_rowMany, .int v_t_acts, .int v_t_next, .ref q_t_before, .ref q_t_anew, .ref q_t_sums, .ref q_t_spare, .ref q_t_least, .ref q_t_then, .ref q_t_told, .ref q_t_tens, .int v_t_payments, .ref q_t_paidTo, .ref q_t_paid, .long v_t_seed, .ref q_t_isKept, .ref q_t_kept])), (q_t_row, .inl (cI, 10, .inl f_t_row))] s.heap.size = A at hD ⊢
  have hA : ∀ q : Nat, s.heap.size ≤ q → A q := fun q h => by rw [← hAe]; exact Or.inr h
  have hS : va_S A s.heap s.heap [] := va_S.rf
  have hl := lv_entry ([.ref q_t, .int p1]) (n := 7) (Nat.le_of_ble_eq_true rfl)
  rw [lg_entry_eq]
  generalize (lg_sl ([.ref q_t, .int p1]) ++ List.replicate (7 - (lg_sl ([.ref q_t, .int p1])).length) Slot.unset).toArray = ls at hl ⊢
  have hl : lv_has ls 7 [(0, .ref q_t), (1, .int p1)] := hl
  have B_86 : ∀ (f_t_row : (Nat → Int32)) (x1 : Int32) (x2 : Int32) (x3 : Int32), X11_wantOf_b86 v_t_barred v_t_rule v_t_share v_t_pot v_t_rowMany f_t_row x1 x2 x3 = some (res, r_f_t_row) → ∀ (H : Heap) (locs : List Loc) (ls : Array Slot), va_P (dC, dI) vwCl [(q_t, .inr (11, [.ref q_t_readSlips, .int v_t_readMany, .int v_t_readBarred, .int v_t_readRule, .int v_t_readShare, .int v_t_readPot, .ref q_t_slips, .int v_t_many, .int v_t_barred, .int v_t_rule, .int v_t_share, .int v_t_pot, .ref q_t_text, .int v_t_length, .int v_t_at, .int v_t_faultAt, .ref q_t_row, .int v_t_rowMany, .int v_t_acts, .int v_t_next, .ref q_t_before, .ref q_t_anew, .ref q_t_sums, .ref q_t_spare, .ref q_t_least, .ref q_t_then, .ref q_t_told, .ref q_t_tens, .int v_t_payments, .ref q_t_paidTo, .ref q_t_paid, .long v_t_seed, .ref q_t_isKept, .ref q_t_kept])), (q_t_row, .inl (cI, 10, .inl f_t_row))] H → va_D A [(q_t, .inr (11, [.ref q_t_readSlips, .int v_t_readMany, .int v_t_readBarred, .int v_t_readRule, .int v_t_readShare, .int v_t_readPot, .ref q_t_slips, .int v_t_many, .int v_t_barred, .int v_t_rule, .int v_t_share, .int v_t_pot, .ref q_t_text, .int v_t_length, .int v_t_at, .int v_t_faultAt, .ref q_t_row, .int v_t_rowMany, .int v_t_acts, .int v_t_next, .ref q_t_before, .ref q_t_anew, .ref q_t_sums, .ref q_t_spare, .ref q_t_least, .ref q_t_then, .ref q_t_told, .ref q_t_tens, .int v_t_payments, .ref q_t_paidTo, .ref q_t_paid, .long v_t_seed, .ref q_t_isKept, .ref q_t_kept])), (q_t_row, .inl (cI, 10, .inl f_t_row))] → va_S A s.heap H locs → lv_has ls 7 [(0, .ref q_t), (1, .int x1), (2, .int x2), (3, .int x3)] → W p l e (headSpec wsX11_wantOf rm_X11_wantOf).room s m ([.ref q_t, .int p1] : List Value).toArray below meth c H locs 0 0 (MQ below (va_Qi (fun (r : Int32) (_ : Unit) => r = res) (bW dC dI A [(q_t, .inr (11, [.ref q_t_readSlips, .int v_t_readMany, .int v_t_readBarred, .int v_t_readRule, .int v_t_readShare, .int v_t_readPot, .ref q_t_slips, .int v_t_many, .int v_t_barred, .int v_t_rule, .int v_t_share, .int v_t_pot, .ref q_t_text, .int v_t_length, .int v_t_at, .int v_t_faultAt, .ref q_t_row, .int v_t_rowMany, .int v_t_acts, .int v_t_next, .ref q_t_before, .ref q_t_anew, .ref q_t_sums, .ref q_t_spare, .ref q_t_least, .ref q_t_then, .ref q_t_told, .ref q_t_tens, .int v_t_payments, .ref q_t_paidTo, .ref q_t_paid, .long v_t_seed, .ref q_t_isKept, .ref q_t_kept])), (q_t_row, .inl (cI, 10, .inl r_f_t_row))]) A) ([.ref q_t, .int p1] : List Value).toArray s 0 0 A) (F0 m 86 ls []) := by
    intro f_t_row x1 x2 x3 h H locs ls hP hD hS hl
    unfold X11_wantOf_b86 at h
    refine lv_aload_n hx hb dX11_wantOf_86 rfl (lv_at hl 0 rfl) ?_
    refine va_get (D := (dC, dI)) (ci := 11) (v := .ref q_t_row) (C := RX11) (T := TX11) (N := 34) hx hb hts in_X11_wantOf_X11 hown hK hP 0 rfl rfl 16 (by decide) (hts (.fieldLink RX11 19 "RightIfAsManyModel" "row" "[I") (List.mem_of_getElem? (i := 1) rfl)) (fun _ h9 => h9) rfl dX11_wantOf_87 ?_
    refine lv_iload_n hx hb dX11_wantOf_90 rfl (lv_at hl 1 rfl) ?_
    refine lv_iload_n hx hb dX11_wantOf_91 rfl (lv_at hl 2 rfl) ?_
    obtain ⟨hg2, h⟩ := grd_s h
    refine va_iast hx hb hK hP hD hS 1 0 rfl rfl hg2 dX11_wantOf_92 (fun H locs hP hD hS => ?_)
    have hP : va_P (dC, dI) vwCl [(q_t, .inr (11, [.ref q_t_readSlips, .int v_t_readMany, .int v_t_readBarred, .int v_t_readRule, .int v_t_readShare, .int v_t_readPot, .ref q_t_slips, .int v_t_many, .int v_t_barred, .int v_t_rule, .int v_t_share, .int v_t_pot, .ref q_t_text, .int v_t_length, .int v_t_at, .int v_t_faultAt, .ref q_t_row, .int v_t_rowMany, .int v_t_acts, .int v_t_next, .ref q_t_before, .ref q_t_anew, .ref q_t_sums, .ref q_t_spare, .ref q_t_least, .ref q_t_then, .ref q_t_told, .ref q_t_tens, .int v_t_payments, .ref q_t_paidTo, .ref q_t_paid, .long v_t_seed, .ref q_t_isKept, .ref q_t_kept])), (q_t_row, .inl (cI, 10, .inl (upd f_t_row x1.toNatClampNeg x2)))] H := hP
    have hD : va_D A [(q_t, .inr (11, [.ref q_t_readSlips, .int v_t_readMany, .int v_t_readBarred, .int v_t_readRule, .int v_t_readShare, .int v_t_readPot, .ref q_t_slips, .int v_t_many, .int v_t_barred, .int v_t_rule, .int v_t_share, .int v_t_pot, .ref q_t_text, .int v_t_length, .int v_t_at, .int v_t_faultAt, .ref q_t_row, .int v_t_rowMany, .int v_t_acts, .int v_t_next, .ref q_t_before, .ref q_t_anew, .ref q_t_sums, .ref q_t_spare, .ref q_t_least, .ref q_t_then, .ref q_t_told, .ref q_t_tens, .int v_t_payments, .ref q_t_paidTo, .ref q_t_paid, .long v_t_seed, .ref q_t_isKept, .ref q_t_kept])), (q_t_row, .inl (cI, 10, .inl (upd f_t_row x1.toNatClampNeg x2)))] := hD
    refine lv_iload_n hx hb dX11_wantOf_93 rfl (lv_at hl 3 rfl) ?_
    replace h := Option.some.inj h
    obtain ⟨e1, e2⟩ := pr2 h
    exact W.iret (v := x3) hx hb hr (fun t ht hW => ⟨⟨_, (), rfl, e1, (by rw [ht, ← e2]; exact hP), (by rw [← e2]; exact hD)⟩, hS.F ht⟩) hS.2.2 dX11_wantOf_94
  have L_19 : ∀ (n19 : Nat) , ∀ (f_t_row : (Nat → Int32)) (x1 : Int32) (x2 : Int32) (x3 : Int32) (x4 : Int32) (x5 : Int32), X11_wantOf_b19 n19 v_t_barred v_t_rule v_t_share v_t_pot v_t_rowMany f_t_row x1 x2 x3 x4 x5 = some (res, r_f_t_row) → ∀ (H : Heap) (locs : List Loc) (ls : Array Slot), va_P (dC, dI) vwCl [(q_t, .inr (11, [.ref q_t_readSlips, .int v_t_readMany, .int v_t_readBarred, .int v_t_readRule, .int v_t_readShare, .int v_t_readPot, .ref q_t_slips, .int v_t_many, .int v_t_barred, .int v_t_rule, .int v_t_share, .int v_t_pot, .ref q_t_text, .int v_t_length, .int v_t_at, .int v_t_faultAt, .ref q_t_row, .int v_t_rowMany, .int v_t_acts, .int v_t_next, .ref q_t_before, .ref q_t_anew, .ref q_t_sums, .ref q_t_spare, .ref q_t_least, .ref q_t_then, .ref q_t_told, .ref q_t_tens, .int v_t_payments, .ref q_t_paidTo, .ref q_t_paid, .long v_t_seed, .ref q_t_isKept, .ref q_t_kept])), (q_t_row, .inl (cI, 10, .inl f_t_row))] H → va_D A [(q_t, .inr (11, [.ref q_t_readSlips, .int v_t_readMany, .int v_t_readBarred, .int v_t_readRule, .int v_t_readShare, .int v_t_readPot, .ref q_t_slips, .int v_t_many, .int v_t_barred, .int v_t_rule, .int v_t_share, .int v_t_pot, .ref q_t_text, .int v_t_length, .int v_t_at, .int v_t_faultAt, .ref q_t_row, .int v_t_rowMany, .int v_t_acts, .int v_t_next, .ref q_t_before, .ref q_t_anew, .ref q_t_sums, .ref q_t_spare, .ref q_t_least, .ref q_t_then, .ref q_t_told, .ref q_t_tens, .int v_t_payments, .ref q_t_paidTo, .ref q_t_paid, .long v_t_seed, .ref q_t_isKept, .ref q_t_kept])), (q_t_row, .inl (cI, 10, .inl f_t_row))] → va_S A s.heap H locs → lv_has ls 7 [(0, .ref q_t), (1, .int x1), (2, .int x2), (3, .int x3), (4, .int x4), (5, .int x5)] → W p l e (headSpec wsX11_wantOf rm_X11_wantOf).room s m ([.ref q_t, .int p1] : List Value).toArray below meth c H locs 0 0 (MQ below (va_Qi (fun (r : Int32) (_ : Unit) => r = res) (bW dC dI A [(q_t, .inr (11, [.ref q_t_readSlips, .int v_t_readMany, .int v_t_readBarred, .int v_t_readRule, .int v_t_readShare, .int v_t_readPot, .ref q_t_slips, .int v_t_many, .int v_t_barred, .int v_t_rule, .int v_t_share, .int v_t_pot, .ref q_t_text, .int v_t_length, .int v_t_at, .int v_t_faultAt, .ref q_t_row, .int v_t_rowMany, .int v_t_acts, .int v_t_next, .ref q_t_before, .ref q_t_anew, .ref q_t_sums, .ref q_t_spare, .ref q_t_least, .ref q_t_then, .ref q_t_told, .ref q_t_tens, .int v_t_payments, .ref q_t_paidTo, .ref q_t_paid, .long v_t_seed, .ref q_t_isKept, .ref q_t_kept])), (q_t_row, .inl (cI, 10, .inl r_f_t_row))]) A) ([.ref q_t, .int p1] : List Value).toArray s 0 0 A) (F0 m 19 ls []) := by
    intro n19
    induction n19 with
    | zero => intro f_t_row x1 x2 x3 x4 x5 h H locs ls hP hD hS hl; exact absurd h (fun h => by cases h)
    | succ n19 ih_19 =>
      have B_80 : ∀ (f_t_row : (Nat → Int32)) (x1 : Int32) (x2 : Int32) (x3 : Int32) (x4 : Int32) (x5 : Int32), X11_wantOf_b80 (X11_wantOf_b19 n19) v_t_barred v_t_rule v_t_share v_t_pot v_t_rowMany f_t_row x1 x2 x3 x4 x5 = some (res, r_f_t_row) → ∀ (H : Heap) (locs : List Loc) (ls : Array Slot), va_P (dC, dI) vwCl [(q_t, .inr (11, [.ref q_t_readSlips, .int v_t_readMany, .int v_t_readBarred, .int v_t_readRule, .int v_t_readShare, .int v_t_readPot, .ref q_t_slips, .int v_t_many, .int v_t_barred, .int v_t_rule, .int v_t_share, .int v_t_pot, .ref q_t_text, .int v_t_length, .int v_t_at, .int v_t_faultAt, .ref q_t_row, .int v_t_rowMany, .int v_t_acts, .int v_t_next, .ref q_t_before, .ref q_t_anew, .ref q_t_sums, .ref q_t_spare, .ref q_t_least, .ref q_t_then, .ref q_t_told, .ref q_t_tens, .int v_t_payments, .ref q_t_paidTo, .ref q_t_paid, .long v_t_seed, .ref q_t_isKept, .ref q_t_kept])), (q_t_row, .inl (cI, 10, .inl f_t_row))] H → va_D A [(q_t, .inr (11, [.ref q_t_readSlips, .int v_t_readMany, .int v_t_readBarred, .int v_t_readRule, .int v_t_readShare, .int v_t_readPot, .ref q_t_slips, .int v_t_many, .int v_t_barred, .int v_t_rule, .int v_t_share, .int v_t_pot, .ref q_t_text, .int v_t_length, .int v_t_at, .int v_t_faultAt, .ref q_t_row, .int v_t_rowMany, .int v_t_acts, .int v_t_next, .ref q_t_before, .ref q_t_anew, .ref q_t_sums, .ref q_t_spare, .ref q_t_least, .ref q_t_then, .ref q_t_told, .ref q_t_tens, .int v_t_payments, .ref q_t_paidTo, .ref q_t_paid, .long v_t_seed, .ref q_t_isKept, .ref q_t_kept])), (q_t_row, .inl (cI, 10, .inl f_t_row))] → va_S A s.heap H locs → lv_has ls 7 [(0, .ref q_t), (1, .int x1), (2, .int x2), (3, .int x3), (4, .int x4), (5, .int x5)] → W p l e (headSpec wsX11_wantOf rm_X11_wantOf).room s m ([.ref q_t, .int p1] : List Value).toArray below meth c H locs 0 0 (MQ below (va_Qi (fun (r : Int32) (_ : Unit) => r = res) (bW dC dI A [(q_t, .inr (11, [.ref q_t_readSlips, .int v_t_readMany, .int v_t_readBarred, .int v_t_readRule, .int v_t_readShare, .int v_t_readPot, .ref q_t_slips, .int v_t_many, .int v_t_barred, .int v_t_rule, .int v_t_share, .int v_t_pot, .ref q_t_text, .int v_t_length, .int v_t_at, .int v_t_faultAt, .ref q_t_row, .int v_t_rowMany, .int v_t_acts, .int v_t_next, .ref q_t_before, .ref q_t_anew, .ref q_t_sums, .ref q_t_spare, .ref q_t_least, .ref q_t_then, .ref q_t_told, .ref q_t_tens, .int v_t_payments, .ref q_t_paidTo, .ref q_t_paid, .long v_t_seed, .ref q_t_isKept, .ref q_t_kept])), (q_t_row, .inl (cI, 10, .inl r_f_t_row))]) A) ([.ref q_t, .int p1] : List Value).toArray s 0 0 A) (F0 m 80 ls []) := by
        intro f_t_row x1 x2 x3 x4 x5 h H locs ls hP hD hS hl
        unfold X11_wantOf_b80 at h
        refine lv_iinc (v := (x5 + (1 : Int32))) (lv' := [(5, .int (x5 + (1 : Int32))), (0, .ref q_t), (1, .int x1), (2, .int x2), (3, .int x3), (4, .int x4)]) hx hb dX11_wantOf_80 hl (k := 5) rfl rfl (by decide) rfl (fun ls hl => ?_)
        refine lv_goto (tgt := 19) hx hb dX11_wantOf_83 (by decide) ?_
        exact ih_19 f_t_row x1 x2 x3 x4 (x5 + (1 : Int32)) h H locs ls hP hD hS (lv_sub hl [1, 2, 3, 4, 5, 0] rfl)
      have B_78 : ∀ (f_t_row : (Nat → Int32)) (x1 : Int32) (x2 : Int32) (x3 : Int32) (x5 : Int32) (s0 : Int32), X11_wantOf_b78 (X11_wantOf_b19 n19) v_t_barred v_t_rule v_t_share v_t_pot v_t_rowMany f_t_row x1 x2 x3 x5 s0 = some (res, r_f_t_row) → ∀ (H : Heap) (locs : List Loc) (ls : Array Slot), va_P (dC, dI) vwCl [(q_t, .inr (11, [.ref q_t_readSlips, .int v_t_readMany, .int v_t_readBarred, .int v_t_readRule, .int v_t_readShare, .int v_t_readPot, .ref q_t_slips, .int v_t_many, .int v_t_barred, .int v_t_rule, .int v_t_share, .int v_t_pot, .ref q_t_text, .int v_t_length, .int v_t_at, .int v_t_faultAt, .ref q_t_row, .int v_t_rowMany, .int v_t_acts, .int v_t_next, .ref q_t_before, .ref q_t_anew, .ref q_t_sums, .ref q_t_spare, .ref q_t_least, .ref q_t_then, .ref q_t_told, .ref q_t_tens, .int v_t_payments, .ref q_t_paidTo, .ref q_t_paid, .long v_t_seed, .ref q_t_isKept, .ref q_t_kept])), (q_t_row, .inl (cI, 10, .inl f_t_row))] H → va_D A [(q_t, .inr (11, [.ref q_t_readSlips, .int v_t_readMany, .int v_t_readBarred, .int v_t_readRule, .int v_t_readShare, .int v_t_readPot, .ref q_t_slips, .int v_t_many, .int v_t_barred, .int v_t_rule, .int v_t_share, .int v_t_pot, .ref q_t_text, .int v_t_length, .int v_t_at, .int v_t_faultAt, .ref q_t_row, .int v_t_rowMany, .int v_t_acts, .int v_t_next, .ref q_t_before, .ref q_t_anew, .ref q_t_sums, .ref q_t_spare, .ref q_t_least, .ref q_t_then, .ref q_t_told, .ref q_t_tens, .int v_t_payments, .ref q_t_paidTo, .ref q_t_paid, .long v_t_seed, .ref q_t_isKept, .ref q_t_kept])), (q_t_row, .inl (cI, 10, .inl f_t_row))] → va_S A s.heap H locs → lv_has ls 7 [(0, .ref q_t), (1, .int x1), (2, .int x2), (3, .int x3), (5, .int x5)] → W p l e (headSpec wsX11_wantOf rm_X11_wantOf).room s m ([.ref q_t, .int p1] : List Value).toArray below meth c H locs 0 0 (MQ below (va_Qi (fun (r : Int32) (_ : Unit) => r = res) (bW dC dI A [(q_t, .inr (11, [.ref q_t_readSlips, .int v_t_readMany, .int v_t_readBarred, .int v_t_readRule, .int v_t_readShare, .int v_t_readPot, .ref q_t_slips, .int v_t_many, .int v_t_barred, .int v_t_rule, .int v_t_share, .int v_t_pot, .ref q_t_text, .int v_t_length, .int v_t_at, .int v_t_faultAt, .ref q_t_row, .int v_t_rowMany, .int v_t_acts, .int v_t_next, .ref q_t_before, .ref q_t_anew, .ref q_t_sums, .ref q_t_spare, .ref q_t_least, .ref q_t_then, .ref q_t_told, .ref q_t_tens, .int v_t_payments, .ref q_t_paidTo, .ref q_t_paid, .long v_t_seed, .ref q_t_isKept, .ref q_t_kept])), (q_t_row, .inl (cI, 10, .inl r_f_t_row))]) A) ([.ref q_t, .int p1] : List Value).toArray s 0 0 A) (F0 m 78 ls [.int s0]) := by
        intro f_t_row x1 x2 x3 x5 s0 h H locs ls hP hD hS hl
        unfold X11_wantOf_b78 at h
        refine lv_istore (lv' := [(4, .int s0), (0, .ref q_t), (1, .int x1), (2, .int x2), (3, .int x3), (5, .int x5)]) hx hb dX11_wantOf_78 hl (by decide) rfl (fun ls hl => ?_)
        exact B_80 f_t_row x1 x2 x3 s0 x5 h H locs ls hP hD hS (lv_sub hl [1, 2, 3, 4, 0, 5] rfl)
      have B_63 : ∀ (f_t_row : (Nat → Int32)) (x1 : Int32) (x2 : Int32) (x4 : Int32) (x5 : Int32) (x6 : Int32) (s0 : Int32), X11_wantOf_b63 (X11_wantOf_b19 n19) v_t_barred v_t_rule v_t_share v_t_pot v_t_rowMany f_t_row x1 x2 x4 x5 x6 s0 = some (res, r_f_t_row) → ∀ (H : Heap) (locs : List Loc) (ls : Array Slot), va_P (dC, dI) vwCl [(q_t, .inr (11, [.ref q_t_readSlips, .int v_t_readMany, .int v_t_readBarred, .int v_t_readRule, .int v_t_readShare, .int v_t_readPot, .ref q_t_slips, .int v_t_many, .int v_t_barred, .int v_t_rule, .int v_t_share, .int v_t_pot, .ref q_t_text, .int v_t_length, .int v_t_at, .int v_t_faultAt, .ref q_t_row, .int v_t_rowMany, .int v_t_acts, .int v_t_next, .ref q_t_before, .ref q_t_anew, .ref q_t_sums, .ref q_t_spare, .ref q_t_least, .ref q_t_then, .ref q_t_told, .ref q_t_tens, .int v_t_payments, .ref q_t_paidTo, .ref q_t_paid, .long v_t_seed, .ref q_t_isKept, .ref q_t_kept])), (q_t_row, .inl (cI, 10, .inl f_t_row))] H → va_D A [(q_t, .inr (11, [.ref q_t_readSlips, .int v_t_readMany, .int v_t_readBarred, .int v_t_readRule, .int v_t_readShare, .int v_t_readPot, .ref q_t_slips, .int v_t_many, .int v_t_barred, .int v_t_rule, .int v_t_share, .int v_t_pot, .ref q_t_text, .int v_t_length, .int v_t_at, .int v_t_faultAt, .ref q_t_row, .int v_t_rowMany, .int v_t_acts, .int v_t_next, .ref q_t_before, .ref q_t_anew, .ref q_t_sums, .ref q_t_spare, .ref q_t_least, .ref q_t_then, .ref q_t_told, .ref q_t_tens, .int v_t_payments, .ref q_t_paidTo, .ref q_t_paid, .long v_t_seed, .ref q_t_isKept, .ref q_t_kept])), (q_t_row, .inl (cI, 10, .inl f_t_row))] → va_S A s.heap H locs → lv_has ls 7 [(0, .ref q_t), (1, .int x1), (2, .int x2), (4, .int x4), (5, .int x5), (6, .int x6)] → W p l e (headSpec wsX11_wantOf rm_X11_wantOf).room s m ([.ref q_t, .int p1] : List Value).toArray below meth c H locs 0 0 (MQ below (va_Qi (fun (r : Int32) (_ : Unit) => r = res) (bW dC dI A [(q_t, .inr (11, [.ref q_t_readSlips, .int v_t_readMany, .int v_t_readBarred, .int v_t_readRule, .int v_t_readShare, .int v_t_readPot, .ref q_t_slips, .int v_t_many, .int v_t_barred, .int v_t_rule, .int v_t_share, .int v_t_pot, .ref q_t_text, .int v_t_length, .int v_t_at, .int v_t_faultAt, .ref q_t_row, .int v_t_rowMany, .int v_t_acts, .int v_t_next, .ref q_t_before, .ref q_t_anew, .ref q_t_sums, .ref q_t_spare, .ref q_t_least, .ref q_t_then, .ref q_t_told, .ref q_t_tens, .int v_t_payments, .ref q_t_paidTo, .ref q_t_paid, .long v_t_seed, .ref q_t_isKept, .ref q_t_kept])), (q_t_row, .inl (cI, 10, .inl r_f_t_row))]) A) ([.ref q_t, .int p1] : List Value).toArray s 0 0 A) (F0 m 63 ls [.int s0]) := by
        intro f_t_row x1 x2 x4 x5 x6 s0 h H locs ls hP hD hS hl
        unfold X11_wantOf_b63 at h
        refine lv_istore_n (lv' := [(3, .int s0), (0, .ref q_t), (1, .int x1), (2, .int x2), (4, .int x4), (5, .int x5), (6, .int x6)]) hx hb dX11_wantOf_63 rfl hl (by decide) rfl (fun ls hl => ?_)
        refine lv_iload hx hb dX11_wantOf_64 (lv_at hl 6 rfl) ?_
        refine lv_iload hx hb dX11_wantOf_66 (lv_at hl 4 rfl) ?_
        refine lv_icmp_le (tgt := 76) hx hb dX11_wantOf_68 (by decide) (fun c1 => ?_) (fun c1 => ?_)
        · replace h := ite_t h c1
          refine lv_iload hx hb dX11_wantOf_76 (lv_at hl 4 rfl) ?_
          exact B_78 f_t_row x1 x2 s0 x5 x4 h H locs ls hP hD hS (lv_sub hl [1, 2, 3, 0, 5] rfl)
        replace h := ite_f h c1
        refine lv_iload hx hb dX11_wantOf_71 (lv_at hl 6 rfl) ?_
        refine lv_goto (tgt := 78) hx hb dX11_wantOf_73 (by decide) ?_
        exact B_78 f_t_row x1 x2 s0 x5 x6 h H locs ls hP hD hS (lv_sub hl [1, 2, 3, 0, 5] rfl)
      intro f_t_row x1 x2 x3 x4 x5 h H locs ls hP hD hS hl
      replace h : X11_wantOf_b19_s (X11_wantOf_b19 n19) v_t_barred v_t_rule v_t_share v_t_pot v_t_rowMany f_t_row x1 x2 x3 x4 x5 = some (res, r_f_t_row) := h
      unfold X11_wantOf_b19_s at h
      refine lv_iload hx hb dX11_wantOf_19 (lv_at hl 5 rfl) ?_
      refine lv_bipush (v := (10 : Int32)) hx hb dX11_wantOf_21 (by decide) ?_
      refine lv_icmp_ge (tgt := 86) hx hb dX11_wantOf_23 (by decide) (fun c3 => ?_) (fun c3 => ?_)
      · replace h := ite_t h c3
        exact B_86 f_t_row x1 x2 x3 h H locs ls hP hD hS (lv_sub hl [0, 1, 2, 3] rfl)
      replace h := ite_f h c3
      refine lv_aload_n hx hb dX11_wantOf_26 rfl (lv_at hl 0 rfl) ?_
      refine lv_iload hx hb dX11_wantOf_27 (lv_at hl 5 rfl) ?_
      refine kRz (res := (X11_isBarred v_t_barred x5)) (va_runV (As := [.int x5]) (rest := []) ⟨hx, hb, hml, hown, hts⟩ (cn_X11_isBarred l dC dI cI cJ cZ q_t q_t_readSlips q_t_slips q_t_text q_t_row q_t_before q_t_anew q_t_sums q_t_spare q_t_least q_t_then q_t_told q_t_tens q_t_paidTo q_t_paid q_t_isKept q_t_kept  v_t_readMany v_t_readBarred v_t_readRule v_t_readShare v_t_readPot v_t_many v_t_barred v_t_rule v_t_share v_t_pot v_t_length v_t_at v_t_faultAt v_t_rowMany v_t_acts v_t_next v_t_payments v_t_seed x5 (X11_isBarred v_t_barred x5) rfl) (cwV 1 hts gX11_wantOf_X11_isBarred rfl rfl rfl (by decide +kernel) ⟨Nat.le_of_ble_eq_true rfl, Nat.le_of_ble_eq_true rfl⟩) (preR hKK (hP.sub (ws' := [(q_t, .inr (11, [.ref q_t_readSlips, .int v_t_readMany, .int v_t_readBarred, .int v_t_readRule, .int v_t_readShare, .int v_t_readPot, .ref q_t_slips, .int v_t_many, .int v_t_barred, .int v_t_rule, .int v_t_share, .int v_t_pot, .ref q_t_text, .int v_t_length, .int v_t_at, .int v_t_faultAt, .ref q_t_row, .int v_t_rowMany, .int v_t_acts, .int v_t_next, .ref q_t_before, .ref q_t_anew, .ref q_t_sums, .ref q_t_spare, .ref q_t_least, .ref q_t_then, .ref q_t_told, .ref q_t_tens, .int v_t_payments, .ref q_t_paidTo, .ref q_t_paid, .long v_t_seed, .ref q_t_isKept, .ref q_t_kept]))]) [0] rfl) (ci := 11) (q0 := 0) rfl rfl) rfl rfl hl.1 rfl (lv_room (Nat.le_of_ble_eq_true rfl)) dX11_wantOf_29 ⟨Nat.zero_le _, Nat.zero_le _⟩) (fun hz4 => ?_)
      refine lv_if_ne (tgt := 80) hx hb dX11_wantOf_32 (by decide) (fun c5 => ?_) (fun c5 => ?_)
      · replace h := ite_f h c5
        exact B_80 f_t_row x1 x2 x3 x4 x5 h H locs ls hP hD hS (lv_sub hl [0, 1, 2, 3, 4, 5] rfl)
      replace h := ite_t h c5
      refine lv_aload_n hx hb dX11_wantOf_35 rfl (lv_at hl 0 rfl) ?_
      refine va_get (D := (dC, dI)) (ci := 11) (v := .ref q_t_row) (C := RX11) (T := TX11) (N := 34) hx hb hts in_X11_wantOf_X11 hown hK hP 0 rfl rfl 16 (by decide) (hts (.fieldLink RX11 19 "RightIfAsManyModel" "row" "[I") (List.mem_of_getElem? (i := 1) rfl)) (fun _ h9 => h9) rfl dX11_wantOf_36 ?_
      refine lv_iload_n hx hb dX11_wantOf_39 rfl (lv_at hl 1 rfl) ?_
      refine lv_iload hx hb dX11_wantOf_40 (lv_at hl 5 rfl) ?_
      obtain ⟨hg6, h⟩ := grd_s h
      refine va_iast hx hb hK hP hD hS 1 0 rfl rfl hg6 dX11_wantOf_42 (fun H locs hP hD hS => ?_)
      have hP : va_P (dC, dI) vwCl [(q_t, .inr (11, [.ref q_t_readSlips, .int v_t_readMany, .int v_t_readBarred, .int v_t_readRule, .int v_t_readShare, .int v_t_readPot, .ref q_t_slips, .int v_t_many, .int v_t_barred, .int v_t_rule, .int v_t_share, .int v_t_pot, .ref q_t_text, .int v_t_length, .int v_t_at, .int v_t_faultAt, .ref q_t_row, .int v_t_rowMany, .int v_t_acts, .int v_t_next, .ref q_t_before, .ref q_t_anew, .ref q_t_sums, .ref q_t_spare, .ref q_t_least, .ref q_t_then, .ref q_t_told, .ref q_t_tens, .int v_t_payments, .ref q_t_paidTo, .ref q_t_paid, .long v_t_seed, .ref q_t_isKept, .ref q_t_kept])), (q_t_row, .inl (cI, 10, .inl (upd f_t_row x1.toNatClampNeg x5)))] H := hP
      have hD : va_D A [(q_t, .inr (11, [.ref q_t_readSlips, .int v_t_readMany, .int v_t_readBarred, .int v_t_readRule, .int v_t_readShare, .int v_t_readPot, .ref q_t_slips, .int v_t_many, .int v_t_barred, .int v_t_rule, .int v_t_share, .int v_t_pot, .ref q_t_text, .int v_t_length, .int v_t_at, .int v_t_faultAt, .ref q_t_row, .int v_t_rowMany, .int v_t_acts, .int v_t_next, .ref q_t_before, .ref q_t_anew, .ref q_t_sums, .ref q_t_spare, .ref q_t_least, .ref q_t_then, .ref q_t_told, .ref q_t_tens, .int v_t_payments, .ref q_t_paidTo, .ref q_t_paid, .long v_t_seed, .ref q_t_isKept, .ref q_t_kept])), (q_t_row, .inl (cI, 10, .inl (upd f_t_row x1.toNatClampNeg x5)))] := hD
      refine lv_aload_n hx hb dX11_wantOf_43 rfl (lv_at hl 0 rfl) ?_
      refine lv_iload_n hx hb dX11_wantOf_44 rfl (lv_at hl 1 rfl) ?_
      obtain ⟨r7, hc7, h⟩ := bnd1_s h
      refine kRi (res := r7) (va_runV (As := [.int x1]) (rest := []) ⟨hx, hb, hml, hown, hts⟩ (cn_X11_getsOf l dC dI cI cJ cZ q_t q_t_readSlips q_t_slips q_t_text q_t_row q_t_before q_t_anew q_t_sums q_t_spare q_t_least q_t_then q_t_told q_t_tens q_t_paidTo q_t_paid q_t_isKept q_t_kept  v_t_readMany v_t_readBarred v_t_readRule v_t_readShare v_t_readPot v_t_many v_t_barred v_t_rule v_t_share v_t_pot v_t_length v_t_at v_t_faultAt v_t_rowMany v_t_acts v_t_next v_t_payments v_t_seed (upd f_t_row x1.toNatClampNeg x5) x1 r7 hc7) (cwV 1 hts gX11_wantOf_X11_getsOf rfl rfl rfl (by decide +kernel) ⟨Nat.le_of_ble_eq_true rfl, Nat.le_of_ble_eq_true rfl⟩) (preR hKK (hP.sub (ws' := [(q_t, .inr (11, [.ref q_t_readSlips, .int v_t_readMany, .int v_t_readBarred, .int v_t_readRule, .int v_t_readShare, .int v_t_readPot, .ref q_t_slips, .int v_t_many, .int v_t_barred, .int v_t_rule, .int v_t_share, .int v_t_pot, .ref q_t_text, .int v_t_length, .int v_t_at, .int v_t_faultAt, .ref q_t_row, .int v_t_rowMany, .int v_t_acts, .int v_t_next, .ref q_t_before, .ref q_t_anew, .ref q_t_sums, .ref q_t_spare, .ref q_t_least, .ref q_t_then, .ref q_t_told, .ref q_t_tens, .int v_t_payments, .ref q_t_paidTo, .ref q_t_paid, .long v_t_seed, .ref q_t_isKept, .ref q_t_kept])), (q_t_row, .inl (cI, 10, .inl (upd f_t_row x1.toNatClampNeg x5)))]) [0, 1] rfl) (ci := 11) (q0 := 0) rfl rfl) rfl rfl hl.1 rfl (lv_room (Nat.le_of_ble_eq_true rfl)) dX11_wantOf_45 ⟨Nat.zero_le _, Nat.zero_le _⟩) ?_
      refine lv_istore (lv' := [(6, .int r7), (0, .ref q_t), (1, .int x1), (2, .int x2), (3, .int x3), (4, .int x4), (5, .int x5)]) hx hb dX11_wantOf_48 hl (by decide) rfl (fun ls hl => ?_)
      refine lv_iload hx hb dX11_wantOf_50 (lv_at hl 0 rfl) ?_
      refine lv_iload hx hb dX11_wantOf_52 (lv_at hl 5 rfl) ?_
      refine lv_icmp_le (tgt := 62) hx hb dX11_wantOf_54 (by decide) (fun c8 => ?_) (fun c8 => ?_)
      · replace h := ite_t h c8
        refine lv_iload_n hx hb dX11_wantOf_62 rfl (lv_at hl 4 rfl) ?_
        exact B_63 (upd f_t_row x1.toNatClampNeg x5) x1 x2 x4 x5 r7 x3 h H locs ls hP hD hS (lv_sub hl [1, 2, 3, 5, 6, 0] rfl)
      replace h := ite_f h c8
      refine lv_iload hx hb dX11_wantOf_57 (lv_at hl 6 rfl) ?_
      refine lv_goto (tgt := 63) hx hb dX11_wantOf_59 (by decide) ?_
      exact B_63 (upd f_t_row x1.toNatClampNeg x5) x1 x2 x4 x5 r7 x5 h H locs ls hP hD hS (lv_sub hl [1, 2, 3, 5, 6, 0] rfl)
  unfold X11_wantOf at h
  obtain ⟨H, hHe⟩ : ∃ H, H = s.heap := ⟨_, rfl⟩
  obtain ⟨locs, hLe⟩ : ∃ x : List Loc, x = [] := ⟨_, rfl⟩
  rw [← hHe] at hP
  have hS : va_S A s.heap H locs := by rw [hHe, hLe]; exact hS
  suffices hW : W p l e (headSpec wsX11_wantOf rm_X11_wantOf).room s m ([.ref q_t, .int p1] : List Value).toArray below meth c H locs 0 0 (MQ below (va_Qi (fun (r : Int32) (_ : Unit) => r = res) (bW dC dI A [(q_t, .inr (11, [.ref q_t_readSlips, .int v_t_readMany, .int v_t_readBarred, .int v_t_readRule, .int v_t_readShare, .int v_t_readPot, .ref q_t_slips, .int v_t_many, .int v_t_barred, .int v_t_rule, .int v_t_share, .int v_t_pot, .ref q_t_text, .int v_t_length, .int v_t_at, .int v_t_faultAt, .ref q_t_row, .int v_t_rowMany, .int v_t_acts, .int v_t_next, .ref q_t_before, .ref q_t_anew, .ref q_t_sums, .ref q_t_spare, .ref q_t_least, .ref q_t_then, .ref q_t_told, .ref q_t_tens, .int v_t_payments, .ref q_t_paidTo, .ref q_t_paid, .long v_t_seed, .ref q_t_isKept, .ref q_t_kept])), (q_t_row, .inl (cI, 10, .inl r_f_t_row))]) A) ([.ref q_t, .int p1] : List Value).toArray s 0 0 A) (F0 m 0 ls []) by rw [hHe, hLe] at hW; exact hW
  refine lv_aload_n hx hb dX11_wantOf_0 rfl (lv_at hl 0 rfl) ?_
  refine va_get (D := (dC, dI)) (ci := 11) (v := .ref q_t_row) (C := RX11) (T := TX11) (N := 34) hx hb hts in_X11_wantOf_X11 hown hK hP 0 rfl rfl 16 (by decide) (hts (.fieldLink RX11 19 "RightIfAsManyModel" "row" "[I") (List.mem_of_getElem? (i := 1) rfl)) (fun _ h9 => h9) rfl dX11_wantOf_1 ?_
  refine lv_iload_n hx hb dX11_wantOf_4 rfl (lv_at hl 1 rfl) ?_
  obtain ⟨hg9, h⟩ := grd_s h
  refine va_iald hx hb hK hP 1 0 rfl rfl hg9 dX11_wantOf_5 ?_
  refine lv_istore_n (lv' := [(2, .int (f_t_row p1.toNatClampNeg)), (0, .ref q_t), (1, .int p1)]) hx hb dX11_wantOf_6 rfl hl (by decide) rfl (fun ls hl => ?_)
  refine lv_iload_n hx hb dX11_wantOf_7 rfl (lv_at hl 0 rfl) ?_
  refine lv_istore_n (lv' := [(3, .int (f_t_row p1.toNatClampNeg)), (2, .int (f_t_row p1.toNatClampNeg)), (0, .ref q_t), (1, .int p1)]) hx hb dX11_wantOf_8 rfl hl (by decide) rfl (fun ls hl => ?_)
  refine lv_aload_n hx hb dX11_wantOf_9 rfl (lv_at hl 2 rfl) ?_
  refine lv_iload_n hx hb dX11_wantOf_10 rfl (lv_at hl 3 rfl) ?_
  obtain ⟨r10, hc10, h⟩ := bnd1_s h
  refine kRi (res := r10) (va_runV (As := [.int p1]) (rest := []) ⟨hx, hb, hml, hown, hts⟩ (cn_X11_getsOf l dC dI cI cJ cZ q_t q_t_readSlips q_t_slips q_t_text q_t_row q_t_before q_t_anew q_t_sums q_t_spare q_t_least q_t_then q_t_told q_t_tens q_t_paidTo q_t_paid q_t_isKept q_t_kept  v_t_readMany v_t_readBarred v_t_readRule v_t_readShare v_t_readPot v_t_many v_t_barred v_t_rule v_t_share v_t_pot v_t_length v_t_at v_t_faultAt v_t_rowMany v_t_acts v_t_next v_t_payments v_t_seed f_t_row p1 r10 hc10) (cwV 1 hts gX11_wantOf_X11_getsOf rfl rfl rfl (by decide +kernel) ⟨Nat.le_of_ble_eq_true rfl, Nat.le_of_ble_eq_true rfl⟩) (preR hKK (hP.sub (ws' := [(q_t, .inr (11, [.ref q_t_readSlips, .int v_t_readMany, .int v_t_readBarred, .int v_t_readRule, .int v_t_readShare, .int v_t_readPot, .ref q_t_slips, .int v_t_many, .int v_t_barred, .int v_t_rule, .int v_t_share, .int v_t_pot, .ref q_t_text, .int v_t_length, .int v_t_at, .int v_t_faultAt, .ref q_t_row, .int v_t_rowMany, .int v_t_acts, .int v_t_next, .ref q_t_before, .ref q_t_anew, .ref q_t_sums, .ref q_t_spare, .ref q_t_least, .ref q_t_then, .ref q_t_told, .ref q_t_tens, .int v_t_payments, .ref q_t_paidTo, .ref q_t_paid, .long v_t_seed, .ref q_t_isKept, .ref q_t_kept])), (q_t_row, .inl (cI, 10, .inl f_t_row))]) [0, 1] rfl) (ci := 11) (q0 := 0) rfl rfl) rfl rfl hl.1 rfl (lv_room (Nat.le_of_ble_eq_true rfl)) dX11_wantOf_11 ⟨Nat.zero_le _, Nat.zero_le _⟩) ?_
  refine lv_istore (lv' := [(4, .int r10), (3, .int (f_t_row p1.toNatClampNeg)), (2, .int (f_t_row p1.toNatClampNeg)), (0, .ref q_t), (1, .int p1)]) hx hb dX11_wantOf_14 hl (by decide) rfl (fun ls hl => ?_)
  refine lv_iconst (v := (0 : Int32)) hx hb dX11_wantOf_16 (by decide) ?_
  refine lv_istore (lv' := [(5, .int (0 : Int32)), (4, .int r10), (3, .int (f_t_row p1.toNatClampNeg)), (2, .int (f_t_row p1.toNatClampNeg)), (0, .ref q_t), (1, .int p1)]) hx hb dX11_wantOf_17 hl (by decide) rfl (fun ls hl => ?_)
  exact L_19 fU f_t_row p1 (f_t_row p1.toNatClampNeg) (f_t_row p1.toNatClampNeg) r10 (0 : Int32) h H locs ls hP hD hS (lv_sub hl [4, 5, 3, 2, 1, 0] rfl)
