/-! walks, by program: X3_roundsTillRest X10_settled X10_isCrowd X7_weightedWith X7_weighted X7_allRightRows -/
abbrev rm_X3_roundsTillRest : Room := { frames := 4, cells := 0, slots := 0, locals := 88 }
theorem in_X3_roundsTillRest_X8 : ∀ w ∈ wsX80, w ∈ wsX3_roundsTillRest := fun _ h => List.mem_cons_of_mem _ (List.mem_append_right _ h)
theorem in_X3_roundsTillRest_X3 : ∀ w ∈ wsX30, w ∈ wsX3_roundsTillRest := fun _ h => List.mem_cons_of_mem _ (List.mem_append_left _ (List.mem_append_right _ h))
set_option maxHeartbeats 4000000 in
set_option maxRecDepth 100000 in
theorem cn_X3_roundsTillRest (l : Launch) (dC : Nat → ClassId) (dI : Nat → Nat → Nat) (cI cJ cZ : ClassId) (q_t q_p1 q_p2 q_t_now q_t_next : Nat) (sz : Nat) (f_t_now : (Nat → Int32)) (f_t_next : (Nat → Int32)) (v_p1_law : Int32) (v_p1_share : Int32) (v_p1_pot : Int32) (v_p1_barred : Int32) (f_p2 : (Nat → Int32)) (res : Int32) (r_f_t_now : (Nat → Int32)) (r_f_t_next : (Nat → Int32)) (h : X3_roundsTillRest f_t_now f_t_next v_p1_law v_p1_barred f_p2 = some (res, r_f_t_now, r_f_t_next)) : Met l yX3_roundsTillRest wsX3_roundsTillRest rm_X3_roundsTillRest (pcW dC dI cI cJ cZ [(q_t, .inr (3, [.ref q_t_now, .ref q_t_next])), (q_t_now, .inl (cI, 10, .inl f_t_now)), (q_t_next, .inl (cI, 10, .inl f_t_next)), (q_p1, .inr (8, [.int v_p1_law, .int v_p1_share, .int v_p1_pot, .int v_p1_barred])), (q_p2, .inl (cI, 10, .inl f_p2))] sz [.ref q_t, .ref q_p1, .ref q_p2]) (va_Qi (fun (r : Int32) (_ : Unit) => r = res) (bW dC dI (va_A [(q_t, .inr (3, [.ref q_t_now, .ref q_t_next])), (q_t_now, .inl (cI, 10, .inl f_t_now)), (q_t_next, .inl (cI, 10, .inl f_t_next)), (q_p1, .inr (8, [.int v_p1_law, .int v_p1_share, .int v_p1_pot, .int v_p1_barred])), (q_p2, .inl (cI, 10, .inl f_p2))] sz) [(q_t, .inr (3, [.ref q_t_now, .ref q_t_next])), (q_t_now, .inl (cI, 10, .inl r_f_t_now)), (q_t_next, .inl (cI, 10, .inl r_f_t_next)), (q_p1, .inr (8, [.int v_p1_law, .int v_p1_share, .int v_p1_pot, .int v_p1_barred])), (q_p2, .inl (cI, 10, .inl f_p2))]) (va_A [(q_t, .inr (3, [.ref q_t_now, .ref q_t_next])), (q_t_now, .inl (cI, 10, .inl f_t_now)), (q_t_next, .inl (cI, 10, .inl f_t_next)), (q_p1, .inr (8, [.int v_p1_law, .int v_p1_share, .int v_p1_pot, .int v_p1_barred])), (q_p2, .inl (cI, 10, .inl f_p2))] sz)) 0 0 (va_A [(q_t, .inr (3, [.ref q_t_now, .ref q_t_next])), (q_t_now, .inl (cI, 10, .inl f_t_now)), (q_t_next, .inl (cI, 10, .inl f_t_next)), (q_p1, .inr (8, [.int v_p1_law, .int v_p1_share, .int v_p1_pot, .int v_p1_barred])), (q_p2, .inl (cI, 10, .inl f_p2))] sz) := by
  refine Met.ofW (cc := cX3_roundsTillRest) (maxL := 4) (ret := (some .int)) (by decide) rfl ?_
  intro p e s m args below meth c s₁ B hml hv
  obtain ⟨rfl, hsz, hP, hKK, hD0⟩ := hv
  have hx := B.exec
  have hb := B.bytes
  have hr := B.returns
  have hts := atoms_spec (ws := wsX3_roundsTillRest) B.pre
  have hown : s.vm.findClass RX3 = some m.cls := findClass_of_methodNamed B.named
  have hlocks := B.notSynchronized
  have hK := hKK.1
  subst hsz
  have hD := hD0.self (sz := s.heap.size)
  generalize hAe : va_A [(q_t, .inr (3, [.ref q_t_now, .ref q_t_next])), (q_t_now, .inl (cI, 10, .inl f_t_now)), (q_t_next, .inl (cI, 10, .inl f_t_next)), (q_p1, .inr (8, [.int v_p1_law, .int v_p1_share, .int v_p1_pot, .int v_p1_barred])), (q_p2, .inl (cI, 10, .inl f_p2))] s.heap.size = A at hD ⊢
  have hA : ∀ q : Nat, s.heap.size ≤ q → A q := fun q h => by rw [← hAe]; exact Or.inr h
  have hS : va_S A s.heap s.heap [] := va_S.rf
  have hl := lv_entry ([.ref q_t, .ref q_p1, .ref q_p2]) (n := 4) (Nat.le_of_ble_eq_true rfl)
  rw [lg_entry_eq]
  generalize (lg_sl ([.ref q_t, .ref q_p1, .ref q_p2]) ++ List.replicate (4 - (lg_sl ([.ref q_t, .ref q_p1, .ref q_p2])).length) Slot.unset).toArray = ls at hl ⊢
  have hl : lv_has ls 4 [(0, .ref q_t), (1, .ref q_p1), (2, .ref q_p2)] := hl
  have L_14 : ∀ (n14 : Nat) , ∀ (f_t_now : (Nat → Int32)) (f_t_next : (Nat → Int32)) (x3 : Int32), X3_roundsTillRest_b14 n14 f_t_now f_t_next v_p1_law v_p1_barred f_p2 x3 = some (res, r_f_t_now, r_f_t_next) → ∀ (H : Heap) (locs : List Loc) (ls : Array Slot), va_P (dC, dI) vwCl [(q_t, .inr (3, [.ref q_t_now, .ref q_t_next])), (q_t_now, .inl (cI, 10, .inl f_t_now)), (q_t_next, .inl (cI, 10, .inl f_t_next)), (q_p1, .inr (8, [.int v_p1_law, .int v_p1_share, .int v_p1_pot, .int v_p1_barred])), (q_p2, .inl (cI, 10, .inl f_p2))] H → va_D A [(q_t, .inr (3, [.ref q_t_now, .ref q_t_next])), (q_t_now, .inl (cI, 10, .inl f_t_now)), (q_t_next, .inl (cI, 10, .inl f_t_next)), (q_p1, .inr (8, [.int v_p1_law, .int v_p1_share, .int v_p1_pot, .int v_p1_barred])), (q_p2, .inl (cI, 10, .inl f_p2))] → va_S A s.heap H locs → lv_has ls 4 [(0, .ref q_t), (1, .ref q_p1), (3, .int x3)] → W p l e (headSpec wsX3_roundsTillRest rm_X3_roundsTillRest).room s m ([.ref q_t, .ref q_p1, .ref q_p2] : List Value).toArray below meth c H locs 0 0 (MQ below (va_Qi (fun (r : Int32) (_ : Unit) => r = res) (bW dC dI A [(q_t, .inr (3, [.ref q_t_now, .ref q_t_next])), (q_t_now, .inl (cI, 10, .inl r_f_t_now)), (q_t_next, .inl (cI, 10, .inl r_f_t_next)), (q_p1, .inr (8, [.int v_p1_law, .int v_p1_share, .int v_p1_pot, .int v_p1_barred])), (q_p2, .inl (cI, 10, .inl f_p2))]) A) ([.ref q_t, .ref q_p1, .ref q_p2] : List Value).toArray s 0 0 A) (F0 m 14 ls []) := by
    intro n14
    induction n14 with
    | zero => intro f_t_now f_t_next x3 h H locs ls hP hD hS hl; exact absurd h (fun h => by cases h)
    | succ n14 ih_14 =>
      intro f_t_now f_t_next x3 h H locs ls hP hD hS hl
      replace h : X3_roundsTillRest_b14_s (X3_roundsTillRest_b14 n14) f_t_now f_t_next v_p1_law v_p1_barred f_p2 x3 = some (res, r_f_t_now, r_f_t_next) := h
      unfold X3_roundsTillRest_b14_s at h
      refine lv_iload_n hx hb dX3_roundsTillRest_14 rfl (lv_at hl 2 rfl) ?_
      refine lv_bipush (v := (60 : Int32)) hx hb dX3_roundsTillRest_15 (by decide) ?_
      refine lv_icmp_gt (tgt := 51) hx hb dX3_roundsTillRest_17 (by decide) (fun c1 => ?_) (fun c1 => ?_)
      · replace h := ite_t h c1
        refine lv_bipush (v := (-9 : Int32)) hx hb dX3_roundsTillRest_51 (by decide) ?_
        replace h := Option.some.inj h
        obtain ⟨e1, e2, e3⟩ := pr3 h
        exact W.iret (v := (-9 : Int32)) hx hb hr (fun t ht hW => ⟨⟨_, (), rfl, e1, (by rw [ht, ← e2, ← e3]; exact hP), (by rw [← e2, ← e3]; exact hD)⟩, hS.F ht⟩) hS.2.2 dX3_roundsTillRest_53
      replace h := ite_f h c1
      refine lv_aload_n hx hb dX3_roundsTillRest_20 rfl (lv_at hl 0 rfl) ?_
      refine lv_aload_n hx hb dX3_roundsTillRest_21 rfl (lv_at hl 1 rfl) ?_
      obtain ⟨r2, w2_1, hc2, h⟩ := bnd2_s h
      refine kWz (res := r2) (wc := [(q_t, .inr (3, [.ref q_t_now, .ref q_t_next])), (q_t_now, .inl (cI, 10, .inl f_t_now)), (q_t_next, .inl (cI, 10, .inl f_t_next)), (q_p1, .inr (8, [.int v_p1_law, .int v_p1_share, .int v_p1_pot, .int v_p1_barred]))]) (wr := [(q_p2, .inl (cI, 10, .inl f_p2))]) (w1 := [(q_t, .inr (3, [.ref q_t_now, .ref q_t_next])), (q_t_now, .inl (cI, 10, .inl f_t_now)), (q_t_next, .inl (cI, 10, .inl w2_1)), (q_p1, .inr (8, [.int v_p1_law, .int v_p1_share, .int v_p1_pot, .int v_p1_barred]))]) (wn := [(q_t, .inr (3, [.ref q_t_now, .ref q_t_next])), (q_t_now, .inl (cI, 10, .inl f_t_now)), (q_t_next, .inl (cI, 10, .inl w2_1)), (q_p1, .inr (8, [.int v_p1_law, .int v_p1_share, .int v_p1_pot, .int v_p1_barred])), (q_p2, .inl (cI, 10, .inl f_p2))]) hP hD hS hA [0, 1, 2, 3] [4] [1, 2, 3, 4, 0] rfl rfl (by decide) (by decide) rfl (by decide) (va_runV (As := [.ref q_p1]) (rest := []) ⟨hx, hb, hml, hown, hts⟩ (cn_X3_changes l dC dI cI cJ cZ q_t q_p1 q_t_now q_t_next H.size f_t_now f_t_next v_p1_law v_p1_share v_p1_pot v_p1_barred  r2 w2_1 hc2) (cwV 1 hts gX3_roundsTillRest_X3_changes rfl rfl rfl (by decide +kernel) ⟨Nat.le_of_ble_eq_true rfl, Nat.le_of_ble_eq_true rfl⟩) (preW hKK (hP.sub (ws' := [(q_t, .inr (3, [.ref q_t_now, .ref q_t_next])), (q_t_now, .inl (cI, 10, .inl f_t_now)), (q_t_next, .inl (cI, 10, .inl f_t_next)), (q_p1, .inr (8, [.int v_p1_law, .int v_p1_share, .int v_p1_pot, .int v_p1_barred]))]) [0, 1, 2, 3] rfl) (hD.sub (ws' := [(q_t, .inr (3, [.ref q_t_now, .ref q_t_next])), (q_t_now, .inl (cI, 10, .inl f_t_now)), (q_t_next, .inl (cI, 10, .inl f_t_next)), (q_p1, .inr (8, [.int v_p1_law, .int v_p1_share, .int v_p1_pot, .int v_p1_barred]))]) [0, 1, 2, 3] (by decide) rfl) (ci := 3) (q0 := 0) rfl rfl) rfl rfl hl.1 rfl (lv_room (Nat.le_of_ble_eq_true rfl)) dX3_roundsTillRest_22 ⟨Nat.zero_le _, Nat.zero_le _⟩) (fun hz3 H locs hP hD hS => ?_)
      refine lv_if_ne (tgt := 30) hx hb dX3_roundsTillRest_25 (by decide) (fun c4 => ?_) (fun c4 => ?_)
      · replace h := ite_f h c4
        refine lv_aload_n hx hb dX3_roundsTillRest_30 rfl (lv_at hl 0 rfl) ?_
        refine va_get (D := (dC, dI)) (ci := 3) (v := .ref q_t_next) (C := RX3) (T := TX3) (N := 2) hx hb hts in_X3_roundsTillRest_X3 hown hK hP 0 rfl rfl 1 (by decide) (hts (.fieldLink RX3 15 "RightIfAsMany$Moves" "next" "[I") (List.mem_of_getElem? (i := 6) rfl)) (fun _ h9 => h9) rfl dX3_roundsTillRest_31 ?_
        refine lv_iconst (v := (0 : Int32)) hx hb dX3_roundsTillRest_34 (by decide) ?_
        refine lv_aload_n hx hb dX3_roundsTillRest_35 rfl (lv_at hl 0 rfl) ?_
        refine va_get (D := (dC, dI)) (ci := 3) (v := .ref q_t_now) (C := RX3) (T := TX3) (N := 2) hx hb hts in_X3_roundsTillRest_X3 hown hK hP 0 rfl rfl 0 (by decide) (hts (.fieldLink RX3 9 "RightIfAsMany$Moves" "now" "[I") (List.mem_of_getElem? (i := 1) rfl)) (fun _ h9 => h9) rfl dX3_roundsTillRest_36 ?_
        refine lv_iconst (v := (0 : Int32)) hx hb dX3_roundsTillRest_39 (by decide) ?_
        refine lv_bipush (v := (10 : Int32)) hx hb dX3_roundsTillRest_40 (by decide) ?_
        refine va_copyi hx hb (hml.trans hl.1.symm) hown (hts (.methodLink RX3 24 arraycopyName) (List.mem_of_getElem? (i := 2) rfl)) (hts (.native arraycopyName) (List.mem_of_getElem? (i := 3) rfl)) (hts (.static arraycopyName) (List.mem_of_getElem? (i := 4) rfl)) (hts (.initialized "java/lang/System") (List.mem_of_getElem? (i := 5) rfl)) hK hP hD hS 2 1 0 0 rfl rfl rfl rfl rfl (by decide) (by decide) (by decide) (by decide) (by decide) (fun _ _ => rfl) (Nat.le_of_ble_eq_true rfl) (by decide) dX3_roundsTillRest_42 (fun H locs hP hD hS => ?_)
        have hP : va_P (dC, dI) vwCl [(q_t, .inr (3, [.ref q_t_now, .ref q_t_next])), (q_t_now, .inl (cI, 10, .inl (va_cpy w2_1 f_t_now (0 : Int32).toNatClampNeg (0 : Int32).toNatClampNeg (10 : Int32).toNatClampNeg))), (q_t_next, .inl (cI, 10, .inl w2_1)), (q_p1, .inr (8, [.int v_p1_law, .int v_p1_share, .int v_p1_pot, .int v_p1_barred])), (q_p2, .inl (cI, 10, .inl f_p2))] H := hP
        have hD : va_D A [(q_t, .inr (3, [.ref q_t_now, .ref q_t_next])), (q_t_now, .inl (cI, 10, .inl (va_cpy w2_1 f_t_now (0 : Int32).toNatClampNeg (0 : Int32).toNatClampNeg (10 : Int32).toNatClampNeg))), (q_t_next, .inl (cI, 10, .inl w2_1)), (q_p1, .inr (8, [.int v_p1_law, .int v_p1_share, .int v_p1_pot, .int v_p1_barred])), (q_p2, .inl (cI, 10, .inl f_p2))] := hD
        refine lv_iinc (v := (x3 + (1 : Int32))) (lv' := [(3, .int (x3 + (1 : Int32))), (0, .ref q_t), (1, .ref q_p1)]) hx hb dX3_roundsTillRest_45 hl (k := 2) rfl rfl (by decide) rfl (fun ls hl => ?_)
        refine lv_goto (tgt := 14) hx hb dX3_roundsTillRest_48 (by decide) ?_
        exact ih_14 (va_cpy w2_1 f_t_now (0 : Int32).toNatClampNeg (0 : Int32).toNatClampNeg (10 : Int32).toNatClampNeg) w2_1 (x3 + (1 : Int32)) h H locs ls hP hD hS (lv_sub hl [1, 2, 0] rfl)
      replace h := ite_t h c4
      refine lv_iload_n hx hb dX3_roundsTillRest_28 rfl (lv_at hl 2 rfl) ?_
      replace h := Option.some.inj h
      obtain ⟨e1, e2, e3⟩ := pr3 h
      exact W.iret (v := x3) hx hb hr (fun t ht hW => ⟨⟨_, (), rfl, e1, (by rw [ht, ← e2, ← e3]; exact hP), (by rw [← e2, ← e3]; exact hD)⟩, hS.F ht⟩) hS.2.2 dX3_roundsTillRest_29
  unfold X3_roundsTillRest at h
  obtain ⟨H, hHe⟩ : ∃ H, H = s.heap := ⟨_, rfl⟩
  obtain ⟨locs, hLe⟩ : ∃ x : List Loc, x = [] := ⟨_, rfl⟩
  rw [← hHe] at hP
  have hS : va_S A s.heap H locs := by rw [hHe, hLe]; exact hS
  suffices hW : W p l e (headSpec wsX3_roundsTillRest rm_X3_roundsTillRest).room s m ([.ref q_t, .ref q_p1, .ref q_p2] : List Value).toArray below meth c H locs 0 0 (MQ below (va_Qi (fun (r : Int32) (_ : Unit) => r = res) (bW dC dI A [(q_t, .inr (3, [.ref q_t_now, .ref q_t_next])), (q_t_now, .inl (cI, 10, .inl r_f_t_now)), (q_t_next, .inl (cI, 10, .inl r_f_t_next)), (q_p1, .inr (8, [.int v_p1_law, .int v_p1_share, .int v_p1_pot, .int v_p1_barred])), (q_p2, .inl (cI, 10, .inl f_p2))]) A) ([.ref q_t, .ref q_p1, .ref q_p2] : List Value).toArray s 0 0 A) (F0 m 0 ls []) by rw [hHe, hLe] at hW; exact hW
  refine lv_aload_n hx hb dX3_roundsTillRest_0 rfl (lv_at hl 2 rfl) ?_
  refine lv_iconst (v := (0 : Int32)) hx hb dX3_roundsTillRest_1 (by decide) ?_
  refine lv_aload_n hx hb dX3_roundsTillRest_2 rfl (lv_at hl 0 rfl) ?_
  refine va_get (D := (dC, dI)) (ci := 3) (v := .ref q_t_now) (C := RX3) (T := TX3) (N := 2) hx hb hts in_X3_roundsTillRest_X3 hown hK hP 0 rfl rfl 0 (by decide) (hts (.fieldLink RX3 9 "RightIfAsMany$Moves" "now" "[I") (List.mem_of_getElem? (i := 1) rfl)) (fun _ h9 => h9) rfl dX3_roundsTillRest_3 ?_
  refine lv_iconst (v := (0 : Int32)) hx hb dX3_roundsTillRest_6 (by decide) ?_
  refine lv_bipush (v := (10 : Int32)) hx hb dX3_roundsTillRest_7 (by decide) ?_
  refine va_copyi hx hb (hml.trans hl.1.symm) hown (hts (.methodLink RX3 24 arraycopyName) (List.mem_of_getElem? (i := 2) rfl)) (hts (.native arraycopyName) (List.mem_of_getElem? (i := 3) rfl)) (hts (.static arraycopyName) (List.mem_of_getElem? (i := 4) rfl)) (hts (.initialized "java/lang/System") (List.mem_of_getElem? (i := 5) rfl)) hK hP hD hS 4 1 0 0 rfl rfl rfl rfl rfl (by decide) (by decide) (by decide) (by decide) (by decide) (fun _ _ => rfl) (Nat.le_of_ble_eq_true rfl) (by decide) dX3_roundsTillRest_9 (fun H locs hP hD hS => ?_)
  have hP : va_P (dC, dI) vwCl [(q_t, .inr (3, [.ref q_t_now, .ref q_t_next])), (q_t_now, .inl (cI, 10, .inl (va_cpy f_p2 f_t_now (0 : Int32).toNatClampNeg (0 : Int32).toNatClampNeg (10 : Int32).toNatClampNeg))), (q_t_next, .inl (cI, 10, .inl f_t_next)), (q_p1, .inr (8, [.int v_p1_law, .int v_p1_share, .int v_p1_pot, .int v_p1_barred])), (q_p2, .inl (cI, 10, .inl f_p2))] H := hP
  have hD : va_D A [(q_t, .inr (3, [.ref q_t_now, .ref q_t_next])), (q_t_now, .inl (cI, 10, .inl (va_cpy f_p2 f_t_now (0 : Int32).toNatClampNeg (0 : Int32).toNatClampNeg (10 : Int32).toNatClampNeg))), (q_t_next, .inl (cI, 10, .inl f_t_next)), (q_p1, .inr (8, [.int v_p1_law, .int v_p1_share, .int v_p1_pot, .int v_p1_barred])), (q_p2, .inl (cI, 10, .inl f_p2))] := hD
  refine lv_iconst (v := (0 : Int32)) hx hb dX3_roundsTillRest_12 (by decide) ?_
  refine lv_istore_n (lv' := [(3, .int (0 : Int32)), (0, .ref q_t), (1, .ref q_p1), (2, .ref q_p2)]) hx hb dX3_roundsTillRest_13 rfl hl (by decide) rfl (fun ls hl => ?_)
  exact L_14 fU (va_cpy f_p2 f_t_now (0 : Int32).toNatClampNeg (0 : Int32).toNatClampNeg (10 : Int32).toNatClampNeg) f_t_next (0 : Int32) h H locs ls hP hD hS (lv_sub hl [1, 2, 0] rfl)
abbrev rm_X10_settled : Room := { frames := 5, cells := 0, slots := 0, locals := 111 }
theorem in_X10_settled_X8 : ∀ w ∈ wsX80, w ∈ wsX10_settled := fun _ h => List.mem_cons_of_mem _ (List.mem_append_right _ h)
theorem in_X10_settled_X3 : ∀ w ∈ wsX30, w ∈ wsX10_settled := fun _ h => List.mem_cons_of_mem _ (List.mem_append_left _ (List.mem_append_right _ h))
theorem in_X10_settled_X5 : ∀ w ∈ wsX50, w ∈ wsX10_settled := fun _ h => List.mem_cons_of_mem _ (List.mem_append_left _ (List.mem_append_left _ (List.mem_append_right _ h)))
theorem in_X10_settled_X10 : ∀ w ∈ wsX100, w ∈ wsX10_settled := fun _ h => List.mem_cons_of_mem _ (List.mem_append_left _ (List.mem_append_left _ (List.mem_append_left _ (List.mem_append_right _ h))))
set_option maxHeartbeats 4000000 in
set_option maxRecDepth 100000 in
theorem cn_X10_settled (l : Launch) (dC : Nat → ClassId) (dI : Nat → Nat → Nat) (cI cJ cZ : ClassId) (q_t q_t_text q_t_reader q_t_rules q_t_people q_t_memory q_t_rows q_t_chances q_t_moves q_t_payments q_t_evenings q_t_people_numbers q_t_people_counts q_t_moves_now q_t_moves_next : Nat) (sz : Nat) (v_t_rules_law : Int32) (v_t_rules_share : Int32) (v_t_rules_pot : Int32) (v_t_rules_barred : Int32) (v_t_people_size : Int32) (f_t_people_counts : (Nat → Int32)) (f_t_moves_now : (Nat → Int32)) (f_t_moves_next : (Nat → Int32)) (res : Int32) (r_f_t_moves_now : (Nat → Int32)) (r_f_t_moves_next : (Nat → Int32)) (h : X10_settled v_t_rules_law v_t_rules_barred f_t_people_counts f_t_moves_now f_t_moves_next = some (res, r_f_t_moves_now, r_f_t_moves_next)) : Met l yX10_settled wsX10_settled rm_X10_settled (pcW dC dI cI cJ cZ [(q_t, .inr (10, [.ref q_t_text, .ref q_t_reader, .ref q_t_rules, .ref q_t_people, .ref q_t_memory, .ref q_t_rows, .ref q_t_chances, .ref q_t_moves, .ref q_t_payments, .ref q_t_evenings])), (q_t_rules, .inr (8, [.int v_t_rules_law, .int v_t_rules_share, .int v_t_rules_pot, .int v_t_rules_barred])), (q_t_people, .inr (5, [.ref q_t_people_numbers, .ref q_t_people_counts, .int v_t_people_size])), (q_t_people_counts, .inl (cI, 10, .inl f_t_people_counts)), (q_t_moves, .inr (3, [.ref q_t_moves_now, .ref q_t_moves_next])), (q_t_moves_now, .inl (cI, 10, .inl f_t_moves_now)), (q_t_moves_next, .inl (cI, 10, .inl f_t_moves_next))] sz [.ref q_t]) (va_Qi (fun (r : Int32) (_ : Unit) => r = res) (bW dC dI (va_A [(q_t, .inr (10, [.ref q_t_text, .ref q_t_reader, .ref q_t_rules, .ref q_t_people, .ref q_t_memory, .ref q_t_rows, .ref q_t_chances, .ref q_t_moves, .ref q_t_payments, .ref q_t_evenings])), (q_t_rules, .inr (8, [.int v_t_rules_law, .int v_t_rules_share, .int v_t_rules_pot, .int v_t_rules_barred])), (q_t_people, .inr (5, [.ref q_t_people_numbers, .ref q_t_people_counts, .int v_t_people_size])), (q_t_people_counts, .inl (cI, 10, .inl f_t_people_counts)), (q_t_moves, .inr (3, [.ref q_t_moves_now, .ref q_t_moves_next])), (q_t_moves_now, .inl (cI, 10, .inl f_t_moves_now)), (q_t_moves_next, .inl (cI, 10, .inl f_t_moves_next))] sz) [(q_t, .inr (10, [.ref q_t_text, .ref q_t_reader, .ref q_t_rules, .ref q_t_people, .ref q_t_memory, .ref q_t_rows, .ref q_t_chances, .ref q_t_moves, .ref q_t_payments, .ref q_t_evenings])), (q_t_rules, .inr (8, [.int v_t_rules_law, .int v_t_rules_share, .int v_t_rules_pot, .int v_t_rules_barred])), (q_t_people, .inr (5, [.ref q_t_people_numbers, .ref q_t_people_counts, .int v_t_people_size])), (q_t_people_counts, .inl (cI, 10, .inl f_t_people_counts)), (q_t_moves, .inr (3, [.ref q_t_moves_now, .ref q_t_moves_next])), (q_t_moves_now, .inl (cI, 10, .inl r_f_t_moves_now)), (q_t_moves_next, .inl (cI, 10, .inl r_f_t_moves_next))]) (va_A [(q_t, .inr (10, [.ref q_t_text, .ref q_t_reader, .ref q_t_rules, .ref q_t_people, .ref q_t_memory, .ref q_t_rows, .ref q_t_chances, .ref q_t_moves, .ref q_t_payments, .ref q_t_evenings])), (q_t_rules, .inr (8, [.int v_t_rules_law, .int v_t_rules_share, .int v_t_rules_pot, .int v_t_rules_barred])), (q_t_people, .inr (5, [.ref q_t_people_numbers, .ref q_t_people_counts, .int v_t_people_size])), (q_t_people_counts, .inl (cI, 10, .inl f_t_people_counts)), (q_t_moves, .inr (3, [.ref q_t_moves_now, .ref q_t_moves_next])), (q_t_moves_now, .inl (cI, 10, .inl f_t_moves_now)), (q_t_moves_next, .inl (cI, 10, .inl f_t_moves_next))] sz)) 0 0 (va_A [(q_t, .inr (10, [.ref q_t_text, .ref q_t_reader, .ref q_t_rules, .ref q_t_people, .ref q_t_memory, .ref q_t_rows, .ref q_t_chances, .ref q_t_moves, .ref q_t_payments, .ref q_t_evenings])), (q_t_rules, .inr (8, [.int v_t_rules_law, .int v_t_rules_share, .int v_t_rules_pot, .int v_t_rules_barred])), (q_t_people, .inr (5, [.ref q_t_people_numbers, .ref q_t_people_counts, .int v_t_people_size])), (q_t_people_counts, .inl (cI, 10, .inl f_t_people_counts)), (q_t_moves, .inr (3, [.ref q_t_moves_now, .ref q_t_moves_next])), (q_t_moves_now, .inl (cI, 10, .inl f_t_moves_now)), (q_t_moves_next, .inl (cI, 10, .inl f_t_moves_next))] sz) := by
  refine Met.ofW (cc := cX10_settled) (maxL := 1) (ret := (some .int)) (by decide) rfl ?_
  intro p e s m args below meth c s₁ B hml hv
  obtain ⟨rfl, hsz, hP, hKK, hD0⟩ := hv
  have hx := B.exec
  have hb := B.bytes
  have hr := B.returns
  have hts := atoms_spec (ws := wsX10_settled) B.pre
  have hown : s.vm.findClass RX10 = some m.cls := findClass_of_methodNamed B.named
  have hlocks := B.notSynchronized
  have hK := hKK.1
  subst hsz
  have hD := hD0.self (sz := s.heap.size)
  generalize hAe : va_A [(q_t, .inr (10, [.ref q_t_text, .ref q_t_reader, .ref q_t_rules, .ref q_t_people, .ref q_t_memory, .ref q_t_rows, .ref q_t_chances, .ref q_t_moves, .ref q_t_payments, .ref q_t_evenings])), (q_t_rules, .inr (8, [.int v_t_rules_law, .int v_t_rules_share, .int v_t_rules_pot, .int v_t_rules_barred])), (q_t_people, .inr (5, [.ref q_t_people_numbers, .ref q_t_people_counts, .int v_t_people_size])), (q_t_people_counts, .inl (cI, 10, .inl f_t_people_counts)), (q_t_moves, .inr (3, [.ref q_t_moves_now, .ref q_t_moves_next])), (q_t_moves_now, .inl (cI, 10, .inl f_t_moves_now)), (q_t_moves_next, .inl (cI, 10, .inl f_t_moves_next))] s.heap.size = A at hD ⊢
  have hA : ∀ q : Nat, s.heap.size ≤ q → A q := fun q h => by rw [← hAe]; exact Or.inr h
  have hS : va_S A s.heap s.heap [] := va_S.rf
  have hl := lv_entry ([.ref q_t]) (n := 1) (Nat.le_of_ble_eq_true rfl)
  rw [lg_entry_eq]
  generalize (lg_sl ([.ref q_t]) ++ List.replicate (1 - (lg_sl ([.ref q_t])).length) Slot.unset).toArray = ls at hl ⊢
  have hl : lv_has ls 1 [(0, .ref q_t)] := hl
  unfold X10_settled at h
  obtain ⟨H, hHe⟩ : ∃ H, H = s.heap := ⟨_, rfl⟩
  obtain ⟨locs, hLe⟩ : ∃ x : List Loc, x = [] := ⟨_, rfl⟩
  rw [← hHe] at hP
  have hS : va_S A s.heap H locs := by rw [hHe, hLe]; exact hS
  suffices hW : W p l e (headSpec wsX10_settled rm_X10_settled).room s m ([.ref q_t] : List Value).toArray below meth c H locs 0 0 (MQ below (va_Qi (fun (r : Int32) (_ : Unit) => r = res) (bW dC dI A [(q_t, .inr (10, [.ref q_t_text, .ref q_t_reader, .ref q_t_rules, .ref q_t_people, .ref q_t_memory, .ref q_t_rows, .ref q_t_chances, .ref q_t_moves, .ref q_t_payments, .ref q_t_evenings])), (q_t_rules, .inr (8, [.int v_t_rules_law, .int v_t_rules_share, .int v_t_rules_pot, .int v_t_rules_barred])), (q_t_people, .inr (5, [.ref q_t_people_numbers, .ref q_t_people_counts, .int v_t_people_size])), (q_t_people_counts, .inl (cI, 10, .inl f_t_people_counts)), (q_t_moves, .inr (3, [.ref q_t_moves_now, .ref q_t_moves_next])), (q_t_moves_now, .inl (cI, 10, .inl r_f_t_moves_now)), (q_t_moves_next, .inl (cI, 10, .inl r_f_t_moves_next))]) A) ([.ref q_t] : List Value).toArray s 0 0 A) (F0 m 0 ls []) by rw [hHe, hLe] at hW; exact hW
  refine lv_aload_n hx hb dX10_settled_0 rfl (lv_at hl 0 rfl) ?_
  refine va_get (D := (dC, dI)) (ci := 10) (v := .ref q_t_moves) (C := RX10) (T := TX10) (N := 10) hx hb hts in_X10_settled_X10 hown hK hP 0 rfl rfl 7 (by decide) (hts (.fieldLink RX10 61 "RightIfAsMany" "moves" "LRightIfAsMany$Moves;") (List.mem_of_getElem? (i := 1) rfl)) (fun _ h9 => h9) rfl dX10_settled_1 ?_
  refine lv_aload_n hx hb dX10_settled_4 rfl (lv_at hl 0 rfl) ?_
  refine va_get (D := (dC, dI)) (ci := 10) (v := .ref q_t_rules) (C := RX10) (T := TX10) (N := 10) hx hb hts in_X10_settled_X10 hown hK hP 0 rfl rfl 2 (by decide) (hts (.fieldLink RX10 26 "RightIfAsMany" "rules" "LRightIfAsMany$Rules;") (List.mem_of_getElem? (i := 2) rfl)) (fun _ h9 => h9) rfl dX10_settled_5 ?_
  refine lv_aload_n hx hb dX10_settled_8 rfl (lv_at hl 0 rfl) ?_
  refine va_get (D := (dC, dI)) (ci := 10) (v := .ref q_t_people) (C := RX10) (T := TX10) (N := 10) hx hb hts in_X10_settled_X10 hown hK hP 0 rfl rfl 3 (by decide) (hts (.fieldLink RX10 33 "RightIfAsMany" "people" "LRightIfAsMany$People;") (List.mem_of_getElem? (i := 3) rfl)) (fun _ h9 => h9) rfl dX10_settled_9 ?_
  refine kRr (res := q_t_people_counts) (va_runV (As := []) (rest := [.ref q_t_rules, .ref q_t_moves]) ⟨hx, hb, hml, hown, hts⟩ (cn_X5_counts l dC dI cI cJ cZ q_t_people q_t_people_numbers q_t_people_counts  v_t_people_size   ) (cwV 0 hts gX10_settled_X5_counts rfl rfl rfl (by decide +kernel) ⟨Nat.le_of_ble_eq_true rfl, Nat.le_of_ble_eq_true rfl⟩) (preR hKK (hP.sub (ws' := [(q_t_people, .inr (5, [.ref q_t_people_numbers, .ref q_t_people_counts, .int v_t_people_size]))]) [2] rfl) (ci := 5) (q0 := 0) rfl rfl) rfl rfl hl.1 rfl (lv_room (Nat.le_of_ble_eq_true rfl)) dX10_settled_12 ⟨Nat.zero_le _, Nat.zero_le _⟩) ?_
  obtain ⟨r1, w1_1, w1_2, hc1, h⟩ := bnd3_s h
  refine kWi (res := r1) (wc := [(q_t_moves, .inr (3, [.ref q_t_moves_now, .ref q_t_moves_next])), (q_t_moves_now, .inl (cI, 10, .inl f_t_moves_now)), (q_t_moves_next, .inl (cI, 10, .inl f_t_moves_next)), (q_t_rules, .inr (8, [.int v_t_rules_law, .int v_t_rules_share, .int v_t_rules_pot, .int v_t_rules_barred])), (q_t_people_counts, .inl (cI, 10, .inl f_t_people_counts))]) (wr := [(q_t, .inr (10, [.ref q_t_text, .ref q_t_reader, .ref q_t_rules, .ref q_t_people, .ref q_t_memory, .ref q_t_rows, .ref q_t_chances, .ref q_t_moves, .ref q_t_payments, .ref q_t_evenings])), (q_t_people, .inr (5, [.ref q_t_people_numbers, .ref q_t_people_counts, .int v_t_people_size]))]) (w1 := [(q_t_moves, .inr (3, [.ref q_t_moves_now, .ref q_t_moves_next])), (q_t_moves_now, .inl (cI, 10, .inl w1_1)), (q_t_moves_next, .inl (cI, 10, .inl w1_2)), (q_t_rules, .inr (8, [.int v_t_rules_law, .int v_t_rules_share, .int v_t_rules_pot, .int v_t_rules_barred])), (q_t_people_counts, .inl (cI, 10, .inl f_t_people_counts))]) (wn := [(q_t, .inr (10, [.ref q_t_text, .ref q_t_reader, .ref q_t_rules, .ref q_t_people, .ref q_t_memory, .ref q_t_rows, .ref q_t_chances, .ref q_t_moves, .ref q_t_payments, .ref q_t_evenings])), (q_t_rules, .inr (8, [.int v_t_rules_law, .int v_t_rules_share, .int v_t_rules_pot, .int v_t_rules_barred])), (q_t_people, .inr (5, [.ref q_t_people_numbers, .ref q_t_people_counts, .int v_t_people_size])), (q_t_people_counts, .inl (cI, 10, .inl f_t_people_counts)), (q_t_moves, .inr (3, [.ref q_t_moves_now, .ref q_t_moves_next])), (q_t_moves_now, .inl (cI, 10, .inl w1_1)), (q_t_moves_next, .inl (cI, 10, .inl w1_2))]) hP hD hS hA [4, 5, 6, 1, 3] [0, 2] [0, 5, 1, 6, 2, 3, 4] rfl rfl (by decide) (by decide) rfl (by decide) (va_runV (As := [.ref q_t_rules, .ref q_t_people_counts]) (rest := []) ⟨hx, hb, hml, hown, hts⟩ (cn_X3_roundsTillRest l dC dI cI cJ cZ q_t_moves q_t_rules q_t_people_counts q_t_moves_now q_t_moves_next H.size f_t_moves_now f_t_moves_next v_t_rules_law v_t_rules_share v_t_rules_pot v_t_rules_barred f_t_people_counts  r1 w1_1 w1_2 hc1) (cwV 2 hts gX10_settled_X3_roundsTillRest rfl rfl rfl (by decide +kernel) ⟨Nat.le_of_ble_eq_true rfl, Nat.le_of_ble_eq_true rfl⟩) (preW hKK (hP.sub (ws' := [(q_t_moves, .inr (3, [.ref q_t_moves_now, .ref q_t_moves_next])), (q_t_moves_now, .inl (cI, 10, .inl f_t_moves_now)), (q_t_moves_next, .inl (cI, 10, .inl f_t_moves_next)), (q_t_rules, .inr (8, [.int v_t_rules_law, .int v_t_rules_share, .int v_t_rules_pot, .int v_t_rules_barred])), (q_t_people_counts, .inl (cI, 10, .inl f_t_people_counts))]) [4, 5, 6, 1, 3] rfl) (hD.sub (ws' := [(q_t_moves, .inr (3, [.ref q_t_moves_now, .ref q_t_moves_next])), (q_t_moves_now, .inl (cI, 10, .inl f_t_moves_now)), (q_t_moves_next, .inl (cI, 10, .inl f_t_moves_next)), (q_t_rules, .inr (8, [.int v_t_rules_law, .int v_t_rules_share, .int v_t_rules_pot, .int v_t_rules_barred])), (q_t_people_counts, .inl (cI, 10, .inl f_t_people_counts))]) [4, 5, 6, 1, 3] (by decide) rfl) (ci := 3) (q0 := 0) rfl rfl) rfl rfl hl.1 rfl (lv_room (Nat.le_of_ble_eq_true rfl)) dX10_settled_15 ⟨Nat.zero_le _, Nat.zero_le _⟩) (fun H locs hP hD hS => ?_)
  replace h := Option.some.inj h
  obtain ⟨e1, e2, e3⟩ := pr3 h
  exact W.iret (v := r1) hx hb hr (fun t ht hW => ⟨⟨_, (), rfl, e1, (by rw [ht, ← e2, ← e3]; exact hP), (by rw [← e2, ← e3]; exact hD)⟩, hS.F ht⟩) hS.2.2 dX10_settled_18
abbrev rm_X10_isCrowd : Room := { frames := 0, cells := 0, slots := 0, locals := 0 }
set_option maxHeartbeats 4000000 in
set_option maxRecDepth 100000 in
theorem cn_X10_isCrowd (l : Launch) (dC : Nat → ClassId) (dI : Nat → Nat → Nat) (cI cJ cZ : ClassId) (p0 : Int32) (res : Int32) (h : X10_isCrowd p0 = res) : Met l yX10_isCrowd wsX10_isCrowd rm_X10_isCrowd (pcR dC dI cI cJ cZ [] [.int p0]) (vp_Si (fun r => r = res ∧ r &&& 1 = r)) 0 0 (fun _ => False) := by
  refine Met.ofW (cc := cX10_isCrowd) (maxL := 1) (ret := (some .boolean)) (by decide) rfl ?_
  intro p e s m args below meth c s₁ B hml hv
  obtain ⟨rfl, hP, hKK⟩ := hv
  have hx := B.exec
  have hb := B.bytes
  have hr := B.returns
  have hts := atoms_spec (ws := wsX10_isCrowd) B.pre
  have hown : s.vm.findClass RX10 = some m.cls := findClass_of_methodNamed B.named
  have hlocks := B.notSynchronized
  have hK := hKK.1
  have hl := lv_entry ([.int p0]) (n := 1) (Nat.le_of_ble_eq_true rfl)
  rw [lg_entry_eq]
  generalize (lg_sl ([.int p0]) ++ List.replicate (1 - (lg_sl ([.int p0])).length) Slot.unset).toArray = ls at hl ⊢
  have hl : lv_has ls 1 [(0, .int p0)] := hl
  unfold X10_isCrowd at h
  refine lv_iload_n hx hb dX10_isCrowd_0 rfl (lv_at hl 0 rfl) ?_
  refine lv_if_lt (tgt := 14) hx hb dX10_isCrowd_1 (by decide) (fun c1 => ?_) (fun c1 => ?_)
  · replace h := ite_t h c1
    refine lv_iconst (v := (0 : Int32)) hx hb dX10_isCrowd_14 (by decide) ?_
    have e1 := h
    exact W.zret (v := (0 : Int32)) (ty := .boolean) hx hb hr (congrArg Value.int rfl) (fun t ht hW => ⟨_, rfl, ⟨e1, rfl⟩, ht⟩) (fun q hq => by cases hq) dX10_isCrowd_15
  replace h := ite_f h c1
  refine lv_iload_n hx hb dX10_isCrowd_4 rfl (lv_at hl 0 rfl) ?_
  refine lv_bipush (v := (9 : Int32)) hx hb dX10_isCrowd_5 (by decide) ?_
  refine lv_icmp_gt (tgt := 14) hx hb dX10_isCrowd_7 (by decide) (fun c2 => ?_) (fun c2 => ?_)
  · replace h := ite_t h c2
    refine lv_iconst (v := (0 : Int32)) hx hb dX10_isCrowd_14 (by decide) ?_
    have e1 := h
    exact W.zret (v := (0 : Int32)) (ty := .boolean) hx hb hr (congrArg Value.int rfl) (fun t ht hW => ⟨_, rfl, ⟨e1, rfl⟩, ht⟩) (fun q hq => by cases hq) dX10_isCrowd_15
  replace h := ite_f h c2
  refine lv_iconst (v := (1 : Int32)) hx hb dX10_isCrowd_10 (by decide) ?_
  refine lv_goto (tgt := 15) hx hb dX10_isCrowd_11 (by decide) ?_
  have e1 := h
  exact W.zret (v := (1 : Int32)) (ty := .boolean) hx hb hr (congrArg Value.int rfl) (fun t ht hW => ⟨_, rfl, ⟨e1, rfl⟩, ht⟩) (fun q hq => by cases hq) dX10_isCrowd_15
abbrev rm_X7_weightedWith : Room := { frames := 1, cells := 0, slots := 0, locals := 22 }
theorem in_X7_weightedWith_X8 : ∀ w ∈ wsX80, w ∈ wsX7_weightedWith := fun _ h => List.mem_cons_of_mem _ (List.mem_append_right _ h)
theorem in_X7_weightedWith_X7 : ∀ w ∈ wsX70, w ∈ wsX7_weightedWith := fun _ h => List.mem_cons_of_mem _ (List.mem_append_left _ (List.mem_append_right _ h))
set_option maxHeartbeats 4000000 in
set_option maxRecDepth 100000 in
theorem cn_X7_weightedWith (l : Launch) (dC : Nat → ClassId) (dI : Nat → Nat → Nat) (cI cJ cZ : ClassId) (q_t q_p1 q_t_sums q_t_costs q_t_weights q_t_needed : Nat) (f_t_sums : (Nat → Int64)) (v_p1_law : Int32) (v_p1_share : Int32) (v_p1_pot : Int32) (v_p1_barred : Int32) (p2 : Int32) (p3 : Int32) (p4 : Int32) (res : Int64) (h : X7_weightedWith f_t_sums v_p1_law p2 p3 p4 = some res) : Met l yX7_weightedWith wsX7_weightedWith rm_X7_weightedWith (pcR dC dI cI cJ cZ [(q_t, .inr (7, [.ref q_t_sums, .ref q_t_costs, .ref q_t_weights, .ref q_t_needed])), (q_t_sums, .inl (cJ, 10, .inr (.inl f_t_sums))), (q_p1, .inr (8, [.int v_p1_law, .int v_p1_share, .int v_p1_pot, .int v_p1_barred]))] [.ref q_t, .ref q_p1, .int p2, .int p3, .int p4]) (vp_Sl (fun r => r = res)) 0 0 (fun _ => False) := by
  refine Met.ofW (cc := cX7_weightedWith) (maxL := 10) (ret := (some .long)) (by decide) rfl ?_
  intro p e s m args below meth c s₁ B hml hv
  obtain ⟨rfl, hP, hKK⟩ := hv
  have hx := B.exec
  have hb := B.bytes
  have hr := B.returns
  have hts := atoms_spec (ws := wsX7_weightedWith) B.pre
  have hown : s.vm.findClass RX7 = some m.cls := findClass_of_methodNamed B.named
  have hlocks := B.notSynchronized
  have hK := hKK.1
  have hl := lv_entry ([.ref q_t, .ref q_p1, .int p2, .int p3, .int p4]) (n := 10) (Nat.le_of_ble_eq_true rfl)
  rw [lg_entry_eq]
  generalize (lg_sl ([.ref q_t, .ref q_p1, .int p2, .int p3, .int p4]) ++ List.replicate (10 - (lg_sl ([.ref q_t, .ref q_p1, .int p2, .int p3, .int p4])).length) Slot.unset).toArray = ls at hl ⊢
  have hl : lv_has ls 10 [(0, .ref q_t), (1, .ref q_p1), (2, .int p2), (3, .int p3), (4, .int p4)] := hl
  have L_9 : ∀ (n9 : Nat) , ∀  (x2 : Int32) (x3 : Int32) (x4 : Int32) (x5 : Int64) (x7 : Int64) (x9 : Int32), X7_weightedWith_b9 n9 f_t_sums v_p1_law x2 x3 x4 x5 x7 x9 = some res → ∀ (ls : Array Slot), lv_has ls 10 [(0, .ref q_t), (1, .ref q_p1), (2, .int x2), (3, .int x3), (4, .int x4), (5, .long x5), (7, .long x7), (9, .int x9)] → W p l e (headSpec wsX7_weightedWith rm_X7_weightedWith).room s m ([.ref q_t, .ref q_p1, .int p2, .int p3, .int p4] : List Value).toArray below meth c s.heap [] 0 0 (MQ below (vp_Sl (fun r => r = res)) ([.ref q_t, .ref q_p1, .int p2, .int p3, .int p4] : List Value).toArray s 0 0 (fun _ => False)) (F0 m 9 ls []) := by
    intro n9
    induction n9 with
    | zero => intro x2 x3 x4 x5 x7 x9 h ls hl; exact absurd h (fun h => by cases h)
    | succ n9 ih_9 =>
      have B_64 : ∀  (x2 : Int32) (x3 : Int32) (x4 : Int32) (x5 : Int64) (x7 : Int64) (x9 : Int32), X7_weightedWith_b64 (X7_weightedWith_b9 n9) f_t_sums v_p1_law x2 x3 x4 x5 x7 x9 = some res → ∀ (ls : Array Slot), lv_has ls 10 [(0, .ref q_t), (1, .ref q_p1), (2, .int x2), (3, .int x3), (4, .int x4), (5, .long x5), (7, .long x7), (9, .int x9)] → W p l e (headSpec wsX7_weightedWith rm_X7_weightedWith).room s m ([.ref q_t, .ref q_p1, .int p2, .int p3, .int p4] : List Value).toArray below meth c s.heap [] 0 0 (MQ below (vp_Sl (fun r => r = res)) ([.ref q_t, .ref q_p1, .int p2, .int p3, .int p4] : List Value).toArray s 0 0 (fun _ => False)) (F0 m 64 ls []) := by
        intro x2 x3 x4 x5 x7 x9 h ls hl
        unfold X7_weightedWith_b64 at h
        refine lv_iinc (v := (x9 + (1 : Int32))) (lv' := [(9, .int (x9 + (1 : Int32))), (0, .ref q_t), (1, .ref q_p1), (2, .int x2), (3, .int x3), (4, .int x4), (5, .long x5), (7, .long x7)]) hx hb dX7_weightedWith_64 hl (k := 7) rfl rfl (by decide) rfl (fun ls hl => ?_)
        refine lv_goto (tgt := 9) hx hb dX7_weightedWith_67 (by decide) ?_
        exact ih_9 x2 x3 x4 x5 x7 (x9 + (1 : Int32)) h ls (lv_sub hl [1, 2, 3, 4, 5, 6, 7, 0] rfl)
      intro x2 x3 x4 x5 x7 x9 h ls hl
      replace h : X7_weightedWith_b9_s (X7_weightedWith_b9 n9) f_t_sums v_p1_law x2 x3 x4 x5 x7 x9 = some res := h
      unfold X7_weightedWith_b9_s at h
      refine lv_iload hx hb dX7_weightedWith_9 (lv_at hl 7 rfl) ?_
      refine lv_iload hx hb dX7_weightedWith_11 (lv_at hl 4 rfl) ?_
      refine lv_icmp_gt (tgt := 70) hx hb dX7_weightedWith_13 (by decide) (fun c1 => ?_) (fun c1 => ?_)
      · replace h := ite_t h c1
        refine lv_lload hx hb dX7_weightedWith_70 (lv_at hl 5 rfl) ?_
        have e1 := Option.some.inj h
        exact W.lret (v := x5) hx hb hr (fun t ht hW => ⟨_, rfl, e1, ht⟩) (fun q hq => by cases hq) dX7_weightedWith_72
      replace h := ite_f h c1
      refine lv_lload hx hb dX7_weightedWith_16 (lv_at hl 6 rfl) ?_
      refine lv_iload_n hx hb dX7_weightedWith_18 rfl (lv_at hl 3 rfl) ?_
      refine lv_i2l hx hb dX7_weightedWith_19 rfl ?_
      refine lv_lmul hx hb dX7_weightedWith_20 ?_
      refine lv_iload hx hb dX7_weightedWith_21 (lv_at hl 4 rfl) ?_
      refine lv_iload hx hb dX7_weightedWith_23 (lv_at hl 7 rfl) ?_
      refine lv_isub hx hb dX7_weightedWith_25 ?_
      refine lv_iconst (v := (1 : Int32)) hx hb dX7_weightedWith_26 (by decide) ?_
      refine lv_iadd hx hb dX7_weightedWith_27 ?_
      refine lv_i2l hx hb dX7_weightedWith_28 rfl ?_
      refine lv_lmul hx hb dX7_weightedWith_29 ?_
      refine lv_iload hx hb dX7_weightedWith_30 (lv_at hl 7 rfl) ?_
      refine lv_i2l hx hb dX7_weightedWith_32 rfl ?_
      obtain ⟨hg2, h⟩ := grd_s h
      refine lv_ldiv hx hb dX7_weightedWith_33 hg2 ?_
      refine lv_lstore (lv' := [(7, .long (((x7 * x3.toInt64) * ((x4 - x9) + (1 : Int32)).toInt64) / x9.toInt64)), (0, .ref q_t), (1, .ref q_p1), (2, .int x2), (3, .int x3), (4, .int x4), (5, .long x5), (9, .int x9)]) hx hb dX7_weightedWith_34 hl (by decide) rfl (fun ls hl => ?_)
      refine lv_aload_n hx hb dX7_weightedWith_36 rfl (lv_at hl 2 rfl) ?_
      refine lv_iload_n hx hb dX7_weightedWith_37 rfl (lv_at hl 3 rfl) ?_
      refine lv_iload hx hb dX7_weightedWith_38 (lv_at hl 7 rfl) ?_
      refine kRz (res := (X8_suits v_p1_law x2 x9)) (va_runV (As := [.int x2, .int x9]) (rest := []) ⟨hx, hb, hml, hown, hts⟩ (cn_X8_suits l dC dI cI cJ cZ q_p1  v_p1_law v_p1_share v_p1_pot v_p1_barred x2 x9 (X8_suits v_p1_law x2 x9) rfl) (cwV 2 hts gX7_weightedWith_X8_suits rfl rfl rfl (by decide +kernel) ⟨Nat.le_of_ble_eq_true rfl, Nat.le_of_ble_eq_true rfl⟩) (preR hKK (hP.sub (ws' := [(q_p1, .inr (8, [.int v_p1_law, .int v_p1_share, .int v_p1_pot, .int v_p1_barred]))]) [2] rfl) (ci := 8) (q0 := 0) rfl rfl) rfl rfl hl.1 rfl (lv_room (Nat.le_of_ble_eq_true rfl)) dX7_weightedWith_40 ⟨Nat.zero_le _, Nat.zero_le _⟩) (fun hz3 => ?_)
      refine lv_if_eq (tgt := 64) hx hb dX7_weightedWith_43 (by decide) (fun c4 => ?_) (fun c4 => ?_)
      · replace h := ite_t h c4
        exact B_64 x2 x3 x4 x5 (((x7 * x3.toInt64) * ((x4 - x9) + (1 : Int32)).toInt64) / x9.toInt64) x9 h ls (lv_sub hl [1, 2, 3, 4, 5, 6, 0, 7] rfl)
      replace h := ite_f h c4
      refine lv_lload hx hb dX7_weightedWith_46 (lv_at hl 6 rfl) ?_
      refine lv_lload hx hb dX7_weightedWith_48 (lv_at hl 0 rfl) ?_
      refine lv_aload_n hx hb dX7_weightedWith_50 rfl (lv_at hl 1 rfl) ?_
      refine va_get (D := (dC, dI)) (ci := 7) (v := .ref q_t_sums) (C := RX7) (T := TX7) (N := 4) hx hb hts in_X7_weightedWith_X7 hown hK hP 0 rfl rfl 0 (by decide) (hts (.fieldLink RX7 9 "RightIfAsMany$Rows" "sums" "[J") (List.mem_of_getElem? (i := 1) rfl)) (fun _ h9 => h9) rfl dX7_weightedWith_51 ?_
      refine lv_iload hx hb dX7_weightedWith_54 (lv_at hl 5 rfl) ?_
      refine lv_iload hx hb dX7_weightedWith_56 (lv_at hl 7 rfl) ?_
      refine lv_isub hx hb dX7_weightedWith_58 ?_
      obtain ⟨hg5, h⟩ := grd_s h
      refine va_lald hx hb hK hP 1 1 rfl rfl hg5 dX7_weightedWith_59 ?_
      refine lv_lmul hx hb dX7_weightedWith_60 ?_
      refine lv_ladd hx hb dX7_weightedWith_61 ?_
      refine lv_lstore (lv' := [(5, .long (x5 + ((((x7 * x3.toInt64) * ((x4 - x9) + (1 : Int32)).toInt64) / x9.toInt64) * (f_t_sums (x4 - x9).toNatClampNeg)))), (7, .long (((x7 * x3.toInt64) * ((x4 - x9) + (1 : Int32)).toInt64) / x9.toInt64)), (0, .ref q_t), (1, .ref q_p1), (2, .int x2), (3, .int x3), (4, .int x4), (9, .int x9)]) hx hb dX7_weightedWith_62 hl (by decide) rfl (fun ls hl => ?_)
      exact B_64 x2 x3 x4 (x5 + ((((x7 * x3.toInt64) * ((x4 - x9) + (1 : Int32)).toInt64) / x9.toInt64) * (f_t_sums (x4 - x9).toNatClampNeg))) (((x7 * x3.toInt64) * ((x4 - x9) + (1 : Int32)).toInt64) / x9.toInt64) x9 h ls (lv_sub hl [2, 3, 4, 5, 6, 0, 1, 7] rfl)
  unfold X7_weightedWith at h
  refine lv_lconst (v := (0 : Int64)) hx hb dX7_weightedWith_0 (by decide) ?_
  refine lv_lstore (lv' := [(5, .long (0 : Int64)), (0, .ref q_t), (1, .ref q_p1), (2, .int p2), (3, .int p3), (4, .int p4)]) hx hb dX7_weightedWith_1 hl (by decide) rfl (fun ls hl => ?_)
  refine lv_lconst (v := (1 : Int64)) hx hb dX7_weightedWith_3 (by decide) ?_
  refine lv_lstore (lv' := [(7, .long (1 : Int64)), (5, .long (0 : Int64)), (0, .ref q_t), (1, .ref q_p1), (2, .int p2), (3, .int p3), (4, .int p4)]) hx hb dX7_weightedWith_4 hl (by decide) rfl (fun ls hl => ?_)
  refine lv_iconst (v := (1 : Int32)) hx hb dX7_weightedWith_6 (by decide) ?_
  refine lv_istore (lv' := [(9, .int (1 : Int32)), (7, .long (1 : Int64)), (5, .long (0 : Int64)), (0, .ref q_t), (1, .ref q_p1), (2, .int p2), (3, .int p3), (4, .int p4)]) hx hb dX7_weightedWith_7 hl (by decide) rfl (fun ls hl => ?_)
  exact L_9 fU p2 p3 p4 (0 : Int64) (1 : Int64) (1 : Int32) h ls (lv_sub hl [3, 4, 5, 6, 7, 2, 1, 0] rfl)
abbrev rm_X7_weighted : Room := { frames := 2, cells := 0, slots := 0, locals := 51 }
theorem in_X7_weighted_X8 : ∀ w ∈ wsX80, w ∈ wsX7_weighted := fun _ h => List.mem_cons_of_mem _ (List.mem_append_right _ h)
theorem in_X7_weighted_X7 : ∀ w ∈ wsX70, w ∈ wsX7_weighted := fun _ h => List.mem_cons_of_mem _ (List.mem_append_left _ (List.mem_append_right _ h))
set_option maxHeartbeats 4000000 in
set_option maxRecDepth 100000 in
theorem cn_X7_weighted (l : Launch) (dC : Nat → ClassId) (dI : Nat → Nat → Nat) (cI cJ cZ : ClassId) (q_t q_p1 q_p2 q_t_sums q_t_costs q_t_weights q_t_needed : Nat) (sz : Nat) (f_t_sums : (Nat → Int64)) (v_p1_law : Int32) (v_p1_share : Int32) (v_p1_pot : Int32) (v_p1_barred : Int32) (f_p2 : (Nat → Int32)) (p3 : Int32) (res : Int64) (r_f_t_sums : (Nat → Int64)) (h : X7_weighted f_t_sums v_p1_law f_p2 p3 = some (res, r_f_t_sums)) : Met l yX7_weighted wsX7_weighted rm_X7_weighted (pcW dC dI cI cJ cZ [(q_t, .inr (7, [.ref q_t_sums, .ref q_t_costs, .ref q_t_weights, .ref q_t_needed])), (q_t_sums, .inl (cJ, 10, .inr (.inl f_t_sums))), (q_p1, .inr (8, [.int v_p1_law, .int v_p1_share, .int v_p1_pot, .int v_p1_barred])), (q_p2, .inl (cI, 10, .inl f_p2))] sz [.ref q_t, .ref q_p1, .ref q_p2, .int p3]) (va_Ql (fun (r : Int64) (_ : Unit) => r = res) (bW dC dI (va_A [(q_t, .inr (7, [.ref q_t_sums, .ref q_t_costs, .ref q_t_weights, .ref q_t_needed])), (q_t_sums, .inl (cJ, 10, .inr (.inl f_t_sums))), (q_p1, .inr (8, [.int v_p1_law, .int v_p1_share, .int v_p1_pot, .int v_p1_barred])), (q_p2, .inl (cI, 10, .inl f_p2))] sz) [(q_t, .inr (7, [.ref q_t_sums, .ref q_t_costs, .ref q_t_weights, .ref q_t_needed])), (q_t_sums, .inl (cJ, 10, .inr (.inl r_f_t_sums))), (q_p1, .inr (8, [.int v_p1_law, .int v_p1_share, .int v_p1_pot, .int v_p1_barred])), (q_p2, .inl (cI, 10, .inl f_p2))]) (va_A [(q_t, .inr (7, [.ref q_t_sums, .ref q_t_costs, .ref q_t_weights, .ref q_t_needed])), (q_t_sums, .inl (cJ, 10, .inr (.inl f_t_sums))), (q_p1, .inr (8, [.int v_p1_law, .int v_p1_share, .int v_p1_pot, .int v_p1_barred])), (q_p2, .inl (cI, 10, .inl f_p2))] sz)) 0 0 (va_A [(q_t, .inr (7, [.ref q_t_sums, .ref q_t_costs, .ref q_t_weights, .ref q_t_needed])), (q_t_sums, .inl (cJ, 10, .inr (.inl f_t_sums))), (q_p1, .inr (8, [.int v_p1_law, .int v_p1_share, .int v_p1_pot, .int v_p1_barred])), (q_p2, .inl (cI, 10, .inl f_p2))] sz) := by
  refine Met.ofW (cc := cX7_weighted) (maxL := 6) (ret := (some .long)) (by decide) rfl ?_
  intro p e s m args below meth c s₁ B hml hv
  obtain ⟨rfl, hsz, hP, hKK, hD0⟩ := hv
  have hx := B.exec
  have hb := B.bytes
  have hr := B.returns
  have hts := atoms_spec (ws := wsX7_weighted) B.pre
  have hown : s.vm.findClass RX7 = some m.cls := findClass_of_methodNamed B.named
  have hlocks := B.notSynchronized
  have hK := hKK.1
  subst hsz
  have hD := hD0.self (sz := s.heap.size)
  generalize hAe : va_A [(q_t, .inr (7, [.ref q_t_sums, .ref q_t_costs, .ref q_t_weights, .ref q_t_needed])), (q_t_sums, .inl (cJ, 10, .inr (.inl f_t_sums))), (q_p1, .inr (8, [.int v_p1_law, .int v_p1_share, .int v_p1_pot, .int v_p1_barred])), (q_p2, .inl (cI, 10, .inl f_p2))] s.heap.size = A at hD ⊢
  have hA : ∀ q : Nat, s.heap.size ≤ q → A q := fun q h => by rw [← hAe]; exact Or.inr h
  have hS : va_S A s.heap s.heap [] := va_S.rf
  have hl := lv_entry ([.ref q_t, .ref q_p1, .ref q_p2, .int p3]) (n := 6) (Nat.le_of_ble_eq_true rfl)
  rw [lg_entry_eq]
  generalize (lg_sl ([.ref q_t, .ref q_p1, .ref q_p2, .int p3]) ++ List.replicate (6 - (lg_sl ([.ref q_t, .ref q_p1, .ref q_p2, .int p3])).length) Slot.unset).toArray = ls at hl ⊢
  have hl : lv_has ls 6 [(0, .ref q_t), (1, .ref q_p1), (2, .ref q_p2), (3, .int p3)] := hl
  have B_85 : ∀ (f_t_sums : (Nat → Int64)) (x3 : Int32), X7_weighted_b85 f_t_sums v_p1_law f_p2 x3 = some (res, r_f_t_sums) → ∀ (H : Heap) (locs : List Loc) (ls : Array Slot), va_P (dC, dI) vwCl [(q_t, .inr (7, [.ref q_t_sums, .ref q_t_costs, .ref q_t_weights, .ref q_t_needed])), (q_t_sums, .inl (cJ, 10, .inr (.inl f_t_sums))), (q_p1, .inr (8, [.int v_p1_law, .int v_p1_share, .int v_p1_pot, .int v_p1_barred])), (q_p2, .inl (cI, 10, .inl f_p2))] H → va_D A [(q_t, .inr (7, [.ref q_t_sums, .ref q_t_costs, .ref q_t_weights, .ref q_t_needed])), (q_t_sums, .inl (cJ, 10, .inr (.inl f_t_sums))), (q_p1, .inr (8, [.int v_p1_law, .int v_p1_share, .int v_p1_pot, .int v_p1_barred])), (q_p2, .inl (cI, 10, .inl f_p2))] → va_S A s.heap H locs → lv_has ls 6 [(0, .ref q_t), (3, .int x3)] → W p l e (headSpec wsX7_weighted rm_X7_weighted).room s m ([.ref q_t, .ref q_p1, .ref q_p2, .int p3] : List Value).toArray below meth c H locs 0 0 (MQ below (va_Ql (fun (r : Int64) (_ : Unit) => r = res) (bW dC dI A [(q_t, .inr (7, [.ref q_t_sums, .ref q_t_costs, .ref q_t_weights, .ref q_t_needed])), (q_t_sums, .inl (cJ, 10, .inr (.inl r_f_t_sums))), (q_p1, .inr (8, [.int v_p1_law, .int v_p1_share, .int v_p1_pot, .int v_p1_barred])), (q_p2, .inl (cI, 10, .inl f_p2))]) A) ([.ref q_t, .ref q_p1, .ref q_p2, .int p3] : List Value).toArray s 0 0 A) (F0 m 85 ls []) := by
    intro f_t_sums x3 h H locs ls hP hD hS hl
    unfold X7_weighted_b85 at h
    refine lv_aload_n hx hb dX7_weighted_85 rfl (lv_at hl 0 rfl) ?_
    refine va_get (D := (dC, dI)) (ci := 7) (v := .ref q_t_sums) (C := RX7) (T := TX7) (N := 4) hx hb hts in_X7_weighted_X7 hown hK hP 0 rfl rfl 0 (by decide) (hts (.fieldLink RX7 9 "RightIfAsMany$Rows" "sums" "[J") (List.mem_of_getElem? (i := 1) rfl)) (fun _ h9 => h9) rfl dX7_weighted_86 ?_
    refine lv_iload_n hx hb dX7_weighted_89 rfl (lv_at hl 1 rfl) ?_
    obtain ⟨hg6, h⟩ := grd_s h
    refine va_lald hx hb hK hP 1 1 rfl rfl hg6 dX7_weighted_90 ?_
    replace h := Option.some.inj h
    obtain ⟨e1, e2⟩ := pr2 h
    exact W.lret (v := (f_t_sums x3.toNatClampNeg)) hx hb hr (fun t ht hW => ⟨⟨_, (), rfl, e1, (by rw [ht, ← e2]; exact hP), (by rw [← e2]; exact hD)⟩, hS.F ht⟩) hS.2.2 dX7_weighted_91
  have L_27 : ∀ (n27 : Nat) , ∀ (f_t_sums : (Nat → Int64)) (x3 : Int32) (x4 : Int32), X7_weighted_b27 n27 f_t_sums v_p1_law f_p2 x3 x4 = some (res, r_f_t_sums) → ∀ (H : Heap) (locs : List Loc) (ls : Array Slot), va_P (dC, dI) vwCl [(q_t, .inr (7, [.ref q_t_sums, .ref q_t_costs, .ref q_t_weights, .ref q_t_needed])), (q_t_sums, .inl (cJ, 10, .inr (.inl f_t_sums))), (q_p1, .inr (8, [.int v_p1_law, .int v_p1_share, .int v_p1_pot, .int v_p1_barred])), (q_p2, .inl (cI, 10, .inl f_p2))] H → va_D A [(q_t, .inr (7, [.ref q_t_sums, .ref q_t_costs, .ref q_t_weights, .ref q_t_needed])), (q_t_sums, .inl (cJ, 10, .inr (.inl f_t_sums))), (q_p1, .inr (8, [.int v_p1_law, .int v_p1_share, .int v_p1_pot, .int v_p1_barred])), (q_p2, .inl (cI, 10, .inl f_p2))] → va_S A s.heap H locs → lv_has ls 6 [(0, .ref q_t), (1, .ref q_p1), (2, .ref q_p2), (3, .int x3), (4, .int x4)] → W p l e (headSpec wsX7_weighted rm_X7_weighted).room s m ([.ref q_t, .ref q_p1, .ref q_p2, .int p3] : List Value).toArray below meth c H locs 0 0 (MQ below (va_Ql (fun (r : Int64) (_ : Unit) => r = res) (bW dC dI A [(q_t, .inr (7, [.ref q_t_sums, .ref q_t_costs, .ref q_t_weights, .ref q_t_needed])), (q_t_sums, .inl (cJ, 10, .inr (.inl r_f_t_sums))), (q_p1, .inr (8, [.int v_p1_law, .int v_p1_share, .int v_p1_pot, .int v_p1_barred])), (q_p2, .inl (cI, 10, .inl f_p2))]) A) ([.ref q_t, .ref q_p1, .ref q_p2, .int p3] : List Value).toArray s 0 0 A) (F0 m 27 ls []) := by
    intro n27
    induction n27 with
    | zero => intro f_t_sums x3 x4 h H locs ls hP hD hS hl; exact absurd h (fun h => by cases h)
    | succ n27 ih_27 =>
      have B_79 : ∀ (f_t_sums : (Nat → Int64)) (x3 : Int32) (x4 : Int32), X7_weighted_b79 (X7_weighted_b27 n27) f_t_sums v_p1_law f_p2 x3 x4 = some (res, r_f_t_sums) → ∀ (H : Heap) (locs : List Loc) (ls : Array Slot), va_P (dC, dI) vwCl [(q_t, .inr (7, [.ref q_t_sums, .ref q_t_costs, .ref q_t_weights, .ref q_t_needed])), (q_t_sums, .inl (cJ, 10, .inr (.inl f_t_sums))), (q_p1, .inr (8, [.int v_p1_law, .int v_p1_share, .int v_p1_pot, .int v_p1_barred])), (q_p2, .inl (cI, 10, .inl f_p2))] H → va_D A [(q_t, .inr (7, [.ref q_t_sums, .ref q_t_costs, .ref q_t_weights, .ref q_t_needed])), (q_t_sums, .inl (cJ, 10, .inr (.inl f_t_sums))), (q_p1, .inr (8, [.int v_p1_law, .int v_p1_share, .int v_p1_pot, .int v_p1_barred])), (q_p2, .inl (cI, 10, .inl f_p2))] → va_S A s.heap H locs → lv_has ls 6 [(0, .ref q_t), (1, .ref q_p1), (2, .ref q_p2), (3, .int x3), (4, .int x4)] → W p l e (headSpec wsX7_weighted rm_X7_weighted).room s m ([.ref q_t, .ref q_p1, .ref q_p2, .int p3] : List Value).toArray below meth c H locs 0 0 (MQ below (va_Ql (fun (r : Int64) (_ : Unit) => r = res) (bW dC dI A [(q_t, .inr (7, [.ref q_t_sums, .ref q_t_costs, .ref q_t_weights, .ref q_t_needed])), (q_t_sums, .inl (cJ, 10, .inr (.inl r_f_t_sums))), (q_p1, .inr (8, [.int v_p1_law, .int v_p1_share, .int v_p1_pot, .int v_p1_barred])), (q_p2, .inl (cI, 10, .inl f_p2))]) A) ([.ref q_t, .ref q_p1, .ref q_p2, .int p3] : List Value).toArray s 0 0 A) (F0 m 79 ls []) := by
        intro f_t_sums x3 x4 h H locs ls hP hD hS hl
        unfold X7_weighted_b79 at h
        refine lv_iinc (v := (x4 + (1 : Int32))) (lv' := [(4, .int (x4 + (1 : Int32))), (0, .ref q_t), (1, .ref q_p1), (2, .ref q_p2), (3, .int x3)]) hx hb dX7_weighted_79 hl (k := 4) rfl rfl (by decide) rfl (fun ls hl => ?_)
        refine lv_goto (tgt := 27) hx hb dX7_weighted_82 (by decide) ?_
        exact ih_27 f_t_sums x3 (x4 + (1 : Int32)) h H locs ls hP hD hS (lv_sub hl [1, 2, 3, 4, 0] rfl)
      have L_44 : ∀ (n44 : Nat) , ∀ (f_t_sums : (Nat → Int64)) (x3 : Int32) (x4 : Int32) (x5 : Int32), X7_weighted_b44 (X7_weighted_b27 n27) n44 f_t_sums v_p1_law f_p2 x3 x4 x5 = some (res, r_f_t_sums) → ∀ (H : Heap) (locs : List Loc) (ls : Array Slot), va_P (dC, dI) vwCl [(q_t, .inr (7, [.ref q_t_sums, .ref q_t_costs, .ref q_t_weights, .ref q_t_needed])), (q_t_sums, .inl (cJ, 10, .inr (.inl f_t_sums))), (q_p1, .inr (8, [.int v_p1_law, .int v_p1_share, .int v_p1_pot, .int v_p1_barred])), (q_p2, .inl (cI, 10, .inl f_p2))] H → va_D A [(q_t, .inr (7, [.ref q_t_sums, .ref q_t_costs, .ref q_t_weights, .ref q_t_needed])), (q_t_sums, .inl (cJ, 10, .inr (.inl f_t_sums))), (q_p1, .inr (8, [.int v_p1_law, .int v_p1_share, .int v_p1_pot, .int v_p1_barred])), (q_p2, .inl (cI, 10, .inl f_p2))] → va_S A s.heap H locs → lv_has ls 6 [(0, .ref q_t), (1, .ref q_p1), (2, .ref q_p2), (3, .int x3), (4, .int x4), (5, .int x5)] → W p l e (headSpec wsX7_weighted rm_X7_weighted).room s m ([.ref q_t, .ref q_p1, .ref q_p2, .int p3] : List Value).toArray below meth c H locs 0 0 (MQ below (va_Ql (fun (r : Int64) (_ : Unit) => r = res) (bW dC dI A [(q_t, .inr (7, [.ref q_t_sums, .ref q_t_costs, .ref q_t_weights, .ref q_t_needed])), (q_t_sums, .inl (cJ, 10, .inr (.inl r_f_t_sums))), (q_p1, .inr (8, [.int v_p1_law, .int v_p1_share, .int v_p1_pot, .int v_p1_barred])), (q_p2, .inl (cI, 10, .inl f_p2))]) A) ([.ref q_t, .ref q_p1, .ref q_p2, .int p3] : List Value).toArray s 0 0 A) (F0 m 44 ls []) := by
        intro n44
        induction n44 with
        | zero => intro f_t_sums x3 x4 x5 h H locs ls hP hD hS hl; exact absurd h (fun h => by cases h)
        | succ n44 ih_44 =>
          intro f_t_sums x3 x4 x5 h H locs ls hP hD hS hl
          replace h : X7_weighted_b44_s (X7_weighted_b27 n27) (X7_weighted_b44 (X7_weighted_b27 n27) n44) f_t_sums v_p1_law f_p2 x3 x4 x5 = some (res, r_f_t_sums) := h
          unfold X7_weighted_b44_s at h
          refine lv_iload hx hb dX7_weighted_44 (lv_at hl 5 rfl) ?_
          refine lv_iconst (v := (1 : Int32)) hx hb dX7_weighted_46 (by decide) ?_
          refine lv_icmp_lt (tgt := 79) hx hb dX7_weighted_47 (by decide) (fun c1 => ?_) (fun c1 => ?_)
          · replace h := ite_t h c1
            exact B_79 f_t_sums x3 x4 h H locs ls hP hD hS (lv_sub hl [0, 1, 2, 3, 4] rfl)
          replace h := ite_f h c1
          refine lv_aload_n hx hb dX7_weighted_50 rfl (lv_at hl 0 rfl) ?_
          refine va_get (D := (dC, dI)) (ci := 7) (v := .ref q_t_sums) (C := RX7) (T := TX7) (N := 4) hx hb hts in_X7_weighted_X7 hown hK hP 0 rfl rfl 0 (by decide) (hts (.fieldLink RX7 9 "RightIfAsMany$Rows" "sums" "[J") (List.mem_of_getElem? (i := 1) rfl)) (fun _ h9 => h9) rfl dX7_weighted_51 ?_
          refine lv_iload hx hb dX7_weighted_54 (lv_at hl 5 rfl) ?_
          refine lv_dup2_11 hx hb dX7_weighted_56 rfl rfl ?_
          obtain ⟨hg2, h⟩ := grd_s h
          refine va_lald hx hb hK hP 1 1 rfl rfl hg2 dX7_weighted_57 ?_
          refine lv_aload_n hx hb dX7_weighted_58 rfl (lv_at hl 0 rfl) ?_
          refine lv_aload_n hx hb dX7_weighted_59 rfl (lv_at hl 1 rfl) ?_
          refine lv_iload hx hb dX7_weighted_60 (lv_at hl 4 rfl) ?_
          refine lv_aload_n hx hb dX7_weighted_62 rfl (lv_at hl 2 rfl) ?_
          refine lv_iload hx hb dX7_weighted_63 (lv_at hl 4 rfl) ?_
          obtain ⟨hg3, h⟩ := grd_s h
          refine va_iald hx hb hK hP 3 0 rfl rfl hg3 dX7_weighted_65 ?_
          refine lv_iload hx hb dX7_weighted_66 (lv_at hl 5 rfl) ?_
          obtain ⟨r4, hc4, h⟩ := bnd1_s h
          refine kRl (res := r4) (va_runV (As := [.ref q_p1, .int x4, .int (f_p2 x4.toNatClampNeg), .int x5]) (rest := [.long (f_t_sums x5.toNatClampNeg), .int x5, .ref q_t_sums]) ⟨hx, hb, hml, hown, hts⟩ (cn_X7_weightedWith l dC dI cI cJ cZ q_t q_p1 q_t_sums q_t_costs q_t_weights q_t_needed  f_t_sums v_p1_law v_p1_share v_p1_pot v_p1_barred x4 (f_p2 x4.toNatClampNeg) x5 r4 hc4) (cwV 4 hts gX7_weighted_X7_weightedWith rfl rfl rfl (by decide +kernel) ⟨Nat.le_of_ble_eq_true rfl, Nat.le_of_ble_eq_true rfl⟩) (preR hKK (hP.sub (ws' := [(q_t, .inr (7, [.ref q_t_sums, .ref q_t_costs, .ref q_t_weights, .ref q_t_needed])), (q_t_sums, .inl (cJ, 10, .inr (.inl f_t_sums))), (q_p1, .inr (8, [.int v_p1_law, .int v_p1_share, .int v_p1_pot, .int v_p1_barred]))]) [0, 1, 2] rfl) (ci := 7) (q0 := 0) rfl rfl) rfl rfl hl.1 rfl (lv_room (Nat.le_of_ble_eq_true rfl)) dX7_weighted_68 ⟨Nat.zero_le _, Nat.zero_le _⟩) ?_
          refine lv_ladd hx hb dX7_weighted_71 ?_
          obtain ⟨hg5, h⟩ := grd_s h
          refine va_last hx hb hK hP hD hS 1 1 rfl rfl hg5 dX7_weighted_72 (fun H locs hP hD hS => ?_)
          have hP : va_P (dC, dI) vwCl [(q_t, .inr (7, [.ref q_t_sums, .ref q_t_costs, .ref q_t_weights, .ref q_t_needed])), (q_t_sums, .inl (cJ, 10, .inr (.inl (vp_updL f_t_sums x5.toNatClampNeg ((f_t_sums x5.toNatClampNeg) + r4))))), (q_p1, .inr (8, [.int v_p1_law, .int v_p1_share, .int v_p1_pot, .int v_p1_barred])), (q_p2, .inl (cI, 10, .inl f_p2))] H := hP
          have hD : va_D A [(q_t, .inr (7, [.ref q_t_sums, .ref q_t_costs, .ref q_t_weights, .ref q_t_needed])), (q_t_sums, .inl (cJ, 10, .inr (.inl (vp_updL f_t_sums x5.toNatClampNeg ((f_t_sums x5.toNatClampNeg) + r4))))), (q_p1, .inr (8, [.int v_p1_law, .int v_p1_share, .int v_p1_pot, .int v_p1_barred])), (q_p2, .inl (cI, 10, .inl f_p2))] := hD
          refine lv_iinc (v := (x5 + (-1 : Int32))) (lv' := [(5, .int (x5 + (-1 : Int32))), (0, .ref q_t), (1, .ref q_p1), (2, .ref q_p2), (3, .int x3), (4, .int x4)]) hx hb dX7_weighted_73 hl (k := 5) rfl rfl (by decide) rfl (fun ls hl => ?_)
          refine lv_goto (tgt := 44) hx hb dX7_weighted_76 (by decide) ?_
          exact ih_44 (vp_updL f_t_sums x5.toNatClampNeg ((f_t_sums x5.toNatClampNeg) + r4)) x3 x4 (x5 + (-1 : Int32)) h H locs ls hP hD hS (lv_sub hl [1, 2, 3, 4, 5, 0] rfl)
      intro f_t_sums x3 x4 h H locs ls hP hD hS hl
      replace h : X7_weighted_b27_s (X7_weighted_b27 n27) f_t_sums v_p1_law f_p2 x3 x4 = some (res, r_f_t_sums) := h
      unfold X7_weighted_b27_s at h
      refine lv_iload hx hb dX7_weighted_27 (lv_at hl 4 rfl) ?_
      refine lv_bipush (v := (10 : Int32)) hx hb dX7_weighted_29 (by decide) ?_
      refine lv_icmp_ge (tgt := 85) hx hb dX7_weighted_31 (by decide) (fun c7 => ?_) (fun c7 => ?_)
      · replace h := ite_t h c7
        exact B_85 f_t_sums x3 h H locs ls hP hD hS (lv_sub hl [0, 3] rfl)
      replace h := ite_f h c7
      refine lv_iload hx hb dX7_weighted_34 (lv_at hl 4 rfl) ?_
      refine lv_aload_n hx hb dX7_weighted_36 rfl (lv_at hl 2 rfl) ?_
      refine va_alen (v := (10 : Int32)) hx hb hK hP 3 0 rfl rfl (show Int32.ofNat 10 = 10 by decide) dX7_weighted_37 ?_
      refine lv_icmp_ge (tgt := 85) hx hb dX7_weighted_38 (by decide) (fun c8 => ?_) (fun c8 => ?_)
      · replace h := ite_t h c8
        exact B_85 f_t_sums x3 h H locs ls hP hD hS (lv_sub hl [0, 3] rfl)
      replace h := ite_f h c8
      refine lv_iload_n hx hb dX7_weighted_41 rfl (lv_at hl 3 rfl) ?_
      refine lv_istore (lv' := [(5, .int x3), (0, .ref q_t), (1, .ref q_p1), (2, .ref q_p2), (3, .int x3), (4, .int x4)]) hx hb dX7_weighted_42 hl (by decide) rfl (fun ls hl => ?_)
      exact L_44 fU f_t_sums x3 x4 x3 h H locs ls hP hD hS (lv_sub hl [1, 2, 3, 4, 5, 0] rfl)
  unfold X7_weighted at h
  obtain ⟨H, hHe⟩ : ∃ H, H = s.heap := ⟨_, rfl⟩
  obtain ⟨locs, hLe⟩ : ∃ x : List Loc, x = [] := ⟨_, rfl⟩
  rw [← hHe] at hP
  have hS : va_S A s.heap H locs := by rw [hHe, hLe]; exact hS
  suffices hW : W p l e (headSpec wsX7_weighted rm_X7_weighted).room s m ([.ref q_t, .ref q_p1, .ref q_p2, .int p3] : List Value).toArray below meth c H locs 0 0 (MQ below (va_Ql (fun (r : Int64) (_ : Unit) => r = res) (bW dC dI A [(q_t, .inr (7, [.ref q_t_sums, .ref q_t_costs, .ref q_t_weights, .ref q_t_needed])), (q_t_sums, .inl (cJ, 10, .inr (.inl r_f_t_sums))), (q_p1, .inr (8, [.int v_p1_law, .int v_p1_share, .int v_p1_pot, .int v_p1_barred])), (q_p2, .inl (cI, 10, .inl f_p2))]) A) ([.ref q_t, .ref q_p1, .ref q_p2, .int p3] : List Value).toArray s 0 0 A) (F0 m 0 ls []) by rw [hHe, hLe] at hW; exact hW
  refine lv_iload_n hx hb dX7_weighted_0 rfl (lv_at hl 3 rfl) ?_
  refine kRz (res := (X10_isCrowd p3)) (va_runSN (As := [.int p3]) (rest := []) ⟨hx, hb, hml, hown, hts⟩ (cn_X10_isCrowd l dC dI cI cJ cZ    p3 (X10_isCrowd p3) rfl) ⟨va_cnB 1 hts gX7_weighted_X10_isCrowd_n35 rfl rfl rfl (hKK.nw 16 rfl) (hts (.initialized RX10) (List.mem_of_getElem? (i := 3) rfl)) (by decide +kernel) ⟨Nat.le_of_ble_eq_true rfl, Nat.le_of_ble_eq_true rfl⟩, hts (.static yX10_isCrowd) (List.mem_of_getElem? (i := 2) rfl), trivial⟩ (preRS hKK (hP.sub (ws' := []) [] rfl)) rfl rfl hl.1 rfl (lv_room (Nat.le_of_ble_eq_true rfl)) dX7_weighted_1 ⟨Nat.zero_le _, Nat.zero_le _⟩) (fun hz9 => ?_)
  refine lv_if_ne (tgt := 9) hx hb dX7_weighted_4 (by decide) (fun c10 => ?_) (fun c10 => ?_)
  · replace h := ite_f h c10
    refine lv_aload_n hx hb dX7_weighted_9 rfl (lv_at hl 0 rfl) ?_
    refine va_get (D := (dC, dI)) (ci := 7) (v := .ref q_t_sums) (C := RX7) (T := TX7) (N := 4) hx hb hts in_X7_weighted_X7 hown hK hP 0 rfl rfl 0 (by decide) (hts (.fieldLink RX7 9 "RightIfAsMany$Rows" "sums" "[J") (List.mem_of_getElem? (i := 1) rfl)) (fun _ h9 => h9) rfl dX7_weighted_10 ?_
    refine lv_lconst (v := (0 : Int64)) hx hb dX7_weighted_13 (by decide) ?_
    refine kWv (wc := [(q_t_sums, .inl (cJ, 10, .inr (.inl f_t_sums)))]) (wr := [(q_t, .inr (7, [.ref q_t_sums, .ref q_t_costs, .ref q_t_weights, .ref q_t_needed])), (q_p1, .inr (8, [.int v_p1_law, .int v_p1_share, .int v_p1_pot, .int v_p1_barred])), (q_p2, .inl (cI, 10, .inl f_p2))]) (w1 := [(q_t_sums, .inl (cJ, 10, .inr (.inl (fillJ 10 f_t_sums (0 : Int64)))))]) (wn := [(q_t, .inr (7, [.ref q_t_sums, .ref q_t_costs, .ref q_t_weights, .ref q_t_needed])), (q_t_sums, .inl (cJ, 10, .inr (.inl (fillJ 10 f_t_sums (0 : Int64))))), (q_p1, .inr (8, [.int v_p1_law, .int v_p1_share, .int v_p1_pot, .int v_p1_barred])), (q_p2, .inl (cI, 10, .inl f_p2))]) hP hD hS hA [1] [0, 2, 3] [0, 3, 1, 2] rfl rfl (by decide) (by decide) rfl (by decide) (va_runS (As := [.ref q_t_sums, .long (0 : Int64)]) (rest := []) ⟨hx, hb, hml, hown, hts⟩ (cn_J7_fill_d0a16 l dC dI cI cJ cZ q_t_sums 10 H.size f_t_sums (0 : Int64) (by decide)) (va_cwS 2 hts gX7_weighted_J7_fill_d0a16 rfl rfl rfl (by decide +kernel) ⟨Nat.le_of_ble_eq_true rfl, Nat.le_of_ble_eq_true rfl⟩) (preWS hKK (hP.sub (ws' := [(q_t_sums, .inl (cJ, 10, .inr (.inl f_t_sums)))]) [1] rfl) (hD.sub (ws' := [(q_t_sums, .inl (cJ, 10, .inr (.inl f_t_sums)))]) [1] (by decide) rfl)) rfl rfl hl.1 rfl (lv_room (Nat.le_of_ble_eq_true rfl)) dX7_weighted_14 ⟨Nat.zero_le _, Nat.zero_le _⟩) (fun H locs hP hD hS => ?_)
    refine lv_aload_n hx hb dX7_weighted_17 rfl (lv_at hl 0 rfl) ?_
    refine va_get (D := (dC, dI)) (ci := 7) (v := .ref q_t_sums) (C := RX7) (T := TX7) (N := 4) hx hb hts in_X7_weighted_X7 hown hK hP 0 rfl rfl 0 (by decide) (hts (.fieldLink RX7 9 "RightIfAsMany$Rows" "sums" "[J") (List.mem_of_getElem? (i := 1) rfl)) (fun _ h9 => h9) rfl dX7_weighted_18 ?_
    refine lv_iconst (v := (0 : Int32)) hx hb dX7_weighted_21 (by decide) ?_
    refine lv_lconst (v := (1 : Int64)) hx hb dX7_weighted_22 (by decide) ?_
    obtain ⟨hg11, h⟩ := grd_s h
    refine va_last hx hb hK hP hD hS 1 1 rfl rfl hg11 dX7_weighted_23 (fun H locs hP hD hS => ?_)
    have hP : va_P (dC, dI) vwCl [(q_t, .inr (7, [.ref q_t_sums, .ref q_t_costs, .ref q_t_weights, .ref q_t_needed])), (q_t_sums, .inl (cJ, 10, .inr (.inl (vp_updL (fillJ 10 f_t_sums (0 : Int64)) (0 : Int32).toNatClampNeg (1 : Int64))))), (q_p1, .inr (8, [.int v_p1_law, .int v_p1_share, .int v_p1_pot, .int v_p1_barred])), (q_p2, .inl (cI, 10, .inl f_p2))] H := hP
    have hD : va_D A [(q_t, .inr (7, [.ref q_t_sums, .ref q_t_costs, .ref q_t_weights, .ref q_t_needed])), (q_t_sums, .inl (cJ, 10, .inr (.inl (vp_updL (fillJ 10 f_t_sums (0 : Int64)) (0 : Int32).toNatClampNeg (1 : Int64))))), (q_p1, .inr (8, [.int v_p1_law, .int v_p1_share, .int v_p1_pot, .int v_p1_barred])), (q_p2, .inl (cI, 10, .inl f_p2))] := hD
    refine lv_iconst (v := (0 : Int32)) hx hb dX7_weighted_24 (by decide) ?_
    refine lv_istore (lv' := [(4, .int (0 : Int32)), (0, .ref q_t), (1, .ref q_p1), (2, .ref q_p2), (3, .int p3)]) hx hb dX7_weighted_25 hl (by decide) rfl (fun ls hl => ?_)
    exact L_27 fU (vp_updL (fillJ 10 f_t_sums (0 : Int64)) (0 : Int32).toNatClampNeg (1 : Int64)) p3 (0 : Int32) h H locs ls hP hD hS (lv_sub hl [1, 2, 3, 4, 0] rfl)
  replace h := ite_t h c10
  refine lv_lconst (v := (0 : Int64)) hx hb dX7_weighted_7 (by decide) ?_
  replace h := Option.some.inj h
  obtain ⟨e1, e2⟩ := pr2 h
  exact W.lret (v := (0 : Int64)) hx hb hr (fun t ht hW => ⟨⟨_, (), rfl, e1, (by rw [ht, ← e2]; exact hP), (by rw [← e2]; exact hD)⟩, hS.F ht⟩) hS.2.2 dX7_weighted_8
abbrev rm_X7_allRightRows : Room := { frames := 3, cells := 0, slots := 0, locals := 76 }
theorem in_X7_allRightRows_X8 : ∀ w ∈ wsX80, w ∈ wsX7_allRightRows := fun _ h => List.mem_cons_of_mem _ (List.mem_append_right _ h)
theorem in_X7_allRightRows_X7 : ∀ w ∈ wsX70, w ∈ wsX7_allRightRows := fun _ h => List.mem_cons_of_mem _ (List.mem_append_left _ (List.mem_append_right _ h))
set_option maxHeartbeats 4000000 in
set_option maxRecDepth 100000 in
theorem cn_X7_allRightRows (l : Launch) (dC : Nat → ClassId) (dI : Nat → Nat → Nat) (cI cJ cZ : ClassId) (q_t q_p1 q_t_sums q_t_costs q_t_weights q_t_needed : Nat) (sz : Nat) (f_t_sums : (Nat → Int64)) (f_t_weights : (Nat → Int32)) (v_p1_law : Int32) (v_p1_share : Int32) (v_p1_pot : Int32) (v_p1_barred : Int32) (p2 : Int32) (res : Int32) (r_f_t_sums : (Nat → Int64)) (r_f_t_weights : (Nat → Int32)) (h : X7_allRightRows f_t_sums f_t_weights v_p1_law v_p1_barred p2 = some (res, r_f_t_sums, r_f_t_weights)) : Met l yX7_allRightRows wsX7_allRightRows rm_X7_allRightRows (pcW dC dI cI cJ cZ [(q_t, .inr (7, [.ref q_t_sums, .ref q_t_costs, .ref q_t_weights, .ref q_t_needed])), (q_t_sums, .inl (cJ, 10, .inr (.inl f_t_sums))), (q_t_weights, .inl (cI, 10, .inl f_t_weights)), (q_p1, .inr (8, [.int v_p1_law, .int v_p1_share, .int v_p1_pot, .int v_p1_barred]))] sz [.ref q_t, .ref q_p1, .int p2]) (va_Qi (fun (r : Int32) (_ : Unit) => r = res) (bW dC dI (va_A [(q_t, .inr (7, [.ref q_t_sums, .ref q_t_costs, .ref q_t_weights, .ref q_t_needed])), (q_t_sums, .inl (cJ, 10, .inr (.inl f_t_sums))), (q_t_weights, .inl (cI, 10, .inl f_t_weights)), (q_p1, .inr (8, [.int v_p1_law, .int v_p1_share, .int v_p1_pot, .int v_p1_barred]))] sz) [(q_t, .inr (7, [.ref q_t_sums, .ref q_t_costs, .ref q_t_weights, .ref q_t_needed])), (q_t_sums, .inl (cJ, 10, .inr (.inl r_f_t_sums))), (q_t_weights, .inl (cI, 10, .inl r_f_t_weights)), (q_p1, .inr (8, [.int v_p1_law, .int v_p1_share, .int v_p1_pot, .int v_p1_barred]))]) (va_A [(q_t, .inr (7, [.ref q_t_sums, .ref q_t_costs, .ref q_t_weights, .ref q_t_needed])), (q_t_sums, .inl (cJ, 10, .inr (.inl f_t_sums))), (q_t_weights, .inl (cI, 10, .inl f_t_weights)), (q_p1, .inr (8, [.int v_p1_law, .int v_p1_share, .int v_p1_pot, .int v_p1_barred]))] sz)) 0 0 (va_A [(q_t, .inr (7, [.ref q_t_sums, .ref q_t_costs, .ref q_t_weights, .ref q_t_needed])), (q_t_sums, .inl (cJ, 10, .inr (.inl f_t_sums))), (q_t_weights, .inl (cI, 10, .inl f_t_weights)), (q_p1, .inr (8, [.int v_p1_law, .int v_p1_share, .int v_p1_pot, .int v_p1_barred]))] sz) := by
  refine Met.ofW (cc := cX7_allRightRows) (maxL := 4) (ret := (some .int)) (by decide) rfl ?_
  intro p e s m args below meth c s₁ B hml hv
  obtain ⟨rfl, hsz, hP, hKK, hD0⟩ := hv
  have hx := B.exec
  have hb := B.bytes
  have hr := B.returns
  have hts := atoms_spec (ws := wsX7_allRightRows) B.pre
  have hown : s.vm.findClass RX7 = some m.cls := findClass_of_methodNamed B.named
  have hlocks := B.notSynchronized
  have hK := hKK.1
  subst hsz
  have hD := hD0.self (sz := s.heap.size)
  generalize hAe : va_A [(q_t, .inr (7, [.ref q_t_sums, .ref q_t_costs, .ref q_t_weights, .ref q_t_needed])), (q_t_sums, .inl (cJ, 10, .inr (.inl f_t_sums))), (q_t_weights, .inl (cI, 10, .inl f_t_weights)), (q_p1, .inr (8, [.int v_p1_law, .int v_p1_share, .int v_p1_pot, .int v_p1_barred]))] s.heap.size = A at hD ⊢
  have hA : ∀ q : Nat, s.heap.size ≤ q → A q := fun q h => by rw [← hAe]; exact Or.inr h
  have hS : va_S A s.heap s.heap [] := va_S.rf
  have hl := lv_entry ([.ref q_t, .ref q_p1, .int p2]) (n := 4) (Nat.le_of_ble_eq_true rfl)
  rw [lg_entry_eq]
  generalize (lg_sl ([.ref q_t, .ref q_p1, .int p2]) ++ List.replicate (4 - (lg_sl ([.ref q_t, .ref q_p1, .int p2])).length) Slot.unset).toArray = ls at hl ⊢
  have hl : lv_has ls 4 [(0, .ref q_t), (1, .ref q_p1), (2, .int p2)] := hl
  have B_33 : ∀ (f_t_sums : (Nat → Int64)) (f_t_weights : (Nat → Int32)) (x2 : Int32), X7_allRightRows_b33 f_t_sums f_t_weights v_p1_law v_p1_barred x2 = some (res, r_f_t_sums, r_f_t_weights) → ∀ (H : Heap) (locs : List Loc) (ls : Array Slot), va_P (dC, dI) vwCl [(q_t, .inr (7, [.ref q_t_sums, .ref q_t_costs, .ref q_t_weights, .ref q_t_needed])), (q_t_sums, .inl (cJ, 10, .inr (.inl f_t_sums))), (q_t_weights, .inl (cI, 10, .inl f_t_weights)), (q_p1, .inr (8, [.int v_p1_law, .int v_p1_share, .int v_p1_pot, .int v_p1_barred]))] H → va_D A [(q_t, .inr (7, [.ref q_t_sums, .ref q_t_costs, .ref q_t_weights, .ref q_t_needed])), (q_t_sums, .inl (cJ, 10, .inr (.inl f_t_sums))), (q_t_weights, .inl (cI, 10, .inl f_t_weights)), (q_p1, .inr (8, [.int v_p1_law, .int v_p1_share, .int v_p1_pot, .int v_p1_barred]))] → va_S A s.heap H locs → lv_has ls 4 [(0, .ref q_t), (1, .ref q_p1), (2, .int x2)] → W p l e (headSpec wsX7_allRightRows rm_X7_allRightRows).room s m ([.ref q_t, .ref q_p1, .int p2] : List Value).toArray below meth c H locs 0 0 (MQ below (va_Qi (fun (r : Int32) (_ : Unit) => r = res) (bW dC dI A [(q_t, .inr (7, [.ref q_t_sums, .ref q_t_costs, .ref q_t_weights, .ref q_t_needed])), (q_t_sums, .inl (cJ, 10, .inr (.inl r_f_t_sums))), (q_t_weights, .inl (cI, 10, .inl r_f_t_weights)), (q_p1, .inr (8, [.int v_p1_law, .int v_p1_share, .int v_p1_pot, .int v_p1_barred]))]) A) ([.ref q_t, .ref q_p1, .int p2] : List Value).toArray s 0 0 A) (F0 m 33 ls []) := by
    intro f_t_sums f_t_weights x2 h H locs ls hP hD hS hl
    unfold X7_allRightRows_b33 at h
    refine lv_aload_n hx hb dX7_allRightRows_33 rfl (lv_at hl 0 rfl) ?_
    refine lv_aload_n hx hb dX7_allRightRows_34 rfl (lv_at hl 1 rfl) ?_
    refine lv_aload_n hx hb dX7_allRightRows_35 rfl (lv_at hl 0 rfl) ?_
    refine va_get (D := (dC, dI)) (ci := 7) (v := .ref q_t_weights) (C := RX7) (T := TX7) (N := 4) hx hb hts in_X7_allRightRows_X7 hown hK hP 0 rfl rfl 2 (by decide) (hts (.fieldLink RX7 19 "RightIfAsMany$Rows" "weights" "[I") (List.mem_of_getElem? (i := 1) rfl)) (fun _ h9 => h9) rfl dX7_allRightRows_36 ?_
    refine lv_iload_n hx hb dX7_allRightRows_39 rfl (lv_at hl 2 rfl) ?_
    obtain ⟨r2, w2_1, hc2, h⟩ := bnd2_s h
    refine kWl (res := r2) (wc := [(q_t, .inr (7, [.ref q_t_sums, .ref q_t_costs, .ref q_t_weights, .ref q_t_needed])), (q_t_sums, .inl (cJ, 10, .inr (.inl f_t_sums))), (q_p1, .inr (8, [.int v_p1_law, .int v_p1_share, .int v_p1_pot, .int v_p1_barred])), (q_t_weights, .inl (cI, 10, .inl f_t_weights))]) (wr := []) (w1 := [(q_t, .inr (7, [.ref q_t_sums, .ref q_t_costs, .ref q_t_weights, .ref q_t_needed])), (q_t_sums, .inl (cJ, 10, .inr (.inl w2_1))), (q_p1, .inr (8, [.int v_p1_law, .int v_p1_share, .int v_p1_pot, .int v_p1_barred])), (q_t_weights, .inl (cI, 10, .inl f_t_weights))]) (wn := [(q_t, .inr (7, [.ref q_t_sums, .ref q_t_costs, .ref q_t_weights, .ref q_t_needed])), (q_t_sums, .inl (cJ, 10, .inr (.inl w2_1))), (q_t_weights, .inl (cI, 10, .inl f_t_weights)), (q_p1, .inr (8, [.int v_p1_law, .int v_p1_share, .int v_p1_pot, .int v_p1_barred]))]) hP hD hS hA [0, 1, 3, 2] [] [0, 1, 3, 2] rfl rfl (by decide) (by decide) rfl (by decide) (va_runV (As := [.ref q_p1, .ref q_t_weights, .int x2]) (rest := []) ⟨hx, hb, hml, hown, hts⟩ (cn_X7_weighted l dC dI cI cJ cZ q_t q_p1 q_t_weights q_t_sums q_t_costs q_t_weights q_t_needed H.size f_t_sums v_p1_law v_p1_share v_p1_pot v_p1_barred f_t_weights x2 r2 w2_1 hc2) (cwV 3 hts gX7_allRightRows_X7_weighted rfl rfl rfl (by decide +kernel) ⟨Nat.le_of_ble_eq_true rfl, Nat.le_of_ble_eq_true rfl⟩) (preW hKK (hP.sub (ws' := [(q_t, .inr (7, [.ref q_t_sums, .ref q_t_costs, .ref q_t_weights, .ref q_t_needed])), (q_t_sums, .inl (cJ, 10, .inr (.inl f_t_sums))), (q_p1, .inr (8, [.int v_p1_law, .int v_p1_share, .int v_p1_pot, .int v_p1_barred])), (q_t_weights, .inl (cI, 10, .inl f_t_weights))]) [0, 1, 3, 2] rfl) (hD.sub (ws' := [(q_t, .inr (7, [.ref q_t_sums, .ref q_t_costs, .ref q_t_weights, .ref q_t_needed])), (q_t_sums, .inl (cJ, 10, .inr (.inl f_t_sums))), (q_p1, .inr (8, [.int v_p1_law, .int v_p1_share, .int v_p1_pot, .int v_p1_barred])), (q_t_weights, .inl (cI, 10, .inl f_t_weights))]) [0, 1, 3, 2] (by decide) rfl) (ci := 7) (q0 := 0) rfl rfl) rfl rfl hl.1 rfl (lv_room (Nat.le_of_ble_eq_true rfl)) dX7_allRightRows_40 ⟨Nat.zero_le _, Nat.zero_le _⟩) (fun H locs hP hD hS => ?_)
    refine lv_l2i hx hb dX7_allRightRows_43 rfl ?_
    replace h := Option.some.inj h
    obtain ⟨e1, e2, e3⟩ := pr3 h
    exact W.iret (v := r2.toInt32) hx hb hr (fun t ht hW => ⟨⟨_, (), rfl, e1, (by rw [ht, ← e2, ← e3]; exact hP), (by rw [← e2, ← e3]; exact hD)⟩, hS.F ht⟩) hS.2.2 dX7_allRightRows_44
  have L_2 : ∀ (n2 : Nat) , ∀ (f_t_sums : (Nat → Int64)) (f_t_weights : (Nat → Int32)) (x2 : Int32) (x3 : Int32), X7_allRightRows_b2 n2 f_t_sums f_t_weights v_p1_law v_p1_barred x2 x3 = some (res, r_f_t_sums, r_f_t_weights) → ∀ (H : Heap) (locs : List Loc) (ls : Array Slot), va_P (dC, dI) vwCl [(q_t, .inr (7, [.ref q_t_sums, .ref q_t_costs, .ref q_t_weights, .ref q_t_needed])), (q_t_sums, .inl (cJ, 10, .inr (.inl f_t_sums))), (q_t_weights, .inl (cI, 10, .inl f_t_weights)), (q_p1, .inr (8, [.int v_p1_law, .int v_p1_share, .int v_p1_pot, .int v_p1_barred]))] H → va_D A [(q_t, .inr (7, [.ref q_t_sums, .ref q_t_costs, .ref q_t_weights, .ref q_t_needed])), (q_t_sums, .inl (cJ, 10, .inr (.inl f_t_sums))), (q_t_weights, .inl (cI, 10, .inl f_t_weights)), (q_p1, .inr (8, [.int v_p1_law, .int v_p1_share, .int v_p1_pot, .int v_p1_barred]))] → va_S A s.heap H locs → lv_has ls 4 [(0, .ref q_t), (1, .ref q_p1), (2, .int x2), (3, .int x3)] → W p l e (headSpec wsX7_allRightRows rm_X7_allRightRows).room s m ([.ref q_t, .ref q_p1, .int p2] : List Value).toArray below meth c H locs 0 0 (MQ below (va_Qi (fun (r : Int32) (_ : Unit) => r = res) (bW dC dI A [(q_t, .inr (7, [.ref q_t_sums, .ref q_t_costs, .ref q_t_weights, .ref q_t_needed])), (q_t_sums, .inl (cJ, 10, .inr (.inl r_f_t_sums))), (q_t_weights, .inl (cI, 10, .inl r_f_t_weights)), (q_p1, .inr (8, [.int v_p1_law, .int v_p1_share, .int v_p1_pot, .int v_p1_barred]))]) A) ([.ref q_t, .ref q_p1, .int p2] : List Value).toArray s 0 0 A) (F0 m 2 ls []) := by
    intro n2
    induction n2 with
    | zero => intro f_t_sums f_t_weights x2 x3 h H locs ls hP hD hS hl; exact absurd h (fun h => by cases h)
    | succ n2 ih_2 =>
      have B_26 : ∀ (f_t_sums : (Nat → Int64)) (f_t_weights : (Nat → Int32)) (x2 : Int32) (x3 : Int32) (s1 : Int32) (s2 : Int32), X7_allRightRows_b26 (X7_allRightRows_b2 n2) f_t_sums f_t_weights v_p1_law v_p1_barred x2 x3 s1 s2 = some (res, r_f_t_sums, r_f_t_weights) → ∀ (H : Heap) (locs : List Loc) (ls : Array Slot), va_P (dC, dI) vwCl [(q_t, .inr (7, [.ref q_t_sums, .ref q_t_costs, .ref q_t_weights, .ref q_t_needed])), (q_t_sums, .inl (cJ, 10, .inr (.inl f_t_sums))), (q_t_weights, .inl (cI, 10, .inl f_t_weights)), (q_p1, .inr (8, [.int v_p1_law, .int v_p1_share, .int v_p1_pot, .int v_p1_barred]))] H → va_D A [(q_t, .inr (7, [.ref q_t_sums, .ref q_t_costs, .ref q_t_weights, .ref q_t_needed])), (q_t_sums, .inl (cJ, 10, .inr (.inl f_t_sums))), (q_t_weights, .inl (cI, 10, .inl f_t_weights)), (q_p1, .inr (8, [.int v_p1_law, .int v_p1_share, .int v_p1_pot, .int v_p1_barred]))] → va_S A s.heap H locs → lv_has ls 4 [(0, .ref q_t), (1, .ref q_p1), (2, .int x2), (3, .int x3)] → W p l e (headSpec wsX7_allRightRows rm_X7_allRightRows).room s m ([.ref q_t, .ref q_p1, .int p2] : List Value).toArray below meth c H locs 0 0 (MQ below (va_Qi (fun (r : Int32) (_ : Unit) => r = res) (bW dC dI A [(q_t, .inr (7, [.ref q_t_sums, .ref q_t_costs, .ref q_t_weights, .ref q_t_needed])), (q_t_sums, .inl (cJ, 10, .inr (.inl r_f_t_sums))), (q_t_weights, .inl (cI, 10, .inl r_f_t_weights)), (q_p1, .inr (8, [.int v_p1_law, .int v_p1_share, .int v_p1_pot, .int v_p1_barred]))]) A) ([.ref q_t, .ref q_p1, .int p2] : List Value).toArray s 0 0 A) (F0 m 26 ls [.int s2, .int s1, .ref q_t_weights]) := by
        intro f_t_sums f_t_weights x2 x3 s1 s2 h H locs ls hP hD hS hl
        unfold X7_allRightRows_b26 at h
        obtain ⟨hg1, h⟩ := grd_s h
        refine va_iast hx hb hK hP hD hS 2 0 rfl rfl hg1 dX7_allRightRows_26 (fun H locs hP hD hS => ?_)
        have hP : va_P (dC, dI) vwCl [(q_t, .inr (7, [.ref q_t_sums, .ref q_t_costs, .ref q_t_weights, .ref q_t_needed])), (q_t_sums, .inl (cJ, 10, .inr (.inl f_t_sums))), (q_t_weights, .inl (cI, 10, .inl (upd f_t_weights s1.toNatClampNeg s2))), (q_p1, .inr (8, [.int v_p1_law, .int v_p1_share, .int v_p1_pot, .int v_p1_barred]))] H := hP
        have hD : va_D A [(q_t, .inr (7, [.ref q_t_sums, .ref q_t_costs, .ref q_t_weights, .ref q_t_needed])), (q_t_sums, .inl (cJ, 10, .inr (.inl f_t_sums))), (q_t_weights, .inl (cI, 10, .inl (upd f_t_weights s1.toNatClampNeg s2))), (q_p1, .inr (8, [.int v_p1_law, .int v_p1_share, .int v_p1_pot, .int v_p1_barred]))] := hD
        refine lv_iinc (v := (x3 + (1 : Int32))) (lv' := [(3, .int (x3 + (1 : Int32))), (0, .ref q_t), (1, .ref q_p1), (2, .int x2)]) hx hb dX7_allRightRows_27 hl (k := 3) rfl rfl (by decide) rfl (fun ls hl => ?_)
        refine lv_goto (tgt := 2) hx hb dX7_allRightRows_30 (by decide) ?_
        exact ih_2 f_t_sums (upd f_t_weights s1.toNatClampNeg s2) x2 (x3 + (1 : Int32)) h H locs ls hP hD hS (lv_sub hl [1, 2, 3, 0] rfl)
      intro f_t_sums f_t_weights x2 x3 h H locs ls hP hD hS hl
      replace h : X7_allRightRows_b2_s (X7_allRightRows_b2 n2) f_t_sums f_t_weights v_p1_law v_p1_barred x2 x3 = some (res, r_f_t_sums, r_f_t_weights) := h
      unfold X7_allRightRows_b2_s at h
      refine lv_iload_n hx hb dX7_allRightRows_2 rfl (lv_at hl 3 rfl) ?_
      refine lv_bipush (v := (10 : Int32)) hx hb dX7_allRightRows_3 (by decide) ?_
      refine lv_icmp_ge (tgt := 33) hx hb dX7_allRightRows_5 (by decide) (fun c3 => ?_) (fun c3 => ?_)
      · replace h := ite_t h c3
        exact B_33 f_t_sums f_t_weights x2 h H locs ls hP hD hS (lv_sub hl [0, 1, 2] rfl)
      replace h := ite_f h c3
      refine lv_aload_n hx hb dX7_allRightRows_8 rfl (lv_at hl 0 rfl) ?_
      refine va_get (D := (dC, dI)) (ci := 7) (v := .ref q_t_weights) (C := RX7) (T := TX7) (N := 4) hx hb hts in_X7_allRightRows_X7 hown hK hP 0 rfl rfl 2 (by decide) (hts (.fieldLink RX7 19 "RightIfAsMany$Rows" "weights" "[I") (List.mem_of_getElem? (i := 1) rfl)) (fun _ h9 => h9) rfl dX7_allRightRows_9 ?_
      refine lv_iload_n hx hb dX7_allRightRows_12 rfl (lv_at hl 3 rfl) ?_
      refine lv_aload_n hx hb dX7_allRightRows_13 rfl (lv_at hl 1 rfl) ?_
      refine lv_iload_n hx hb dX7_allRightRows_14 rfl (lv_at hl 3 rfl) ?_
      refine kRz (res := (X8_isOpen v_p1_barred x3)) (va_runV (As := [.int x3]) (rest := [.int x3, .ref q_t_weights]) ⟨hx, hb, hml, hown, hts⟩ (cn_X8_isOpen l dC dI cI cJ cZ q_p1  v_p1_law v_p1_share v_p1_pot v_p1_barred x3 (X8_isOpen v_p1_barred x3) rfl) (cwV 1 hts gX7_allRightRows_X8_isOpen rfl rfl rfl (by decide +kernel) ⟨Nat.le_of_ble_eq_true rfl, Nat.le_of_ble_eq_true rfl⟩) (preR hKK (hP.sub (ws' := [(q_p1, .inr (8, [.int v_p1_law, .int v_p1_share, .int v_p1_pot, .int v_p1_barred]))]) [3] rfl) (ci := 8) (q0 := 0) rfl rfl) rfl rfl hl.1 rfl (lv_room (Nat.le_of_ble_eq_true rfl)) dX7_allRightRows_15 ⟨Nat.zero_le _, Nat.zero_le _⟩) (fun hz4 => ?_)
      refine lv_if_eq (tgt := 25) hx hb dX7_allRightRows_18 (by decide) (fun c5 => ?_) (fun c5 => ?_)
      · replace h := ite_t h c5
        refine lv_iconst (v := (0 : Int32)) hx hb dX7_allRightRows_25 (by decide) ?_
        exact B_26 f_t_sums f_t_weights x2 x3 x3 (0 : Int32) h H locs ls hP hD hS (lv_sub hl [0, 1, 2, 3] rfl)
      replace h := ite_f h c5
      refine lv_iconst (v := (1 : Int32)) hx hb dX7_allRightRows_21 (by decide) ?_
      refine lv_goto (tgt := 26) hx hb dX7_allRightRows_22 (by decide) ?_
      exact B_26 f_t_sums f_t_weights x2 x3 x3 (1 : Int32) h H locs ls hP hD hS (lv_sub hl [0, 1, 2, 3] rfl)
  unfold X7_allRightRows at h
  obtain ⟨H, hHe⟩ : ∃ H, H = s.heap := ⟨_, rfl⟩
  obtain ⟨locs, hLe⟩ : ∃ x : List Loc, x = [] := ⟨_, rfl⟩
  rw [← hHe] at hP
  have hS : va_S A s.heap H locs := by rw [hHe, hLe]; exact hS
  suffices hW : W p l e (headSpec wsX7_allRightRows rm_X7_allRightRows).room s m ([.ref q_t, .ref q_p1, .int p2] : List Value).toArray below meth c H locs 0 0 (MQ below (va_Qi (fun (r : Int32) (_ : Unit) => r = res) (bW dC dI A [(q_t, .inr (7, [.ref q_t_sums, .ref q_t_costs, .ref q_t_weights, .ref q_t_needed])), (q_t_sums, .inl (cJ, 10, .inr (.inl r_f_t_sums))), (q_t_weights, .inl (cI, 10, .inl r_f_t_weights)), (q_p1, .inr (8, [.int v_p1_law, .int v_p1_share, .int v_p1_pot, .int v_p1_barred]))]) A) ([.ref q_t, .ref q_p1, .int p2] : List Value).toArray s 0 0 A) (F0 m 0 ls []) by rw [hHe, hLe] at hW; exact hW
  refine lv_iconst (v := (0 : Int32)) hx hb dX7_allRightRows_0 (by decide) ?_
  refine lv_istore_n (lv' := [(3, .int (0 : Int32)), (0, .ref q_t), (1, .ref q_p1), (2, .int p2)]) hx hb dX7_allRightRows_1 rfl hl (by decide) rfl (fun ls hl => ?_)
  exact L_2 fU f_t_sums f_t_weights p2 (0 : Int32) h H locs ls hP hD hS (lv_sub hl [1, 2, 3, 0] rfl)
