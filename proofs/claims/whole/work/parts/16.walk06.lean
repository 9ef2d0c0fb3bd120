/-! walks, by program: X10_slip X10_come X5_drop X10_leave X8_corrected -/
abbrev rm_X10_slip : Room := { frames := 3, cells := 0, slots := 0, locals := 82 }
theorem in_X10_slip_X2 : ∀ w ∈ wsX20, w ∈ wsX10_slip := fun _ h => List.mem_cons_of_mem _ (List.mem_append_right _ h)
theorem in_X10_slip_X8 : ∀ w ∈ wsX80, w ∈ wsX10_slip := fun _ h => List.mem_cons_of_mem _ (List.mem_append_left _ (List.mem_append_right _ h))
theorem in_X10_slip_X5 : ∀ w ∈ wsX50, w ∈ wsX10_slip := fun _ h => List.mem_cons_of_mem _ (List.mem_append_left _ (List.mem_append_left _ (List.mem_append_right _ h)))
theorem in_X10_slip_X10 : ∀ w ∈ wsX100, w ∈ wsX10_slip := fun _ h => List.mem_cons_of_mem _ (List.mem_append_left _ (List.mem_append_left _ (List.mem_append_left _ (List.mem_append_right _ h))))
set_option maxHeartbeats 4000000 in
set_option maxRecDepth 100000 in
theorem cn_X10_slip (l : Launch) (dC : Nat → ClassId) (dI : Nat → Nat → Nat) (cI cJ cZ : ClassId) (q_t q_t_text q_t_reader q_t_rules q_t_people q_t_memory q_t_rows q_t_chances q_t_moves q_t_payments q_t_evenings q_t_people_numbers q_t_people_counts q_t_memory_row q_t_memory_slots : Nat) (sz : Nat) (v_t_rules_law : Int32) (v_t_rules_share : Int32) (v_t_rules_pot : Int32) (v_t_rules_barred : Int32) (v_t_people_size : Int32) (f_t_people_numbers : (Nat → Int32)) (f_t_people_counts : (Nat → Int32)) (v_t_memory_acts : Int32) (f_t_memory_row : (Nat → Int64)) (p1 : Int32) (p2 : Int32) (res : Int32) (r_f_t_people_numbers : (Nat → Int32)) (r_f_t_people_counts : (Nat → Int32)) (r_v_t_memory_acts : Int32) (r_f_t_memory_row : (Nat → Int64)) (h : X10_slip v_t_rules_barred v_t_people_size f_t_people_numbers f_t_people_counts v_t_memory_acts f_t_memory_row p1 p2 = some (res, r_f_t_people_numbers, r_f_t_people_counts, r_v_t_memory_acts, r_f_t_memory_row)) : Met l yX10_slip wsX10_slip rm_X10_slip (pcW dC dI cI cJ cZ [(q_t, .inr (10, [.ref q_t_text, .ref q_t_reader, .ref q_t_rules, .ref q_t_people, .ref q_t_memory, .ref q_t_rows, .ref q_t_chances, .ref q_t_moves, .ref q_t_payments, .ref q_t_evenings])), (q_t_rules, .inr (8, [.int v_t_rules_law, .int v_t_rules_share, .int v_t_rules_pot, .int v_t_rules_barred])), (q_t_people, .inr (5, [.ref q_t_people_numbers, .ref q_t_people_counts, .int v_t_people_size])), (q_t_people_numbers, .inl (cI, 9, .inl f_t_people_numbers)), (q_t_people_counts, .inl (cI, 10, .inl f_t_people_counts)), (q_t_memory, .inr (2, [.ref q_t_memory_row, .ref q_t_memory_slots, .int v_t_memory_acts])), (q_t_memory_row, .inl (cJ, 16, .inr (.inl f_t_memory_row)))] sz [.ref q_t, .int p1, .int p2]) (va_Qi (fun (r : Int32) (_ : Unit) => r = res) (bW dC dI (va_A [(q_t, .inr (10, [.ref q_t_text, .ref q_t_reader, .ref q_t_rules, .ref q_t_people, .ref q_t_memory, .ref q_t_rows, .ref q_t_chances, .ref q_t_moves, .ref q_t_payments, .ref q_t_evenings])), (q_t_rules, .inr (8, [.int v_t_rules_law, .int v_t_rules_share, .int v_t_rules_pot, .int v_t_rules_barred])), (q_t_people, .inr (5, [.ref q_t_people_numbers, .ref q_t_people_counts, .int v_t_people_size])), (q_t_people_numbers, .inl (cI, 9, .inl f_t_people_numbers)), (q_t_people_counts, .inl (cI, 10, .inl f_t_people_counts)), (q_t_memory, .inr (2, [.ref q_t_memory_row, .ref q_t_memory_slots, .int v_t_memory_acts])), (q_t_memory_row, .inl (cJ, 16, .inr (.inl f_t_memory_row)))] sz) [(q_t, .inr (10, [.ref q_t_text, .ref q_t_reader, .ref q_t_rules, .ref q_t_people, .ref q_t_memory, .ref q_t_rows, .ref q_t_chances, .ref q_t_moves, .ref q_t_payments, .ref q_t_evenings])), (q_t_rules, .inr (8, [.int v_t_rules_law, .int v_t_rules_share, .int v_t_rules_pot, .int v_t_rules_barred])), (q_t_people, .inr (5, [.ref q_t_people_numbers, .ref q_t_people_counts, .int v_t_people_size])), (q_t_people_numbers, .inl (cI, 9, .inl r_f_t_people_numbers)), (q_t_people_counts, .inl (cI, 10, .inl r_f_t_people_counts)), (q_t_memory, .inr (2, [.ref q_t_memory_row, .ref q_t_memory_slots, .int r_v_t_memory_acts])), (q_t_memory_row, .inl (cJ, 16, .inr (.inl r_f_t_memory_row)))]) (va_A [(q_t, .inr (10, [.ref q_t_text, .ref q_t_reader, .ref q_t_rules, .ref q_t_people, .ref q_t_memory, .ref q_t_rows, .ref q_t_chances, .ref q_t_moves, .ref q_t_payments, .ref q_t_evenings])), (q_t_rules, .inr (8, [.int v_t_rules_law, .int v_t_rules_share, .int v_t_rules_pot, .int v_t_rules_barred])), (q_t_people, .inr (5, [.ref q_t_people_numbers, .ref q_t_people_counts, .int v_t_people_size])), (q_t_people_numbers, .inl (cI, 9, .inl f_t_people_numbers)), (q_t_people_counts, .inl (cI, 10, .inl f_t_people_counts)), (q_t_memory, .inr (2, [.ref q_t_memory_row, .ref q_t_memory_slots, .int v_t_memory_acts])), (q_t_memory_row, .inl (cJ, 16, .inr (.inl f_t_memory_row)))] sz)) 0 0 (va_A [(q_t, .inr (10, [.ref q_t_text, .ref q_t_reader, .ref q_t_rules, .ref q_t_people, .ref q_t_memory, .ref q_t_rows, .ref q_t_chances, .ref q_t_moves, .ref q_t_payments, .ref q_t_evenings])), (q_t_rules, .inr (8, [.int v_t_rules_law, .int v_t_rules_share, .int v_t_rules_pot, .int v_t_rules_barred])), (q_t_people, .inr (5, [.ref q_t_people_numbers, .ref q_t_people_counts, .int v_t_people_size])), (q_t_people_numbers, .inl (cI, 9, .inl f_t_people_numbers)), (q_t_people_counts, .inl (cI, 10, .inl f_t_people_counts)), (q_t_memory, .inr (2, [.ref q_t_memory_row, .ref q_t_memory_slots, .int v_t_memory_acts])), (q_t_memory_row, .inl (cJ, 16, .inr (.inl f_t_memory_row)))] sz) := by
  refine Met.ofW (cc := cX10_slip) (maxL := 5) (ret := (some .int)) (by decide) rfl ?_
  intro p e s m args below meth c s₁ B hml hv
  obtain ⟨rfl, hsz, hP, hKK, hD0⟩ := hv
  have hx := B.exec
  have hb := B.bytes
  have hr := B.returns
  have hts := atoms_spec (ws := wsX10_slip) B.pre
  have hown : s.vm.findClass RX10 = some m.cls := findClass_of_methodNamed B.named
  have hlocks := B.notSynchronized
  have hK := hKK.1
  subst hsz
  have hD := hD0.self (sz := s.heap.size)
  generalize hAe : va_A [(q_t, .inr (10, [.ref q_t_text, .ref q_t_reader, .ref q_t_rules, .ref q_t_people, .ref q_t_memory, .ref q_t_rows, .ref q_t_chances, .ref q_t_moves, .ref q_t_payments, .ref q_t_evenings])), (q_t_rules, .inr (8, [.int v_t_rules_law, .int v_t_rules_share, .int v_t_rules_pot, .int v_t_rules_barred])), (q_t_people, .inr (5, [.ref q_t_people_numbers, .ref q_t_people_counts, .int v_t_people_size])), (q_t_people_numbers, .inl (cI, 9, .inl f_t_people_numbers)), (q_t_people_counts, .inl (cI, 10, .inl f_t_people_counts)), (q_t_memory, .inr (2, [.ref q_t_memory_row, .ref q_t_memory_slots, .int v_t_memory_acts])), (q_t_memory_row, .inl (cJ, 16, .inr (.inl f_t_memory_row)))] s.heap.size = A at hD ⊢
  have hA : ∀ q : Nat, s.heap.size ≤ q → A q := fun q h => by rw [← hAe]; exact Or.inr h
  have hS : va_S A s.heap s.heap [] := va_S.rf
  have hl := lv_entry ([.ref q_t, .int p1, .int p2]) (n := 5) (Nat.le_of_ble_eq_true rfl)
  rw [lg_entry_eq]
  generalize (lg_sl ([.ref q_t, .int p1, .int p2]) ++ List.replicate (5 - (lg_sl ([.ref q_t, .int p1, .int p2])).length) Slot.unset).toArray = ls at hl ⊢
  have hl : lv_has ls 5 [(0, .ref q_t), (1, .int p1), (2, .int p2)] := hl
  unfold X10_slip at h
  obtain ⟨H, hHe⟩ : ∃ H, H = s.heap := ⟨_, rfl⟩
  obtain ⟨locs, hLe⟩ : ∃ x : List Loc, x = [] := ⟨_, rfl⟩
  rw [← hHe] at hP
  have hS : va_S A s.heap H locs := by rw [hHe, hLe]; exact hS
  suffices hW : W p l e (headSpec wsX10_slip rm_X10_slip).room s m ([.ref q_t, .int p1, .int p2] : List Value).toArray below meth c H locs 0 0 (MQ below (va_Qi (fun (r : Int32) (_ : Unit) => r = res) (bW dC dI A [(q_t, .inr (10, [.ref q_t_text, .ref q_t_reader, .ref q_t_rules, .ref q_t_people, .ref q_t_memory, .ref q_t_rows, .ref q_t_chances, .ref q_t_moves, .ref q_t_payments, .ref q_t_evenings])), (q_t_rules, .inr (8, [.int v_t_rules_law, .int v_t_rules_share, .int v_t_rules_pot, .int v_t_rules_barred])), (q_t_people, .inr (5, [.ref q_t_people_numbers, .ref q_t_people_counts, .int v_t_people_size])), (q_t_people_numbers, .inl (cI, 9, .inl r_f_t_people_numbers)), (q_t_people_counts, .inl (cI, 10, .inl r_f_t_people_counts)), (q_t_memory, .inr (2, [.ref q_t_memory_row, .ref q_t_memory_slots, .int r_v_t_memory_acts])), (q_t_memory_row, .inl (cJ, 16, .inr (.inl r_f_t_memory_row)))]) A) ([.ref q_t, .int p1, .int p2] : List Value).toArray s 0 0 A) (F0 m 0 ls []) by rw [hHe, hLe] at hW; exact hW
  refine lv_aload_n hx hb dX10_slip_0 rfl (lv_at hl 0 rfl) ?_
  refine va_get (D := (dC, dI)) (ci := 10) (v := .ref q_t_people) (C := RX10) (T := TX10) (N := 10) hx hb hts in_X10_slip_X10 hown hK hP 0 rfl rfl 3 (by decide) (hts (.fieldLink RX10 33 "RightIfAsMany" "people" "LRightIfAsMany$People;") (List.mem_of_getElem? (i := 1) rfl)) (fun _ h9 => h9) rfl dX10_slip_1 ?_
  refine lv_iload_n hx hb dX10_slip_4 rfl (lv_at hl 1 rfl) ?_
  refine kRz (res := (X5_has v_t_people_size p1)) (va_runV (As := [.int p1]) (rest := []) ⟨hx, hb, hml, hown, hts⟩ (cn_X5_has l dC dI cI cJ cZ q_t_people q_t_people_numbers q_t_people_counts  v_t_people_size p1 (X5_has v_t_people_size p1) rfl) (cwV 1 hts gX10_slip_X5_has rfl rfl rfl (by decide +kernel) ⟨Nat.le_of_ble_eq_true rfl, Nat.le_of_ble_eq_true rfl⟩) (preR hKK (hP.sub (ws' := [(q_t_people, .inr (5, [.ref q_t_people_numbers, .ref q_t_people_counts, .int v_t_people_size]))]) [2] rfl) (ci := 5) (q0 := 0) rfl rfl) rfl rfl hl.1 rfl (lv_room (Nat.le_of_ble_eq_true rfl)) dX10_slip_5 ⟨Nat.zero_le _, Nat.zero_le _⟩) (fun hz1 => ?_)
  refine lv_if_ne (tgt := 13) hx hb dX10_slip_8 (by decide) (fun c2 => ?_) (fun c2 => ?_)
  · replace h := ite_f h c2
    refine lv_aload_n hx hb dX10_slip_13 rfl (lv_at hl 0 rfl) ?_
    refine lv_iload_n hx hb dX10_slip_14 rfl (lv_at hl 2 rfl) ?_
    refine kRi (res := (X10_refusalOfNumber v_t_rules_barred p2)) (va_runV (As := [.int p2]) (rest := []) ⟨hx, hb, hml, hown, hts⟩ (cn_X10_refusalOfNumber l dC dI cI cJ cZ q_t q_t_text q_t_reader q_t_rules q_t_people q_t_memory q_t_rows q_t_chances q_t_moves q_t_payments q_t_evenings  v_t_rules_law v_t_rules_share v_t_rules_pot v_t_rules_barred p2 (X10_refusalOfNumber v_t_rules_barred p2) rfl) (cwV 1 hts gX10_slip_X10_refusalOfNumber rfl rfl rfl (by decide +kernel) ⟨Nat.le_of_ble_eq_true rfl, Nat.le_of_ble_eq_true rfl⟩) (preR hKK (hP.sub (ws' := [(q_t, .inr (10, [.ref q_t_text, .ref q_t_reader, .ref q_t_rules, .ref q_t_people, .ref q_t_memory, .ref q_t_rows, .ref q_t_chances, .ref q_t_moves, .ref q_t_payments, .ref q_t_evenings])), (q_t_rules, .inr (8, [.int v_t_rules_law, .int v_t_rules_share, .int v_t_rules_pot, .int v_t_rules_barred]))]) [0, 1] rfl) (ci := 10) (q0 := 0) rfl rfl) rfl rfl hl.1 rfl (lv_room (Nat.le_of_ble_eq_true rfl)) dX10_slip_15 ⟨Nat.zero_le _, Nat.zero_le _⟩) ?_
    refine lv_istore_n (lv' := [(3, .int (X10_refusalOfNumber v_t_rules_barred p2)), (0, .ref q_t), (1, .int p1), (2, .int p2)]) hx hb dX10_slip_18 rfl hl (by decide) rfl (fun ls hl => ?_)
    refine lv_iload_n hx hb dX10_slip_19 rfl (lv_at hl 0 rfl) ?_
    refine lv_if_eq (tgt := 25) hx hb dX10_slip_20 (by decide) (fun c3 => ?_) (fun c3 => ?_)
    · replace h := ite_t h c3
      refine lv_aload_n hx hb dX10_slip_25 rfl (lv_at hl 1 rfl) ?_
      refine va_get (D := (dC, dI)) (ci := 10) (v := .ref q_t_people) (C := RX10) (T := TX10) (N := 10) hx hb hts in_X10_slip_X10 hown hK hP 0 rfl rfl 3 (by decide) (hts (.fieldLink RX10 33 "RightIfAsMany" "people" "LRightIfAsMany$People;") (List.mem_of_getElem? (i := 1) rfl)) (fun _ h9 => h9) rfl dX10_slip_26 ?_
      refine lv_iload_n hx hb dX10_slip_29 rfl (lv_at hl 2 rfl) ?_
      obtain ⟨r4, hc4, h⟩ := bnd1_s h
      refine kRi (res := r4) (va_runV (As := [.int p1]) (rest := []) ⟨hx, hb, hml, hown, hts⟩ (cn_X5_numberOf l dC dI cI cJ cZ q_t_people q_t_people_numbers q_t_people_counts  v_t_people_size f_t_people_numbers p1 r4 hc4) (cwV 1 hts gX10_slip_X5_numberOf rfl rfl rfl (by decide +kernel) ⟨Nat.le_of_ble_eq_true rfl, Nat.le_of_ble_eq_true rfl⟩) (preR hKK (hP.sub (ws' := [(q_t_people, .inr (5, [.ref q_t_people_numbers, .ref q_t_people_counts, .int v_t_people_size])), (q_t_people_numbers, .inl (cI, 9, .inl f_t_people_numbers))]) [2, 3] rfl) (ci := 5) (q0 := 0) rfl rfl) rfl rfl hl.1 rfl (lv_room (Nat.le_of_ble_eq_true rfl)) dX10_slip_30 ⟨Nat.zero_le _, Nat.zero_le _⟩) ?_
      refine lv_istore (lv' := [(4, .int r4), (3, .int (X10_refusalOfNumber v_t_rules_barred p2)), (0, .ref q_t), (1, .int p1), (2, .int p2)]) hx hb dX10_slip_33 hl (by decide) rfl (fun ls hl => ?_)
      refine lv_aload_n hx hb dX10_slip_35 rfl (lv_at hl 2 rfl) ?_
      refine va_get (D := (dC, dI)) (ci := 10) (v := .ref q_t_memory) (C := RX10) (T := TX10) (N := 10) hx hb hts in_X10_slip_X10 hown hK hP 0 rfl rfl 4 (by decide) (hts (.fieldLink RX10 40 "RightIfAsMany" "memory" "LRightIfAsMany$Memory;") (List.mem_of_getElem? (i := 2) rfl)) (fun _ h9 => h9) rfl dX10_slip_36 ?_
      refine lv_aload_n hx hb dX10_slip_39 rfl (lv_at hl 2 rfl) ?_
      refine va_get (D := (dC, dI)) (ci := 10) (v := .ref q_t_people) (C := RX10) (T := TX10) (N := 10) hx hb hts in_X10_slip_X10 hown hK hP 0 rfl rfl 3 (by decide) (hts (.fieldLink RX10 33 "RightIfAsMany" "people" "LRightIfAsMany$People;") (List.mem_of_getElem? (i := 1) rfl)) (fun _ h9 => h9) rfl dX10_slip_40 ?_
      obtain ⟨r5, hc5, h⟩ := bnd1_s h
      refine kRl (res := r5) (va_runV (As := []) (rest := [.ref q_t_memory]) ⟨hx, hb, hml, hown, hts⟩ (cn_X5_pack l dC dI cI cJ cZ q_t_people q_t_people_numbers q_t_people_counts  v_t_people_size f_t_people_numbers  r5 hc5) (cwV 0 hts gX10_slip_X5_pack rfl rfl rfl (by decide +kernel) ⟨Nat.le_of_ble_eq_true rfl, Nat.le_of_ble_eq_true rfl⟩) (preR hKK (hP.sub (ws' := [(q_t_people, .inr (5, [.ref q_t_people_numbers, .ref q_t_people_counts, .int v_t_people_size])), (q_t_people_numbers, .inl (cI, 9, .inl f_t_people_numbers))]) [2, 3] rfl) (ci := 5) (q0 := 0) rfl rfl) rfl rfl hl.1 rfl (lv_room (Nat.le_of_ble_eq_true rfl)) dX10_slip_43 ⟨Nat.zero_le _, Nat.zero_le _⟩) ?_
      obtain ⟨w6_0, w6_1, hc6, h⟩ := bnd2_s h
      refine kWv (wc := [(q_t_memory, .inr (2, [.ref q_t_memory_row, .ref q_t_memory_slots, .int v_t_memory_acts])), (q_t_memory_row, .inl (cJ, 16, .inr (.inl f_t_memory_row)))]) (wr := [(q_t, .inr (10, [.ref q_t_text, .ref q_t_reader, .ref q_t_rules, .ref q_t_people, .ref q_t_memory, .ref q_t_rows, .ref q_t_chances, .ref q_t_moves, .ref q_t_payments, .ref q_t_evenings])), (q_t_rules, .inr (8, [.int v_t_rules_law, .int v_t_rules_share, .int v_t_rules_pot, .int v_t_rules_barred])), (q_t_people, .inr (5, [.ref q_t_people_numbers, .ref q_t_people_counts, .int v_t_people_size])), (q_t_people_numbers, .inl (cI, 9, .inl f_t_people_numbers)), (q_t_people_counts, .inl (cI, 10, .inl f_t_people_counts))]) (w1 := [(q_t_memory, .inr (2, [.ref q_t_memory_row, .ref q_t_memory_slots, .int w6_0])), (q_t_memory_row, .inl (cJ, 16, .inr (.inl w6_1)))]) (wn := [(q_t, .inr (10, [.ref q_t_text, .ref q_t_reader, .ref q_t_rules, .ref q_t_people, .ref q_t_memory, .ref q_t_rows, .ref q_t_chances, .ref q_t_moves, .ref q_t_payments, .ref q_t_evenings])), (q_t_rules, .inr (8, [.int v_t_rules_law, .int v_t_rules_share, .int v_t_rules_pot, .int v_t_rules_barred])), (q_t_people, .inr (5, [.ref q_t_people_numbers, .ref q_t_people_counts, .int v_t_people_size])), (q_t_people_numbers, .inl (cI, 9, .inl f_t_people_numbers)), (q_t_people_counts, .inl (cI, 10, .inl f_t_people_counts)), (q_t_memory, .inr (2, [.ref q_t_memory_row, .ref q_t_memory_slots, .int w6_0])), (q_t_memory_row, .inl (cJ, 16, .inr (.inl w6_1)))]) hP hD hS hA [5, 6] [0, 1, 2, 3, 4] [0, 1, 2, 3, 4, 5, 6] rfl rfl (by decide) (by decide) rfl (by decide) (va_runV (As := [.long r5]) (rest := []) ⟨hx, hb, hml, hown, hts⟩ (cn_X2_addAct l dC dI cI cJ cZ q_t_memory q_t_memory_row q_t_memory_slots H.size v_t_memory_acts f_t_memory_row r5 w6_0 w6_1 hc6) (cwV 1 hts gX10_slip_X2_addAct rfl rfl rfl (by decide +kernel) ⟨Nat.le_of_ble_eq_true rfl, Nat.le_of_ble_eq_true rfl⟩) (preW hKK (hP.sub (ws' := [(q_t_memory, .inr (2, [.ref q_t_memory_row, .ref q_t_memory_slots, .int v_t_memory_acts])), (q_t_memory_row, .inl (cJ, 16, .inr (.inl f_t_memory_row)))]) [5, 6] rfl) (hD.sub (ws' := [(q_t_memory, .inr (2, [.ref q_t_memory_row, .ref q_t_memory_slots, .int v_t_memory_acts])), (q_t_memory_row, .inl (cJ, 16, .inr (.inl f_t_memory_row)))]) [5, 6] (by decide) rfl) (ci := 2) (q0 := 0) rfl rfl) rfl rfl hl.1 rfl (lv_room (Nat.le_of_ble_eq_true rfl)) dX10_slip_46 ⟨Nat.zero_le _, Nat.zero_le _⟩) (fun H locs hP hD hS => ?_)
      refine lv_aload_n hx hb dX10_slip_49 rfl (lv_at hl 2 rfl) ?_
      refine va_get (D := (dC, dI)) (ci := 10) (v := .ref q_t_people) (C := RX10) (T := TX10) (N := 10) hx hb hts in_X10_slip_X10 hown hK hP 0 rfl rfl 3 (by decide) (hts (.fieldLink RX10 33 "RightIfAsMany" "people" "LRightIfAsMany$People;") (List.mem_of_getElem? (i := 1) rfl)) (fun _ h9 => h9) rfl dX10_slip_50 ?_
      refine lv_iload_n hx hb dX10_slip_53 rfl (lv_at hl 3 rfl) ?_
      refine lv_iload_n hx hb dX10_slip_54 rfl (lv_at hl 4 rfl) ?_
      obtain ⟨w7_0, w7_1, hc7, h⟩ := bnd2_s h
      refine kWv (wc := [(q_t_people, .inr (5, [.ref q_t_people_numbers, .ref q_t_people_counts, .int v_t_people_size])), (q_t_people_numbers, .inl (cI, 9, .inl f_t_people_numbers)), (q_t_people_counts, .inl (cI, 10, .inl f_t_people_counts))]) (wr := [(q_t, .inr (10, [.ref q_t_text, .ref q_t_reader, .ref q_t_rules, .ref q_t_people, .ref q_t_memory, .ref q_t_rows, .ref q_t_chances, .ref q_t_moves, .ref q_t_payments, .ref q_t_evenings])), (q_t_rules, .inr (8, [.int v_t_rules_law, .int v_t_rules_share, .int v_t_rules_pot, .int v_t_rules_barred])), (q_t_memory, .inr (2, [.ref q_t_memory_row, .ref q_t_memory_slots, .int w6_0])), (q_t_memory_row, .inl (cJ, 16, .inr (.inl w6_1)))]) (w1 := [(q_t_people, .inr (5, [.ref q_t_people_numbers, .ref q_t_people_counts, .int v_t_people_size])), (q_t_people_numbers, .inl (cI, 9, .inl w7_0)), (q_t_people_counts, .inl (cI, 10, .inl w7_1))]) (wn := [(q_t, .inr (10, [.ref q_t_text, .ref q_t_reader, .ref q_t_rules, .ref q_t_people, .ref q_t_memory, .ref q_t_rows, .ref q_t_chances, .ref q_t_moves, .ref q_t_payments, .ref q_t_evenings])), (q_t_rules, .inr (8, [.int v_t_rules_law, .int v_t_rules_share, .int v_t_rules_pot, .int v_t_rules_barred])), (q_t_people, .inr (5, [.ref q_t_people_numbers, .ref q_t_people_counts, .int v_t_people_size])), (q_t_people_numbers, .inl (cI, 9, .inl w7_0)), (q_t_people_counts, .inl (cI, 10, .inl w7_1)), (q_t_memory, .inr (2, [.ref q_t_memory_row, .ref q_t_memory_slots, .int w6_0])), (q_t_memory_row, .inl (cJ, 16, .inr (.inl w6_1)))]) hP hD hS hA [2, 3, 4] [0, 1, 5, 6] [0, 1, 4, 5, 6, 2, 3] rfl rfl (by decide) (by decide) rfl (by decide) (va_runV (As := [.int p1, .int p2]) (rest := []) ⟨hx, hb, hml, hown, hts⟩ (cn_X5_rewrite l dC dI cI cJ cZ q_t_people q_t_people_numbers q_t_people_counts H.size v_t_people_size f_t_people_numbers f_t_people_counts p1 p2 w7_0 w7_1 hc7) (cwV 2 hts gX10_slip_X5_rewrite rfl rfl rfl (by decide +kernel) ⟨Nat.le_of_ble_eq_true rfl, Nat.le_of_ble_eq_true rfl⟩) (preW hKK (hP.sub (ws' := [(q_t_people, .inr (5, [.ref q_t_people_numbers, .ref q_t_people_counts, .int v_t_people_size])), (q_t_people_numbers, .inl (cI, 9, .inl f_t_people_numbers)), (q_t_people_counts, .inl (cI, 10, .inl f_t_people_counts))]) [2, 3, 4] rfl) (hD.sub (ws' := [(q_t_people, .inr (5, [.ref q_t_people_numbers, .ref q_t_people_counts, .int v_t_people_size])), (q_t_people_numbers, .inl (cI, 9, .inl f_t_people_numbers)), (q_t_people_counts, .inl (cI, 10, .inl f_t_people_counts))]) [2, 3, 4] (by decide) rfl) (ci := 5) (q0 := 0) rfl rfl) rfl rfl hl.1 rfl (lv_room (Nat.le_of_ble_eq_true rfl)) dX10_slip_55 ⟨Nat.zero_le _, Nat.zero_le _⟩) (fun H locs hP hD hS => ?_)
      refine lv_iload hx hb dX10_slip_58 (lv_at hl 0 rfl) ?_
      replace h := Option.some.inj h
      obtain ⟨e1, e2, e3, e4, e5⟩ := pr5 h
      exact W.iret (v := r4) hx hb hr (fun t ht hW => ⟨⟨_, (), rfl, e1, (by rw [ht, ← e2, ← e3, ← e4, ← e5]; exact hP), (by rw [← e2, ← e3, ← e4, ← e5]; exact hD)⟩, hS.F ht⟩) hS.2.2 dX10_slip_60
    replace h := ite_f h c3
    refine lv_iload_n hx hb dX10_slip_23 rfl (lv_at hl 0 rfl) ?_
    replace h := Option.some.inj h
    obtain ⟨e1, e2, e3, e4, e5⟩ := pr5 h
    exact W.iret (v := (X10_refusalOfNumber v_t_rules_barred p2)) hx hb hr (fun t ht hW => ⟨⟨_, (), rfl, e1, (by rw [ht, ← e2, ← e3, ← e4, ← e5]; exact hP), (by rw [← e2, ← e3, ← e4, ← e5]; exact hD)⟩, hS.F ht⟩) hS.2.2 dX10_slip_24
  replace h := ite_t h c2
  refine lv_iconst (v := (-1 : Int32)) hx hb dX10_slip_11 (by decide) ?_
  replace h := Option.some.inj h
  obtain ⟨e1, e2, e3, e4, e5⟩ := pr5 h
  exact W.iret (v := (-1 : Int32)) hx hb hr (fun t ht hW => ⟨⟨_, (), rfl, e1, (by rw [ht, ← e2, ← e3, ← e4, ← e5]; exact hP), (by rw [← e2, ← e3, ← e4, ← e5]; exact hD)⟩, hS.F ht⟩) hS.2.2 dX10_slip_12
abbrev rm_X10_come : Room := { frames := 3, cells := 0, slots := 0, locals := 82 }
theorem in_X10_come_X2 : ∀ w ∈ wsX20, w ∈ wsX10_come := fun _ h => List.mem_cons_of_mem _ (List.mem_append_right _ h)
theorem in_X10_come_X5 : ∀ w ∈ wsX50, w ∈ wsX10_come := fun _ h => List.mem_cons_of_mem _ (List.mem_append_left _ (List.mem_append_right _ h))
theorem in_X10_come_X8 : ∀ w ∈ wsX80, w ∈ wsX10_come := fun _ h => List.mem_cons_of_mem _ (List.mem_append_left _ (List.mem_append_left _ (List.mem_append_right _ h)))
theorem in_X10_come_X10 : ∀ w ∈ wsX100, w ∈ wsX10_come := fun _ h => List.mem_cons_of_mem _ (List.mem_append_left _ (List.mem_append_left _ (List.mem_append_left _ (List.mem_append_right _ h))))
set_option maxHeartbeats 4000000 in
set_option maxRecDepth 100000 in
theorem cn_X10_come (l : Launch) (dC : Nat → ClassId) (dI : Nat → Nat → Nat) (cI cJ cZ : ClassId) (q_t q_t_text q_t_reader q_t_rules q_t_people q_t_memory q_t_rows q_t_chances q_t_moves q_t_payments q_t_evenings q_t_people_numbers q_t_people_counts q_t_memory_row q_t_memory_slots : Nat) (sz : Nat) (v_t_rules_law : Int32) (v_t_rules_share : Int32) (v_t_rules_pot : Int32) (v_t_rules_barred : Int32) (v_t_people_size : Int32) (f_t_people_numbers : (Nat → Int32)) (f_t_people_counts : (Nat → Int32)) (v_t_memory_acts : Int32) (f_t_memory_row : (Nat → Int64)) (p1 : Int32) (res : Int32) (r_v_t_people_size : Int32) (r_f_t_people_numbers : (Nat → Int32)) (r_f_t_people_counts : (Nat → Int32)) (r_v_t_memory_acts : Int32) (r_f_t_memory_row : (Nat → Int64)) (h : X10_come v_t_rules_barred v_t_people_size f_t_people_numbers f_t_people_counts v_t_memory_acts f_t_memory_row p1 = some (res, r_v_t_people_size, r_f_t_people_numbers, r_f_t_people_counts, r_v_t_memory_acts, r_f_t_memory_row)) : Met l yX10_come wsX10_come rm_X10_come (pcW dC dI cI cJ cZ [(q_t, .inr (10, [.ref q_t_text, .ref q_t_reader, .ref q_t_rules, .ref q_t_people, .ref q_t_memory, .ref q_t_rows, .ref q_t_chances, .ref q_t_moves, .ref q_t_payments, .ref q_t_evenings])), (q_t_rules, .inr (8, [.int v_t_rules_law, .int v_t_rules_share, .int v_t_rules_pot, .int v_t_rules_barred])), (q_t_people, .inr (5, [.ref q_t_people_numbers, .ref q_t_people_counts, .int v_t_people_size])), (q_t_people_numbers, .inl (cI, 9, .inl f_t_people_numbers)), (q_t_people_counts, .inl (cI, 10, .inl f_t_people_counts)), (q_t_memory, .inr (2, [.ref q_t_memory_row, .ref q_t_memory_slots, .int v_t_memory_acts])), (q_t_memory_row, .inl (cJ, 16, .inr (.inl f_t_memory_row)))] sz [.ref q_t, .int p1]) (va_Qi (fun (r : Int32) (_ : Unit) => r = res) (bW dC dI (va_A [(q_t, .inr (10, [.ref q_t_text, .ref q_t_reader, .ref q_t_rules, .ref q_t_people, .ref q_t_memory, .ref q_t_rows, .ref q_t_chances, .ref q_t_moves, .ref q_t_payments, .ref q_t_evenings])), (q_t_rules, .inr (8, [.int v_t_rules_law, .int v_t_rules_share, .int v_t_rules_pot, .int v_t_rules_barred])), (q_t_people, .inr (5, [.ref q_t_people_numbers, .ref q_t_people_counts, .int v_t_people_size])), (q_t_people_numbers, .inl (cI, 9, .inl f_t_people_numbers)), (q_t_people_counts, .inl (cI, 10, .inl f_t_people_counts)), (q_t_memory, .inr (2, [.ref q_t_memory_row, .ref q_t_memory_slots, .int v_t_memory_acts])), (q_t_memory_row, .inl (cJ, 16, .inr (.inl f_t_memory_row)))] sz) [(q_t, .inr (10, [.ref q_t_text, .ref q_t_reader, .ref q_t_rules, .ref q_t_people, .ref q_t_memory, .ref q_t_rows, .ref q_t_chances, .ref q_t_moves, .ref q_t_payments, .ref q_t_evenings])), (q_t_rules, .inr (8, [.int v_t_rules_law, .int v_t_rules_share, .int v_t_rules_pot, .int v_t_rules_barred])), (q_t_people, .inr (5, [.ref q_t_people_numbers, .ref q_t_people_counts, .int r_v_t_people_size])), (q_t_people_numbers, .inl (cI, 9, .inl r_f_t_people_numbers)), (q_t_people_counts, .inl (cI, 10, .inl r_f_t_people_counts)), (q_t_memory, .inr (2, [.ref q_t_memory_row, .ref q_t_memory_slots, .int r_v_t_memory_acts])), (q_t_memory_row, .inl (cJ, 16, .inr (.inl r_f_t_memory_row)))]) (va_A [(q_t, .inr (10, [.ref q_t_text, .ref q_t_reader, .ref q_t_rules, .ref q_t_people, .ref q_t_memory, .ref q_t_rows, .ref q_t_chances, .ref q_t_moves, .ref q_t_payments, .ref q_t_evenings])), (q_t_rules, .inr (8, [.int v_t_rules_law, .int v_t_rules_share, .int v_t_rules_pot, .int v_t_rules_barred])), (q_t_people, .inr (5, [.ref q_t_people_numbers, .ref q_t_people_counts, .int v_t_people_size])), (q_t_people_numbers, .inl (cI, 9, .inl f_t_people_numbers)), (q_t_people_counts, .inl (cI, 10, .inl f_t_people_counts)), (q_t_memory, .inr (2, [.ref q_t_memory_row, .ref q_t_memory_slots, .int v_t_memory_acts])), (q_t_memory_row, .inl (cJ, 16, .inr (.inl f_t_memory_row)))] sz)) 0 0 (va_A [(q_t, .inr (10, [.ref q_t_text, .ref q_t_reader, .ref q_t_rules, .ref q_t_people, .ref q_t_memory, .ref q_t_rows, .ref q_t_chances, .ref q_t_moves, .ref q_t_payments, .ref q_t_evenings])), (q_t_rules, .inr (8, [.int v_t_rules_law, .int v_t_rules_share, .int v_t_rules_pot, .int v_t_rules_barred])), (q_t_people, .inr (5, [.ref q_t_people_numbers, .ref q_t_people_counts, .int v_t_people_size])), (q_t_people_numbers, .inl (cI, 9, .inl f_t_people_numbers)), (q_t_people_counts, .inl (cI, 10, .inl f_t_people_counts)), (q_t_memory, .inr (2, [.ref q_t_memory_row, .ref q_t_memory_slots, .int v_t_memory_acts])), (q_t_memory_row, .inl (cJ, 16, .inr (.inl f_t_memory_row)))] sz) := by
  refine Met.ofW (cc := cX10_come) (maxL := 3) (ret := (some .int)) (by decide) rfl ?_
  intro p e s m args below meth c s₁ B hml hv
  obtain ⟨rfl, hsz, hP, hKK, hD0⟩ := hv
  have hx := B.exec
  have hb := B.bytes
  have hr := B.returns
  have hts := atoms_spec (ws := wsX10_come) B.pre
  have hown : s.vm.findClass RX10 = some m.cls := findClass_of_methodNamed B.named
  have hlocks := B.notSynchronized
  have hK := hKK.1
  subst hsz
  have hD := hD0.self (sz := s.heap.size)
  generalize hAe : va_A [(q_t, .inr (10, [.ref q_t_text, .ref q_t_reader, .ref q_t_rules, .ref q_t_people, .ref q_t_memory, .ref q_t_rows, .ref q_t_chances, .ref q_t_moves, .ref q_t_payments, .ref q_t_evenings])), (q_t_rules, .inr (8, [.int v_t_rules_law, .int v_t_rules_share, .int v_t_rules_pot, .int v_t_rules_barred])), (q_t_people, .inr (5, [.ref q_t_people_numbers, .ref q_t_people_counts, .int v_t_people_size])), (q_t_people_numbers, .inl (cI, 9, .inl f_t_people_numbers)), (q_t_people_counts, .inl (cI, 10, .inl f_t_people_counts)), (q_t_memory, .inr (2, [.ref q_t_memory_row, .ref q_t_memory_slots, .int v_t_memory_acts])), (q_t_memory_row, .inl (cJ, 16, .inr (.inl f_t_memory_row)))] s.heap.size = A at hD ⊢
  have hA : ∀ q : Nat, s.heap.size ≤ q → A q := fun q h => by rw [← hAe]; exact Or.inr h
  have hS : va_S A s.heap s.heap [] := va_S.rf
  have hl := lv_entry ([.ref q_t, .int p1]) (n := 3) (Nat.le_of_ble_eq_true rfl)
  rw [lg_entry_eq]
  generalize (lg_sl ([.ref q_t, .int p1]) ++ List.replicate (3 - (lg_sl ([.ref q_t, .int p1])).length) Slot.unset).toArray = ls at hl ⊢
  have hl : lv_has ls 3 [(0, .ref q_t), (1, .int p1)] := hl
  unfold X10_come at h
  obtain ⟨H, hHe⟩ : ∃ H, H = s.heap := ⟨_, rfl⟩
  obtain ⟨locs, hLe⟩ : ∃ x : List Loc, x = [] := ⟨_, rfl⟩
  rw [← hHe] at hP
  have hS : va_S A s.heap H locs := by rw [hHe, hLe]; exact hS
  suffices hW : W p l e (headSpec wsX10_come rm_X10_come).room s m ([.ref q_t, .int p1] : List Value).toArray below meth c H locs 0 0 (MQ below (va_Qi (fun (r : Int32) (_ : Unit) => r = res) (bW dC dI A [(q_t, .inr (10, [.ref q_t_text, .ref q_t_reader, .ref q_t_rules, .ref q_t_people, .ref q_t_memory, .ref q_t_rows, .ref q_t_chances, .ref q_t_moves, .ref q_t_payments, .ref q_t_evenings])), (q_t_rules, .inr (8, [.int v_t_rules_law, .int v_t_rules_share, .int v_t_rules_pot, .int v_t_rules_barred])), (q_t_people, .inr (5, [.ref q_t_people_numbers, .ref q_t_people_counts, .int r_v_t_people_size])), (q_t_people_numbers, .inl (cI, 9, .inl r_f_t_people_numbers)), (q_t_people_counts, .inl (cI, 10, .inl r_f_t_people_counts)), (q_t_memory, .inr (2, [.ref q_t_memory_row, .ref q_t_memory_slots, .int r_v_t_memory_acts])), (q_t_memory_row, .inl (cJ, 16, .inr (.inl r_f_t_memory_row)))]) A) ([.ref q_t, .int p1] : List Value).toArray s 0 0 A) (F0 m 0 ls []) by rw [hHe, hLe] at hW; exact hW
  refine lv_aload_n hx hb dX10_come_0 rfl (lv_at hl 0 rfl) ?_
  refine lv_iload_n hx hb dX10_come_1 rfl (lv_at hl 1 rfl) ?_
  refine kRi (res := (X10_refusalOfNumber v_t_rules_barred p1)) (va_runV (As := [.int p1]) (rest := []) ⟨hx, hb, hml, hown, hts⟩ (cn_X10_refusalOfNumber l dC dI cI cJ cZ q_t q_t_text q_t_reader q_t_rules q_t_people q_t_memory q_t_rows q_t_chances q_t_moves q_t_payments q_t_evenings  v_t_rules_law v_t_rules_share v_t_rules_pot v_t_rules_barred p1 (X10_refusalOfNumber v_t_rules_barred p1) rfl) (cwV 1 hts gX10_come_X10_refusalOfNumber rfl rfl rfl (by decide +kernel) ⟨Nat.le_of_ble_eq_true rfl, Nat.le_of_ble_eq_true rfl⟩) (preR hKK (hP.sub (ws' := [(q_t, .inr (10, [.ref q_t_text, .ref q_t_reader, .ref q_t_rules, .ref q_t_people, .ref q_t_memory, .ref q_t_rows, .ref q_t_chances, .ref q_t_moves, .ref q_t_payments, .ref q_t_evenings])), (q_t_rules, .inr (8, [.int v_t_rules_law, .int v_t_rules_share, .int v_t_rules_pot, .int v_t_rules_barred]))]) [0, 1] rfl) (ci := 10) (q0 := 0) rfl rfl) rfl rfl hl.1 rfl (lv_room (Nat.le_of_ble_eq_true rfl)) dX10_come_2 ⟨Nat.zero_le _, Nat.zero_le _⟩) ?_
  refine lv_istore_n (lv' := [(2, .int (X10_refusalOfNumber v_t_rules_barred p1)), (0, .ref q_t), (1, .int p1)]) hx hb dX10_come_5 rfl hl (by decide) rfl (fun ls hl => ?_)
  refine lv_iload_n hx hb dX10_come_6 rfl (lv_at hl 0 rfl) ?_
  refine lv_if_eq (tgt := 12) hx hb dX10_come_7 (by decide) (fun c1 => ?_) (fun c1 => ?_)
  · replace h := ite_t h c1
    refine lv_aload_n hx hb dX10_come_12 rfl (lv_at hl 1 rfl) ?_
    refine va_get (D := (dC, dI)) (ci := 10) (v := .ref q_t_people) (C := RX10) (T := TX10) (N := 10) hx hb hts in_X10_come_X10 hown hK hP 0 rfl rfl 3 (by decide) (hts (.fieldLink RX10 33 "RightIfAsMany" "people" "LRightIfAsMany$People;") (List.mem_of_getElem? (i := 1) rfl)) (fun _ h9 => h9) rfl dX10_come_13 ?_
    refine kRi (res := (X5_size v_t_people_size)) (va_runV (As := []) (rest := []) ⟨hx, hb, hml, hown, hts⟩ (cn_X5_size l dC dI cI cJ cZ q_t_people q_t_people_numbers q_t_people_counts  v_t_people_size  (X5_size v_t_people_size) rfl) (cwV 0 hts gX10_come_X5_size rfl rfl rfl (by decide +kernel) ⟨Nat.le_of_ble_eq_true rfl, Nat.le_of_ble_eq_true rfl⟩) (preR hKK (hP.sub (ws' := [(q_t_people, .inr (5, [.ref q_t_people_numbers, .ref q_t_people_counts, .int v_t_people_size]))]) [2] rfl) (ci := 5) (q0 := 0) rfl rfl) rfl rfl hl.1 rfl (lv_room (Nat.le_of_ble_eq_true rfl)) dX10_come_16 ⟨Nat.zero_le _, Nat.zero_le _⟩) ?_
    refine lv_bipush (v := (9 : Int32)) hx hb dX10_come_19 (by decide) ?_
    refine lv_icmp_lt (tgt := 27) hx hb dX10_come_21 (by decide) (fun c2 => ?_) (fun c2 => ?_)
    · replace h := ite_t h c2
      refine lv_aload_n hx hb dX10_come_27 rfl (lv_at hl 1 rfl) ?_
      refine va_get (D := (dC, dI)) (ci := 10) (v := .ref q_t_memory) (C := RX10) (T := TX10) (N := 10) hx hb hts in_X10_come_X10 hown hK hP 0 rfl rfl 4 (by decide) (hts (.fieldLink RX10 40 "RightIfAsMany" "memory" "LRightIfAsMany$Memory;") (List.mem_of_getElem? (i := 2) rfl)) (fun _ h9 => h9) rfl dX10_come_28 ?_
      refine lv_aload_n hx hb dX10_come_31 rfl (lv_at hl 1 rfl) ?_
      refine va_get (D := (dC, dI)) (ci := 10) (v := .ref q_t_people) (C := RX10) (T := TX10) (N := 10) hx hb hts in_X10_come_X10 hown hK hP 0 rfl rfl 3 (by decide) (hts (.fieldLink RX10 33 "RightIfAsMany" "people" "LRightIfAsMany$People;") (List.mem_of_getElem? (i := 1) rfl)) (fun _ h9 => h9) rfl dX10_come_32 ?_
      obtain ⟨r3, hc3, h⟩ := bnd1_s h
      refine kRl (res := r3) (va_runV (As := []) (rest := [.ref q_t_memory]) ⟨hx, hb, hml, hown, hts⟩ (cn_X5_pack l dC dI cI cJ cZ q_t_people q_t_people_numbers q_t_people_counts  v_t_people_size f_t_people_numbers  r3 hc3) (cwV 0 hts gX10_come_X5_pack rfl rfl rfl (by decide +kernel) ⟨Nat.le_of_ble_eq_true rfl, Nat.le_of_ble_eq_true rfl⟩) (preR hKK (hP.sub (ws' := [(q_t_people, .inr (5, [.ref q_t_people_numbers, .ref q_t_people_counts, .int v_t_people_size])), (q_t_people_numbers, .inl (cI, 9, .inl f_t_people_numbers))]) [2, 3] rfl) (ci := 5) (q0 := 0) rfl rfl) rfl rfl hl.1 rfl (lv_room (Nat.le_of_ble_eq_true rfl)) dX10_come_35 ⟨Nat.zero_le _, Nat.zero_le _⟩) ?_
      obtain ⟨w4_0, w4_1, hc4, h⟩ := bnd2_s h
      refine kWv (wc := [(q_t_memory, .inr (2, [.ref q_t_memory_row, .ref q_t_memory_slots, .int v_t_memory_acts])), (q_t_memory_row, .inl (cJ, 16, .inr (.inl f_t_memory_row)))]) (wr := [(q_t, .inr (10, [.ref q_t_text, .ref q_t_reader, .ref q_t_rules, .ref q_t_people, .ref q_t_memory, .ref q_t_rows, .ref q_t_chances, .ref q_t_moves, .ref q_t_payments, .ref q_t_evenings])), (q_t_rules, .inr (8, [.int v_t_rules_law, .int v_t_rules_share, .int v_t_rules_pot, .int v_t_rules_barred])), (q_t_people, .inr (5, [.ref q_t_people_numbers, .ref q_t_people_counts, .int v_t_people_size])), (q_t_people_numbers, .inl (cI, 9, .inl f_t_people_numbers)), (q_t_people_counts, .inl (cI, 10, .inl f_t_people_counts))]) (w1 := [(q_t_memory, .inr (2, [.ref q_t_memory_row, .ref q_t_memory_slots, .int w4_0])), (q_t_memory_row, .inl (cJ, 16, .inr (.inl w4_1)))]) (wn := [(q_t, .inr (10, [.ref q_t_text, .ref q_t_reader, .ref q_t_rules, .ref q_t_people, .ref q_t_memory, .ref q_t_rows, .ref q_t_chances, .ref q_t_moves, .ref q_t_payments, .ref q_t_evenings])), (q_t_rules, .inr (8, [.int v_t_rules_law, .int v_t_rules_share, .int v_t_rules_pot, .int v_t_rules_barred])), (q_t_people, .inr (5, [.ref q_t_people_numbers, .ref q_t_people_counts, .int v_t_people_size])), (q_t_people_numbers, .inl (cI, 9, .inl f_t_people_numbers)), (q_t_people_counts, .inl (cI, 10, .inl f_t_people_counts)), (q_t_memory, .inr (2, [.ref q_t_memory_row, .ref q_t_memory_slots, .int w4_0])), (q_t_memory_row, .inl (cJ, 16, .inr (.inl w4_1)))]) hP hD hS hA [5, 6] [0, 1, 2, 3, 4] [0, 1, 2, 3, 4, 5, 6] rfl rfl (by decide) (by decide) rfl (by decide) (va_runV (As := [.long r3]) (rest := []) ⟨hx, hb, hml, hown, hts⟩ (cn_X2_addAct l dC dI cI cJ cZ q_t_memory q_t_memory_row q_t_memory_slots H.size v_t_memory_acts f_t_memory_row r3 w4_0 w4_1 hc4) (cwV 1 hts gX10_come_X2_addAct rfl rfl rfl (by decide +kernel) ⟨Nat.le_of_ble_eq_true rfl, Nat.le_of_ble_eq_true rfl⟩) (preW hKK (hP.sub (ws' := [(q_t_memory, .inr (2, [.ref q_t_memory_row, .ref q_t_memory_slots, .int v_t_memory_acts])), (q_t_memory_row, .inl (cJ, 16, .inr (.inl f_t_memory_row)))]) [5, 6] rfl) (hD.sub (ws' := [(q_t_memory, .inr (2, [.ref q_t_memory_row, .ref q_t_memory_slots, .int v_t_memory_acts])), (q_t_memory_row, .inl (cJ, 16, .inr (.inl f_t_memory_row)))]) [5, 6] (by decide) rfl) (ci := 2) (q0 := 0) rfl rfl) rfl rfl hl.1 rfl (lv_room (Nat.le_of_ble_eq_true rfl)) dX10_come_38 ⟨Nat.zero_le _, Nat.zero_le _⟩) (fun H locs hP hD hS => ?_)
      refine lv_aload_n hx hb dX10_come_41 rfl (lv_at hl 1 rfl) ?_
      refine va_get (D := (dC, dI)) (ci := 10) (v := .ref q_t_people) (C := RX10) (T := TX10) (N := 10) hx hb hts in_X10_come_X10 hown hK hP 0 rfl rfl 3 (by decide) (hts (.fieldLink RX10 33 "RightIfAsMany" "people" "LRightIfAsMany$People;") (List.mem_of_getElem? (i := 1) rfl)) (fun _ h9 => h9) rfl dX10_come_42 ?_
      refine lv_iload_n hx hb dX10_come_45 rfl (lv_at hl 2 rfl) ?_
      obtain ⟨w5_0, w5_1, w5_2, hc5, h⟩ := bnd3_s h
      refine kWv (wc := [(q_t_people, .inr (5, [.ref q_t_people_numbers, .ref q_t_people_counts, .int v_t_people_size])), (q_t_people_numbers, .inl (cI, 9, .inl f_t_people_numbers)), (q_t_people_counts, .inl (cI, 10, .inl f_t_people_counts))]) (wr := [(q_t, .inr (10, [.ref q_t_text, .ref q_t_reader, .ref q_t_rules, .ref q_t_people, .ref q_t_memory, .ref q_t_rows, .ref q_t_chances, .ref q_t_moves, .ref q_t_payments, .ref q_t_evenings])), (q_t_rules, .inr (8, [.int v_t_rules_law, .int v_t_rules_share, .int v_t_rules_pot, .int v_t_rules_barred])), (q_t_memory, .inr (2, [.ref q_t_memory_row, .ref q_t_memory_slots, .int w4_0])), (q_t_memory_row, .inl (cJ, 16, .inr (.inl w4_1)))]) (w1 := [(q_t_people, .inr (5, [.ref q_t_people_numbers, .ref q_t_people_counts, .int w5_0])), (q_t_people_numbers, .inl (cI, 9, .inl w5_1)), (q_t_people_counts, .inl (cI, 10, .inl w5_2))]) (wn := [(q_t, .inr (10, [.ref q_t_text, .ref q_t_reader, .ref q_t_rules, .ref q_t_people, .ref q_t_memory, .ref q_t_rows, .ref q_t_chances, .ref q_t_moves, .ref q_t_payments, .ref q_t_evenings])), (q_t_rules, .inr (8, [.int v_t_rules_law, .int v_t_rules_share, .int v_t_rules_pot, .int v_t_rules_barred])), (q_t_people, .inr (5, [.ref q_t_people_numbers, .ref q_t_people_counts, .int w5_0])), (q_t_people_numbers, .inl (cI, 9, .inl w5_1)), (q_t_people_counts, .inl (cI, 10, .inl w5_2)), (q_t_memory, .inr (2, [.ref q_t_memory_row, .ref q_t_memory_slots, .int w4_0])), (q_t_memory_row, .inl (cJ, 16, .inr (.inl w4_1)))]) hP hD hS hA [2, 3, 4] [0, 1, 5, 6] [0, 1, 4, 5, 6, 2, 3] rfl rfl (by decide) (by decide) rfl (by decide) (va_runV (As := [.int p1]) (rest := []) ⟨hx, hb, hml, hown, hts⟩ (cn_X5_add l dC dI cI cJ cZ q_t_people q_t_people_numbers q_t_people_counts H.size v_t_people_size f_t_people_numbers f_t_people_counts p1 w5_0 w5_1 w5_2 hc5) (cwV 1 hts gX10_come_X5_add rfl rfl rfl (by decide +kernel) ⟨Nat.le_of_ble_eq_true rfl, Nat.le_of_ble_eq_true rfl⟩) (preW hKK (hP.sub (ws' := [(q_t_people, .inr (5, [.ref q_t_people_numbers, .ref q_t_people_counts, .int v_t_people_size])), (q_t_people_numbers, .inl (cI, 9, .inl f_t_people_numbers)), (q_t_people_counts, .inl (cI, 10, .inl f_t_people_counts))]) [2, 3, 4] rfl) (hD.sub (ws' := [(q_t_people, .inr (5, [.ref q_t_people_numbers, .ref q_t_people_counts, .int v_t_people_size])), (q_t_people_numbers, .inl (cI, 9, .inl f_t_people_numbers)), (q_t_people_counts, .inl (cI, 10, .inl f_t_people_counts))]) [2, 3, 4] (by decide) rfl) (ci := 5) (q0 := 0) rfl rfl) rfl rfl hl.1 rfl (lv_room (Nat.le_of_ble_eq_true rfl)) dX10_come_46 ⟨Nat.zero_le _, Nat.zero_le _⟩) (fun H locs hP hD hS => ?_)
      refine lv_aload_n hx hb dX10_come_49 rfl (lv_at hl 1 rfl) ?_
      refine va_get (D := (dC, dI)) (ci := 10) (v := .ref q_t_people) (C := RX10) (T := TX10) (N := 10) hx hb hts in_X10_come_X10 hown hK hP 0 rfl rfl 3 (by decide) (hts (.fieldLink RX10 33 "RightIfAsMany" "people" "LRightIfAsMany$People;") (List.mem_of_getElem? (i := 1) rfl)) (fun _ h9 => h9) rfl dX10_come_50 ?_
      refine kRi (res := (X5_size w5_0)) (va_runV (As := []) (rest := []) ⟨hx, hb, hml, hown, hts⟩ (cn_X5_size l dC dI cI cJ cZ q_t_people q_t_people_numbers q_t_people_counts  w5_0  (X5_size w5_0) rfl) (cwV 0 hts gX10_come_X5_size rfl rfl rfl (by decide +kernel) ⟨Nat.le_of_ble_eq_true rfl, Nat.le_of_ble_eq_true rfl⟩) (preR hKK (hP.sub (ws' := [(q_t_people, .inr (5, [.ref q_t_people_numbers, .ref q_t_people_counts, .int w5_0]))]) [2] rfl) (ci := 5) (q0 := 0) rfl rfl) rfl rfl hl.1 rfl (lv_room (Nat.le_of_ble_eq_true rfl)) dX10_come_53 ⟨Nat.zero_le _, Nat.zero_le _⟩) ?_
      refine lv_iconst (v := (1 : Int32)) hx hb dX10_come_56 (by decide) ?_
      refine lv_isub hx hb dX10_come_57 ?_
      replace h := Option.some.inj h
      obtain ⟨e1, e2, e3, e4, e5, e6⟩ := pr6 h
      exact W.iret (v := ((X5_size w5_0) - (1 : Int32))) hx hb hr (fun t ht hW => ⟨⟨_, (), rfl, e1, (by rw [ht, ← e2, ← e3, ← e4, ← e5, ← e6]; exact hP), (by rw [← e2, ← e3, ← e4, ← e5, ← e6]; exact hD)⟩, hS.F ht⟩) hS.2.2 dX10_come_58
    replace h := ite_f h c2
    refine lv_bipush (v := (-4 : Int32)) hx hb dX10_come_24 (by decide) ?_
    replace h := Option.some.inj h
    obtain ⟨e1, e2, e3, e4, e5, e6⟩ := pr6 h
    exact W.iret (v := (-4 : Int32)) hx hb hr (fun t ht hW => ⟨⟨_, (), rfl, e1, (by rw [ht, ← e2, ← e3, ← e4, ← e5, ← e6]; exact hP), (by rw [← e2, ← e3, ← e4, ← e5, ← e6]; exact hD)⟩, hS.F ht⟩) hS.2.2 dX10_come_26
  replace h := ite_f h c1
  refine lv_iload_n hx hb dX10_come_10 rfl (lv_at hl 0 rfl) ?_
  replace h := Option.some.inj h
  obtain ⟨e1, e2, e3, e4, e5, e6⟩ := pr6 h
  exact W.iret (v := (X10_refusalOfNumber v_t_rules_barred p1)) hx hb hr (fun t ht hW => ⟨⟨_, (), rfl, e1, (by rw [ht, ← e2, ← e3, ← e4, ← e5, ← e6]; exact hP), (by rw [← e2, ← e3, ← e4, ← e5, ← e6]; exact hD)⟩, hS.F ht⟩) hS.2.2 dX10_come_11
abbrev rm_X5_drop : Room := { frames := 1, cells := 0, slots := 0, locals := 21 }
theorem in_X5_drop_X5 : ∀ w ∈ wsX50, w ∈ wsX5_drop := fun _ h => List.mem_cons_of_mem _ (List.mem_append_right _ h)
set_option maxHeartbeats 4000000 in
set_option maxRecDepth 100000 in
theorem cn_X5_drop (l : Launch) (dC : Nat → ClassId) (dI : Nat → Nat → Nat) (cI cJ cZ : ClassId) (q_t q_t_numbers q_t_counts : Nat) (sz : Nat) (v_t_size : Int32) (f_t_numbers : (Nat → Int32)) (f_t_counts : (Nat → Int32)) (p1 : Int32) (r_v_t_size : Int32) (r_f_t_numbers : (Nat → Int32)) (r_f_t_counts : (Nat → Int32)) (h : X5_drop v_t_size f_t_numbers f_t_counts p1 = some (r_v_t_size, r_f_t_numbers, r_f_t_counts)) : Met l yX5_drop wsX5_drop rm_X5_drop (pcW dC dI cI cJ cZ [(q_t, .inr (5, [.ref q_t_numbers, .ref q_t_counts, .int v_t_size])), (q_t_numbers, .inl (cI, 9, .inl f_t_numbers)), (q_t_counts, .inl (cI, 10, .inl f_t_counts))] sz [.ref q_t, .int p1]) (va_Qv (fun (_ : Unit) => True) (bW dC dI (va_A [(q_t, .inr (5, [.ref q_t_numbers, .ref q_t_counts, .int v_t_size])), (q_t_numbers, .inl (cI, 9, .inl f_t_numbers)), (q_t_counts, .inl (cI, 10, .inl f_t_counts))] sz) [(q_t, .inr (5, [.ref q_t_numbers, .ref q_t_counts, .int r_v_t_size])), (q_t_numbers, .inl (cI, 9, .inl r_f_t_numbers)), (q_t_counts, .inl (cI, 10, .inl r_f_t_counts))]) (va_A [(q_t, .inr (5, [.ref q_t_numbers, .ref q_t_counts, .int v_t_size])), (q_t_numbers, .inl (cI, 9, .inl f_t_numbers)), (q_t_counts, .inl (cI, 10, .inl f_t_counts))] sz)) 0 0 (va_A [(q_t, .inr (5, [.ref q_t_numbers, .ref q_t_counts, .int v_t_size])), (q_t_numbers, .inl (cI, 9, .inl f_t_numbers)), (q_t_counts, .inl (cI, 10, .inl f_t_counts))] sz) := by
  refine Met.ofW (cc := cX5_drop) (maxL := 3) (ret := none) (by decide) rfl ?_
  intro p e s m args below meth c s₁ B hml hv
  obtain ⟨rfl, hsz, hP, hKK, hD0⟩ := hv
  have hx := B.exec
  have hb := B.bytes
  have hr := B.returns
  have hts := atoms_spec (ws := wsX5_drop) B.pre
  have hown : s.vm.findClass RX5 = some m.cls := findClass_of_methodNamed B.named
  have hlocks := B.notSynchronized
  have hK := hKK.1
  subst hsz
  have hD := hD0.self (sz := s.heap.size)
  generalize hAe : va_A [(q_t, .inr (5, [.ref q_t_numbers, .ref q_t_counts, .int v_t_size])), (q_t_numbers, .inl (cI, 9, .inl f_t_numbers)), (q_t_counts, .inl (cI, 10, .inl f_t_counts))] s.heap.size = A at hD ⊢
  have hA : ∀ q : Nat, s.heap.size ≤ q → A q := fun q h => by rw [← hAe]; exact Or.inr h
  have hS : va_S A s.heap s.heap [] := va_S.rf
  have hl := lv_entry ([.ref q_t, .int p1]) (n := 3) (Nat.le_of_ble_eq_true rfl)
  rw [lg_entry_eq]
  generalize (lg_sl ([.ref q_t, .int p1]) ++ List.replicate (3 - (lg_sl ([.ref q_t, .int p1])).length) Slot.unset).toArray = ls at hl ⊢
  have hl : lv_has ls 3 [(0, .ref q_t), (1, .int p1)] := hl
  have L_35 : ∀ (n35 : Nat) , ∀ (v_t_size : Int32) (f_t_numbers : (Nat → Int32)) (f_t_counts : (Nat → Int32)) (x2 : Int32), X5_drop_b35 n35 v_t_size f_t_numbers f_t_counts x2 = some (r_v_t_size, r_f_t_numbers, r_f_t_counts) → ∀ (H : Heap) (locs : List Loc) (ls : Array Slot), va_P (dC, dI) vwCl [(q_t, .inr (5, [.ref q_t_numbers, .ref q_t_counts, .int v_t_size])), (q_t_numbers, .inl (cI, 9, .inl f_t_numbers)), (q_t_counts, .inl (cI, 10, .inl f_t_counts))] H → va_D A [(q_t, .inr (5, [.ref q_t_numbers, .ref q_t_counts, .int v_t_size])), (q_t_numbers, .inl (cI, 9, .inl f_t_numbers)), (q_t_counts, .inl (cI, 10, .inl f_t_counts))] → va_S A s.heap H locs → lv_has ls 3 [(0, .ref q_t), (2, .int x2)] → W p l e (headSpec wsX5_drop rm_X5_drop).room s m ([.ref q_t, .int p1] : List Value).toArray below meth c H locs 0 0 (MQ below (va_Qv (fun (_ : Unit) => True) (bW dC dI A [(q_t, .inr (5, [.ref q_t_numbers, .ref q_t_counts, .int r_v_t_size])), (q_t_numbers, .inl (cI, 9, .inl r_f_t_numbers)), (q_t_counts, .inl (cI, 10, .inl r_f_t_counts))]) A) ([.ref q_t, .int p1] : List Value).toArray s 0 0 A) (F0 m 35 ls []) := by
    intro n35
    induction n35 with
    | zero => intro v_t_size f_t_numbers f_t_counts x2 h H locs ls hP hD hS hl; exact absurd h (fun h => by cases h)
    | succ n35 ih_35 =>
      intro v_t_size f_t_numbers f_t_counts x2 h H locs ls hP hD hS hl
      replace h : X5_drop_b35_s (X5_drop_b35 n35) v_t_size f_t_numbers f_t_counts x2 = some (r_v_t_size, r_f_t_numbers, r_f_t_counts) := h
      unfold X5_drop_b35_s at h
      refine lv_iload_n hx hb dX5_drop_35 rfl (lv_at hl 1 rfl) ?_
      refine lv_aload_n hx hb dX5_drop_36 rfl (lv_at hl 0 rfl) ?_
      refine va_get (D := (dC, dI)) (ci := 5) (v := .int v_t_size) (C := RX5) (T := TX5) (N := 3) hx hb hts in_X5_drop_X5 hown hK hP 0 rfl rfl 2 (by decide) (hts (.fieldLink RX5 18 "RightIfAsMany$People" "size" "I") (List.mem_of_getElem? (i := 3) rfl)) (fun _ h9 => h9) rfl dX5_drop_37 ?_
      refine lv_icmp_ge (tgt := 63) hx hb dX5_drop_40 (by decide) (fun c1 => ?_) (fun c1 => ?_)
      · replace h := ite_t h c1
        replace h := Option.some.inj h
        obtain ⟨e1, e2, e3⟩ := pr3 h
        exact W.vret hx hb hr (fun t ht hW => ⟨⟨(), rfl, trivial, (by rw [ht, ← e1, ← e2, ← e3]; exact hP), (by rw [← e1, ← e2, ← e3]; exact hD)⟩, hS.F ht⟩) hS.2.2 dX5_drop_63
      replace h := ite_f h c1
      refine lv_aload_n hx hb dX5_drop_43 rfl (lv_at hl 0 rfl) ?_
      refine va_get (D := (dC, dI)) (ci := 5) (v := .ref q_t_numbers) (C := RX5) (T := TX5) (N := 3) hx hb hts in_X5_drop_X5 hown hK hP 0 rfl rfl 0 (by decide) (hts (.fieldLink RX5 9 "RightIfAsMany$People" "numbers" "[I") (List.mem_of_getElem? (i := 2) rfl)) (fun _ h9 => h9) rfl dX5_drop_44 ?_
      refine lv_iload_n hx hb dX5_drop_47 rfl (lv_at hl 1 rfl) ?_
      refine lv_aload_n hx hb dX5_drop_48 rfl (lv_at hl 0 rfl) ?_
      refine va_get (D := (dC, dI)) (ci := 5) (v := .ref q_t_numbers) (C := RX5) (T := TX5) (N := 3) hx hb hts in_X5_drop_X5 hown hK hP 0 rfl rfl 0 (by decide) (hts (.fieldLink RX5 9 "RightIfAsMany$People" "numbers" "[I") (List.mem_of_getElem? (i := 2) rfl)) (fun _ h9 => h9) rfl dX5_drop_49 ?_
      refine lv_iload_n hx hb dX5_drop_52 rfl (lv_at hl 1 rfl) ?_
      refine lv_iconst (v := (1 : Int32)) hx hb dX5_drop_53 (by decide) ?_
      refine lv_iadd hx hb dX5_drop_54 ?_
      obtain ⟨hg2, h⟩ := grd_s h
      refine va_iald hx hb hK hP 1 0 rfl rfl hg2 dX5_drop_55 ?_
      obtain ⟨hg3, h⟩ := grd_s h
      refine va_iast hx hb hK hP hD hS 1 0 rfl rfl hg3 dX5_drop_56 (fun H locs hP hD hS => ?_)
      have hP : va_P (dC, dI) vwCl [(q_t, .inr (5, [.ref q_t_numbers, .ref q_t_counts, .int v_t_size])), (q_t_numbers, .inl (cI, 9, .inl (upd f_t_numbers x2.toNatClampNeg (f_t_numbers (x2 + (1 : Int32)).toNatClampNeg)))), (q_t_counts, .inl (cI, 10, .inl f_t_counts))] H := hP
      have hD : va_D A [(q_t, .inr (5, [.ref q_t_numbers, .ref q_t_counts, .int v_t_size])), (q_t_numbers, .inl (cI, 9, .inl (upd f_t_numbers x2.toNatClampNeg (f_t_numbers (x2 + (1 : Int32)).toNatClampNeg)))), (q_t_counts, .inl (cI, 10, .inl f_t_counts))] := hD
      refine lv_iinc (v := (x2 + (1 : Int32))) (lv' := [(2, .int (x2 + (1 : Int32))), (0, .ref q_t)]) hx hb dX5_drop_57 hl (k := 1) rfl rfl (by decide) rfl (fun ls hl => ?_)
      refine lv_goto (tgt := 35) hx hb dX5_drop_60 (by decide) ?_
      exact ih_35 v_t_size (upd f_t_numbers x2.toNatClampNeg (f_t_numbers (x2 + (1 : Int32)).toNatClampNeg)) f_t_counts (x2 + (1 : Int32)) h H locs ls hP hD hS (lv_sub hl [1, 0] rfl)
  unfold X5_drop at h
  obtain ⟨H, hHe⟩ : ∃ H, H = s.heap := ⟨_, rfl⟩
  obtain ⟨locs, hLe⟩ : ∃ x : List Loc, x = [] := ⟨_, rfl⟩
  rw [← hHe] at hP
  have hS : va_S A s.heap H locs := by rw [hHe, hLe]; exact hS
  suffices hW : W p l e (headSpec wsX5_drop rm_X5_drop).room s m ([.ref q_t, .int p1] : List Value).toArray below meth c H locs 0 0 (MQ below (va_Qv (fun (_ : Unit) => True) (bW dC dI A [(q_t, .inr (5, [.ref q_t_numbers, .ref q_t_counts, .int r_v_t_size])), (q_t_numbers, .inl (cI, 9, .inl r_f_t_numbers)), (q_t_counts, .inl (cI, 10, .inl r_f_t_counts))]) A) ([.ref q_t, .int p1] : List Value).toArray s 0 0 A) (F0 m 0 ls []) by rw [hHe, hLe] at hW; exact hW
  refine lv_aload_n hx hb dX5_drop_0 rfl (lv_at hl 0 rfl) ?_
  refine lv_iload_n hx hb dX5_drop_1 rfl (lv_at hl 1 rfl) ?_
  refine kRz (res := (X5_has v_t_size p1)) (va_runV (As := [.int p1]) (rest := []) ⟨hx, hb, hml, hown, hts⟩ (cn_X5_has l dC dI cI cJ cZ q_t q_t_numbers q_t_counts  v_t_size p1 (X5_has v_t_size p1) rfl) (cwV 1 hts gX5_drop_X5_has rfl rfl rfl (by decide +kernel) ⟨Nat.le_of_ble_eq_true rfl, Nat.le_of_ble_eq_true rfl⟩) (preR hKK (hP.sub (ws' := [(q_t, .inr (5, [.ref q_t_numbers, .ref q_t_counts, .int v_t_size]))]) [0] rfl) (ci := 5) (q0 := 0) rfl rfl) rfl rfl hl.1 rfl (lv_room (Nat.le_of_ble_eq_true rfl)) dX5_drop_2 ⟨Nat.zero_le _, Nat.zero_le _⟩) (fun hz4 => ?_)
  refine lv_if_eq (tgt := 63) hx hb dX5_drop_5 (by decide) (fun c5 => ?_) (fun c5 => ?_)
  · replace h := ite_t h c5
    replace h := Option.some.inj h
    obtain ⟨e1, e2, e3⟩ := pr3 h
    exact W.vret hx hb hr (fun t ht hW => ⟨⟨(), rfl, trivial, (by rw [ht, ← e1, ← e2, ← e3]; exact hP), (by rw [← e1, ← e2, ← e3]; exact hD)⟩, hS.F ht⟩) hS.2.2 dX5_drop_63
  replace h := ite_f h c5
  refine lv_aload_n hx hb dX5_drop_8 rfl (lv_at hl 0 rfl) ?_
  refine va_get (D := (dC, dI)) (ci := 5) (v := .ref q_t_counts) (C := RX5) (T := TX5) (N := 3) hx hb hts in_X5_drop_X5 hown hK hP 0 rfl rfl 1 (by decide) (hts (.fieldLink RX5 15 "RightIfAsMany$People" "counts" "[I") (List.mem_of_getElem? (i := 1) rfl)) (fun _ h9 => h9) rfl dX5_drop_9 ?_
  refine lv_aload_n hx hb dX5_drop_12 rfl (lv_at hl 0 rfl) ?_
  refine va_get (D := (dC, dI)) (ci := 5) (v := .ref q_t_numbers) (C := RX5) (T := TX5) (N := 3) hx hb hts in_X5_drop_X5 hown hK hP 0 rfl rfl 0 (by decide) (hts (.fieldLink RX5 9 "RightIfAsMany$People" "numbers" "[I") (List.mem_of_getElem? (i := 2) rfl)) (fun _ h9 => h9) rfl dX5_drop_13 ?_
  refine lv_iload_n hx hb dX5_drop_16 rfl (lv_at hl 1 rfl) ?_
  obtain ⟨hg6, h⟩ := grd_s h
  refine va_iald hx hb hK hP 1 0 rfl rfl hg6 dX5_drop_17 ?_
  refine lv_dup2_11 hx hb dX5_drop_18 rfl rfl ?_
  obtain ⟨hg7, h⟩ := grd_s h
  refine va_iald hx hb hK hP 2 0 rfl rfl hg7 dX5_drop_19 ?_
  refine lv_iconst (v := (1 : Int32)) hx hb dX5_drop_20 (by decide) ?_
  refine lv_isub hx hb dX5_drop_21 ?_
  obtain ⟨hg8, h⟩ := grd_s h
  refine va_iast hx hb hK hP hD hS 2 0 rfl rfl hg8 dX5_drop_22 (fun H locs hP hD hS => ?_)
  have hP : va_P (dC, dI) vwCl [(q_t, .inr (5, [.ref q_t_numbers, .ref q_t_counts, .int v_t_size])), (q_t_numbers, .inl (cI, 9, .inl f_t_numbers)), (q_t_counts, .inl (cI, 10, .inl (upd f_t_counts (f_t_numbers p1.toNatClampNeg).toNatClampNeg ((f_t_counts (f_t_numbers p1.toNatClampNeg).toNatClampNeg) - (1 : Int32)))))] H := hP
  have hD : va_D A [(q_t, .inr (5, [.ref q_t_numbers, .ref q_t_counts, .int v_t_size])), (q_t_numbers, .inl (cI, 9, .inl f_t_numbers)), (q_t_counts, .inl (cI, 10, .inl (upd f_t_counts (f_t_numbers p1.toNatClampNeg).toNatClampNeg ((f_t_counts (f_t_numbers p1.toNatClampNeg).toNatClampNeg) - (1 : Int32)))))] := hD
  refine lv_aload_n hx hb dX5_drop_23 rfl (lv_at hl 0 rfl) ?_
  refine lv_dup hx hb dX5_drop_24 rfl ?_
  refine va_get (D := (dC, dI)) (ci := 5) (v := .int v_t_size) (C := RX5) (T := TX5) (N := 3) hx hb hts in_X5_drop_X5 hown hK hP 0 rfl rfl 2 (by decide) (hts (.fieldLink RX5 18 "RightIfAsMany$People" "size" "I") (List.mem_of_getElem? (i := 3) rfl)) (fun _ h9 => h9) rfl dX5_drop_25 ?_
  refine lv_iconst (v := (1 : Int32)) hx hb dX5_drop_28 (by decide) ?_
  refine lv_isub hx hb dX5_drop_29 ?_
  refine va_put (D := (dC, dI)) (ci := 5) (v := .int (v_t_size - (1 : Int32))) (ty := .int) (C := RX5) (T := TX5) (N := 3) hx hb hts in_X5_drop_X5 tyX5 tyX5_ok nmX5 hown hK hP hD hS 0 rfl rfl 2 (by decide) (hts (.fieldLink RX5 18 "RightIfAsMany$People" "size" "I") (List.mem_of_getElem? (i := 3) rfl)) (fun _ h9 => h9) rfl (by decide +kernel) rfl rfl (Nat.le_of_ble_eq_true rfl) dX5_drop_30 (fun H locs hP hD hS => ?_)
  have hP : va_P (dC, dI) vwCl [(q_t, .inr (5, [.ref q_t_numbers, .ref q_t_counts, .int (v_t_size - (1 : Int32))])), (q_t_numbers, .inl (cI, 9, .inl f_t_numbers)), (q_t_counts, .inl (cI, 10, .inl (upd f_t_counts (f_t_numbers p1.toNatClampNeg).toNatClampNeg ((f_t_counts (f_t_numbers p1.toNatClampNeg).toNatClampNeg) - (1 : Int32)))))] H := hP
  have hD : va_D A [(q_t, .inr (5, [.ref q_t_numbers, .ref q_t_counts, .int (v_t_size - (1 : Int32))])), (q_t_numbers, .inl (cI, 9, .inl f_t_numbers)), (q_t_counts, .inl (cI, 10, .inl (upd f_t_counts (f_t_numbers p1.toNatClampNeg).toNatClampNeg ((f_t_counts (f_t_numbers p1.toNatClampNeg).toNatClampNeg) - (1 : Int32)))))] := hD
  refine lv_iload_n hx hb dX5_drop_33 rfl (lv_at hl 1 rfl) ?_
  refine lv_istore_n (lv' := [(2, .int p1), (0, .ref q_t), (1, .int p1)]) hx hb dX5_drop_34 rfl hl (by decide) rfl (fun ls hl => ?_)
  exact L_35 fU (v_t_size - (1 : Int32)) f_t_numbers (upd f_t_counts (f_t_numbers p1.toNatClampNeg).toNatClampNeg ((f_t_counts (f_t_numbers p1.toNatClampNeg).toNatClampNeg) - (1 : Int32))) p1 h H locs ls hP hD hS (lv_sub hl [1, 0] rfl)
abbrev rm_X10_leave : Room := { frames := 2, cells := 0, slots := 0, locals := 82 }
theorem in_X10_leave_X2 : ∀ w ∈ wsX20, w ∈ wsX10_leave := fun _ h => List.mem_cons_of_mem _ (List.mem_append_right _ h)
theorem in_X10_leave_X5 : ∀ w ∈ wsX50, w ∈ wsX10_leave := fun _ h => List.mem_cons_of_mem _ (List.mem_append_left _ (List.mem_append_right _ h))
theorem in_X10_leave_X10 : ∀ w ∈ wsX100, w ∈ wsX10_leave := fun _ h => List.mem_cons_of_mem _ (List.mem_append_left _ (List.mem_append_left _ (List.mem_append_right _ h)))
set_option maxHeartbeats 4000000 in
set_option maxRecDepth 100000 in
theorem cn_X10_leave (l : Launch) (dC : Nat → ClassId) (dI : Nat → Nat → Nat) (cI cJ cZ : ClassId) (q_t q_t_text q_t_reader q_t_rules q_t_people q_t_memory q_t_rows q_t_chances q_t_moves q_t_payments q_t_evenings q_t_people_numbers q_t_people_counts q_t_memory_row q_t_memory_slots : Nat) (sz : Nat) (v_t_people_size : Int32) (f_t_people_numbers : (Nat → Int32)) (f_t_people_counts : (Nat → Int32)) (v_t_memory_acts : Int32) (f_t_memory_row : (Nat → Int64)) (p1 : Int32) (res : Int32) (r_v_t_people_size : Int32) (r_f_t_people_numbers : (Nat → Int32)) (r_f_t_people_counts : (Nat → Int32)) (r_v_t_memory_acts : Int32) (r_f_t_memory_row : (Nat → Int64)) (h : X10_leave v_t_people_size f_t_people_numbers f_t_people_counts v_t_memory_acts f_t_memory_row p1 = some (res, r_v_t_people_size, r_f_t_people_numbers, r_f_t_people_counts, r_v_t_memory_acts, r_f_t_memory_row)) : Met l yX10_leave wsX10_leave rm_X10_leave (pcW dC dI cI cJ cZ [(q_t, .inr (10, [.ref q_t_text, .ref q_t_reader, .ref q_t_rules, .ref q_t_people, .ref q_t_memory, .ref q_t_rows, .ref q_t_chances, .ref q_t_moves, .ref q_t_payments, .ref q_t_evenings])), (q_t_people, .inr (5, [.ref q_t_people_numbers, .ref q_t_people_counts, .int v_t_people_size])), (q_t_people_numbers, .inl (cI, 9, .inl f_t_people_numbers)), (q_t_people_counts, .inl (cI, 10, .inl f_t_people_counts)), (q_t_memory, .inr (2, [.ref q_t_memory_row, .ref q_t_memory_slots, .int v_t_memory_acts])), (q_t_memory_row, .inl (cJ, 16, .inr (.inl f_t_memory_row)))] sz [.ref q_t, .int p1]) (va_Qi (fun (r : Int32) (_ : Unit) => r = res) (bW dC dI (va_A [(q_t, .inr (10, [.ref q_t_text, .ref q_t_reader, .ref q_t_rules, .ref q_t_people, .ref q_t_memory, .ref q_t_rows, .ref q_t_chances, .ref q_t_moves, .ref q_t_payments, .ref q_t_evenings])), (q_t_people, .inr (5, [.ref q_t_people_numbers, .ref q_t_people_counts, .int v_t_people_size])), (q_t_people_numbers, .inl (cI, 9, .inl f_t_people_numbers)), (q_t_people_counts, .inl (cI, 10, .inl f_t_people_counts)), (q_t_memory, .inr (2, [.ref q_t_memory_row, .ref q_t_memory_slots, .int v_t_memory_acts])), (q_t_memory_row, .inl (cJ, 16, .inr (.inl f_t_memory_row)))] sz) [(q_t, .inr (10, [.ref q_t_text, .ref q_t_reader, .ref q_t_rules, .ref q_t_people, .ref q_t_memory, .ref q_t_rows, .ref q_t_chances, .ref q_t_moves, .ref q_t_payments, .ref q_t_evenings])), (q_t_people, .inr (5, [.ref q_t_people_numbers, .ref q_t_people_counts, .int r_v_t_people_size])), (q_t_people_numbers, .inl (cI, 9, .inl r_f_t_people_numbers)), (q_t_people_counts, .inl (cI, 10, .inl r_f_t_people_counts)), (q_t_memory, .inr (2, [.ref q_t_memory_row, .ref q_t_memory_slots, .int r_v_t_memory_acts])), (q_t_memory_row, .inl (cJ, 16, .inr (.inl r_f_t_memory_row)))]) (va_A [(q_t, .inr (10, [.ref q_t_text, .ref q_t_reader, .ref q_t_rules, .ref q_t_people, .ref q_t_memory, .ref q_t_rows, .ref q_t_chances, .ref q_t_moves, .ref q_t_payments, .ref q_t_evenings])), (q_t_people, .inr (5, [.ref q_t_people_numbers, .ref q_t_people_counts, .int v_t_people_size])), (q_t_people_numbers, .inl (cI, 9, .inl f_t_people_numbers)), (q_t_people_counts, .inl (cI, 10, .inl f_t_people_counts)), (q_t_memory, .inr (2, [.ref q_t_memory_row, .ref q_t_memory_slots, .int v_t_memory_acts])), (q_t_memory_row, .inl (cJ, 16, .inr (.inl f_t_memory_row)))] sz)) 0 0 (va_A [(q_t, .inr (10, [.ref q_t_text, .ref q_t_reader, .ref q_t_rules, .ref q_t_people, .ref q_t_memory, .ref q_t_rows, .ref q_t_chances, .ref q_t_moves, .ref q_t_payments, .ref q_t_evenings])), (q_t_people, .inr (5, [.ref q_t_people_numbers, .ref q_t_people_counts, .int v_t_people_size])), (q_t_people_numbers, .inl (cI, 9, .inl f_t_people_numbers)), (q_t_people_counts, .inl (cI, 10, .inl f_t_people_counts)), (q_t_memory, .inr (2, [.ref q_t_memory_row, .ref q_t_memory_slots, .int v_t_memory_acts])), (q_t_memory_row, .inl (cJ, 16, .inr (.inl f_t_memory_row)))] sz) := by
  refine Met.ofW (cc := cX10_leave) (maxL := 3) (ret := (some .int)) (by decide) rfl ?_
  intro p e s m args below meth c s₁ B hml hv
  obtain ⟨rfl, hsz, hP, hKK, hD0⟩ := hv
  have hx := B.exec
  have hb := B.bytes
  have hr := B.returns
  have hts := atoms_spec (ws := wsX10_leave) B.pre
  have hown : s.vm.findClass RX10 = some m.cls := findClass_of_methodNamed B.named
  have hlocks := B.notSynchronized
  have hK := hKK.1
  subst hsz
  have hD := hD0.self (sz := s.heap.size)
  generalize hAe : va_A [(q_t, .inr (10, [.ref q_t_text, .ref q_t_reader, .ref q_t_rules, .ref q_t_people, .ref q_t_memory, .ref q_t_rows, .ref q_t_chances, .ref q_t_moves, .ref q_t_payments, .ref q_t_evenings])), (q_t_people, .inr (5, [.ref q_t_people_numbers, .ref q_t_people_counts, .int v_t_people_size])), (q_t_people_numbers, .inl (cI, 9, .inl f_t_people_numbers)), (q_t_people_counts, .inl (cI, 10, .inl f_t_people_counts)), (q_t_memory, .inr (2, [.ref q_t_memory_row, .ref q_t_memory_slots, .int v_t_memory_acts])), (q_t_memory_row, .inl (cJ, 16, .inr (.inl f_t_memory_row)))] s.heap.size = A at hD ⊢
  have hA : ∀ q : Nat, s.heap.size ≤ q → A q := fun q h => by rw [← hAe]; exact Or.inr h
  have hS : va_S A s.heap s.heap [] := va_S.rf
  have hl := lv_entry ([.ref q_t, .int p1]) (n := 3) (Nat.le_of_ble_eq_true rfl)
  rw [lg_entry_eq]
  generalize (lg_sl ([.ref q_t, .int p1]) ++ List.replicate (3 - (lg_sl ([.ref q_t, .int p1])).length) Slot.unset).toArray = ls at hl ⊢
  have hl : lv_has ls 3 [(0, .ref q_t), (1, .int p1)] := hl
  unfold X10_leave at h
  obtain ⟨H, hHe⟩ : ∃ H, H = s.heap := ⟨_, rfl⟩
  obtain ⟨locs, hLe⟩ : ∃ x : List Loc, x = [] := ⟨_, rfl⟩
  rw [← hHe] at hP
  have hS : va_S A s.heap H locs := by rw [hHe, hLe]; exact hS
  suffices hW : W p l e (headSpec wsX10_leave rm_X10_leave).room s m ([.ref q_t, .int p1] : List Value).toArray below meth c H locs 0 0 (MQ below (va_Qi (fun (r : Int32) (_ : Unit) => r = res) (bW dC dI A [(q_t, .inr (10, [.ref q_t_text, .ref q_t_reader, .ref q_t_rules, .ref q_t_people, .ref q_t_memory, .ref q_t_rows, .ref q_t_chances, .ref q_t_moves, .ref q_t_payments, .ref q_t_evenings])), (q_t_people, .inr (5, [.ref q_t_people_numbers, .ref q_t_people_counts, .int r_v_t_people_size])), (q_t_people_numbers, .inl (cI, 9, .inl r_f_t_people_numbers)), (q_t_people_counts, .inl (cI, 10, .inl r_f_t_people_counts)), (q_t_memory, .inr (2, [.ref q_t_memory_row, .ref q_t_memory_slots, .int r_v_t_memory_acts])), (q_t_memory_row, .inl (cJ, 16, .inr (.inl r_f_t_memory_row)))]) A) ([.ref q_t, .int p1] : List Value).toArray s 0 0 A) (F0 m 0 ls []) by rw [hHe, hLe] at hW; exact hW
  refine lv_aload_n hx hb dX10_leave_0 rfl (lv_at hl 0 rfl) ?_
  refine va_get (D := (dC, dI)) (ci := 10) (v := .ref q_t_people) (C := RX10) (T := TX10) (N := 10) hx hb hts in_X10_leave_X10 hown hK hP 0 rfl rfl 3 (by decide) (hts (.fieldLink RX10 33 "RightIfAsMany" "people" "LRightIfAsMany$People;") (List.mem_of_getElem? (i := 1) rfl)) (fun _ h9 => h9) rfl dX10_leave_1 ?_
  refine lv_iload_n hx hb dX10_leave_4 rfl (lv_at hl 1 rfl) ?_
  refine kRz (res := (X5_has v_t_people_size p1)) (va_runV (As := [.int p1]) (rest := []) ⟨hx, hb, hml, hown, hts⟩ (cn_X5_has l dC dI cI cJ cZ q_t_people q_t_people_numbers q_t_people_counts  v_t_people_size p1 (X5_has v_t_people_size p1) rfl) (cwV 1 hts gX10_leave_X5_has rfl rfl rfl (by decide +kernel) ⟨Nat.le_of_ble_eq_true rfl, Nat.le_of_ble_eq_true rfl⟩) (preR hKK (hP.sub (ws' := [(q_t_people, .inr (5, [.ref q_t_people_numbers, .ref q_t_people_counts, .int v_t_people_size]))]) [1] rfl) (ci := 5) (q0 := 0) rfl rfl) rfl rfl hl.1 rfl (lv_room (Nat.le_of_ble_eq_true rfl)) dX10_leave_5 ⟨Nat.zero_le _, Nat.zero_le _⟩) (fun hz1 => ?_)
  refine lv_if_ne (tgt := 13) hx hb dX10_leave_8 (by decide) (fun c2 => ?_) (fun c2 => ?_)
  · replace h := ite_f h c2
    refine lv_aload_n hx hb dX10_leave_13 rfl (lv_at hl 0 rfl) ?_
    refine va_get (D := (dC, dI)) (ci := 10) (v := .ref q_t_people) (C := RX10) (T := TX10) (N := 10) hx hb hts in_X10_leave_X10 hown hK hP 0 rfl rfl 3 (by decide) (hts (.fieldLink RX10 33 "RightIfAsMany" "people" "LRightIfAsMany$People;") (List.mem_of_getElem? (i := 1) rfl)) (fun _ h9 => h9) rfl dX10_leave_14 ?_
    refine lv_iload_n hx hb dX10_leave_17 rfl (lv_at hl 1 rfl) ?_
    obtain ⟨r3, hc3, h⟩ := bnd1_s h
    refine kRi (res := r3) (va_runV (As := [.int p1]) (rest := []) ⟨hx, hb, hml, hown, hts⟩ (cn_X5_numberOf l dC dI cI cJ cZ q_t_people q_t_people_numbers q_t_people_counts  v_t_people_size f_t_people_numbers p1 r3 hc3) (cwV 1 hts gX10_leave_X5_numberOf rfl rfl rfl (by decide +kernel) ⟨Nat.le_of_ble_eq_true rfl, Nat.le_of_ble_eq_true rfl⟩) (preR hKK (hP.sub (ws' := [(q_t_people, .inr (5, [.ref q_t_people_numbers, .ref q_t_people_counts, .int v_t_people_size])), (q_t_people_numbers, .inl (cI, 9, .inl f_t_people_numbers))]) [1, 2] rfl) (ci := 5) (q0 := 0) rfl rfl) rfl rfl hl.1 rfl (lv_room (Nat.le_of_ble_eq_true rfl)) dX10_leave_18 ⟨Nat.zero_le _, Nat.zero_le _⟩) ?_
    refine lv_istore_n (lv' := [(2, .int r3), (0, .ref q_t), (1, .int p1)]) hx hb dX10_leave_21 rfl hl (by decide) rfl (fun ls hl => ?_)
    refine lv_aload_n hx hb dX10_leave_22 rfl (lv_at hl 1 rfl) ?_
    refine va_get (D := (dC, dI)) (ci := 10) (v := .ref q_t_memory) (C := RX10) (T := TX10) (N := 10) hx hb hts in_X10_leave_X10 hown hK hP 0 rfl rfl 4 (by decide) (hts (.fieldLink RX10 40 "RightIfAsMany" "memory" "LRightIfAsMany$Memory;") (List.mem_of_getElem? (i := 2) rfl)) (fun _ h9 => h9) rfl dX10_leave_23 ?_
    refine lv_aload_n hx hb dX10_leave_26 rfl (lv_at hl 1 rfl) ?_
    refine va_get (D := (dC, dI)) (ci := 10) (v := .ref q_t_people) (C := RX10) (T := TX10) (N := 10) hx hb hts in_X10_leave_X10 hown hK hP 0 rfl rfl 3 (by decide) (hts (.fieldLink RX10 33 "RightIfAsMany" "people" "LRightIfAsMany$People;") (List.mem_of_getElem? (i := 1) rfl)) (fun _ h9 => h9) rfl dX10_leave_27 ?_
    obtain ⟨r4, hc4, h⟩ := bnd1_s h
    refine kRl (res := r4) (va_runV (As := []) (rest := [.ref q_t_memory]) ⟨hx, hb, hml, hown, hts⟩ (cn_X5_pack l dC dI cI cJ cZ q_t_people q_t_people_numbers q_t_people_counts  v_t_people_size f_t_people_numbers  r4 hc4) (cwV 0 hts gX10_leave_X5_pack rfl rfl rfl (by decide +kernel) ⟨Nat.le_of_ble_eq_true rfl, Nat.le_of_ble_eq_true rfl⟩) (preR hKK (hP.sub (ws' := [(q_t_people, .inr (5, [.ref q_t_people_numbers, .ref q_t_people_counts, .int v_t_people_size])), (q_t_people_numbers, .inl (cI, 9, .inl f_t_people_numbers))]) [1, 2] rfl) (ci := 5) (q0 := 0) rfl rfl) rfl rfl hl.1 rfl (lv_room (Nat.le_of_ble_eq_true rfl)) dX10_leave_30 ⟨Nat.zero_le _, Nat.zero_le _⟩) ?_
    obtain ⟨w5_0, w5_1, hc5, h⟩ := bnd2_s h
    refine kWv (wc := [(q_t_memory, .inr (2, [.ref q_t_memory_row, .ref q_t_memory_slots, .int v_t_memory_acts])), (q_t_memory_row, .inl (cJ, 16, .inr (.inl f_t_memory_row)))]) (wr := [(q_t, .inr (10, [.ref q_t_text, .ref q_t_reader, .ref q_t_rules, .ref q_t_people, .ref q_t_memory, .ref q_t_rows, .ref q_t_chances, .ref q_t_moves, .ref q_t_payments, .ref q_t_evenings])), (q_t_people, .inr (5, [.ref q_t_people_numbers, .ref q_t_people_counts, .int v_t_people_size])), (q_t_people_numbers, .inl (cI, 9, .inl f_t_people_numbers)), (q_t_people_counts, .inl (cI, 10, .inl f_t_people_counts))]) (w1 := [(q_t_memory, .inr (2, [.ref q_t_memory_row, .ref q_t_memory_slots, .int w5_0])), (q_t_memory_row, .inl (cJ, 16, .inr (.inl w5_1)))]) (wn := [(q_t, .inr (10, [.ref q_t_text, .ref q_t_reader, .ref q_t_rules, .ref q_t_people, .ref q_t_memory, .ref q_t_rows, .ref q_t_chances, .ref q_t_moves, .ref q_t_payments, .ref q_t_evenings])), (q_t_people, .inr (5, [.ref q_t_people_numbers, .ref q_t_people_counts, .int v_t_people_size])), (q_t_people_numbers, .inl (cI, 9, .inl f_t_people_numbers)), (q_t_people_counts, .inl (cI, 10, .inl f_t_people_counts)), (q_t_memory, .inr (2, [.ref q_t_memory_row, .ref q_t_memory_slots, .int w5_0])), (q_t_memory_row, .inl (cJ, 16, .inr (.inl w5_1)))]) hP hD hS hA [4, 5] [0, 1, 2, 3] [0, 1, 2, 3, 4, 5] rfl rfl (by decide) (by decide) rfl (by decide) (va_runV (As := [.long r4]) (rest := []) ⟨hx, hb, hml, hown, hts⟩ (cn_X2_addAct l dC dI cI cJ cZ q_t_memory q_t_memory_row q_t_memory_slots H.size v_t_memory_acts f_t_memory_row r4 w5_0 w5_1 hc5) (cwV 1 hts gX10_leave_X2_addAct rfl rfl rfl (by decide +kernel) ⟨Nat.le_of_ble_eq_true rfl, Nat.le_of_ble_eq_true rfl⟩) (preW hKK (hP.sub (ws' := [(q_t_memory, .inr (2, [.ref q_t_memory_row, .ref q_t_memory_slots, .int v_t_memory_acts])), (q_t_memory_row, .inl (cJ, 16, .inr (.inl f_t_memory_row)))]) [4, 5] rfl) (hD.sub (ws' := [(q_t_memory, .inr (2, [.ref q_t_memory_row, .ref q_t_memory_slots, .int v_t_memory_acts])), (q_t_memory_row, .inl (cJ, 16, .inr (.inl f_t_memory_row)))]) [4, 5] (by decide) rfl) (ci := 2) (q0 := 0) rfl rfl) rfl rfl hl.1 rfl (lv_room (Nat.le_of_ble_eq_true rfl)) dX10_leave_33 ⟨Nat.zero_le _, Nat.zero_le _⟩) (fun H locs hP hD hS => ?_)
    refine lv_aload_n hx hb dX10_leave_36 rfl (lv_at hl 1 rfl) ?_
    refine va_get (D := (dC, dI)) (ci := 10) (v := .ref q_t_people) (C := RX10) (T := TX10) (N := 10) hx hb hts in_X10_leave_X10 hown hK hP 0 rfl rfl 3 (by decide) (hts (.fieldLink RX10 33 "RightIfAsMany" "people" "LRightIfAsMany$People;") (List.mem_of_getElem? (i := 1) rfl)) (fun _ h9 => h9) rfl dX10_leave_37 ?_
    refine lv_iload_n hx hb dX10_leave_40 rfl (lv_at hl 2 rfl) ?_
    obtain ⟨w6_0, w6_1, w6_2, hc6, h⟩ := bnd3_s h
    refine kWv (wc := [(q_t_people, .inr (5, [.ref q_t_people_numbers, .ref q_t_people_counts, .int v_t_people_size])), (q_t_people_numbers, .inl (cI, 9, .inl f_t_people_numbers)), (q_t_people_counts, .inl (cI, 10, .inl f_t_people_counts))]) (wr := [(q_t, .inr (10, [.ref q_t_text, .ref q_t_reader, .ref q_t_rules, .ref q_t_people, .ref q_t_memory, .ref q_t_rows, .ref q_t_chances, .ref q_t_moves, .ref q_t_payments, .ref q_t_evenings])), (q_t_memory, .inr (2, [.ref q_t_memory_row, .ref q_t_memory_slots, .int w5_0])), (q_t_memory_row, .inl (cJ, 16, .inr (.inl w5_1)))]) (w1 := [(q_t_people, .inr (5, [.ref q_t_people_numbers, .ref q_t_people_counts, .int w6_0])), (q_t_people_numbers, .inl (cI, 9, .inl w6_1)), (q_t_people_counts, .inl (cI, 10, .inl w6_2))]) (wn := [(q_t, .inr (10, [.ref q_t_text, .ref q_t_reader, .ref q_t_rules, .ref q_t_people, .ref q_t_memory, .ref q_t_rows, .ref q_t_chances, .ref q_t_moves, .ref q_t_payments, .ref q_t_evenings])), (q_t_people, .inr (5, [.ref q_t_people_numbers, .ref q_t_people_counts, .int w6_0])), (q_t_people_numbers, .inl (cI, 9, .inl w6_1)), (q_t_people_counts, .inl (cI, 10, .inl w6_2)), (q_t_memory, .inr (2, [.ref q_t_memory_row, .ref q_t_memory_slots, .int w5_0])), (q_t_memory_row, .inl (cJ, 16, .inr (.inl w5_1)))]) hP hD hS hA [1, 2, 3] [0, 4, 5] [0, 3, 4, 5, 1, 2] rfl rfl (by decide) (by decide) rfl (by decide) (va_runV (As := [.int p1]) (rest := []) ⟨hx, hb, hml, hown, hts⟩ (cn_X5_drop l dC dI cI cJ cZ q_t_people q_t_people_numbers q_t_people_counts H.size v_t_people_size f_t_people_numbers f_t_people_counts p1 w6_0 w6_1 w6_2 hc6) (cwV 1 hts gX10_leave_X5_drop rfl rfl rfl (by decide +kernel) ⟨Nat.le_of_ble_eq_true rfl, Nat.le_of_ble_eq_true rfl⟩) (preW hKK (hP.sub (ws' := [(q_t_people, .inr (5, [.ref q_t_people_numbers, .ref q_t_people_counts, .int v_t_people_size])), (q_t_people_numbers, .inl (cI, 9, .inl f_t_people_numbers)), (q_t_people_counts, .inl (cI, 10, .inl f_t_people_counts))]) [1, 2, 3] rfl) (hD.sub (ws' := [(q_t_people, .inr (5, [.ref q_t_people_numbers, .ref q_t_people_counts, .int v_t_people_size])), (q_t_people_numbers, .inl (cI, 9, .inl f_t_people_numbers)), (q_t_people_counts, .inl (cI, 10, .inl f_t_people_counts))]) [1, 2, 3] (by decide) rfl) (ci := 5) (q0 := 0) rfl rfl) rfl rfl hl.1 rfl (lv_room (Nat.le_of_ble_eq_true rfl)) dX10_leave_41 ⟨Nat.zero_le _, Nat.zero_le _⟩) (fun H locs hP hD hS => ?_)
    refine lv_iload_n hx hb dX10_leave_44 rfl (lv_at hl 0 rfl) ?_
    replace h := Option.some.inj h
    obtain ⟨e1, e2, e3, e4, e5, e6⟩ := pr6 h
    exact W.iret (v := r3) hx hb hr (fun t ht hW => ⟨⟨_, (), rfl, e1, (by rw [ht, ← e2, ← e3, ← e4, ← e5, ← e6]; exact hP), (by rw [← e2, ← e3, ← e4, ← e5, ← e6]; exact hD)⟩, hS.F ht⟩) hS.2.2 dX10_leave_45
  replace h := ite_t h c2
  refine lv_iconst (v := (-1 : Int32)) hx hb dX10_leave_11 (by decide) ?_
  replace h := Option.some.inj h
  obtain ⟨e1, e2, e3, e4, e5, e6⟩ := pr6 h
  exact W.iret (v := (-1 : Int32)) hx hb hr (fun t ht hW => ⟨⟨_, (), rfl, e1, (by rw [ht, ← e2, ← e3, ← e4, ← e5, ← e6]; exact hP), (by rw [← e2, ← e3, ← e4, ← e5, ← e6]; exact hD)⟩, hS.F ht⟩) hS.2.2 dX10_leave_12
abbrev rm_X8_corrected : Room := { frames := 2, cells := 0, slots := 0, locals := 41 }
theorem in_X8_corrected_X8 : ∀ w ∈ wsX80, w ∈ wsX8_corrected := fun _ h => List.mem_cons_of_mem _ (List.mem_append_right _ h)
set_option maxHeartbeats 4000000 in
set_option maxRecDepth 100000 in
theorem cn_X8_corrected (l : Launch) (dC : Nat → ClassId) (dI : Nat → Nat → Nat) (cI cJ cZ : ClassId) (q_t q_p2 : Nat) (v_t_law : Int32) (v_t_share : Int32) (v_t_pot : Int32) (v_t_barred : Int32) (f_p2 : (Nat → Int32)) (p1 : Int32) (res : Int32) (h : X8_corrected v_t_law v_t_barred f_p2 p1 = some res) : Met l yX8_corrected wsX8_corrected rm_X8_corrected (pcR dC dI cI cJ cZ [(q_t, .inr (8, [.int v_t_law, .int v_t_share, .int v_t_pot, .int v_t_barred])), (q_p2, .inl (cI, 10, .inl f_p2))] [.ref q_t, .int p1, .ref q_p2]) (vp_Si (fun r => r = res)) 0 0 (fun _ => False) := by
  refine Met.ofW (cc := cX8_corrected) (maxL := 4) (ret := (some .int)) (by decide) rfl ?_
  intro p e s m args below meth c s₁ B hml hv
  obtain ⟨rfl, hP, hKK⟩ := hv
  have hx := B.exec
  have hb := B.bytes
  have hr := B.returns
  have hts := atoms_spec (ws := wsX8_corrected) B.pre
  have hown : s.vm.findClass RX8 = some m.cls := findClass_of_methodNamed B.named
  have hlocks := B.notSynchronized
  have hK := hKK.1
  have hl := lv_entry ([.ref q_t, .int p1, .ref q_p2]) (n := 4) (Nat.le_of_ble_eq_true rfl)
  rw [lg_entry_eq]
  generalize (lg_sl ([.ref q_t, .int p1, .ref q_p2]) ++ List.replicate (4 - (lg_sl ([.ref q_t, .int p1, .ref q_p2])).length) Slot.unset).toArray = ls at hl ⊢
  have hl : lv_has ls 4 [(0, .ref q_t), (1, .int p1), (2, .ref q_p2)] := hl
  have L_21 : ∀ (n21 : Nat) , ∀  (x1 : Int32) (x3 : Int32), X8_corrected_b21 n21 v_t_law v_t_barred f_p2 x1 x3 = some res → ∀ (ls : Array Slot), lv_has ls 4 [(0, .ref q_t), (1, .int x1), (2, .ref q_p2), (3, .int x3)] → W p l e (headSpec wsX8_corrected rm_X8_corrected).room s m ([.ref q_t, .int p1, .ref q_p2] : List Value).toArray below meth c s.heap [] 0 0 (MQ below (vp_Si (fun r => r = res)) ([.ref q_t, .int p1, .ref q_p2] : List Value).toArray s 0 0 (fun _ => False)) (F0 m 21 ls []) := by
    intro n21
    induction n21 with
    | zero => intro x1 x3 h ls hl; exact absurd h (fun h => by cases h)
    | succ n21 ih_21 =>
      have B_54 : ∀  (x1 : Int32) (x3 : Int32), X8_corrected_b54 (X8_corrected_b21 n21) v_t_law v_t_barred f_p2 x1 x3 = some res → ∀ (ls : Array Slot), lv_has ls 4 [(0, .ref q_t), (1, .int x1), (2, .ref q_p2), (3, .int x3)] → W p l e (headSpec wsX8_corrected rm_X8_corrected).room s m ([.ref q_t, .int p1, .ref q_p2] : List Value).toArray below meth c s.heap [] 0 0 (MQ below (vp_Si (fun r => r = res)) ([.ref q_t, .int p1, .ref q_p2] : List Value).toArray s 0 0 (fun _ => False)) (F0 m 54 ls []) := by
        intro x1 x3 h ls hl
        unfold X8_corrected_b54 at h
        refine lv_iinc (v := (x3 + (1 : Int32))) (lv' := [(3, .int (x3 + (1 : Int32))), (0, .ref q_t), (1, .int x1), (2, .ref q_p2)]) hx hb dX8_corrected_54 hl (k := 3) rfl rfl (by decide) rfl (fun ls hl => ?_)
        refine lv_goto (tgt := 21) hx hb dX8_corrected_57 (by decide) ?_
        exact ih_21 x1 (x3 + (1 : Int32)) h ls (lv_sub hl [1, 2, 3, 0] rfl)
      intro x1 x3 h ls hl
      replace h : X8_corrected_b21_s (X8_corrected_b21 n21) v_t_law v_t_barred f_p2 x1 x3 = some res := h
      unfold X8_corrected_b21_s at h
      refine lv_iload_n hx hb dX8_corrected_21 rfl (lv_at hl 3 rfl) ?_
      refine lv_bipush (v := (10 : Int32)) hx hb dX8_corrected_22 (by decide) ?_
      refine lv_icmp_ge (tgt := 60) hx hb dX8_corrected_24 (by decide) (fun c1 => ?_) (fun c1 => ?_)
      · replace h := ite_t h c1
        refine lv_iload_n hx hb dX8_corrected_60 rfl (lv_at hl 1 rfl) ?_
        have e1 := Option.some.inj h
        exact W.iret (v := x1) hx hb hr (fun t ht hW => ⟨_, rfl, e1, ht⟩) (fun q hq => by cases hq) dX8_corrected_61
      replace h := ite_f h c1
      refine lv_aload_n hx hb dX8_corrected_27 rfl (lv_at hl 0 rfl) ?_
      refine lv_iload_n hx hb dX8_corrected_28 rfl (lv_at hl 3 rfl) ?_
      refine kRz (res := (X8_isOpen v_t_barred x3)) (va_runV (As := [.int x3]) (rest := []) ⟨hx, hb, hml, hown, hts⟩ (cn_X8_isOpen l dC dI cI cJ cZ q_t  v_t_law v_t_share v_t_pot v_t_barred x3 (X8_isOpen v_t_barred x3) rfl) (cwV 1 hts gX8_corrected_X8_isOpen rfl rfl rfl (by decide +kernel) ⟨Nat.le_of_ble_eq_true rfl, Nat.le_of_ble_eq_true rfl⟩) (preR hKK (hP.sub (ws' := [(q_t, .inr (8, [.int v_t_law, .int v_t_share, .int v_t_pot, .int v_t_barred]))]) [0] rfl) (ci := 8) (q0 := 0) rfl rfl) rfl rfl hl.1 rfl (lv_room (Nat.le_of_ble_eq_true rfl)) dX8_corrected_29 ⟨Nat.zero_le _, Nat.zero_le _⟩) (fun hz2 => ?_)
      refine lv_if_eq (tgt := 54) hx hb dX8_corrected_32 (by decide) (fun c3 => ?_) (fun c3 => ?_)
      · replace h := ite_t h c3
        exact B_54 x1 x3 h ls (lv_sub hl [0, 1, 2, 3] rfl)
      replace h := ite_f h c3
      refine lv_aload_n hx hb dX8_corrected_35 rfl (lv_at hl 0 rfl) ?_
      refine lv_iload_n hx hb dX8_corrected_36 rfl (lv_at hl 3 rfl) ?_
      refine lv_aload_n hx hb dX8_corrected_37 rfl (lv_at hl 0 rfl) ?_
      refine lv_iload_n hx hb dX8_corrected_38 rfl (lv_at hl 1 rfl) ?_
      refine lv_iload_n hx hb dX8_corrected_39 rfl (lv_at hl 3 rfl) ?_
      refine lv_aload_n hx hb dX8_corrected_40 rfl (lv_at hl 2 rfl) ?_
      obtain ⟨r4, hc4, h⟩ := bnd1_s h
      refine kRi (res := r4) (va_runV (As := [.int x1, .int x3, .ref q_p2]) (rest := [.int x3, .ref q_t]) ⟨hx, hb, hml, hown, hts⟩ (cn_X8_others l dC dI cI cJ cZ q_t q_p2  v_t_law v_t_share v_t_pot v_t_barred f_p2 x1 x3 r4 hc4) (cwV 3 hts gX8_corrected_X8_others rfl rfl rfl (by decide +kernel) ⟨Nat.le_of_ble_eq_true rfl, Nat.le_of_ble_eq_true rfl⟩) (preR hKK (hP.sub (ws' := [(q_t, .inr (8, [.int v_t_law, .int v_t_share, .int v_t_pot, .int v_t_barred])), (q_p2, .inl (cI, 10, .inl f_p2))]) [0, 1] rfl) (ci := 8) (q0 := 0) rfl rfl) rfl rfl hl.1 rfl (lv_room (Nat.le_of_ble_eq_true rfl)) dX8_corrected_41 ⟨Nat.zero_le _, Nat.zero_le _⟩) ?_
      refine lv_iconst (v := (1 : Int32)) hx hb dX8_corrected_44 (by decide) ?_
      refine lv_iadd hx hb dX8_corrected_45 ?_
      refine kRz (res := (X8_suits v_t_law x3 (r4 + (1 : Int32)))) (va_runV (As := [.int x3, .int (r4 + (1 : Int32))]) (rest := []) ⟨hx, hb, hml, hown, hts⟩ (cn_X8_suits l dC dI cI cJ cZ q_t  v_t_law v_t_share v_t_pot v_t_barred x3 (r4 + (1 : Int32)) (X8_suits v_t_law x3 (r4 + (1 : Int32))) rfl) (cwV 2 hts gX8_corrected_X8_suits rfl rfl rfl (by decide +kernel) ⟨Nat.le_of_ble_eq_true rfl, Nat.le_of_ble_eq_true rfl⟩) (preR hKK (hP.sub (ws' := [(q_t, .inr (8, [.int v_t_law, .int v_t_share, .int v_t_pot, .int v_t_barred]))]) [0] rfl) (ci := 8) (q0 := 0) rfl rfl) rfl rfl hl.1 rfl (lv_room (Nat.le_of_ble_eq_true rfl)) dX8_corrected_46 ⟨Nat.zero_le _, Nat.zero_le _⟩) (fun hz5 => ?_)
      refine lv_if_eq (tgt := 54) hx hb dX8_corrected_49 (by decide) (fun c6 => ?_) (fun c6 => ?_)
      · replace h := ite_t h c6
        exact B_54 x1 x3 h ls (lv_sub hl [0, 1, 2, 3] rfl)
      replace h := ite_f h c6
      refine lv_iload_n hx hb dX8_corrected_52 rfl (lv_at hl 3 rfl) ?_
      have e1 := Option.some.inj h
      exact W.iret (v := x3) hx hb hr (fun t ht hW => ⟨_, rfl, e1, ht⟩) (fun q hq => by cases hq) dX8_corrected_53
  unfold X8_corrected at h
  refine lv_aload_n hx hb dX8_corrected_0 rfl (lv_at hl 0 rfl) ?_
  refine lv_iload_n hx hb dX8_corrected_1 rfl (lv_at hl 1 rfl) ?_
  refine lv_aload_n hx hb dX8_corrected_2 rfl (lv_at hl 0 rfl) ?_
  refine lv_iload_n hx hb dX8_corrected_3 rfl (lv_at hl 1 rfl) ?_
  refine lv_iload_n hx hb dX8_corrected_4 rfl (lv_at hl 1 rfl) ?_
  refine lv_aload_n hx hb dX8_corrected_5 rfl (lv_at hl 2 rfl) ?_
  obtain ⟨r7, hc7, h⟩ := bnd1_s h
  refine kRi (res := r7) (va_runV (As := [.int p1, .int p1, .ref q_p2]) (rest := [.int p1, .ref q_t]) ⟨hx, hb, hml, hown, hts⟩ (cn_X8_others l dC dI cI cJ cZ q_t q_p2  v_t_law v_t_share v_t_pot v_t_barred f_p2 p1 p1 r7 hc7) (cwV 3 hts gX8_corrected_X8_others rfl rfl rfl (by decide +kernel) ⟨Nat.le_of_ble_eq_true rfl, Nat.le_of_ble_eq_true rfl⟩) (preR hKK (hP.sub (ws' := [(q_t, .inr (8, [.int v_t_law, .int v_t_share, .int v_t_pot, .int v_t_barred])), (q_p2, .inl (cI, 10, .inl f_p2))]) [0, 1] rfl) (ci := 8) (q0 := 0) rfl rfl) rfl rfl hl.1 rfl (lv_room (Nat.le_of_ble_eq_true rfl)) dX8_corrected_6 ⟨Nat.zero_le _, Nat.zero_le _⟩) ?_
  refine lv_iconst (v := (1 : Int32)) hx hb dX8_corrected_9 (by decide) ?_
  refine lv_iadd hx hb dX8_corrected_10 ?_
  refine kRz (res := (X8_suits v_t_law p1 (r7 + (1 : Int32)))) (va_runV (As := [.int p1, .int (r7 + (1 : Int32))]) (rest := []) ⟨hx, hb, hml, hown, hts⟩ (cn_X8_suits l dC dI cI cJ cZ q_t  v_t_law v_t_share v_t_pot v_t_barred p1 (r7 + (1 : Int32)) (X8_suits v_t_law p1 (r7 + (1 : Int32))) rfl) (cwV 2 hts gX8_corrected_X8_suits rfl rfl rfl (by decide +kernel) ⟨Nat.le_of_ble_eq_true rfl, Nat.le_of_ble_eq_true rfl⟩) (preR hKK (hP.sub (ws' := [(q_t, .inr (8, [.int v_t_law, .int v_t_share, .int v_t_pot, .int v_t_barred]))]) [0] rfl) (ci := 8) (q0 := 0) rfl rfl) rfl rfl hl.1 rfl (lv_room (Nat.le_of_ble_eq_true rfl)) dX8_corrected_11 ⟨Nat.zero_le _, Nat.zero_le _⟩) (fun hz8 => ?_)
  refine lv_if_eq (tgt := 19) hx hb dX8_corrected_14 (by decide) (fun c9 => ?_) (fun c9 => ?_)
  · replace h := ite_t h c9
    refine lv_iconst (v := (0 : Int32)) hx hb dX8_corrected_19 (by decide) ?_
    refine lv_istore_n (lv' := [(3, .int (0 : Int32)), (0, .ref q_t), (1, .int p1), (2, .ref q_p2)]) hx hb dX8_corrected_20 rfl hl (by decide) rfl (fun ls hl => ?_)
    exact L_21 fU p1 (0 : Int32) h ls (lv_sub hl [1, 2, 3, 0] rfl)
  replace h := ite_f h c9
  refine lv_iload_n hx hb dX8_corrected_17 rfl (lv_at hl 1 rfl) ?_
  have e1 := Option.some.inj h
  exact W.iret (v := p1) hx hb hr (fun t ht hW => ⟨_, rfl, e1, ht⟩) (fun q hq => by cases hq) dX8_corrected_18
