/-! walks, by program: X10_late X10_tenths X10_refusalOfChances X10_commonDivisor X10_leastTerms X10_allRight X10_mean X10_forget X8_areAtRest -/
abbrev rm_X10_late : Room := { frames := 3, cells := 0, slots := 0, locals := 81 }
theorem in_X10_late_X8 : ∀ w ∈ wsX80, w ∈ wsX10_late := fun _ h => List.mem_cons_of_mem _ (List.mem_append_right _ h)
theorem in_X10_late_X7 : ∀ w ∈ wsX70, w ∈ wsX10_late := fun _ h => List.mem_cons_of_mem _ (List.mem_append_left _ (List.mem_append_right _ h))
theorem in_X10_late_X5 : ∀ w ∈ wsX50, w ∈ wsX10_late := fun _ h => List.mem_cons_of_mem _ (List.mem_append_left _ (List.mem_append_left _ (List.mem_append_right _ h)))
theorem in_X10_late_X10 : ∀ w ∈ wsX100, w ∈ wsX10_late := fun _ h => List.mem_cons_of_mem _ (List.mem_append_left _ (List.mem_append_left _ (List.mem_append_left _ (List.mem_append_right _ h))))
set_option maxHeartbeats 4000000 in
set_option maxRecDepth 100000 in
theorem cn_X10_late (l : Launch) (dC : Nat → ClassId) (dI : Nat → Nat → Nat) (cI cJ cZ : ClassId) (q_t q_t_text q_t_reader q_t_rules q_t_people q_t_memory q_t_rows q_t_chances q_t_moves q_t_payments q_t_evenings q_t_people_numbers q_t_people_counts q_t_rows_sums q_t_rows_costs q_t_rows_weights q_t_rows_needed : Nat) (sz : Nat) (v_t_rules_law : Int32) (v_t_rules_share : Int32) (v_t_rules_pot : Int32) (v_t_rules_barred : Int32) (v_t_people_size : Int32) (f_t_people_counts : (Nat → Int32)) (f_t_rows_costs : (Nat → Int32)) (res : Int32) (r_f_t_rows_costs : (Nat → Int32)) (h : X10_late v_t_rules_law v_t_rules_barred v_t_people_size f_t_people_counts f_t_rows_costs = some (res, r_f_t_rows_costs)) : Met l yX10_late wsX10_late rm_X10_late (pcW dC dI cI cJ cZ [(q_t, .inr (10, [.ref q_t_text, .ref q_t_reader, .ref q_t_rules, .ref q_t_people, .ref q_t_memory, .ref q_t_rows, .ref q_t_chances, .ref q_t_moves, .ref q_t_payments, .ref q_t_evenings])), (q_t_rules, .inr (8, [.int v_t_rules_law, .int v_t_rules_share, .int v_t_rules_pot, .int v_t_rules_barred])), (q_t_people, .inr (5, [.ref q_t_people_numbers, .ref q_t_people_counts, .int v_t_people_size])), (q_t_people_counts, .inl (cI, 10, .inl f_t_people_counts)), (q_t_rows, .inr (7, [.ref q_t_rows_sums, .ref q_t_rows_costs, .ref q_t_rows_weights, .ref q_t_rows_needed])), (q_t_rows_costs, .inl (cI, 10, .inl f_t_rows_costs))] sz [.ref q_t]) (va_Qi (fun (r : Int32) (_ : Unit) => r = res) (bW dC dI (va_A [(q_t, .inr (10, [.ref q_t_text, .ref q_t_reader, .ref q_t_rules, .ref q_t_people, .ref q_t_memory, .ref q_t_rows, .ref q_t_chances, .ref q_t_moves, .ref q_t_payments, .ref q_t_evenings])), (q_t_rules, .inr (8, [.int v_t_rules_law, .int v_t_rules_share, .int v_t_rules_pot, .int v_t_rules_barred])), (q_t_people, .inr (5, [.ref q_t_people_numbers, .ref q_t_people_counts, .int v_t_people_size])), (q_t_people_counts, .inl (cI, 10, .inl f_t_people_counts)), (q_t_rows, .inr (7, [.ref q_t_rows_sums, .ref q_t_rows_costs, .ref q_t_rows_weights, .ref q_t_rows_needed])), (q_t_rows_costs, .inl (cI, 10, .inl f_t_rows_costs))] sz) [(q_t, .inr (10, [.ref q_t_text, .ref q_t_reader, .ref q_t_rules, .ref q_t_people, .ref q_t_memory, .ref q_t_rows, .ref q_t_chances, .ref q_t_moves, .ref q_t_payments, .ref q_t_evenings])), (q_t_rules, .inr (8, [.int v_t_rules_law, .int v_t_rules_share, .int v_t_rules_pot, .int v_t_rules_barred])), (q_t_people, .inr (5, [.ref q_t_people_numbers, .ref q_t_people_counts, .int v_t_people_size])), (q_t_people_counts, .inl (cI, 10, .inl f_t_people_counts)), (q_t_rows, .inr (7, [.ref q_t_rows_sums, .ref q_t_rows_costs, .ref q_t_rows_weights, .ref q_t_rows_needed])), (q_t_rows_costs, .inl (cI, 10, .inl r_f_t_rows_costs))]) (va_A [(q_t, .inr (10, [.ref q_t_text, .ref q_t_reader, .ref q_t_rules, .ref q_t_people, .ref q_t_memory, .ref q_t_rows, .ref q_t_chances, .ref q_t_moves, .ref q_t_payments, .ref q_t_evenings])), (q_t_rules, .inr (8, [.int v_t_rules_law, .int v_t_rules_share, .int v_t_rules_pot, .int v_t_rules_barred])), (q_t_people, .inr (5, [.ref q_t_people_numbers, .ref q_t_people_counts, .int v_t_people_size])), (q_t_people_counts, .inl (cI, 10, .inl f_t_people_counts)), (q_t_rows, .inr (7, [.ref q_t_rows_sums, .ref q_t_rows_costs, .ref q_t_rows_weights, .ref q_t_rows_needed])), (q_t_rows_costs, .inl (cI, 10, .inl f_t_rows_costs))] sz)) 0 0 (va_A [(q_t, .inr (10, [.ref q_t_text, .ref q_t_reader, .ref q_t_rules, .ref q_t_people, .ref q_t_memory, .ref q_t_rows, .ref q_t_chances, .ref q_t_moves, .ref q_t_payments, .ref q_t_evenings])), (q_t_rules, .inr (8, [.int v_t_rules_law, .int v_t_rules_share, .int v_t_rules_pot, .int v_t_rules_barred])), (q_t_people, .inr (5, [.ref q_t_people_numbers, .ref q_t_people_counts, .int v_t_people_size])), (q_t_people_counts, .inl (cI, 10, .inl f_t_people_counts)), (q_t_rows, .inr (7, [.ref q_t_rows_sums, .ref q_t_rows_costs, .ref q_t_rows_weights, .ref q_t_rows_needed])), (q_t_rows_costs, .inl (cI, 10, .inl f_t_rows_costs))] sz) := by
  refine Met.ofW (cc := cX10_late) (maxL := 1) (ret := (some .int)) (by decide) rfl ?_
  intro p e s m args below meth c s₁ B hml hv
  obtain ⟨rfl, hsz, hP, hKK, hD0⟩ := hv
  have hx := B.exec
  have hb := B.bytes
  have hr := B.returns
  have hts := atoms_spec (ws := wsX10_late) B.pre
  have hown : s.vm.findClass RX10 = some m.cls := findClass_of_methodNamed B.named
  have hlocks := B.notSynchronized
  have hK := hKK.1
  subst hsz
  have hD := hD0.self (sz := s.heap.size)
  generalize hAe : va_A [(q_t, .inr (10, [.ref q_t_text, .ref q_t_reader, .ref q_t_rules, .ref q_t_people, .ref q_t_memory, .ref q_t_rows, .ref q_t_chances, .ref q_t_moves, .ref q_t_payments, .ref q_t_evenings])), (q_t_rules, .inr (8, [.int v_t_rules_law, .int v_t_rules_share, .int v_t_rules_pot, .int v_t_rules_barred])), (q_t_people, .inr (5, [.ref q_t_people_numbers, .ref q_t_people_counts, .int v_t_people_size])), (q_t_people_counts, .inl (cI, 10, .inl f_t_people_counts)), (q_t_rows, .inr (7, [.ref q_t_rows_sums, .ref q_t_rows_costs, .ref q_t_rows_weights, .ref q_t_rows_needed])), (q_t_rows_costs, .inl (cI, 10, .inl f_t_rows_costs))] s.heap.size = A at hD ⊢
  have hA : ∀ q : Nat, s.heap.size ≤ q → A q := fun q h => by rw [← hAe]; exact Or.inr h
  have hS : va_S A s.heap s.heap [] := va_S.rf
  have hl := lv_entry ([.ref q_t]) (n := 1) (Nat.le_of_ble_eq_true rfl)
  rw [lg_entry_eq]
  generalize (lg_sl ([.ref q_t]) ++ List.replicate (1 - (lg_sl ([.ref q_t])).length) Slot.unset).toArray = ls at hl ⊢
  have hl : lv_has ls 1 [(0, .ref q_t)] := hl
  unfold X10_late at h
  obtain ⟨H, hHe⟩ : ∃ H, H = s.heap := ⟨_, rfl⟩
  obtain ⟨locs, hLe⟩ : ∃ x : List Loc, x = [] := ⟨_, rfl⟩
  rw [← hHe] at hP
  have hS : va_S A s.heap H locs := by rw [hHe, hLe]; exact hS
  suffices hW : W p l e (headSpec wsX10_late rm_X10_late).room s m ([.ref q_t] : List Value).toArray below meth c H locs 0 0 (MQ below (va_Qi (fun (r : Int32) (_ : Unit) => r = res) (bW dC dI A [(q_t, .inr (10, [.ref q_t_text, .ref q_t_reader, .ref q_t_rules, .ref q_t_people, .ref q_t_memory, .ref q_t_rows, .ref q_t_chances, .ref q_t_moves, .ref q_t_payments, .ref q_t_evenings])), (q_t_rules, .inr (8, [.int v_t_rules_law, .int v_t_rules_share, .int v_t_rules_pot, .int v_t_rules_barred])), (q_t_people, .inr (5, [.ref q_t_people_numbers, .ref q_t_people_counts, .int v_t_people_size])), (q_t_people_counts, .inl (cI, 10, .inl f_t_people_counts)), (q_t_rows, .inr (7, [.ref q_t_rows_sums, .ref q_t_rows_costs, .ref q_t_rows_weights, .ref q_t_rows_needed])), (q_t_rows_costs, .inl (cI, 10, .inl r_f_t_rows_costs))]) A) ([.ref q_t] : List Value).toArray s 0 0 A) (F0 m 0 ls []) by rw [hHe, hLe] at hW; exact hW
  refine lv_aload_n hx hb dX10_late_0 rfl (lv_at hl 0 rfl) ?_
  refine va_get (D := (dC, dI)) (ci := 10) (v := .ref q_t_people) (C := RX10) (T := TX10) (N := 10) hx hb hts in_X10_late_X10 hown hK hP 0 rfl rfl 3 (by decide) (hts (.fieldLink RX10 33 "RightIfAsMany" "people" "LRightIfAsMany$People;") (List.mem_of_getElem? (i := 1) rfl)) (fun _ h9 => h9) rfl dX10_late_1 ?_
  refine kRi (res := (X5_size v_t_people_size)) (va_runV (As := []) (rest := []) ⟨hx, hb, hml, hown, hts⟩ (cn_X5_size l dC dI cI cJ cZ q_t_people q_t_people_numbers q_t_people_counts  v_t_people_size  (X5_size v_t_people_size) rfl) (cwV 0 hts gX10_late_X5_size rfl rfl rfl (by decide +kernel) ⟨Nat.le_of_ble_eq_true rfl, Nat.le_of_ble_eq_true rfl⟩) (preR hKK (hP.sub (ws' := [(q_t_people, .inr (5, [.ref q_t_people_numbers, .ref q_t_people_counts, .int v_t_people_size]))]) [2] rfl) (ci := 5) (q0 := 0) rfl rfl) rfl rfl hl.1 rfl (lv_room (Nat.le_of_ble_eq_true rfl)) dX10_late_4 ⟨Nat.zero_le _, Nat.zero_le _⟩) ?_
  refine lv_bipush (v := (9 : Int32)) hx hb dX10_late_7 (by decide) ?_
  refine lv_icmp_lt (tgt := 15) hx hb dX10_late_9 (by decide) (fun c1 => ?_) (fun c1 => ?_)
  · replace h := ite_t h c1
    refine lv_aload_n hx hb dX10_late_15 rfl (lv_at hl 0 rfl) ?_
    refine va_get (D := (dC, dI)) (ci := 10) (v := .ref q_t_rows) (C := RX10) (T := TX10) (N := 10) hx hb hts in_X10_late_X10 hown hK hP 0 rfl rfl 5 (by decide) (hts (.fieldLink RX10 47 "RightIfAsMany" "rows" "LRightIfAsMany$Rows;") (List.mem_of_getElem? (i := 2) rfl)) (fun _ h9 => h9) rfl dX10_late_16 ?_
    refine lv_aload_n hx hb dX10_late_19 rfl (lv_at hl 0 rfl) ?_
    refine va_get (D := (dC, dI)) (ci := 10) (v := .ref q_t_rules) (C := RX10) (T := TX10) (N := 10) hx hb hts in_X10_late_X10 hown hK hP 0 rfl rfl 2 (by decide) (hts (.fieldLink RX10 26 "RightIfAsMany" "rules" "LRightIfAsMany$Rules;") (List.mem_of_getElem? (i := 3) rfl)) (fun _ h9 => h9) rfl dX10_late_20 ?_
    refine lv_aload_n hx hb dX10_late_23 rfl (lv_at hl 0 rfl) ?_
    refine va_get (D := (dC, dI)) (ci := 10) (v := .ref q_t_people) (C := RX10) (T := TX10) (N := 10) hx hb hts in_X10_late_X10 hown hK hP 0 rfl rfl 3 (by decide) (hts (.fieldLink RX10 33 "RightIfAsMany" "people" "LRightIfAsMany$People;") (List.mem_of_getElem? (i := 1) rfl)) (fun _ h9 => h9) rfl dX10_late_24 ?_
    refine kRr (res := q_t_people_counts) (va_runV (As := []) (rest := [.ref q_t_rules, .ref q_t_rows]) ⟨hx, hb, hml, hown, hts⟩ (cn_X5_counts l dC dI cI cJ cZ q_t_people q_t_people_numbers q_t_people_counts  v_t_people_size   ) (cwV 0 hts gX10_late_X5_counts rfl rfl rfl (by decide +kernel) ⟨Nat.le_of_ble_eq_true rfl, Nat.le_of_ble_eq_true rfl⟩) (preR hKK (hP.sub (ws' := [(q_t_people, .inr (5, [.ref q_t_people_numbers, .ref q_t_people_counts, .int v_t_people_size]))]) [2] rfl) (ci := 5) (q0 := 0) rfl rfl) rfl rfl hl.1 rfl (lv_room (Nat.le_of_ble_eq_true rfl)) dX10_late_27 ⟨Nat.zero_le _, Nat.zero_le _⟩) ?_
    refine lv_aload_n hx hb dX10_late_30 rfl (lv_at hl 0 rfl) ?_
    refine va_get (D := (dC, dI)) (ci := 10) (v := .ref q_t_people) (C := RX10) (T := TX10) (N := 10) hx hb hts in_X10_late_X10 hown hK hP 0 rfl rfl 3 (by decide) (hts (.fieldLink RX10 33 "RightIfAsMany" "people" "LRightIfAsMany$People;") (List.mem_of_getElem? (i := 1) rfl)) (fun _ h9 => h9) rfl dX10_late_31 ?_
    refine kRi (res := (X5_size v_t_people_size)) (va_runV (As := []) (rest := [.ref q_t_people_counts, .ref q_t_rules, .ref q_t_rows]) ⟨hx, hb, hml, hown, hts⟩ (cn_X5_size l dC dI cI cJ cZ q_t_people q_t_people_numbers q_t_people_counts  v_t_people_size  (X5_size v_t_people_size) rfl) (cwV 0 hts gX10_late_X5_size rfl rfl rfl (by decide +kernel) ⟨Nat.le_of_ble_eq_true rfl, Nat.le_of_ble_eq_true rfl⟩) (preR hKK (hP.sub (ws' := [(q_t_people, .inr (5, [.ref q_t_people_numbers, .ref q_t_people_counts, .int v_t_people_size]))]) [2] rfl) (ci := 5) (q0 := 0) rfl rfl) rfl rfl hl.1 rfl (lv_room (Nat.le_of_ble_eq_true rfl)) dX10_late_34 ⟨Nat.zero_le _, Nat.zero_le _⟩) ?_
    obtain ⟨r2, w2_1, hc2, h⟩ := bnd2_s h
    refine kWi (res := r2) (wc := [(q_t_rows, .inr (7, [.ref q_t_rows_sums, .ref q_t_rows_costs, .ref q_t_rows_weights, .ref q_t_rows_needed])), (q_t_rows_costs, .inl (cI, 10, .inl f_t_rows_costs)), (q_t_rules, .inr (8, [.int v_t_rules_law, .int v_t_rules_share, .int v_t_rules_pot, .int v_t_rules_barred])), (q_t_people_counts, .inl (cI, 10, .inl f_t_people_counts))]) (wr := [(q_t, .inr (10, [.ref q_t_text, .ref q_t_reader, .ref q_t_rules, .ref q_t_people, .ref q_t_memory, .ref q_t_rows, .ref q_t_chances, .ref q_t_moves, .ref q_t_payments, .ref q_t_evenings])), (q_t_people, .inr (5, [.ref q_t_people_numbers, .ref q_t_people_counts, .int v_t_people_size]))]) (w1 := [(q_t_rows, .inr (7, [.ref q_t_rows_sums, .ref q_t_rows_costs, .ref q_t_rows_weights, .ref q_t_rows_needed])), (q_t_rows_costs, .inl (cI, 10, .inl w2_1)), (q_t_rules, .inr (8, [.int v_t_rules_law, .int v_t_rules_share, .int v_t_rules_pot, .int v_t_rules_barred])), (q_t_people_counts, .inl (cI, 10, .inl f_t_people_counts))]) (wn := [(q_t, .inr (10, [.ref q_t_text, .ref q_t_reader, .ref q_t_rules, .ref q_t_people, .ref q_t_memory, .ref q_t_rows, .ref q_t_chances, .ref q_t_moves, .ref q_t_payments, .ref q_t_evenings])), (q_t_rules, .inr (8, [.int v_t_rules_law, .int v_t_rules_share, .int v_t_rules_pot, .int v_t_rules_barred])), (q_t_people, .inr (5, [.ref q_t_people_numbers, .ref q_t_people_counts, .int v_t_people_size])), (q_t_people_counts, .inl (cI, 10, .inl f_t_people_counts)), (q_t_rows, .inr (7, [.ref q_t_rows_sums, .ref q_t_rows_costs, .ref q_t_rows_weights, .ref q_t_rows_needed])), (q_t_rows_costs, .inl (cI, 10, .inl w2_1))]) hP hD hS hA [4, 5, 1, 3] [0, 2] [0, 4, 1, 5, 2, 3] rfl rfl (by decide) (by decide) rfl (by decide) (va_runV (As := [.ref q_t_rules, .ref q_t_people_counts, .int (X5_size v_t_people_size)]) (rest := []) ⟨hx, hb, hml, hown, hts⟩ (cn_X7_fewestAnew l dC dI cI cJ cZ q_t_rows q_t_rules q_t_people_counts q_t_rows_sums q_t_rows_costs q_t_rows_weights q_t_rows_needed H.size f_t_rows_costs v_t_rules_law v_t_rules_share v_t_rules_pot v_t_rules_barred f_t_people_counts (X5_size v_t_people_size) r2 w2_1 hc2) (cwV 3 hts gX10_late_X7_fewestAnew rfl rfl rfl (by decide +kernel) ⟨Nat.le_of_ble_eq_true rfl, Nat.le_of_ble_eq_true rfl⟩) (preW hKK (hP.sub (ws' := [(q_t_rows, .inr (7, [.ref q_t_rows_sums, .ref q_t_rows_costs, .ref q_t_rows_weights, .ref q_t_rows_needed])), (q_t_rows_costs, .inl (cI, 10, .inl f_t_rows_costs)), (q_t_rules, .inr (8, [.int v_t_rules_law, .int v_t_rules_share, .int v_t_rules_pot, .int v_t_rules_barred])), (q_t_people_counts, .inl (cI, 10, .inl f_t_people_counts))]) [4, 5, 1, 3] rfl) (hD.sub (ws' := [(q_t_rows, .inr (7, [.ref q_t_rows_sums, .ref q_t_rows_costs, .ref q_t_rows_weights, .ref q_t_rows_needed])), (q_t_rows_costs, .inl (cI, 10, .inl f_t_rows_costs)), (q_t_rules, .inr (8, [.int v_t_rules_law, .int v_t_rules_share, .int v_t_rules_pot, .int v_t_rules_barred])), (q_t_people_counts, .inl (cI, 10, .inl f_t_people_counts))]) [4, 5, 1, 3] (by decide) rfl) (ci := 7) (q0 := 0) rfl rfl) rfl rfl hl.1 rfl (lv_room (Nat.le_of_ble_eq_true rfl)) dX10_late_37 ⟨Nat.zero_le _, Nat.zero_le _⟩) (fun H locs hP hD hS => ?_)
    replace h := Option.some.inj h
    obtain ⟨e1, e2⟩ := pr2 h
    exact W.iret (v := r2) hx hb hr (fun t ht hW => ⟨⟨_, (), rfl, e1, (by rw [ht, ← e2]; exact hP), (by rw [← e2]; exact hD)⟩, hS.F ht⟩) hS.2.2 dX10_late_40
  replace h := ite_f h c1
  refine lv_bipush (v := (-4 : Int32)) hx hb dX10_late_12 (by decide) ?_
  replace h := Option.some.inj h
  obtain ⟨e1, e2⟩ := pr2 h
  exact W.iret (v := (-4 : Int32)) hx hb hr (fun t ht hW => ⟨⟨_, (), rfl, e1, (by rw [ht, ← e2]; exact hP), (by rw [← e2]; exact hD)⟩, hS.F ht⟩) hS.2.2 dX10_late_14
abbrev rm_X10_tenths : Room := { frames := 2, cells := 0, slots := 0, locals := 43 }
theorem in_X10_tenths_X0 : ∀ w ∈ wsX00, w ∈ wsX10_tenths := fun _ h => List.mem_cons_of_mem _ (List.mem_append_right _ h)
theorem in_X10_tenths_X10 : ∀ w ∈ wsX100, w ∈ wsX10_tenths := fun _ h => List.mem_cons_of_mem _ (List.mem_append_left _ (List.mem_append_right _ h))
set_option maxHeartbeats 4000000 in
set_option maxRecDepth 100000 in
theorem cn_X10_tenths (l : Launch) (dC : Nat → ClassId) (dI : Nat → Nat → Nat) (cI cJ cZ : ClassId) (q_t q_t_text q_t_reader q_t_rules q_t_people q_t_memory q_t_rows q_t_chances q_t_moves q_t_payments q_t_evenings q_t_chances_weights : Nat) (sz : Nat) (f_t_chances_weights : (Nat → Int32)) (p1 : Int32) (p2 : Int32) (res : Int32) (r_f_t_chances_weights : (Nat → Int32)) (h : X10_tenths f_t_chances_weights p1 p2 = some (res, r_f_t_chances_weights)) : Met l yX10_tenths wsX10_tenths rm_X10_tenths (pcW dC dI cI cJ cZ [(q_t, .inr (10, [.ref q_t_text, .ref q_t_reader, .ref q_t_rules, .ref q_t_people, .ref q_t_memory, .ref q_t_rows, .ref q_t_chances, .ref q_t_moves, .ref q_t_payments, .ref q_t_evenings])), (q_t_chances, .inr (0, [.ref q_t_chances_weights])), (q_t_chances_weights, .inl (cI, 10, .inl f_t_chances_weights))] sz [.ref q_t, .int p1, .int p2]) (va_Qi (fun (r : Int32) (_ : Unit) => r = res) (bW dC dI (va_A [(q_t, .inr (10, [.ref q_t_text, .ref q_t_reader, .ref q_t_rules, .ref q_t_people, .ref q_t_memory, .ref q_t_rows, .ref q_t_chances, .ref q_t_moves, .ref q_t_payments, .ref q_t_evenings])), (q_t_chances, .inr (0, [.ref q_t_chances_weights])), (q_t_chances_weights, .inl (cI, 10, .inl f_t_chances_weights))] sz) [(q_t, .inr (10, [.ref q_t_text, .ref q_t_reader, .ref q_t_rules, .ref q_t_people, .ref q_t_memory, .ref q_t_rows, .ref q_t_chances, .ref q_t_moves, .ref q_t_payments, .ref q_t_evenings])), (q_t_chances, .inr (0, [.ref q_t_chances_weights])), (q_t_chances_weights, .inl (cI, 10, .inl r_f_t_chances_weights))]) (va_A [(q_t, .inr (10, [.ref q_t_text, .ref q_t_reader, .ref q_t_rules, .ref q_t_people, .ref q_t_memory, .ref q_t_rows, .ref q_t_chances, .ref q_t_moves, .ref q_t_payments, .ref q_t_evenings])), (q_t_chances, .inr (0, [.ref q_t_chances_weights])), (q_t_chances_weights, .inl (cI, 10, .inl f_t_chances_weights))] sz)) 0 0 (va_A [(q_t, .inr (10, [.ref q_t_text, .ref q_t_reader, .ref q_t_rules, .ref q_t_people, .ref q_t_memory, .ref q_t_rows, .ref q_t_chances, .ref q_t_moves, .ref q_t_payments, .ref q_t_evenings])), (q_t_chances, .inr (0, [.ref q_t_chances_weights])), (q_t_chances_weights, .inl (cI, 10, .inl f_t_chances_weights))] sz) := by
  refine Met.ofW (cc := cX10_tenths) (maxL := 3) (ret := (some .int)) (by decide) rfl ?_
  intro p e s m args below meth c s₁ B hml hv
  obtain ⟨rfl, hsz, hP, hKK, hD0⟩ := hv
  have hx := B.exec
  have hb := B.bytes
  have hr := B.returns
  have hts := atoms_spec (ws := wsX10_tenths) B.pre
  have hown : s.vm.findClass RX10 = some m.cls := findClass_of_methodNamed B.named
  have hlocks := B.notSynchronized
  have hK := hKK.1
  subst hsz
  have hD := hD0.self (sz := s.heap.size)
  generalize hAe : va_A [(q_t, .inr (10, [.ref q_t_text, .ref q_t_reader, .ref q_t_rules, .ref q_t_people, .ref q_t_memory, .ref q_t_rows, .ref q_t_chances, .ref q_t_moves, .ref q_t_payments, .ref q_t_evenings])), (q_t_chances, .inr (0, [.ref q_t_chances_weights])), (q_t_chances_weights, .inl (cI, 10, .inl f_t_chances_weights))] s.heap.size = A at hD ⊢
  have hA : ∀ q : Nat, s.heap.size ≤ q → A q := fun q h => by rw [← hAe]; exact Or.inr h
  have hS : va_S A s.heap s.heap [] := va_S.rf
  have hl := lv_entry ([.ref q_t, .int p1, .int p2]) (n := 3) (Nat.le_of_ble_eq_true rfl)
  rw [lg_entry_eq]
  generalize (lg_sl ([.ref q_t, .int p1, .int p2]) ++ List.replicate (3 - (lg_sl ([.ref q_t, .int p1, .int p2])).length) Slot.unset).toArray = ls at hl ⊢
  have hl : lv_has ls 3 [(0, .ref q_t), (1, .int p1), (2, .int p2)] := hl
  unfold X10_tenths at h
  obtain ⟨H, hHe⟩ : ∃ H, H = s.heap := ⟨_, rfl⟩
  obtain ⟨locs, hLe⟩ : ∃ x : List Loc, x = [] := ⟨_, rfl⟩
  rw [← hHe] at hP
  have hS : va_S A s.heap H locs := by rw [hHe, hLe]; exact hS
  suffices hW : W p l e (headSpec wsX10_tenths rm_X10_tenths).room s m ([.ref q_t, .int p1, .int p2] : List Value).toArray below meth c H locs 0 0 (MQ below (va_Qi (fun (r : Int32) (_ : Unit) => r = res) (bW dC dI A [(q_t, .inr (10, [.ref q_t_text, .ref q_t_reader, .ref q_t_rules, .ref q_t_people, .ref q_t_memory, .ref q_t_rows, .ref q_t_chances, .ref q_t_moves, .ref q_t_payments, .ref q_t_evenings])), (q_t_chances, .inr (0, [.ref q_t_chances_weights])), (q_t_chances_weights, .inl (cI, 10, .inl r_f_t_chances_weights))]) A) ([.ref q_t, .int p1, .int p2] : List Value).toArray s 0 0 A) (F0 m 0 ls []) by rw [hHe, hLe] at hW; exact hW
  refine lv_iload_n hx hb dX10_tenths_0 rfl (lv_at hl 1 rfl) ?_
  refine kRz (res := (X10_isNumber p1)) (va_runS (As := [.int p1]) (rest := []) ⟨hx, hb, hml, hown, hts⟩ (cn_X10_isNumber l dC dI cI cJ cZ    p1 (X10_isNumber p1) rfl) (va_cwS 1 hts gX10_tenths_X10_isNumber rfl rfl rfl (by decide +kernel) ⟨Nat.le_of_ble_eq_true rfl, Nat.le_of_ble_eq_true rfl⟩) (preRS hKK (hP.sub (ws' := []) [] rfl)) rfl rfl hl.1 rfl (lv_room (Nat.le_of_ble_eq_true rfl)) dX10_tenths_1 ⟨Nat.zero_le _, Nat.zero_le _⟩) (fun hz1 => ?_)
  refine lv_if_eq (tgt := 17) hx hb dX10_tenths_4 (by decide) (fun c2 => ?_) (fun c2 => ?_)
  · replace h := ite_t h c2
    refine lv_bipush (v := (-2 : Int32)) hx hb dX10_tenths_17 (by decide) ?_
    replace h := Option.some.inj h
    obtain ⟨e1, e2⟩ := pr2 h
    exact W.iret (v := (-2 : Int32)) hx hb hr (fun t ht hW => ⟨⟨_, (), rfl, e1, (by rw [ht, ← e2]; exact hP), (by rw [← e2]; exact hD)⟩, hS.F ht⟩) hS.2.2 dX10_tenths_19
  replace h := ite_f h c2
  refine lv_iload_n hx hb dX10_tenths_7 rfl (lv_at hl 2 rfl) ?_
  refine lv_if_lt (tgt := 17) hx hb dX10_tenths_8 (by decide) (fun c3 => ?_) (fun c3 => ?_)
  · replace h := ite_t h c3
    refine lv_bipush (v := (-2 : Int32)) hx hb dX10_tenths_17 (by decide) ?_
    replace h := Option.some.inj h
    obtain ⟨e1, e2⟩ := pr2 h
    exact W.iret (v := (-2 : Int32)) hx hb hr (fun t ht hW => ⟨⟨_, (), rfl, e1, (by rw [ht, ← e2]; exact hP), (by rw [← e2]; exact hD)⟩, hS.F ht⟩) hS.2.2 dX10_tenths_19
  replace h := ite_f h c3
  refine lv_iload_n hx hb dX10_tenths_11 rfl (lv_at hl 2 rfl) ?_
  refine lv_bipush (v := (10 : Int32)) hx hb dX10_tenths_12 (by decide) ?_
  refine lv_icmp_le (tgt := 20) hx hb dX10_tenths_14 (by decide) (fun c4 => ?_) (fun c4 => ?_)
  · replace h := ite_t h c4
    refine lv_aload_n hx hb dX10_tenths_20 rfl (lv_at hl 0 rfl) ?_
    refine va_get (D := (dC, dI)) (ci := 10) (v := .ref q_t_chances) (C := RX10) (T := TX10) (N := 10) hx hb hts in_X10_tenths_X10 hown hK hP 0 rfl rfl 6 (by decide) (hts (.fieldLink RX10 54 "RightIfAsMany" "chances" "LRightIfAsMany$Chances;") (List.mem_of_getElem? (i := 1) rfl)) (fun _ h9 => h9) rfl dX10_tenths_21 ?_
    refine lv_iload_n hx hb dX10_tenths_24 rfl (lv_at hl 1 rfl) ?_
    refine lv_iload_n hx hb dX10_tenths_25 rfl (lv_at hl 2 rfl) ?_
    obtain ⟨r5, w5_1, hc5, h⟩ := bnd2_s h
    refine kWi (res := r5) (wc := [(q_t_chances, .inr (0, [.ref q_t_chances_weights])), (q_t_chances_weights, .inl (cI, 10, .inl f_t_chances_weights))]) (wr := [(q_t, .inr (10, [.ref q_t_text, .ref q_t_reader, .ref q_t_rules, .ref q_t_people, .ref q_t_memory, .ref q_t_rows, .ref q_t_chances, .ref q_t_moves, .ref q_t_payments, .ref q_t_evenings]))]) (w1 := [(q_t_chances, .inr (0, [.ref q_t_chances_weights])), (q_t_chances_weights, .inl (cI, 10, .inl w5_1))]) (wn := [(q_t, .inr (10, [.ref q_t_text, .ref q_t_reader, .ref q_t_rules, .ref q_t_people, .ref q_t_memory, .ref q_t_rows, .ref q_t_chances, .ref q_t_moves, .ref q_t_payments, .ref q_t_evenings])), (q_t_chances, .inr (0, [.ref q_t_chances_weights])), (q_t_chances_weights, .inl (cI, 10, .inl w5_1))]) hP hD hS hA [1, 2] [0] [0, 1, 2] rfl rfl (by decide) (by decide) rfl (by decide) (va_runV (As := [.int p1, .int p2]) (rest := []) ⟨hx, hb, hml, hown, hts⟩ (cn_X0_put l dC dI cI cJ cZ q_t_chances q_t_chances_weights H.size f_t_chances_weights p1 p2 r5 w5_1 hc5) (cwV 2 hts gX10_tenths_X0_put rfl rfl rfl (by decide +kernel) ⟨Nat.le_of_ble_eq_true rfl, Nat.le_of_ble_eq_true rfl⟩) (preW hKK (hP.sub (ws' := [(q_t_chances, .inr (0, [.ref q_t_chances_weights])), (q_t_chances_weights, .inl (cI, 10, .inl f_t_chances_weights))]) [1, 2] rfl) (hD.sub (ws' := [(q_t_chances, .inr (0, [.ref q_t_chances_weights])), (q_t_chances_weights, .inl (cI, 10, .inl f_t_chances_weights))]) [1, 2] (by decide) rfl) (ci := 0) (q0 := 0) rfl rfl) rfl rfl hl.1 rfl (lv_room (Nat.le_of_ble_eq_true rfl)) dX10_tenths_26 ⟨Nat.zero_le _, Nat.zero_le _⟩) (fun H locs hP hD hS => ?_)
    replace h := Option.some.inj h
    obtain ⟨e1, e2⟩ := pr2 h
    exact W.iret (v := r5) hx hb hr (fun t ht hW => ⟨⟨_, (), rfl, e1, (by rw [ht, ← e2]; exact hP), (by rw [← e2]; exact hD)⟩, hS.F ht⟩) hS.2.2 dX10_tenths_29
  replace h := ite_f h c4
  refine lv_bipush (v := (-2 : Int32)) hx hb dX10_tenths_17 (by decide) ?_
  replace h := Option.some.inj h
  obtain ⟨e1, e2⟩ := pr2 h
  exact W.iret (v := (-2 : Int32)) hx hb hr (fun t ht hW => ⟨⟨_, (), rfl, e1, (by rw [ht, ← e2]; exact hP), (by rw [← e2]; exact hD)⟩, hS.F ht⟩) hS.2.2 dX10_tenths_19
abbrev rm_X10_refusalOfChances : Room := { frames := 1, cells := 0, slots := 0, locals := 25 }
theorem in_X10_refusalOfChances_X0 : ∀ w ∈ wsX00, w ∈ wsX10_refusalOfChances := fun _ h => List.mem_cons_of_mem _ (List.mem_append_right _ h)
theorem in_X10_refusalOfChances_X10 : ∀ w ∈ wsX100, w ∈ wsX10_refusalOfChances := fun _ h => List.mem_cons_of_mem _ (List.mem_append_left _ (List.mem_append_right _ h))
set_option maxHeartbeats 4000000 in
set_option maxRecDepth 100000 in
theorem cn_X10_refusalOfChances (l : Launch) (dC : Nat → ClassId) (dI : Nat → Nat → Nat) (cI cJ cZ : ClassId) (q_t q_t_text q_t_reader q_t_rules q_t_people q_t_memory q_t_rows q_t_chances q_t_moves q_t_payments q_t_evenings q_t_chances_weights : Nat) (f_t_chances_weights : (Nat → Int32)) (p1 : Int32) (res : Int32) (h : X10_refusalOfChances f_t_chances_weights p1 = some res) : Met l yX10_refusalOfChances wsX10_refusalOfChances rm_X10_refusalOfChances (pcR dC dI cI cJ cZ [(q_t, .inr (10, [.ref q_t_text, .ref q_t_reader, .ref q_t_rules, .ref q_t_people, .ref q_t_memory, .ref q_t_rows, .ref q_t_chances, .ref q_t_moves, .ref q_t_payments, .ref q_t_evenings])), (q_t_chances, .inr (0, [.ref q_t_chances_weights])), (q_t_chances_weights, .inl (cI, 10, .inl f_t_chances_weights))] [.ref q_t, .int p1]) (vp_Si (fun r => r = res)) 0 0 (fun _ => False) := by
  refine Met.ofW (cc := cX10_refusalOfChances) (maxL := 2) (ret := (some .int)) (by decide) rfl ?_
  intro p e s m args below meth c s₁ B hml hv
  obtain ⟨rfl, hP, hKK⟩ := hv
  have hx := B.exec
  have hb := B.bytes
  have hr := B.returns
  have hts := atoms_spec (ws := wsX10_refusalOfChances) B.pre
  have hown : s.vm.findClass RX10 = some m.cls := findClass_of_methodNamed B.named
  have hlocks := B.notSynchronized
  have hK := hKK.1
  have hl := lv_entry ([.ref q_t, .int p1]) (n := 2) (Nat.le_of_ble_eq_true rfl)
  rw [lg_entry_eq]
  generalize (lg_sl ([.ref q_t, .int p1]) ++ List.replicate (2 - (lg_sl ([.ref q_t, .int p1])).length) Slot.unset).toArray = ls at hl ⊢
  have hl : lv_has ls 2 [(0, .ref q_t), (1, .int p1)] := hl
  unfold X10_refusalOfChances at h
  refine lv_iload_n hx hb dX10_refusalOfChances_0 rfl (lv_at hl 1 rfl) ?_
  refine kRz (res := (X10_isCrowd p1)) (va_runS (As := [.int p1]) (rest := []) ⟨hx, hb, hml, hown, hts⟩ (cn_X10_isCrowd l dC dI cI cJ cZ    p1 (X10_isCrowd p1) rfl) (va_cwS 1 hts gX10_refusalOfChances_X10_isCrowd rfl rfl rfl (by decide +kernel) ⟨Nat.le_of_ble_eq_true rfl, Nat.le_of_ble_eq_true rfl⟩) (preRS hKK (hP.sub (ws' := []) [] rfl)) rfl rfl hl.1 rfl (lv_room (Nat.le_of_ble_eq_true rfl)) dX10_refusalOfChances_1 ⟨Nat.zero_le _, Nat.zero_le _⟩) (fun hz1 => ?_)
  refine lv_if_ne (tgt := 10) hx hb dX10_refusalOfChances_4 (by decide) (fun c2 => ?_) (fun c2 => ?_)
  · replace h := ite_f h c2
    refine lv_aload_n hx hb dX10_refusalOfChances_10 rfl (lv_at hl 0 rfl) ?_
    refine va_get (D := (dC, dI)) (ci := 10) (v := .ref q_t_chances) (C := RX10) (T := TX10) (N := 10) hx hb hts in_X10_refusalOfChances_X10 hown hK hP 0 rfl rfl 6 (by decide) (hts (.fieldLink RX10 54 "RightIfAsMany" "chances" "LRightIfAsMany$Chances;") (List.mem_of_getElem? (i := 1) rfl)) (fun _ h9 => h9) rfl dX10_refusalOfChances_11 ?_
    obtain ⟨r3, hc3, h⟩ := bnd1_s h
    refine kRz (res := r3) (va_runV (As := []) (rest := []) ⟨hx, hb, hml, hown, hts⟩ (cn_X0_areWhole l dC dI cI cJ cZ q_t_chances q_t_chances_weights  f_t_chances_weights  r3 hc3) (cwV 0 hts gX10_refusalOfChances_X0_areWhole rfl rfl rfl (by decide +kernel) ⟨Nat.le_of_ble_eq_true rfl, Nat.le_of_ble_eq_true rfl⟩) (preR hKK (hP.sub (ws' := [(q_t_chances, .inr (0, [.ref q_t_chances_weights])), (q_t_chances_weights, .inl (cI, 10, .inl f_t_chances_weights))]) [1, 2] rfl) (ci := 0) (q0 := 0) rfl rfl) rfl rfl hl.1 rfl (lv_room (Nat.le_of_ble_eq_true rfl)) dX10_refusalOfChances_14 ⟨Nat.zero_le _, Nat.zero_le _⟩) (fun hz4 => ?_)
    refine lv_if_eq (tgt := 24) hx hb dX10_refusalOfChances_17 (by decide) (fun c5 => ?_) (fun c5 => ?_)
    · replace h := ite_t h c5
      refine lv_bipush (v := (-3 : Int32)) hx hb dX10_refusalOfChances_24 (by decide) ?_
      have e1 := Option.some.inj h
      exact W.iret (v := (-3 : Int32)) hx hb hr (fun t ht hW => ⟨_, rfl, e1, ht⟩) (fun q hq => by cases hq) dX10_refusalOfChances_26
    replace h := ite_f h c5
    refine lv_iconst (v := (0 : Int32)) hx hb dX10_refusalOfChances_20 (by decide) ?_
    refine lv_goto (tgt := 26) hx hb dX10_refusalOfChances_21 (by decide) ?_
    have e1 := Option.some.inj h
    exact W.iret (v := (0 : Int32)) hx hb hr (fun t ht hW => ⟨_, rfl, e1, ht⟩) (fun q hq => by cases hq) dX10_refusalOfChances_26
  replace h := ite_t h c2
  refine lv_bipush (v := (-2 : Int32)) hx hb dX10_refusalOfChances_7 (by decide) ?_
  have e1 := Option.some.inj h
  exact W.iret (v := (-2 : Int32)) hx hb hr (fun t ht hW => ⟨_, rfl, e1, ht⟩) (fun q hq => by cases hq) dX10_refusalOfChances_9
abbrev rm_X10_commonDivisor : Room := { frames := 0, cells := 0, slots := 0, locals := 0 }
set_option maxHeartbeats 4000000 in
set_option maxRecDepth 100000 in
theorem cn_X10_commonDivisor (l : Launch) (dC : Nat → ClassId) (dI : Nat → Nat → Nat) (cI cJ cZ : ClassId) (p0 : Int64) (p2 : Int64) (res : Int64) (h : X10_commonDivisor p0 p2 = some res) : Met l yX10_commonDivisor wsX10_commonDivisor rm_X10_commonDivisor (pcR dC dI cI cJ cZ [] [.long p0, .long p2]) (vp_Sl (fun r => r = res)) 0 0 (fun _ => False) := by
  refine Met.ofW (cc := cX10_commonDivisor) (maxL := 11) (ret := (some .long)) (by decide) rfl ?_
  intro p e s m args below meth c s₁ B hml hv
  obtain ⟨rfl, hP, hKK⟩ := hv
  have hx := B.exec
  have hb := B.bytes
  have hr := B.returns
  have hts := atoms_spec (ws := wsX10_commonDivisor) B.pre
  have hown : s.vm.findClass RX10 = some m.cls := findClass_of_methodNamed B.named
  have hlocks := B.notSynchronized
  have hK := hKK.1
  have hl := lv_entry ([.long p0, .long p2]) (n := 11) (Nat.le_of_ble_eq_true rfl)
  rw [lg_entry_eq]
  generalize (lg_sl ([.long p0, .long p2]) ++ List.replicate (11 - (lg_sl ([.long p0, .long p2])).length) Slot.unset).toArray = ls at hl ⊢
  have hl : lv_has ls 11 [(0, .long p0), (2, .long p2)] := hl
  have L_9 : ∀ (n9 : Nat) , ∀  (x4 : Int64) (x6 : Int64) (x8 : Int32), X10_commonDivisor_b9 n9 x4 x6 x8 = some res → ∀ (ls : Array Slot), lv_has ls 11 [(4, .long x4), (6, .long x6), (8, .int x8)] → W p l e (headSpec wsX10_commonDivisor rm_X10_commonDivisor).room s m ([.long p0, .long p2] : List Value).toArray below meth c s.heap [] 0 0 (MQ below (vp_Sl (fun r => r = res)) ([.long p0, .long p2] : List Value).toArray s 0 0 (fun _ => False)) (F0 m 9 ls []) := by
    intro n9
    induction n9 with
    | zero => intro x4 x6 x8 h ls hl; exact absurd h (fun h => by cases h)
    | succ n9 ih_9 =>
      intro x4 x6 x8 h ls hl
      replace h : X10_commonDivisor_b9_s (X10_commonDivisor_b9 n9) x4 x6 x8 = some res := h
      unfold X10_commonDivisor_b9_s at h
      refine lv_iload hx hb dX10_commonDivisor_9 (lv_at hl 2 rfl) ?_
      refine lv_sipush (v := (128 : Int32)) hx hb dX10_commonDivisor_11 (by decide) ?_
      refine lv_icmp_ge (tgt := 45) hx hb dX10_commonDivisor_14 (by decide) (fun c1 => ?_) (fun c1 => ?_)
      · replace h := ite_t h c1
        refine lv_lload hx hb dX10_commonDivisor_45 (lv_at hl 0 rfl) ?_
        have e1 := Option.some.inj h
        exact W.lret (v := x4) hx hb hr (fun t ht hW => ⟨_, rfl, e1, ht⟩) (fun q hq => by cases hq) dX10_commonDivisor_47
      replace h := ite_f h c1
      refine lv_lload hx hb dX10_commonDivisor_17 (lv_at hl 1 rfl) ?_
      refine lv_lconst (v := (0 : Int64)) hx hb dX10_commonDivisor_19 (by decide) ?_
      refine W.lcmp hx hb dX10_commonDivisor_20 ?_
      refine lv_if_eq (tgt := 45) hx hb dX10_commonDivisor_21 (by decide) (fun c2 => ?_) (fun c2 => ?_)
      · replace h := ite_t h c2
        refine lv_lload hx hb dX10_commonDivisor_45 (lv_at hl 0 rfl) ?_
        have e1 := Option.some.inj h
        exact W.lret (v := x4) hx hb hr (fun t ht hW => ⟨_, rfl, e1, ht⟩) (fun q hq => by cases hq) dX10_commonDivisor_47
      replace h := ite_f h c2
      refine lv_lload hx hb dX10_commonDivisor_24 (lv_at hl 0 rfl) ?_
      refine lv_lload hx hb dX10_commonDivisor_26 (lv_at hl 1 rfl) ?_
      obtain ⟨hg3, h⟩ := grd_s h
      refine lv_lrem hx hb dX10_commonDivisor_28 hg3 ?_
      refine lv_lstore (lv' := [(9, .long (x4 - x4 / x6 * x6)), (4, .long x4), (6, .long x6), (8, .int x8)]) hx hb dX10_commonDivisor_29 hl (by decide) rfl (fun ls hl => ?_)
      refine lv_lload hx hb dX10_commonDivisor_31 (lv_at hl 2 rfl) ?_
      refine lv_lstore (lv' := [(4, .long x6), (9, .long (x4 - x4 / x6 * x6)), (6, .long x6), (8, .int x8)]) hx hb dX10_commonDivisor_33 hl (by decide) rfl (fun ls hl => ?_)
      refine lv_lload hx hb dX10_commonDivisor_35 (lv_at hl 1 rfl) ?_
      refine lv_lstore (lv' := [(6, .long (x4 - x4 / x6 * x6)), (4, .long x6), (9, .long (x4 - x4 / x6 * x6)), (8, .int x8)]) hx hb dX10_commonDivisor_37 hl (by decide) rfl (fun ls hl => ?_)
      refine lv_iinc (v := (x8 + (1 : Int32))) (lv' := [(8, .int (x8 + (1 : Int32))), (6, .long (x4 - x4 / x6 * x6)), (4, .long x6), (9, .long (x4 - x4 / x6 * x6))]) hx hb dX10_commonDivisor_39 hl (k := 3) rfl rfl (by decide) rfl (fun ls hl => ?_)
      refine lv_goto (tgt := 9) hx hb dX10_commonDivisor_42 (by decide) ?_
      exact ih_9 x6 (x4 - x4 / x6 * x6) (x8 + (1 : Int32)) h ls (lv_sub hl [2, 1, 0] rfl)
  unfold X10_commonDivisor at h
  refine lv_lload_n hx hb dX10_commonDivisor_0 rfl (lv_at hl 0 rfl) ?_
  refine lv_lstore (lv' := [(4, .long p0), (0, .long p0), (2, .long p2)]) hx hb dX10_commonDivisor_1 hl (by decide) rfl (fun ls hl => ?_)
  refine lv_lload_n hx hb dX10_commonDivisor_3 rfl (lv_at hl 2 rfl) ?_
  refine lv_lstore (lv' := [(6, .long p2), (4, .long p0), (0, .long p0), (2, .long p2)]) hx hb dX10_commonDivisor_4 hl (by decide) rfl (fun ls hl => ?_)
  refine lv_iconst (v := (0 : Int32)) hx hb dX10_commonDivisor_6 (by decide) ?_
  refine lv_istore (lv' := [(8, .int (0 : Int32)), (6, .long p2), (4, .long p0), (0, .long p0), (2, .long p2)]) hx hb dX10_commonDivisor_7 hl (by decide) rfl (fun ls hl => ?_)
  exact L_9 fU p0 p2 (0 : Int32) h ls (lv_sub hl [2, 1, 0] rfl)
abbrev rm_X10_leastTerms : Room := { frames := 1, cells := 0, slots := 0, locals := 30 }
set_option maxHeartbeats 4000000 in
set_option maxRecDepth 100000 in
theorem cn_X10_leastTerms (l : Launch) (dC : Nat → ClassId) (dI : Nat → Nat → Nat) (cI cJ cZ : ClassId) (p0 : Int64) (p2 : Int64) (p4 : Int32) (res : Int64) (h : X10_leastTerms p0 p2 p4 = some res) : Met l yX10_leastTerms wsX10_leastTerms rm_X10_leastTerms (pcR dC dI cI cJ cZ [] [.long p0, .long p2, .int p4]) (vp_Sl (fun r => r = res)) 0 0 (fun _ => False) := by
  refine Met.ofW (cc := cX10_leastTerms) (maxL := 7) (ret := (some .long)) (by decide) rfl ?_
  intro p e s m args below meth c s₁ B hml hv
  obtain ⟨rfl, hP, hKK⟩ := hv
  have hx := B.exec
  have hb := B.bytes
  have hr := B.returns
  have hts := atoms_spec (ws := wsX10_leastTerms) B.pre
  have hown : s.vm.findClass RX10 = some m.cls := findClass_of_methodNamed B.named
  have hlocks := B.notSynchronized
  have hK := hKK.1
  have hl := lv_entry ([.long p0, .long p2, .int p4]) (n := 7) (Nat.le_of_ble_eq_true rfl)
  rw [lg_entry_eq]
  generalize (lg_sl ([.long p0, .long p2, .int p4]) ++ List.replicate (7 - (lg_sl ([.long p0, .long p2, .int p4])).length) Slot.unset).toArray = ls at hl ⊢
  have hl : lv_has ls 7 [(0, .long p0), (2, .long p2), (4, .int p4)] := hl
  have B_28 : ∀  (x5 : Int64) (s0 : Int64), X10_leastTerms_b28 x5 s0 = some res → ∀ (ls : Array Slot), lv_has ls 7 [(5, .long x5)] → W p l e (headSpec wsX10_leastTerms rm_X10_leastTerms).room s m ([.long p0, .long p2, .int p4] : List Value).toArray below meth c s.heap [] 0 0 (MQ below (vp_Sl (fun r => r = res)) ([.long p0, .long p2, .int p4] : List Value).toArray s 0 0 (fun _ => False)) (F0 m 28 ls [.long s0]) := by
    intro x5 s0 h ls hl
    unfold X10_leastTerms_b28 at h
    refine lv_lload hx hb dX10_leastTerms_28 (lv_at hl 0 rfl) ?_
    obtain ⟨hg1, h⟩ := grd_s h
    refine lv_ldiv hx hb dX10_leastTerms_30 hg1 ?_
    have e1 := Option.some.inj h
    exact W.lret (v := (s0 / x5)) hx hb hr (fun t ht hW => ⟨_, rfl, e1, ht⟩) (fun q hq => by cases hq) dX10_leastTerms_31
  unfold X10_leastTerms at h
  refine lv_lload_n hx hb dX10_leastTerms_0 rfl (lv_at hl 0 rfl) ?_
  refine lv_lload_n hx hb dX10_leastTerms_1 rfl (lv_at hl 1 rfl) ?_
  obtain ⟨r2, hc2, h⟩ := bnd1_s h
  refine kRl (res := r2) (va_runS (As := [.long p0, .long p2]) (rest := []) ⟨hx, hb, hml, hown, hts⟩ (cn_X10_commonDivisor l dC dI cI cJ cZ    p0 p2 r2 hc2) (va_cwS 2 hts gX10_leastTerms_X10_commonDivisor rfl rfl rfl (by decide +kernel) ⟨Nat.le_of_ble_eq_true rfl, Nat.le_of_ble_eq_true rfl⟩) (preRS hKK (hP.sub (ws' := []) [] rfl)) rfl rfl hl.1 rfl (lv_room (Nat.le_of_ble_eq_true rfl)) dX10_leastTerms_2 ⟨Nat.zero_le _, Nat.zero_le _⟩) ?_
  refine lv_lstore (lv' := [(5, .long r2), (0, .long p0), (2, .long p2), (4, .int p4)]) hx hb dX10_leastTerms_5 hl (by decide) rfl (fun ls hl => ?_)
  refine lv_lload hx hb dX10_leastTerms_7 (lv_at hl 0 rfl) ?_
  refine lv_lconst (v := (1 : Int64)) hx hb dX10_leastTerms_9 (by decide) ?_
  refine W.lcmp hx hb dX10_leastTerms_10 ?_
  refine lv_if_ge (tgt := 18) hx hb dX10_leastTerms_11 (by decide) (fun c3 => ?_) (fun c3 => ?_)
  · replace h := ite_t h c3
    refine lv_iload hx hb dX10_leastTerms_18 (lv_at hl 3 rfl) ?_
    refine lv_if_eq (tgt := 27) hx hb dX10_leastTerms_20 (by decide) (fun c4 => ?_) (fun c4 => ?_)
    · replace h := ite_t h c4
      refine lv_lload_n hx hb dX10_leastTerms_27 rfl (lv_at hl 2 rfl) ?_
      exact B_28 r2 p2 h ls (lv_sub hl [0] rfl)
    replace h := ite_f h c4
    refine lv_lload_n hx hb dX10_leastTerms_23 rfl (lv_at hl 1 rfl) ?_
    refine lv_goto (tgt := 28) hx hb dX10_leastTerms_24 (by decide) ?_
    exact B_28 r2 p0 h ls (lv_sub hl [0] rfl)
  replace h := ite_f h c3
  refine lv_ldc2 (v := (-9 : Int64)) hx hb hown (hts (.constantLong RX10 302 (-9)) (List.mem_of_getElem? (i := 1) rfl)) dX10_leastTerms_14 ?_
  have e1 := Option.some.inj h
  exact W.lret (v := (-9 : Int64)) hx hb hr (fun t ht hW => ⟨_, rfl, e1, ht⟩) (fun q hq => by cases hq) dX10_leastTerms_17
abbrev rm_X10_allRight : Room := { frames := 3, cells := 0, slots := 0, locals := 76 }
theorem in_X10_allRight_X8 : ∀ w ∈ wsX80, w ∈ wsX10_allRight := fun _ h => List.mem_cons_of_mem _ (List.mem_append_right _ h)
theorem in_X10_allRight_X7 : ∀ w ∈ wsX70, w ∈ wsX10_allRight := fun _ h => List.mem_cons_of_mem _ (List.mem_append_left _ (List.mem_append_right _ h))
theorem in_X10_allRight_X0 : ∀ w ∈ wsX00, w ∈ wsX10_allRight := fun _ h => List.mem_cons_of_mem _ (List.mem_append_left _ (List.mem_append_left _ (List.mem_append_right _ h)))
theorem in_X10_allRight_X10 : ∀ w ∈ wsX100, w ∈ wsX10_allRight := fun _ h => List.mem_cons_of_mem _ (List.mem_append_left _ (List.mem_append_left _ (List.mem_append_left _ (List.mem_append_right _ h))))
set_option maxHeartbeats 4000000 in
set_option maxRecDepth 100000 in
theorem cn_X10_allRight (l : Launch) (dC : Nat → ClassId) (dI : Nat → Nat → Nat) (cI cJ cZ : ClassId) (q_t q_t_text q_t_reader q_t_rules q_t_people q_t_memory q_t_rows q_t_chances q_t_moves q_t_payments q_t_evenings q_t_rows_sums q_t_rows_costs q_t_rows_weights q_t_rows_needed q_t_chances_weights : Nat) (sz : Nat) (v_t_rules_law : Int32) (v_t_rules_share : Int32) (v_t_rules_pot : Int32) (v_t_rules_barred : Int32) (f_t_rows_sums : (Nat → Int64)) (f_t_chances_weights : (Nat → Int32)) (p1 : Int32) (p2 : Int32) (res : Int64) (r_f_t_rows_sums : (Nat → Int64)) (h : X10_allRight v_t_rules_law f_t_rows_sums f_t_chances_weights p1 p2 = some (res, r_f_t_rows_sums)) : Met l yX10_allRight wsX10_allRight rm_X10_allRight (pcW dC dI cI cJ cZ [(q_t, .inr (10, [.ref q_t_text, .ref q_t_reader, .ref q_t_rules, .ref q_t_people, .ref q_t_memory, .ref q_t_rows, .ref q_t_chances, .ref q_t_moves, .ref q_t_payments, .ref q_t_evenings])), (q_t_rules, .inr (8, [.int v_t_rules_law, .int v_t_rules_share, .int v_t_rules_pot, .int v_t_rules_barred])), (q_t_rows, .inr (7, [.ref q_t_rows_sums, .ref q_t_rows_costs, .ref q_t_rows_weights, .ref q_t_rows_needed])), (q_t_rows_sums, .inl (cJ, 10, .inr (.inl f_t_rows_sums))), (q_t_chances, .inr (0, [.ref q_t_chances_weights])), (q_t_chances_weights, .inl (cI, 10, .inl f_t_chances_weights))] sz [.ref q_t, .int p1, .int p2]) (va_Ql (fun (r : Int64) (_ : Unit) => r = res) (bW dC dI (va_A [(q_t, .inr (10, [.ref q_t_text, .ref q_t_reader, .ref q_t_rules, .ref q_t_people, .ref q_t_memory, .ref q_t_rows, .ref q_t_chances, .ref q_t_moves, .ref q_t_payments, .ref q_t_evenings])), (q_t_rules, .inr (8, [.int v_t_rules_law, .int v_t_rules_share, .int v_t_rules_pot, .int v_t_rules_barred])), (q_t_rows, .inr (7, [.ref q_t_rows_sums, .ref q_t_rows_costs, .ref q_t_rows_weights, .ref q_t_rows_needed])), (q_t_rows_sums, .inl (cJ, 10, .inr (.inl f_t_rows_sums))), (q_t_chances, .inr (0, [.ref q_t_chances_weights])), (q_t_chances_weights, .inl (cI, 10, .inl f_t_chances_weights))] sz) [(q_t, .inr (10, [.ref q_t_text, .ref q_t_reader, .ref q_t_rules, .ref q_t_people, .ref q_t_memory, .ref q_t_rows, .ref q_t_chances, .ref q_t_moves, .ref q_t_payments, .ref q_t_evenings])), (q_t_rules, .inr (8, [.int v_t_rules_law, .int v_t_rules_share, .int v_t_rules_pot, .int v_t_rules_barred])), (q_t_rows, .inr (7, [.ref q_t_rows_sums, .ref q_t_rows_costs, .ref q_t_rows_weights, .ref q_t_rows_needed])), (q_t_rows_sums, .inl (cJ, 10, .inr (.inl r_f_t_rows_sums))), (q_t_chances, .inr (0, [.ref q_t_chances_weights])), (q_t_chances_weights, .inl (cI, 10, .inl f_t_chances_weights))]) (va_A [(q_t, .inr (10, [.ref q_t_text, .ref q_t_reader, .ref q_t_rules, .ref q_t_people, .ref q_t_memory, .ref q_t_rows, .ref q_t_chances, .ref q_t_moves, .ref q_t_payments, .ref q_t_evenings])), (q_t_rules, .inr (8, [.int v_t_rules_law, .int v_t_rules_share, .int v_t_rules_pot, .int v_t_rules_barred])), (q_t_rows, .inr (7, [.ref q_t_rows_sums, .ref q_t_rows_costs, .ref q_t_rows_weights, .ref q_t_rows_needed])), (q_t_rows_sums, .inl (cJ, 10, .inr (.inl f_t_rows_sums))), (q_t_chances, .inr (0, [.ref q_t_chances_weights])), (q_t_chances_weights, .inl (cI, 10, .inl f_t_chances_weights))] sz)) 0 0 (va_A [(q_t, .inr (10, [.ref q_t_text, .ref q_t_reader, .ref q_t_rules, .ref q_t_people, .ref q_t_memory, .ref q_t_rows, .ref q_t_chances, .ref q_t_moves, .ref q_t_payments, .ref q_t_evenings])), (q_t_rules, .inr (8, [.int v_t_rules_law, .int v_t_rules_share, .int v_t_rules_pot, .int v_t_rules_barred])), (q_t_rows, .inr (7, [.ref q_t_rows_sums, .ref q_t_rows_costs, .ref q_t_rows_weights, .ref q_t_rows_needed])), (q_t_rows_sums, .inl (cJ, 10, .inr (.inl f_t_rows_sums))), (q_t_chances, .inr (0, [.ref q_t_chances_weights])), (q_t_chances_weights, .inl (cI, 10, .inl f_t_chances_weights))] sz) := by
  refine Met.ofW (cc := cX10_allRight) (maxL := 4) (ret := (some .long)) (by decide) rfl ?_
  intro p e s m args below meth c s₁ B hml hv
  obtain ⟨rfl, hsz, hP, hKK, hD0⟩ := hv
  have hx := B.exec
  have hb := B.bytes
  have hr := B.returns
  have hts := atoms_spec (ws := wsX10_allRight) B.pre
  have hown : s.vm.findClass RX10 = some m.cls := findClass_of_methodNamed B.named
  have hlocks := B.notSynchronized
  have hK := hKK.1
  subst hsz
  have hD := hD0.self (sz := s.heap.size)
  generalize hAe : va_A [(q_t, .inr (10, [.ref q_t_text, .ref q_t_reader, .ref q_t_rules, .ref q_t_people, .ref q_t_memory, .ref q_t_rows, .ref q_t_chances, .ref q_t_moves, .ref q_t_payments, .ref q_t_evenings])), (q_t_rules, .inr (8, [.int v_t_rules_law, .int v_t_rules_share, .int v_t_rules_pot, .int v_t_rules_barred])), (q_t_rows, .inr (7, [.ref q_t_rows_sums, .ref q_t_rows_costs, .ref q_t_rows_weights, .ref q_t_rows_needed])), (q_t_rows_sums, .inl (cJ, 10, .inr (.inl f_t_rows_sums))), (q_t_chances, .inr (0, [.ref q_t_chances_weights])), (q_t_chances_weights, .inl (cI, 10, .inl f_t_chances_weights))] s.heap.size = A at hD ⊢
  have hA : ∀ q : Nat, s.heap.size ≤ q → A q := fun q h => by rw [← hAe]; exact Or.inr h
  have hS : va_S A s.heap s.heap [] := va_S.rf
  have hl := lv_entry ([.ref q_t, .int p1, .int p2]) (n := 4) (Nat.le_of_ble_eq_true rfl)
  rw [lg_entry_eq]
  generalize (lg_sl ([.ref q_t, .int p1, .int p2]) ++ List.replicate (4 - (lg_sl ([.ref q_t, .int p1, .int p2])).length) Slot.unset).toArray = ls at hl ⊢
  have hl : lv_has ls 4 [(0, .ref q_t), (1, .int p1), (2, .int p2)] := hl
  unfold X10_allRight at h
  obtain ⟨H, hHe⟩ : ∃ H, H = s.heap := ⟨_, rfl⟩
  obtain ⟨locs, hLe⟩ : ∃ x : List Loc, x = [] := ⟨_, rfl⟩
  rw [← hHe] at hP
  have hS : va_S A s.heap H locs := by rw [hHe, hLe]; exact hS
  suffices hW : W p l e (headSpec wsX10_allRight rm_X10_allRight).room s m ([.ref q_t, .int p1, .int p2] : List Value).toArray below meth c H locs 0 0 (MQ below (va_Ql (fun (r : Int64) (_ : Unit) => r = res) (bW dC dI A [(q_t, .inr (10, [.ref q_t_text, .ref q_t_reader, .ref q_t_rules, .ref q_t_people, .ref q_t_memory, .ref q_t_rows, .ref q_t_chances, .ref q_t_moves, .ref q_t_payments, .ref q_t_evenings])), (q_t_rules, .inr (8, [.int v_t_rules_law, .int v_t_rules_share, .int v_t_rules_pot, .int v_t_rules_barred])), (q_t_rows, .inr (7, [.ref q_t_rows_sums, .ref q_t_rows_costs, .ref q_t_rows_weights, .ref q_t_rows_needed])), (q_t_rows_sums, .inl (cJ, 10, .inr (.inl r_f_t_rows_sums))), (q_t_chances, .inr (0, [.ref q_t_chances_weights])), (q_t_chances_weights, .inl (cI, 10, .inl f_t_chances_weights))]) A) ([.ref q_t, .int p1, .int p2] : List Value).toArray s 0 0 A) (F0 m 0 ls []) by rw [hHe, hLe] at hW; exact hW
  refine lv_aload_n hx hb dX10_allRight_0 rfl (lv_at hl 0 rfl) ?_
  refine lv_iload_n hx hb dX10_allRight_1 rfl (lv_at hl 1 rfl) ?_
  obtain ⟨r1, hc1, h⟩ := bnd1_s h
  refine kRi (res := r1) (va_runV (As := [.int p1]) (rest := []) ⟨hx, hb, hml, hown, hts⟩ (cn_X10_refusalOfChances l dC dI cI cJ cZ q_t q_t_text q_t_reader q_t_rules q_t_people q_t_memory q_t_rows q_t_chances q_t_moves q_t_payments q_t_evenings q_t_chances_weights  f_t_chances_weights p1 r1 hc1) (cwV 1 hts gX10_allRight_X10_refusalOfChances rfl rfl rfl (by decide +kernel) ⟨Nat.le_of_ble_eq_true rfl, Nat.le_of_ble_eq_true rfl⟩) (preR hKK (hP.sub (ws' := [(q_t, .inr (10, [.ref q_t_text, .ref q_t_reader, .ref q_t_rules, .ref q_t_people, .ref q_t_memory, .ref q_t_rows, .ref q_t_chances, .ref q_t_moves, .ref q_t_payments, .ref q_t_evenings])), (q_t_chances, .inr (0, [.ref q_t_chances_weights])), (q_t_chances_weights, .inl (cI, 10, .inl f_t_chances_weights))]) [0, 4, 5] rfl) (ci := 10) (q0 := 0) rfl rfl) rfl rfl hl.1 rfl (lv_room (Nat.le_of_ble_eq_true rfl)) dX10_allRight_2 ⟨Nat.zero_le _, Nat.zero_le _⟩) ?_
  refine lv_istore_n (lv' := [(3, .int r1), (0, .ref q_t), (1, .int p1), (2, .int p2)]) hx hb dX10_allRight_5 rfl hl (by decide) rfl (fun ls hl => ?_)
  refine lv_iload_n hx hb dX10_allRight_6 rfl (lv_at hl 0 rfl) ?_
  refine lv_if_eq (tgt := 13) hx hb dX10_allRight_7 (by decide) (fun c2 => ?_) (fun c2 => ?_)
  · replace h := ite_t h c2
    refine lv_aload_n hx hb dX10_allRight_13 rfl (lv_at hl 1 rfl) ?_
    refine va_get (D := (dC, dI)) (ci := 10) (v := .ref q_t_rows) (C := RX10) (T := TX10) (N := 10) hx hb hts in_X10_allRight_X10 hown hK hP 0 rfl rfl 5 (by decide) (hts (.fieldLink RX10 47 "RightIfAsMany" "rows" "LRightIfAsMany$Rows;") (List.mem_of_getElem? (i := 1) rfl)) (fun _ h9 => h9) rfl dX10_allRight_14 ?_
    refine lv_aload_n hx hb dX10_allRight_17 rfl (lv_at hl 1 rfl) ?_
    refine va_get (D := (dC, dI)) (ci := 10) (v := .ref q_t_rules) (C := RX10) (T := TX10) (N := 10) hx hb hts in_X10_allRight_X10 hown hK hP 0 rfl rfl 2 (by decide) (hts (.fieldLink RX10 26 "RightIfAsMany" "rules" "LRightIfAsMany$Rules;") (List.mem_of_getElem? (i := 2) rfl)) (fun _ h9 => h9) rfl dX10_allRight_18 ?_
    refine lv_aload_n hx hb dX10_allRight_21 rfl (lv_at hl 1 rfl) ?_
    refine va_get (D := (dC, dI)) (ci := 10) (v := .ref q_t_chances) (C := RX10) (T := TX10) (N := 10) hx hb hts in_X10_allRight_X10 hown hK hP 0 rfl rfl 6 (by decide) (hts (.fieldLink RX10 54 "RightIfAsMany" "chances" "LRightIfAsMany$Chances;") (List.mem_of_getElem? (i := 3) rfl)) (fun _ h9 => h9) rfl dX10_allRight_22 ?_
    refine kRr (res := q_t_chances_weights) (va_runV (As := []) (rest := [.ref q_t_rules, .ref q_t_rows]) ⟨hx, hb, hml, hown, hts⟩ (cn_X0_weights l dC dI cI cJ cZ q_t_chances q_t_chances_weights     ) (cwV 0 hts gX10_allRight_X0_weights rfl rfl rfl (by decide +kernel) ⟨Nat.le_of_ble_eq_true rfl, Nat.le_of_ble_eq_true rfl⟩) (preR hKK (hP.sub (ws' := [(q_t_chances, .inr (0, [.ref q_t_chances_weights]))]) [4] rfl) (ci := 0) (q0 := 0) rfl rfl) rfl rfl hl.1 rfl (lv_room (Nat.le_of_ble_eq_true rfl)) dX10_allRight_25 ⟨Nat.zero_le _, Nat.zero_le _⟩) ?_
    refine lv_iload_n hx hb dX10_allRight_28 rfl (lv_at hl 2 rfl) ?_
    obtain ⟨r3, w3_1, hc3, h⟩ := bnd2_s h
    refine kWl (res := r3) (wc := [(q_t_rows, .inr (7, [.ref q_t_rows_sums, .ref q_t_rows_costs, .ref q_t_rows_weights, .ref q_t_rows_needed])), (q_t_rows_sums, .inl (cJ, 10, .inr (.inl f_t_rows_sums))), (q_t_rules, .inr (8, [.int v_t_rules_law, .int v_t_rules_share, .int v_t_rules_pot, .int v_t_rules_barred])), (q_t_chances_weights, .inl (cI, 10, .inl f_t_chances_weights))]) (wr := [(q_t, .inr (10, [.ref q_t_text, .ref q_t_reader, .ref q_t_rules, .ref q_t_people, .ref q_t_memory, .ref q_t_rows, .ref q_t_chances, .ref q_t_moves, .ref q_t_payments, .ref q_t_evenings])), (q_t_chances, .inr (0, [.ref q_t_chances_weights]))]) (w1 := [(q_t_rows, .inr (7, [.ref q_t_rows_sums, .ref q_t_rows_costs, .ref q_t_rows_weights, .ref q_t_rows_needed])), (q_t_rows_sums, .inl (cJ, 10, .inr (.inl w3_1))), (q_t_rules, .inr (8, [.int v_t_rules_law, .int v_t_rules_share, .int v_t_rules_pot, .int v_t_rules_barred])), (q_t_chances_weights, .inl (cI, 10, .inl f_t_chances_weights))]) (wn := [(q_t, .inr (10, [.ref q_t_text, .ref q_t_reader, .ref q_t_rules, .ref q_t_people, .ref q_t_memory, .ref q_t_rows, .ref q_t_chances, .ref q_t_moves, .ref q_t_payments, .ref q_t_evenings])), (q_t_rules, .inr (8, [.int v_t_rules_law, .int v_t_rules_share, .int v_t_rules_pot, .int v_t_rules_barred])), (q_t_rows, .inr (7, [.ref q_t_rows_sums, .ref q_t_rows_costs, .ref q_t_rows_weights, .ref q_t_rows_needed])), (q_t_rows_sums, .inl (cJ, 10, .inr (.inl w3_1))), (q_t_chances, .inr (0, [.ref q_t_chances_weights])), (q_t_chances_weights, .inl (cI, 10, .inl f_t_chances_weights))]) hP hD hS hA [2, 3, 1, 5] [0, 4] [0, 4, 2, 3, 1, 5] rfl rfl (by decide) (by decide) rfl (by decide) (va_runV (As := [.ref q_t_rules, .ref q_t_chances_weights, .int p1]) (rest := []) ⟨hx, hb, hml, hown, hts⟩ (cn_X7_weighted l dC dI cI cJ cZ q_t_rows q_t_rules q_t_chances_weights q_t_rows_sums q_t_rows_costs q_t_rows_weights q_t_rows_needed H.size f_t_rows_sums v_t_rules_law v_t_rules_share v_t_rules_pot v_t_rules_barred f_t_chances_weights p1 r3 w3_1 hc3) (cwV 3 hts gX10_allRight_X7_weighted rfl rfl rfl (by decide +kernel) ⟨Nat.le_of_ble_eq_true rfl, Nat.le_of_ble_eq_true rfl⟩) (preW hKK (hP.sub (ws' := [(q_t_rows, .inr (7, [.ref q_t_rows_sums, .ref q_t_rows_costs, .ref q_t_rows_weights, .ref q_t_rows_needed])), (q_t_rows_sums, .inl (cJ, 10, .inr (.inl f_t_rows_sums))), (q_t_rules, .inr (8, [.int v_t_rules_law, .int v_t_rules_share, .int v_t_rules_pot, .int v_t_rules_barred])), (q_t_chances_weights, .inl (cI, 10, .inl f_t_chances_weights))]) [2, 3, 1, 5] rfl) (hD.sub (ws' := [(q_t_rows, .inr (7, [.ref q_t_rows_sums, .ref q_t_rows_costs, .ref q_t_rows_weights, .ref q_t_rows_needed])), (q_t_rows_sums, .inl (cJ, 10, .inr (.inl f_t_rows_sums))), (q_t_rules, .inr (8, [.int v_t_rules_law, .int v_t_rules_share, .int v_t_rules_pot, .int v_t_rules_barred])), (q_t_chances_weights, .inl (cI, 10, .inl f_t_chances_weights))]) [2, 3, 1, 5] (by decide) rfl) (ci := 7) (q0 := 0) rfl rfl) rfl rfl hl.1 rfl (lv_room (Nat.le_of_ble_eq_true rfl)) dX10_allRight_29 ⟨Nat.zero_le _, Nat.zero_le _⟩) (fun H locs hP hD hS => ?_)
    refine lv_ldc2 (v := (10 : Int64)) hx hb hown (hts (.constantLong RX10 214 (10)) (List.mem_of_getElem? (i := 4) rfl)) dX10_allRight_32 ?_
    refine lv_iload_n hx hb dX10_allRight_35 rfl (lv_at hl 2 rfl) ?_
    obtain ⟨r4, hc4, h⟩ := bnd1_s h
    refine kRl (res := r4) (va_runS (As := [.long (10 : Int64), .int p1]) (rest := [.long r3]) ⟨hx, hb, hml, hown, hts⟩ (cn_X10_power l dC dI cI cJ cZ    (10 : Int64) p1 r4 hc4) (va_cwS 2 hts gX10_allRight_X10_power rfl rfl rfl (by decide +kernel) ⟨Nat.le_of_ble_eq_true rfl, Nat.le_of_ble_eq_true rfl⟩) (preRS hKK (hP.sub (ws' := []) [] rfl)) rfl rfl hl.1 rfl (lv_room (Nat.le_of_ble_eq_true rfl)) dX10_allRight_36 ⟨Nat.zero_le _, Nat.zero_le _⟩) ?_
    refine lv_iload_n hx hb dX10_allRight_39 rfl (lv_at hl 3 rfl) ?_
    obtain ⟨r5, hc5, h⟩ := bnd1_s h
    refine kRl (res := r5) (va_runS (As := [.long r3, .long r4, .int p2]) (rest := []) ⟨hx, hb, hml, hown, hts⟩ (cn_X10_leastTerms l dC dI cI cJ cZ    r3 r4 p2 r5 hc5) (va_cwS 3 hts gX10_allRight_X10_leastTerms rfl rfl rfl (by decide +kernel) ⟨Nat.le_of_ble_eq_true rfl, Nat.le_of_ble_eq_true rfl⟩) (preRS hKK (hP.sub (ws' := []) [] rfl)) rfl rfl hl.1 rfl (lv_room (Nat.le_of_ble_eq_true rfl)) dX10_allRight_40 ⟨Nat.zero_le _, Nat.zero_le _⟩) ?_
    replace h := Option.some.inj h
    obtain ⟨e1, e2⟩ := pr2 h
    exact W.lret (v := r5) hx hb hr (fun t ht hW => ⟨⟨_, (), rfl, e1, (by rw [ht, ← e2]; exact hP), (by rw [← e2]; exact hD)⟩, hS.F ht⟩) hS.2.2 dX10_allRight_43
  replace h := ite_f h c2
  refine lv_iload_n hx hb dX10_allRight_10 rfl (lv_at hl 0 rfl) ?_
  refine lv_i2l hx hb dX10_allRight_11 rfl ?_
  replace h := Option.some.inj h
  obtain ⟨e1, e2⟩ := pr2 h
  exact W.lret (v := r1.toInt64) hx hb hr (fun t ht hW => ⟨⟨_, (), rfl, e1, (by rw [ht, ← e2]; exact hP), (by rw [← e2]; exact hD)⟩, hS.F ht⟩) hS.2.2 dX10_allRight_12
abbrev rm_X10_mean : Room := { frames := 3, cells := 0, slots := 0, locals := 73 }
theorem in_X10_mean_X8 : ∀ w ∈ wsX80, w ∈ wsX10_mean := fun _ h => List.mem_cons_of_mem _ (List.mem_append_right _ h)
theorem in_X10_mean_X0 : ∀ w ∈ wsX00, w ∈ wsX10_mean := fun _ h => List.mem_cons_of_mem _ (List.mem_append_left _ (List.mem_append_right _ h))
theorem in_X10_mean_X10 : ∀ w ∈ wsX100, w ∈ wsX10_mean := fun _ h => List.mem_cons_of_mem _ (List.mem_append_left _ (List.mem_append_left _ (List.mem_append_right _ h)))
set_option maxHeartbeats 4000000 in
set_option maxRecDepth 100000 in
theorem cn_X10_mean (l : Launch) (dC : Nat → ClassId) (dI : Nat → Nat → Nat) (cI cJ cZ : ClassId) (q_t q_t_text q_t_reader q_t_rules q_t_people q_t_memory q_t_rows q_t_chances q_t_moves q_t_payments q_t_evenings q_t_chances_weights : Nat) (v_t_rules_law : Int32) (v_t_rules_share : Int32) (v_t_rules_pot : Int32) (v_t_rules_barred : Int32) (f_t_chances_weights : (Nat → Int32)) (p1 : Int32) (p2 : Int32) (res : Int64) (h : X10_mean v_t_rules_law f_t_chances_weights p1 p2 = some res) : Met l yX10_mean wsX10_mean rm_X10_mean (pcR dC dI cI cJ cZ [(q_t, .inr (10, [.ref q_t_text, .ref q_t_reader, .ref q_t_rules, .ref q_t_people, .ref q_t_memory, .ref q_t_rows, .ref q_t_chances, .ref q_t_moves, .ref q_t_payments, .ref q_t_evenings])), (q_t_rules, .inr (8, [.int v_t_rules_law, .int v_t_rules_share, .int v_t_rules_pot, .int v_t_rules_barred])), (q_t_chances, .inr (0, [.ref q_t_chances_weights])), (q_t_chances_weights, .inl (cI, 10, .inl f_t_chances_weights))] [.ref q_t, .int p1, .int p2]) (vp_Sl (fun r => r = res)) 0 0 (fun _ => False) := by
  refine Met.ofW (cc := cX10_mean) (maxL := 4) (ret := (some .long)) (by decide) rfl ?_
  intro p e s m args below meth c s₁ B hml hv
  obtain ⟨rfl, hP, hKK⟩ := hv
  have hx := B.exec
  have hb := B.bytes
  have hr := B.returns
  have hts := atoms_spec (ws := wsX10_mean) B.pre
  have hown : s.vm.findClass RX10 = some m.cls := findClass_of_methodNamed B.named
  have hlocks := B.notSynchronized
  have hK := hKK.1
  have hl := lv_entry ([.ref q_t, .int p1, .int p2]) (n := 4) (Nat.le_of_ble_eq_true rfl)
  rw [lg_entry_eq]
  generalize (lg_sl ([.ref q_t, .int p1, .int p2]) ++ List.replicate (4 - (lg_sl ([.ref q_t, .int p1, .int p2])).length) Slot.unset).toArray = ls at hl ⊢
  have hl : lv_has ls 4 [(0, .ref q_t), (1, .int p1), (2, .int p2)] := hl
  unfold X10_mean at h
  refine lv_aload_n hx hb dX10_mean_0 rfl (lv_at hl 0 rfl) ?_
  refine lv_iload_n hx hb dX10_mean_1 rfl (lv_at hl 1 rfl) ?_
  obtain ⟨r1, hc1, h⟩ := bnd1_s h
  refine kRi (res := r1) (va_runV (As := [.int p1]) (rest := []) ⟨hx, hb, hml, hown, hts⟩ (cn_X10_refusalOfChances l dC dI cI cJ cZ q_t q_t_text q_t_reader q_t_rules q_t_people q_t_memory q_t_rows q_t_chances q_t_moves q_t_payments q_t_evenings q_t_chances_weights  f_t_chances_weights p1 r1 hc1) (cwV 1 hts gX10_mean_X10_refusalOfChances rfl rfl rfl (by decide +kernel) ⟨Nat.le_of_ble_eq_true rfl, Nat.le_of_ble_eq_true rfl⟩) (preR hKK (hP.sub (ws' := [(q_t, .inr (10, [.ref q_t_text, .ref q_t_reader, .ref q_t_rules, .ref q_t_people, .ref q_t_memory, .ref q_t_rows, .ref q_t_chances, .ref q_t_moves, .ref q_t_payments, .ref q_t_evenings])), (q_t_chances, .inr (0, [.ref q_t_chances_weights])), (q_t_chances_weights, .inl (cI, 10, .inl f_t_chances_weights))]) [0, 2, 3] rfl) (ci := 10) (q0 := 0) rfl rfl) rfl rfl hl.1 rfl (lv_room (Nat.le_of_ble_eq_true rfl)) dX10_mean_2 ⟨Nat.zero_le _, Nat.zero_le _⟩) ?_
  refine lv_istore_n (lv' := [(3, .int r1), (0, .ref q_t), (1, .int p1), (2, .int p2)]) hx hb dX10_mean_5 rfl hl (by decide) rfl (fun ls hl => ?_)
  refine lv_iload_n hx hb dX10_mean_6 rfl (lv_at hl 0 rfl) ?_
  refine lv_if_eq (tgt := 13) hx hb dX10_mean_7 (by decide) (fun c2 => ?_) (fun c2 => ?_)
  · replace h := ite_t h c2
    refine lv_aload_n hx hb dX10_mean_13 rfl (lv_at hl 1 rfl) ?_
    refine va_get (D := (dC, dI)) (ci := 10) (v := .ref q_t_chances) (C := RX10) (T := TX10) (N := 10) hx hb hts in_X10_mean_X10 hown hK hP 0 rfl rfl 6 (by decide) (hts (.fieldLink RX10 54 "RightIfAsMany" "chances" "LRightIfAsMany$Chances;") (List.mem_of_getElem? (i := 1) rfl)) (fun _ h9 => h9) rfl dX10_mean_14 ?_
    refine lv_aload_n hx hb dX10_mean_17 rfl (lv_at hl 1 rfl) ?_
    refine va_get (D := (dC, dI)) (ci := 10) (v := .ref q_t_rules) (C := RX10) (T := TX10) (N := 10) hx hb hts in_X10_mean_X10 hown hK hP 0 rfl rfl 2 (by decide) (hts (.fieldLink RX10 26 "RightIfAsMany" "rules" "LRightIfAsMany$Rules;") (List.mem_of_getElem? (i := 2) rfl)) (fun _ h9 => h9) rfl dX10_mean_18 ?_
    refine lv_iload_n hx hb dX10_mean_21 rfl (lv_at hl 2 rfl) ?_
    obtain ⟨r3, hc3, h⟩ := bnd1_s h
    refine kRl (res := r3) (va_runV (As := [.ref q_t_rules, .int p1]) (rest := []) ⟨hx, hb, hml, hown, hts⟩ (cn_X0_rightTogether l dC dI cI cJ cZ q_t_chances q_t_rules q_t_chances_weights  f_t_chances_weights v_t_rules_law v_t_rules_share v_t_rules_pot v_t_rules_barred p1 r3 hc3) (cwV 2 hts gX10_mean_X0_rightTogether rfl rfl rfl (by decide +kernel) ⟨Nat.le_of_ble_eq_true rfl, Nat.le_of_ble_eq_true rfl⟩) (preR hKK (hP.sub (ws' := [(q_t_chances, .inr (0, [.ref q_t_chances_weights])), (q_t_chances_weights, .inl (cI, 10, .inl f_t_chances_weights)), (q_t_rules, .inr (8, [.int v_t_rules_law, .int v_t_rules_share, .int v_t_rules_pot, .int v_t_rules_barred]))]) [2, 3, 1] rfl) (ci := 0) (q0 := 0) rfl rfl) rfl rfl hl.1 rfl (lv_room (Nat.le_of_ble_eq_true rfl)) dX10_mean_22 ⟨Nat.zero_le _, Nat.zero_le _⟩) ?_
    refine lv_ldc2 (v := (10 : Int64)) hx hb hown (hts (.constantLong RX10 214 (10)) (List.mem_of_getElem? (i := 3) rfl)) dX10_mean_25 ?_
    refine lv_iload_n hx hb dX10_mean_28 rfl (lv_at hl 2 rfl) ?_
    obtain ⟨r4, hc4, h⟩ := bnd1_s h
    refine kRl (res := r4) (va_runS (As := [.long (10 : Int64), .int p1]) (rest := [.long r3]) ⟨hx, hb, hml, hown, hts⟩ (cn_X10_power l dC dI cI cJ cZ    (10 : Int64) p1 r4 hc4) (va_cwS 2 hts gX10_mean_X10_power rfl rfl rfl (by decide +kernel) ⟨Nat.le_of_ble_eq_true rfl, Nat.le_of_ble_eq_true rfl⟩) (preRS hKK (hP.sub (ws' := []) [] rfl)) rfl rfl hl.1 rfl (lv_room (Nat.le_of_ble_eq_true rfl)) dX10_mean_29 ⟨Nat.zero_le _, Nat.zero_le _⟩) ?_
    refine lv_iload_n hx hb dX10_mean_32 rfl (lv_at hl 3 rfl) ?_
    obtain ⟨r5, hc5, h⟩ := bnd1_s h
    refine kRl (res := r5) (va_runS (As := [.long r3, .long r4, .int p2]) (rest := []) ⟨hx, hb, hml, hown, hts⟩ (cn_X10_leastTerms l dC dI cI cJ cZ    r3 r4 p2 r5 hc5) (va_cwS 3 hts gX10_mean_X10_leastTerms rfl rfl rfl (by decide +kernel) ⟨Nat.le_of_ble_eq_true rfl, Nat.le_of_ble_eq_true rfl⟩) (preRS hKK (hP.sub (ws' := []) [] rfl)) rfl rfl hl.1 rfl (lv_room (Nat.le_of_ble_eq_true rfl)) dX10_mean_33 ⟨Nat.zero_le _, Nat.zero_le _⟩) ?_
    have e1 := Option.some.inj h
    exact W.lret (v := r5) hx hb hr (fun t ht hW => ⟨_, rfl, e1, ht⟩) (fun q hq => by cases hq) dX10_mean_36
  replace h := ite_f h c2
  refine lv_iload_n hx hb dX10_mean_10 rfl (lv_at hl 0 rfl) ?_
  refine lv_i2l hx hb dX10_mean_11 rfl ?_
  have e1 := Option.some.inj h
  exact W.lret (v := r1.toInt64) hx hb hr (fun t ht hW => ⟨_, rfl, e1, ht⟩) (fun q hq => by cases hq) dX10_mean_12
abbrev rm_X10_forget : Room := { frames := 3, cells := 0, slots := 0, locals := 75 }
theorem in_X10_forget_X8 : ∀ w ∈ wsX80, w ∈ wsX10_forget := fun _ h => List.mem_cons_of_mem _ (List.mem_append_right _ h)
theorem in_X10_forget_X5 : ∀ w ∈ wsX50, w ∈ wsX10_forget := fun _ h => List.mem_cons_of_mem _ (List.mem_append_left _ (List.mem_append_right _ h))
theorem in_X10_forget_X10 : ∀ w ∈ wsX100, w ∈ wsX10_forget := fun _ h => List.mem_cons_of_mem _ (List.mem_append_left _ (List.mem_append_left _ (List.mem_append_right _ h)))
set_option maxHeartbeats 4000000 in
set_option maxRecDepth 100000 in
theorem cn_X10_forget (l : Launch) (dC : Nat → ClassId) (dI : Nat → Nat → Nat) (cI cJ cZ : ClassId) (q_t q_t_text q_t_reader q_t_rules q_t_people q_t_memory q_t_rows q_t_chances q_t_moves q_t_payments q_t_evenings q_t_people_numbers q_t_people_counts q_t_chances_weights : Nat) (v_t_rules_law : Int32) (v_t_rules_share : Int32) (v_t_rules_pot : Int32) (v_t_rules_barred : Int32) (v_t_people_size : Int32) (f_t_people_numbers : (Nat → Int32)) (f_t_people_counts : (Nat → Int32)) (p1 : Int32) (p2 : Int32) (p3 : Int32) (res : Int64) (h : X10_forget v_t_rules_law v_t_people_size f_t_people_numbers f_t_people_counts p1 p2 p3 = some res) : Met l yX10_forget wsX10_forget rm_X10_forget (pcR dC dI cI cJ cZ [(q_t, .inr (10, [.ref q_t_text, .ref q_t_reader, .ref q_t_rules, .ref q_t_people, .ref q_t_memory, .ref q_t_rows, .ref q_t_chances, .ref q_t_moves, .ref q_t_payments, .ref q_t_evenings])), (q_t_rules, .inr (8, [.int v_t_rules_law, .int v_t_rules_share, .int v_t_rules_pot, .int v_t_rules_barred])), (q_t_people, .inr (5, [.ref q_t_people_numbers, .ref q_t_people_counts, .int v_t_people_size])), (q_t_people_numbers, .inl (cI, 9, .inl f_t_people_numbers)), (q_t_people_counts, .inl (cI, 10, .inl f_t_people_counts)), (q_t_chances, .inr (0, [.ref q_t_chances_weights]))] [.ref q_t, .int p1, .int p2, .int p3]) (vp_Sl (fun r => r = res)) 0 0 (fun _ => False) := by
  refine Met.ofW (cc := cX10_forget) (maxL := 6) (ret := (some .long)) (by decide) rfl ?_
  intro p e s m args below meth c s₁ B hml hv
  obtain ⟨rfl, hP, hKK⟩ := hv
  have hx := B.exec
  have hb := B.bytes
  have hr := B.returns
  have hts := atoms_spec (ws := wsX10_forget) B.pre
  have hown : s.vm.findClass RX10 = some m.cls := findClass_of_methodNamed B.named
  have hlocks := B.notSynchronized
  have hK := hKK.1
  have hl := lv_entry ([.ref q_t, .int p1, .int p2, .int p3]) (n := 6) (Nat.le_of_ble_eq_true rfl)
  rw [lg_entry_eq]
  generalize (lg_sl ([.ref q_t, .int p1, .int p2, .int p3]) ++ List.replicate (6 - (lg_sl ([.ref q_t, .int p1, .int p2, .int p3])).length) Slot.unset).toArray = ls at hl ⊢
  have hl : lv_has ls 6 [(0, .ref q_t), (1, .int p1), (2, .int p2), (3, .int p3)] := hl
  unfold X10_forget at h
  refine lv_aload_n hx hb dX10_forget_0 rfl (lv_at hl 0 rfl) ?_
  refine va_get (D := (dC, dI)) (ci := 10) (v := .ref q_t_people) (C := RX10) (T := TX10) (N := 10) hx hb hts in_X10_forget_X10 hown hK hP 0 rfl rfl 3 (by decide) (hts (.fieldLink RX10 33 "RightIfAsMany" "people" "LRightIfAsMany$People;") (List.mem_of_getElem? (i := 1) rfl)) (fun _ h9 => h9) rfl dX10_forget_1 ?_
  refine lv_iload_n hx hb dX10_forget_4 rfl (lv_at hl 1 rfl) ?_
  refine kRz (res := (X5_has v_t_people_size p1)) (va_runV (As := [.int p1]) (rest := []) ⟨hx, hb, hml, hown, hts⟩ (cn_X5_has l dC dI cI cJ cZ q_t_people q_t_people_numbers q_t_people_counts  v_t_people_size p1 (X5_has v_t_people_size p1) rfl) (cwV 1 hts gX10_forget_X5_has rfl rfl rfl (by decide +kernel) ⟨Nat.le_of_ble_eq_true rfl, Nat.le_of_ble_eq_true rfl⟩) (preR hKK (hP.sub (ws' := [(q_t_people, .inr (5, [.ref q_t_people_numbers, .ref q_t_people_counts, .int v_t_people_size]))]) [2] rfl) (ci := 5) (q0 := 0) rfl rfl) rfl rfl hl.1 rfl (lv_room (Nat.le_of_ble_eq_true rfl)) dX10_forget_5 ⟨Nat.zero_le _, Nat.zero_le _⟩) (fun hz1 => ?_)
  refine lv_if_ne (tgt := 15) hx hb dX10_forget_8 (by decide) (fun c2 => ?_) (fun c2 => ?_)
  · replace h := ite_f h c2
    refine lv_iload_n hx hb dX10_forget_15 rfl (lv_at hl 2 rfl) ?_
    refine lv_if_lt (tgt := 25) hx hb dX10_forget_16 (by decide) (fun c3 => ?_) (fun c3 => ?_)
    · replace h := ite_t h c3
      refine lv_ldc2 (v := (-2 : Int64)) hx hb hown (hts (.constantLong RX10 230 (-2)) (List.mem_of_getElem? (i := 3) rfl)) dX10_forget_25 ?_
      have e1 := Option.some.inj h
      exact W.lret (v := (-2 : Int64)) hx hb hr (fun t ht hW => ⟨_, rfl, e1, ht⟩) (fun q hq => by cases hq) dX10_forget_28
    replace h := ite_f h c3
    refine lv_iload_n hx hb dX10_forget_19 rfl (lv_at hl 2 rfl) ?_
    refine lv_bipush (v := (10 : Int32)) hx hb dX10_forget_20 (by decide) ?_
    refine lv_icmp_le (tgt := 29) hx hb dX10_forget_22 (by decide) (fun c4 => ?_) (fun c4 => ?_)
    · replace h := ite_t h c4
      refine lv_aload_n hx hb dX10_forget_29 rfl (lv_at hl 0 rfl) ?_
      refine va_get (D := (dC, dI)) (ci := 10) (v := .ref q_t_people) (C := RX10) (T := TX10) (N := 10) hx hb hts in_X10_forget_X10 hown hK hP 0 rfl rfl 3 (by decide) (hts (.fieldLink RX10 33 "RightIfAsMany" "people" "LRightIfAsMany$People;") (List.mem_of_getElem? (i := 1) rfl)) (fun _ h9 => h9) rfl dX10_forget_30 ?_
      refine lv_iload_n hx hb dX10_forget_33 rfl (lv_at hl 1 rfl) ?_
      obtain ⟨r5, hc5, h⟩ := bnd1_s h
      refine kRi (res := r5) (va_runV (As := [.int p1]) (rest := []) ⟨hx, hb, hml, hown, hts⟩ (cn_X5_numberOf l dC dI cI cJ cZ q_t_people q_t_people_numbers q_t_people_counts  v_t_people_size f_t_people_numbers p1 r5 hc5) (cwV 1 hts gX10_forget_X5_numberOf rfl rfl rfl (by decide +kernel) ⟨Nat.le_of_ble_eq_true rfl, Nat.le_of_ble_eq_true rfl⟩) (preR hKK (hP.sub (ws' := [(q_t_people, .inr (5, [.ref q_t_people_numbers, .ref q_t_people_counts, .int v_t_people_size])), (q_t_people_numbers, .inl (cI, 9, .inl f_t_people_numbers))]) [2, 3] rfl) (ci := 5) (q0 := 0) rfl rfl) rfl rfl hl.1 rfl (lv_room (Nat.le_of_ble_eq_true rfl)) dX10_forget_34 ⟨Nat.zero_le _, Nat.zero_le _⟩) ?_
      refine lv_istore (lv' := [(4, .int r5), (0, .ref q_t), (1, .int p1), (2, .int p2), (3, .int p3)]) hx hb dX10_forget_37 hl (by decide) rfl (fun ls hl => ?_)
      refine lv_aload_n hx hb dX10_forget_39 rfl (lv_at hl 1 rfl) ?_
      refine va_get (D := (dC, dI)) (ci := 10) (v := .ref q_t_people) (C := RX10) (T := TX10) (N := 10) hx hb hts in_X10_forget_X10 hown hK hP 0 rfl rfl 3 (by decide) (hts (.fieldLink RX10 33 "RightIfAsMany" "people" "LRightIfAsMany$People;") (List.mem_of_getElem? (i := 1) rfl)) (fun _ h9 => h9) rfl dX10_forget_40 ?_
      refine lv_iload hx hb dX10_forget_43 (lv_at hl 0 rfl) ?_
      obtain ⟨r6, hc6, h⟩ := bnd1_s h
      refine kRi (res := r6) (va_runV (As := [.int r5]) (rest := []) ⟨hx, hb, hml, hown, hts⟩ (cn_X5_many l dC dI cI cJ cZ q_t_people q_t_people_numbers q_t_people_counts  v_t_people_size f_t_people_counts r5 r6 hc6) (cwV 1 hts gX10_forget_X5_many rfl rfl rfl (by decide +kernel) ⟨Nat.le_of_ble_eq_true rfl, Nat.le_of_ble_eq_true rfl⟩) (preR hKK (hP.sub (ws' := [(q_t_people, .inr (5, [.ref q_t_people_numbers, .ref q_t_people_counts, .int v_t_people_size])), (q_t_people_counts, .inl (cI, 10, .inl f_t_people_counts))]) [2, 4] rfl) (ci := 5) (q0 := 0) rfl rfl) rfl rfl hl.1 rfl (lv_room (Nat.le_of_ble_eq_true rfl)) dX10_forget_45 ⟨Nat.zero_le _, Nat.zero_le _⟩) ?_
      refine lv_istore (lv' := [(5, .int r6), (4, .int r5), (0, .ref q_t), (1, .int p1), (2, .int p2), (3, .int p3)]) hx hb dX10_forget_48 hl (by decide) rfl (fun ls hl => ?_)
      refine lv_aload_n hx hb dX10_forget_50 rfl (lv_at hl 2 rfl) ?_
      refine va_get (D := (dC, dI)) (ci := 10) (v := .ref q_t_chances) (C := RX10) (T := TX10) (N := 10) hx hb hts in_X10_forget_X10 hown hK hP 0 rfl rfl 6 (by decide) (hts (.fieldLink RX10 54 "RightIfAsMany" "chances" "LRightIfAsMany$Chances;") (List.mem_of_getElem? (i := 4) rfl)) (fun _ h9 => h9) rfl dX10_forget_51 ?_
      refine lv_aload_n hx hb dX10_forget_54 rfl (lv_at hl 2 rfl) ?_
      refine va_get (D := (dC, dI)) (ci := 10) (v := .ref q_t_rules) (C := RX10) (T := TX10) (N := 10) hx hb hts in_X10_forget_X10 hown hK hP 0 rfl rfl 2 (by decide) (hts (.fieldLink RX10 26 "RightIfAsMany" "rules" "LRightIfAsMany$Rules;") (List.mem_of_getElem? (i := 5) rfl)) (fun _ h9 => h9) rfl dX10_forget_55 ?_
      refine lv_iload hx hb dX10_forget_58 (lv_at hl 1 rfl) ?_
      refine lv_iload hx hb dX10_forget_60 (lv_at hl 0 rfl) ?_
      refine lv_iload_n hx hb dX10_forget_62 rfl (lv_at hl 4 rfl) ?_
      obtain ⟨r7, hc7, h⟩ := bnd1_s h
      refine kRl (res := r7) (va_runV (As := [.ref q_t_rules, .int r5, .int r6, .int p2]) (rest := []) ⟨hx, hb, hml, hown, hts⟩ (cn_X0_rightThoughForgetting l dC dI cI cJ cZ q_t_chances q_t_rules q_t_chances_weights  v_t_rules_law v_t_rules_share v_t_rules_pot v_t_rules_barred r5 r6 p2 r7 hc7) (cwV 4 hts gX10_forget_X0_rightThoughForgetting rfl rfl rfl (by decide +kernel) ⟨Nat.le_of_ble_eq_true rfl, Nat.le_of_ble_eq_true rfl⟩) (preR hKK (hP.sub (ws' := [(q_t_chances, .inr (0, [.ref q_t_chances_weights])), (q_t_rules, .inr (8, [.int v_t_rules_law, .int v_t_rules_share, .int v_t_rules_pot, .int v_t_rules_barred]))]) [5, 1] rfl) (ci := 0) (q0 := 0) rfl rfl) rfl rfl hl.1 rfl (lv_room (Nat.le_of_ble_eq_true rfl)) dX10_forget_63 ⟨Nat.zero_le _, Nat.zero_le _⟩) ?_
      refine lv_ldc2 (v := (10 : Int64)) hx hb hown (hts (.constantLong RX10 214 (10)) (List.mem_of_getElem? (i := 6) rfl)) dX10_forget_66 ?_
      refine lv_iload hx hb dX10_forget_69 (lv_at hl 0 rfl) ?_
      obtain ⟨r8, hc8, h⟩ := bnd1_s h
      refine kRl (res := r8) (va_runS (As := [.long (10 : Int64), .int r6]) (rest := [.long r7]) ⟨hx, hb, hml, hown, hts⟩ (cn_X10_power l dC dI cI cJ cZ    (10 : Int64) r6 r8 hc8) (va_cwS 2 hts gX10_forget_X10_power rfl rfl rfl (by decide +kernel) ⟨Nat.le_of_ble_eq_true rfl, Nat.le_of_ble_eq_true rfl⟩) (preRS hKK (hP.sub (ws' := []) [] rfl)) rfl rfl hl.1 rfl (lv_room (Nat.le_of_ble_eq_true rfl)) dX10_forget_71 ⟨Nat.zero_le _, Nat.zero_le _⟩) ?_
      refine lv_iload_n hx hb dX10_forget_74 rfl (lv_at hl 5 rfl) ?_
      obtain ⟨r9, hc9, h⟩ := bnd1_s h
      refine kRl (res := r9) (va_runS (As := [.long r7, .long r8, .int p3]) (rest := []) ⟨hx, hb, hml, hown, hts⟩ (cn_X10_leastTerms l dC dI cI cJ cZ    r7 r8 p3 r9 hc9) (va_cwS 3 hts gX10_forget_X10_leastTerms rfl rfl rfl (by decide +kernel) ⟨Nat.le_of_ble_eq_true rfl, Nat.le_of_ble_eq_true rfl⟩) (preRS hKK (hP.sub (ws' := []) [] rfl)) rfl rfl hl.1 rfl (lv_room (Nat.le_of_ble_eq_true rfl)) dX10_forget_75 ⟨Nat.zero_le _, Nat.zero_le _⟩) ?_
      have e1 := Option.some.inj h
      exact W.lret (v := r9) hx hb hr (fun t ht hW => ⟨_, rfl, e1, ht⟩) (fun q hq => by cases hq) dX10_forget_78
    replace h := ite_f h c4
    refine lv_ldc2 (v := (-2 : Int64)) hx hb hown (hts (.constantLong RX10 230 (-2)) (List.mem_of_getElem? (i := 3) rfl)) dX10_forget_25 ?_
    have e1 := Option.some.inj h
    exact W.lret (v := (-2 : Int64)) hx hb hr (fun t ht hW => ⟨_, rfl, e1, ht⟩) (fun q hq => by cases hq) dX10_forget_28
  replace h := ite_t h c2
  refine lv_ldc2 (v := (-1 : Int64)) hx hb hown (hts (.constantLong RX10 228 (-1)) (List.mem_of_getElem? (i := 2) rfl)) dX10_forget_11 ?_
  have e1 := Option.some.inj h
  exact W.lret (v := (-1 : Int64)) hx hb hr (fun t ht hW => ⟨_, rfl, e1, ht⟩) (fun q hq => by cases hq) dX10_forget_14
abbrev rm_X8_areAtRest : Room := { frames := 4, cells := 0, slots := 0, locals := 97 }
theorem in_X8_areAtRest_X8 : ∀ w ∈ wsX80, w ∈ wsX8_areAtRest := fun _ h => List.mem_cons_of_mem _ (List.mem_append_right _ h)
set_option maxHeartbeats 4000000 in
set_option maxRecDepth 100000 in
theorem cn_X8_areAtRest (l : Launch) (dC : Nat → ClassId) (dI : Nat → Nat → Nat) (cI cJ cZ : ClassId) (q_t q_p1 : Nat) (v_t_law : Int32) (v_t_share : Int32) (v_t_pot : Int32) (v_t_barred : Int32) (f_p1 : (Nat → Int32)) (res : Int32) (h : X8_areAtRest v_t_law v_t_share v_t_pot v_t_barred f_p1 = some res) : Met l yX8_areAtRest wsX8_areAtRest rm_X8_areAtRest (pcR dC dI cI cJ cZ [(q_t, .inr (8, [.int v_t_law, .int v_t_share, .int v_t_pot, .int v_t_barred])), (q_p1, .inl (cI, 10, .inl f_p1))] [.ref q_t, .ref q_p1]) (vp_Si (fun r => r = res ∧ r &&& 1 = r)) 0 0 (fun _ => False) := by
  refine Met.ofW (cc := cX8_areAtRest) (maxL := 3) (ret := (some .boolean)) (by decide) rfl ?_
  intro p e s m args below meth c s₁ B hml hv
  obtain ⟨rfl, hP, hKK⟩ := hv
  have hx := B.exec
  have hb := B.bytes
  have hr := B.returns
  have hts := atoms_spec (ws := wsX8_areAtRest) B.pre
  have hown : s.vm.findClass RX8 = some m.cls := findClass_of_methodNamed B.named
  have hlocks := B.notSynchronized
  have hK := hKK.1
  have hl := lv_entry ([.ref q_t, .ref q_p1]) (n := 3) (Nat.le_of_ble_eq_true rfl)
  rw [lg_entry_eq]
  generalize (lg_sl ([.ref q_t, .ref q_p1]) ++ List.replicate (3 - (lg_sl ([.ref q_t, .ref q_p1])).length) Slot.unset).toArray = ls at hl ⊢
  have hl : lv_has ls 3 [(0, .ref q_t), (1, .ref q_p1)] := hl
  have L_2 : ∀ (n2 : Nat) , ∀  (x2 : Int32), X8_areAtRest_b2 n2 v_t_law v_t_share v_t_pot v_t_barred f_p1 x2 = some res → ∀ (ls : Array Slot), lv_has ls 3 [(0, .ref q_t), (1, .ref q_p1), (2, .int x2)] → W p l e (headSpec wsX8_areAtRest rm_X8_areAtRest).room s m ([.ref q_t, .ref q_p1] : List Value).toArray below meth c s.heap [] 0 0 (MQ below (vp_Si (fun r => r = res ∧ r &&& 1 = r)) ([.ref q_t, .ref q_p1] : List Value).toArray s 0 0 (fun _ => False)) (F0 m 2 ls []) := by
    intro n2
    induction n2 with
    | zero => intro x2 h ls hl; exact absurd h (fun h => by cases h)
    | succ n2 ih_2 =>
      have B_32 : ∀  (x2 : Int32), X8_areAtRest_b32 (X8_areAtRest_b2 n2) v_t_law v_t_share v_t_pot v_t_barred f_p1 x2 = some res → ∀ (ls : Array Slot), lv_has ls 3 [(0, .ref q_t), (1, .ref q_p1), (2, .int x2)] → W p l e (headSpec wsX8_areAtRest rm_X8_areAtRest).room s m ([.ref q_t, .ref q_p1] : List Value).toArray below meth c s.heap [] 0 0 (MQ below (vp_Si (fun r => r = res ∧ r &&& 1 = r)) ([.ref q_t, .ref q_p1] : List Value).toArray s 0 0 (fun _ => False)) (F0 m 32 ls []) := by
        intro x2 h ls hl
        unfold X8_areAtRest_b32 at h
        refine lv_iinc (v := (x2 + (1 : Int32))) (lv' := [(2, .int (x2 + (1 : Int32))), (0, .ref q_t), (1, .ref q_p1)]) hx hb dX8_areAtRest_32 hl (k := 2) rfl rfl (by decide) rfl (fun ls hl => ?_)
        refine lv_goto (tgt := 2) hx hb dX8_areAtRest_35 (by decide) ?_
        exact ih_2 (x2 + (1 : Int32)) h ls (lv_sub hl [1, 2, 0] rfl)
      intro x2 h ls hl
      replace h : X8_areAtRest_b2_s (X8_areAtRest_b2 n2) v_t_law v_t_share v_t_pot v_t_barred f_p1 x2 = some res := h
      unfold X8_areAtRest_b2_s at h
      refine lv_iload_n hx hb dX8_areAtRest_2 rfl (lv_at hl 2 rfl) ?_
      refine lv_bipush (v := (10 : Int32)) hx hb dX8_areAtRest_3 (by decide) ?_
      refine lv_icmp_ge (tgt := 38) hx hb dX8_areAtRest_5 (by decide) (fun c1 => ?_) (fun c1 => ?_)
      · replace h := ite_t h c1
        refine lv_iconst (v := (1 : Int32)) hx hb dX8_areAtRest_38 (by decide) ?_
        have e1 := Option.some.inj h
        exact W.zret (v := (1 : Int32)) (ty := .boolean) hx hb hr (congrArg Value.int rfl) (fun t ht hW => ⟨_, rfl, ⟨e1, rfl⟩, ht⟩) (fun q hq => by cases hq) dX8_areAtRest_39
      replace h := ite_f h c1
      refine lv_iload_n hx hb dX8_areAtRest_8 rfl (lv_at hl 2 rfl) ?_
      refine lv_aload_n hx hb dX8_areAtRest_9 rfl (lv_at hl 1 rfl) ?_
      refine va_alen (v := (10 : Int32)) hx hb hK hP 1 0 rfl rfl (show Int32.ofNat 10 = 10 by decide) dX8_areAtRest_10 ?_
      refine lv_icmp_ge (tgt := 38) hx hb dX8_areAtRest_11 (by decide) (fun c2 => ?_) (fun c2 => ?_)
      · replace h := ite_t h c2
        refine lv_iconst (v := (1 : Int32)) hx hb dX8_areAtRest_38 (by decide) ?_
        have e1 := Option.some.inj h
        exact W.zret (v := (1 : Int32)) (ty := .boolean) hx hb hr (congrArg Value.int rfl) (fun t ht hW => ⟨_, rfl, ⟨e1, rfl⟩, ht⟩) (fun q hq => by cases hq) dX8_areAtRest_39
      replace h := ite_f h c2
      refine lv_aload_n hx hb dX8_areAtRest_14 rfl (lv_at hl 1 rfl) ?_
      refine lv_iload_n hx hb dX8_areAtRest_15 rfl (lv_at hl 2 rfl) ?_
      obtain ⟨hg3, h⟩ := grd_s h
      refine va_iald hx hb hK hP 1 0 rfl rfl hg3 dX8_areAtRest_16 ?_
      refine lv_if_le (tgt := 32) hx hb dX8_areAtRest_17 (by decide) (fun c4 => ?_) (fun c4 => ?_)
      · replace h := ite_t h c4
        exact B_32 x2 h ls (lv_sub hl [0, 1, 2] rfl)
      replace h := ite_f h c4
      refine lv_aload_n hx hb dX8_areAtRest_20 rfl (lv_at hl 0 rfl) ?_
      refine lv_iload_n hx hb dX8_areAtRest_21 rfl (lv_at hl 2 rfl) ?_
      refine lv_aload_n hx hb dX8_areAtRest_22 rfl (lv_at hl 1 rfl) ?_
      obtain ⟨r5, hc5, h⟩ := bnd1_s h
      refine kRi (res := r5) (va_runV (As := [.int x2, .ref q_p1]) (rest := []) ⟨hx, hb, hml, hown, hts⟩ (cn_X8_wanted l dC dI cI cJ cZ q_t q_p1  v_t_law v_t_share v_t_pot v_t_barred f_p1 x2 r5 hc5) (cwV 2 hts gX8_areAtRest_X8_wanted rfl rfl rfl (by decide +kernel) ⟨Nat.le_of_ble_eq_true rfl, Nat.le_of_ble_eq_true rfl⟩) (preR hKK (hP.sub (ws' := [(q_t, .inr (8, [.int v_t_law, .int v_t_share, .int v_t_pot, .int v_t_barred])), (q_p1, .inl (cI, 10, .inl f_p1))]) [0, 1] rfl) (ci := 8) (q0 := 0) rfl rfl) rfl rfl hl.1 rfl (lv_room (Nat.le_of_ble_eq_true rfl)) dX8_areAtRest_23 ⟨Nat.zero_le _, Nat.zero_le _⟩) ?_
      refine lv_iload_n hx hb dX8_areAtRest_26 rfl (lv_at hl 2 rfl) ?_
      refine lv_icmp_eq (tgt := 32) hx hb dX8_areAtRest_27 (by decide) (fun c6 => ?_) (fun c6 => ?_)
      · replace h := ite_t h c6
        exact B_32 x2 h ls (lv_sub hl [0, 1, 2] rfl)
      replace h := ite_f h c6
      refine lv_iconst (v := (0 : Int32)) hx hb dX8_areAtRest_30 (by decide) ?_
      have e1 := Option.some.inj h
      exact W.zret (v := (0 : Int32)) (ty := .boolean) hx hb hr (congrArg Value.int rfl) (fun t ht hW => ⟨_, rfl, ⟨e1, rfl⟩, ht⟩) (fun q hq => by cases hq) dX8_areAtRest_31
  unfold X8_areAtRest at h
  refine lv_iconst (v := (0 : Int32)) hx hb dX8_areAtRest_0 (by decide) ?_
  refine lv_istore_n (lv' := [(2, .int (0 : Int32)), (0, .ref q_t), (1, .ref q_p1)]) hx hb dX8_areAtRest_1 rfl hl (by decide) rfl (fun ls hl => ?_)
  exact L_2 fU (0 : Int32) h ls (lv_sub hl [1, 2, 0] rfl)
