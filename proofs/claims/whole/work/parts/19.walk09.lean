/-! walks, by program: X10_ways X7_startCosts X7_leastNotRight X7_fewestNotRight X10_wrong X7_reachedWith X7_canBeFilled -/
abbrev rm_X10_ways : Room := { frames := 4, cells := 0, slots := 0, locals := 99 }
theorem in_X10_ways_X8 : ∀ w ∈ wsX80, w ∈ wsX10_ways := fun _ h => List.mem_cons_of_mem _ (List.mem_append_right _ h)
theorem in_X10_ways_X7 : ∀ w ∈ wsX70, w ∈ wsX10_ways := fun _ h => List.mem_cons_of_mem _ (List.mem_append_left _ (List.mem_append_right _ h))
theorem in_X10_ways_X10 : ∀ w ∈ wsX100, w ∈ wsX10_ways := fun _ h => List.mem_cons_of_mem _ (List.mem_append_left _ (List.mem_append_left _ (List.mem_append_right _ h)))
set_option maxHeartbeats 4000000 in
set_option maxRecDepth 100000 in
theorem cn_X10_ways (l : Launch) (dC : Nat → ClassId) (dI : Nat → Nat → Nat) (cI cJ cZ : ClassId) (q_t q_t_text q_t_reader q_t_rules q_t_people q_t_memory q_t_rows q_t_chances q_t_moves q_t_payments q_t_evenings q_t_rows_sums q_t_rows_costs q_t_rows_weights q_t_rows_needed : Nat) (sz : Nat) (v_t_rules_law : Int32) (v_t_rules_share : Int32) (v_t_rules_pot : Int32) (v_t_rules_barred : Int32) (f_t_rows_sums : (Nat → Int64)) (f_t_rows_weights : (Nat → Int32)) (p1 : Int32) (res : Int32) (r_f_t_rows_sums : (Nat → Int64)) (r_f_t_rows_weights : (Nat → Int32)) (h : X10_ways v_t_rules_law v_t_rules_barred f_t_rows_sums f_t_rows_weights p1 = some (res, r_f_t_rows_sums, r_f_t_rows_weights)) : Met l yX10_ways wsX10_ways rm_X10_ways (pcW dC dI cI cJ cZ [(q_t, .inr (10, [.ref q_t_text, .ref q_t_reader, .ref q_t_rules, .ref q_t_people, .ref q_t_memory, .ref q_t_rows, .ref q_t_chances, .ref q_t_moves, .ref q_t_payments, .ref q_t_evenings])), (q_t_rules, .inr (8, [.int v_t_rules_law, .int v_t_rules_share, .int v_t_rules_pot, .int v_t_rules_barred])), (q_t_rows, .inr (7, [.ref q_t_rows_sums, .ref q_t_rows_costs, .ref q_t_rows_weights, .ref q_t_rows_needed])), (q_t_rows_sums, .inl (cJ, 10, .inr (.inl f_t_rows_sums))), (q_t_rows_weights, .inl (cI, 10, .inl f_t_rows_weights))] sz [.ref q_t, .int p1]) (va_Qi (fun (r : Int32) (_ : Unit) => r = res) (bW dC dI (va_A [(q_t, .inr (10, [.ref q_t_text, .ref q_t_reader, .ref q_t_rules, .ref q_t_people, .ref q_t_memory, .ref q_t_rows, .ref q_t_chances, .ref q_t_moves, .ref q_t_payments, .ref q_t_evenings])), (q_t_rules, .inr (8, [.int v_t_rules_law, .int v_t_rules_share, .int v_t_rules_pot, .int v_t_rules_barred])), (q_t_rows, .inr (7, [.ref q_t_rows_sums, .ref q_t_rows_costs, .ref q_t_rows_weights, .ref q_t_rows_needed])), (q_t_rows_sums, .inl (cJ, 10, .inr (.inl f_t_rows_sums))), (q_t_rows_weights, .inl (cI, 10, .inl f_t_rows_weights))] sz) [(q_t, .inr (10, [.ref q_t_text, .ref q_t_reader, .ref q_t_rules, .ref q_t_people, .ref q_t_memory, .ref q_t_rows, .ref q_t_chances, .ref q_t_moves, .ref q_t_payments, .ref q_t_evenings])), (q_t_rules, .inr (8, [.int v_t_rules_law, .int v_t_rules_share, .int v_t_rules_pot, .int v_t_rules_barred])), (q_t_rows, .inr (7, [.ref q_t_rows_sums, .ref q_t_rows_costs, .ref q_t_rows_weights, .ref q_t_rows_needed])), (q_t_rows_sums, .inl (cJ, 10, .inr (.inl r_f_t_rows_sums))), (q_t_rows_weights, .inl (cI, 10, .inl r_f_t_rows_weights))]) (va_A [(q_t, .inr (10, [.ref q_t_text, .ref q_t_reader, .ref q_t_rules, .ref q_t_people, .ref q_t_memory, .ref q_t_rows, .ref q_t_chances, .ref q_t_moves, .ref q_t_payments, .ref q_t_evenings])), (q_t_rules, .inr (8, [.int v_t_rules_law, .int v_t_rules_share, .int v_t_rules_pot, .int v_t_rules_barred])), (q_t_rows, .inr (7, [.ref q_t_rows_sums, .ref q_t_rows_costs, .ref q_t_rows_weights, .ref q_t_rows_needed])), (q_t_rows_sums, .inl (cJ, 10, .inr (.inl f_t_rows_sums))), (q_t_rows_weights, .inl (cI, 10, .inl f_t_rows_weights))] sz)) 0 0 (va_A [(q_t, .inr (10, [.ref q_t_text, .ref q_t_reader, .ref q_t_rules, .ref q_t_people, .ref q_t_memory, .ref q_t_rows, .ref q_t_chances, .ref q_t_moves, .ref q_t_payments, .ref q_t_evenings])), (q_t_rules, .inr (8, [.int v_t_rules_law, .int v_t_rules_share, .int v_t_rules_pot, .int v_t_rules_barred])), (q_t_rows, .inr (7, [.ref q_t_rows_sums, .ref q_t_rows_costs, .ref q_t_rows_weights, .ref q_t_rows_needed])), (q_t_rows_sums, .inl (cJ, 10, .inr (.inl f_t_rows_sums))), (q_t_rows_weights, .inl (cI, 10, .inl f_t_rows_weights))] sz) := by
  refine Met.ofW (cc := cX10_ways) (maxL := 2) (ret := (some .int)) (by decide) rfl ?_
  intro p e s m args below meth c s₁ B hml hv
  obtain ⟨rfl, hsz, hP, hKK, hD0⟩ := hv
  have hx := B.exec
  have hb := B.bytes
  have hr := B.returns
  have hts := atoms_spec (ws := wsX10_ways) B.pre
  have hown : s.vm.findClass RX10 = some m.cls := findClass_of_methodNamed B.named
  have hlocks := B.notSynchronized
  have hK := hKK.1
  subst hsz
  have hD := hD0.self (sz := s.heap.size)
  generalize hAe : va_A [(q_t, .inr (10, [.ref q_t_text, .ref q_t_reader, .ref q_t_rules, .ref q_t_people, .ref q_t_memory, .ref q_t_rows, .ref q_t_chances, .ref q_t_moves, .ref q_t_payments, .ref q_t_evenings])), (q_t_rules, .inr (8, [.int v_t_rules_law, .int v_t_rules_share, .int v_t_rules_pot, .int v_t_rules_barred])), (q_t_rows, .inr (7, [.ref q_t_rows_sums, .ref q_t_rows_costs, .ref q_t_rows_weights, .ref q_t_rows_needed])), (q_t_rows_sums, .inl (cJ, 10, .inr (.inl f_t_rows_sums))), (q_t_rows_weights, .inl (cI, 10, .inl f_t_rows_weights))] s.heap.size = A at hD ⊢
  have hA : ∀ q : Nat, s.heap.size ≤ q → A q := fun q h => by rw [← hAe]; exact Or.inr h
  have hS : va_S A s.heap s.heap [] := va_S.rf
  have hl := lv_entry ([.ref q_t, .int p1]) (n := 2) (Nat.le_of_ble_eq_true rfl)
  rw [lg_entry_eq]
  generalize (lg_sl ([.ref q_t, .int p1]) ++ List.replicate (2 - (lg_sl ([.ref q_t, .int p1])).length) Slot.unset).toArray = ls at hl ⊢
  have hl : lv_has ls 2 [(0, .ref q_t), (1, .int p1)] := hl
  unfold X10_ways at h
  obtain ⟨H, hHe⟩ : ∃ H, H = s.heap := ⟨_, rfl⟩
  obtain ⟨locs, hLe⟩ : ∃ x : List Loc, x = [] := ⟨_, rfl⟩
  rw [← hHe] at hP
  have hS : va_S A s.heap H locs := by rw [hHe, hLe]; exact hS
  suffices hW : W p l e (headSpec wsX10_ways rm_X10_ways).room s m ([.ref q_t, .int p1] : List Value).toArray below meth c H locs 0 0 (MQ below (va_Qi (fun (r : Int32) (_ : Unit) => r = res) (bW dC dI A [(q_t, .inr (10, [.ref q_t_text, .ref q_t_reader, .ref q_t_rules, .ref q_t_people, .ref q_t_memory, .ref q_t_rows, .ref q_t_chances, .ref q_t_moves, .ref q_t_payments, .ref q_t_evenings])), (q_t_rules, .inr (8, [.int v_t_rules_law, .int v_t_rules_share, .int v_t_rules_pot, .int v_t_rules_barred])), (q_t_rows, .inr (7, [.ref q_t_rows_sums, .ref q_t_rows_costs, .ref q_t_rows_weights, .ref q_t_rows_needed])), (q_t_rows_sums, .inl (cJ, 10, .inr (.inl r_f_t_rows_sums))), (q_t_rows_weights, .inl (cI, 10, .inl r_f_t_rows_weights))]) A) ([.ref q_t, .int p1] : List Value).toArray s 0 0 A) (F0 m 0 ls []) by rw [hHe, hLe] at hW; exact hW
  refine lv_iload_n hx hb dX10_ways_0 rfl (lv_at hl 1 rfl) ?_
  refine kRz (res := (X10_isCrowd p1)) (va_runS (As := [.int p1]) (rest := []) ⟨hx, hb, hml, hown, hts⟩ (cn_X10_isCrowd l dC dI cI cJ cZ    p1 (X10_isCrowd p1) rfl) (va_cwS 1 hts gX10_ways_X10_isCrowd rfl rfl rfl (by decide +kernel) ⟨Nat.le_of_ble_eq_true rfl, Nat.le_of_ble_eq_true rfl⟩) (preRS hKK (hP.sub (ws' := []) [] rfl)) rfl rfl hl.1 rfl (lv_room (Nat.le_of_ble_eq_true rfl)) dX10_ways_1 ⟨Nat.zero_le _, Nat.zero_le _⟩) (fun hz1 => ?_)
  refine lv_if_eq (tgt := 22) hx hb dX10_ways_4 (by decide) (fun c2 => ?_) (fun c2 => ?_)
  · replace h := ite_t h c2
    refine lv_bipush (v := (-2 : Int32)) hx hb dX10_ways_22 (by decide) ?_
    replace h := Option.some.inj h
    obtain ⟨e1, e2, e3⟩ := pr3 h
    exact W.iret (v := (-2 : Int32)) hx hb hr (fun t ht hW => ⟨⟨_, (), rfl, e1, (by rw [ht, ← e2, ← e3]; exact hP), (by rw [← e2, ← e3]; exact hD)⟩, hS.F ht⟩) hS.2.2 dX10_ways_24
  replace h := ite_f h c2
  refine lv_aload_n hx hb dX10_ways_7 rfl (lv_at hl 0 rfl) ?_
  refine va_get (D := (dC, dI)) (ci := 10) (v := .ref q_t_rows) (C := RX10) (T := TX10) (N := 10) hx hb hts in_X10_ways_X10 hown hK hP 0 rfl rfl 5 (by decide) (hts (.fieldLink RX10 47 "RightIfAsMany" "rows" "LRightIfAsMany$Rows;") (List.mem_of_getElem? (i := 1) rfl)) (fun _ h9 => h9) rfl dX10_ways_8 ?_
  refine lv_aload_n hx hb dX10_ways_11 rfl (lv_at hl 0 rfl) ?_
  refine va_get (D := (dC, dI)) (ci := 10) (v := .ref q_t_rules) (C := RX10) (T := TX10) (N := 10) hx hb hts in_X10_ways_X10 hown hK hP 0 rfl rfl 2 (by decide) (hts (.fieldLink RX10 26 "RightIfAsMany" "rules" "LRightIfAsMany$Rules;") (List.mem_of_getElem? (i := 2) rfl)) (fun _ h9 => h9) rfl dX10_ways_12 ?_
  refine lv_iload_n hx hb dX10_ways_15 rfl (lv_at hl 1 rfl) ?_
  obtain ⟨r3, w3_1, w3_2, hc3, h⟩ := bnd3_s h
  refine kWi (res := r3) (wc := [(q_t_rows, .inr (7, [.ref q_t_rows_sums, .ref q_t_rows_costs, .ref q_t_rows_weights, .ref q_t_rows_needed])), (q_t_rows_sums, .inl (cJ, 10, .inr (.inl f_t_rows_sums))), (q_t_rows_weights, .inl (cI, 10, .inl f_t_rows_weights)), (q_t_rules, .inr (8, [.int v_t_rules_law, .int v_t_rules_share, .int v_t_rules_pot, .int v_t_rules_barred]))]) (wr := [(q_t, .inr (10, [.ref q_t_text, .ref q_t_reader, .ref q_t_rules, .ref q_t_people, .ref q_t_memory, .ref q_t_rows, .ref q_t_chances, .ref q_t_moves, .ref q_t_payments, .ref q_t_evenings]))]) (w1 := [(q_t_rows, .inr (7, [.ref q_t_rows_sums, .ref q_t_rows_costs, .ref q_t_rows_weights, .ref q_t_rows_needed])), (q_t_rows_sums, .inl (cJ, 10, .inr (.inl w3_1))), (q_t_rows_weights, .inl (cI, 10, .inl w3_2)), (q_t_rules, .inr (8, [.int v_t_rules_law, .int v_t_rules_share, .int v_t_rules_pot, .int v_t_rules_barred]))]) (wn := [(q_t, .inr (10, [.ref q_t_text, .ref q_t_reader, .ref q_t_rules, .ref q_t_people, .ref q_t_memory, .ref q_t_rows, .ref q_t_chances, .ref q_t_moves, .ref q_t_payments, .ref q_t_evenings])), (q_t_rules, .inr (8, [.int v_t_rules_law, .int v_t_rules_share, .int v_t_rules_pot, .int v_t_rules_barred])), (q_t_rows, .inr (7, [.ref q_t_rows_sums, .ref q_t_rows_costs, .ref q_t_rows_weights, .ref q_t_rows_needed])), (q_t_rows_sums, .inl (cJ, 10, .inr (.inl w3_1))), (q_t_rows_weights, .inl (cI, 10, .inl w3_2))]) hP hD hS hA [2, 3, 4, 1] [0] [0, 4, 1, 2, 3] rfl rfl (by decide) (by decide) rfl (by decide) (va_runV (As := [.ref q_t_rules, .int p1]) (rest := []) ⟨hx, hb, hml, hown, hts⟩ (cn_X7_allRightRows l dC dI cI cJ cZ q_t_rows q_t_rules q_t_rows_sums q_t_rows_costs q_t_rows_weights q_t_rows_needed H.size f_t_rows_sums f_t_rows_weights v_t_rules_law v_t_rules_share v_t_rules_pot v_t_rules_barred p1 r3 w3_1 w3_2 hc3) (cwV 2 hts gX10_ways_X7_allRightRows rfl rfl rfl (by decide +kernel) ⟨Nat.le_of_ble_eq_true rfl, Nat.le_of_ble_eq_true rfl⟩) (preW hKK (hP.sub (ws' := [(q_t_rows, .inr (7, [.ref q_t_rows_sums, .ref q_t_rows_costs, .ref q_t_rows_weights, .ref q_t_rows_needed])), (q_t_rows_sums, .inl (cJ, 10, .inr (.inl f_t_rows_sums))), (q_t_rows_weights, .inl (cI, 10, .inl f_t_rows_weights)), (q_t_rules, .inr (8, [.int v_t_rules_law, .int v_t_rules_share, .int v_t_rules_pot, .int v_t_rules_barred]))]) [2, 3, 4, 1] rfl) (hD.sub (ws' := [(q_t_rows, .inr (7, [.ref q_t_rows_sums, .ref q_t_rows_costs, .ref q_t_rows_weights, .ref q_t_rows_needed])), (q_t_rows_sums, .inl (cJ, 10, .inr (.inl f_t_rows_sums))), (q_t_rows_weights, .inl (cI, 10, .inl f_t_rows_weights)), (q_t_rules, .inr (8, [.int v_t_rules_law, .int v_t_rules_share, .int v_t_rules_pot, .int v_t_rules_barred]))]) [2, 3, 4, 1] (by decide) rfl) (ci := 7) (q0 := 0) rfl rfl) rfl rfl hl.1 rfl (lv_room (Nat.le_of_ble_eq_true rfl)) dX10_ways_16 ⟨Nat.zero_le _, Nat.zero_le _⟩) (fun H locs hP hD hS => ?_)
  refine lv_goto (tgt := 24) hx hb dX10_ways_19 (by decide) ?_
  replace h := Option.some.inj h
  obtain ⟨e1, e2, e3⟩ := pr3 h
  exact W.iret (v := r3) hx hb hr (fun t ht hW => ⟨⟨_, (), rfl, e1, (by rw [ht, ← e2, ← e3]; exact hP), (by rw [← e2, ← e3]; exact hD)⟩, hS.F ht⟩) hS.2.2 dX10_ways_24
abbrev rm_X7_startCosts : Room := { frames := 1, cells := 0, slots := 0, locals := 23 }
theorem in_X7_startCosts_X7 : ∀ w ∈ wsX70, w ∈ wsX7_startCosts := fun _ h => List.mem_cons_of_mem _ (List.mem_append_right _ h)
set_option maxHeartbeats 4000000 in
set_option maxRecDepth 100000 in
theorem cn_X7_startCosts (l : Launch) (dC : Nat → ClassId) (dI : Nat → Nat → Nat) (cI cJ cZ : ClassId) (q_t q_t_sums q_t_costs q_t_weights q_t_needed : Nat) (sz : Nat) (f_t_costs : (Nat → Int32)) (r_f_t_costs : (Nat → Int32)) (h : X7_startCosts f_t_costs = some r_f_t_costs) : Met l yX7_startCosts wsX7_startCosts rm_X7_startCosts (pcW dC dI cI cJ cZ [(q_t, .inr (7, [.ref q_t_sums, .ref q_t_costs, .ref q_t_weights, .ref q_t_needed])), (q_t_costs, .inl (cI, 10, .inl f_t_costs))] sz [.ref q_t]) (va_Qv (fun (_ : Unit) => True) (bW dC dI (va_A [(q_t, .inr (7, [.ref q_t_sums, .ref q_t_costs, .ref q_t_weights, .ref q_t_needed])), (q_t_costs, .inl (cI, 10, .inl f_t_costs))] sz) [(q_t, .inr (7, [.ref q_t_sums, .ref q_t_costs, .ref q_t_weights, .ref q_t_needed])), (q_t_costs, .inl (cI, 10, .inl r_f_t_costs))]) (va_A [(q_t, .inr (7, [.ref q_t_sums, .ref q_t_costs, .ref q_t_weights, .ref q_t_needed])), (q_t_costs, .inl (cI, 10, .inl f_t_costs))] sz)) 0 0 (va_A [(q_t, .inr (7, [.ref q_t_sums, .ref q_t_costs, .ref q_t_weights, .ref q_t_needed])), (q_t_costs, .inl (cI, 10, .inl f_t_costs))] sz) := by
  refine Met.ofW (cc := cX7_startCosts) (maxL := 1) (ret := none) (by decide) rfl ?_
  intro p e s m args below meth c s₁ B hml hv
  obtain ⟨rfl, hsz, hP, hKK, hD0⟩ := hv
  have hx := B.exec
  have hb := B.bytes
  have hr := B.returns
  have hts := atoms_spec (ws := wsX7_startCosts) B.pre
  have hown : s.vm.findClass RX7 = some m.cls := findClass_of_methodNamed B.named
  have hlocks := B.notSynchronized
  have hK := hKK.1
  subst hsz
  have hD := hD0.self (sz := s.heap.size)
  generalize hAe : va_A [(q_t, .inr (7, [.ref q_t_sums, .ref q_t_costs, .ref q_t_weights, .ref q_t_needed])), (q_t_costs, .inl (cI, 10, .inl f_t_costs))] s.heap.size = A at hD ⊢
  have hA : ∀ q : Nat, s.heap.size ≤ q → A q := fun q h => by rw [← hAe]; exact Or.inr h
  have hS : va_S A s.heap s.heap [] := va_S.rf
  have hl := lv_entry ([.ref q_t]) (n := 1) (Nat.le_of_ble_eq_true rfl)
  rw [lg_entry_eq]
  generalize (lg_sl ([.ref q_t]) ++ List.replicate (1 - (lg_sl ([.ref q_t])).length) Slot.unset).toArray = ls at hl ⊢
  have hl : lv_has ls 1 [(0, .ref q_t)] := hl
  unfold X7_startCosts at h
  obtain ⟨H, hHe⟩ : ∃ H, H = s.heap := ⟨_, rfl⟩
  obtain ⟨locs, hLe⟩ : ∃ x : List Loc, x = [] := ⟨_, rfl⟩
  rw [← hHe] at hP
  have hS : va_S A s.heap H locs := by rw [hHe, hLe]; exact hS
  suffices hW : W p l e (headSpec wsX7_startCosts rm_X7_startCosts).room s m ([.ref q_t] : List Value).toArray below meth c H locs 0 0 (MQ below (va_Qv (fun (_ : Unit) => True) (bW dC dI A [(q_t, .inr (7, [.ref q_t_sums, .ref q_t_costs, .ref q_t_weights, .ref q_t_needed])), (q_t_costs, .inl (cI, 10, .inl r_f_t_costs))]) A) ([.ref q_t] : List Value).toArray s 0 0 A) (F0 m 0 ls []) by rw [hHe, hLe] at hW; exact hW
  refine lv_aload_n hx hb dX7_startCosts_0 rfl (lv_at hl 0 rfl) ?_
  refine va_get (D := (dC, dI)) (ci := 7) (v := .ref q_t_costs) (C := RX7) (T := TX7) (N := 4) hx hb hts in_X7_startCosts_X7 hown hK hP 0 rfl rfl 1 (by decide) (hts (.fieldLink RX7 15 "RightIfAsMany$Rows" "costs" "[I") (List.mem_of_getElem? (i := 1) rfl)) (fun _ h9 => h9) rfl dX7_startCosts_1 ?_
  refine lv_sipush (v := (1000 : Int32)) hx hb dX7_startCosts_4 (by decide) ?_
  refine kWv (wc := [(q_t_costs, .inl (cI, 10, .inl f_t_costs))]) (wr := [(q_t, .inr (7, [.ref q_t_sums, .ref q_t_costs, .ref q_t_weights, .ref q_t_needed]))]) (w1 := [(q_t_costs, .inl (cI, 10, .inl (fillI 10 f_t_costs (1000 : Int32))))]) (wn := [(q_t, .inr (7, [.ref q_t_sums, .ref q_t_costs, .ref q_t_weights, .ref q_t_needed])), (q_t_costs, .inl (cI, 10, .inl (fillI 10 f_t_costs (1000 : Int32))))]) hP hD hS hA [1] [0] [0, 1] rfl rfl (by decide) (by decide) rfl (by decide) (va_runS (As := [.ref q_t_costs, .int (1000 : Int32)]) (rest := []) ⟨hx, hb, hml, hown, hts⟩ (cn_J7_fill_53178 l dC dI cI cJ cZ q_t_costs 10 H.size f_t_costs (1000 : Int32) (by decide)) (va_cwS 2 hts gX7_startCosts_J7_fill_53178 rfl rfl rfl (by decide +kernel) ⟨Nat.le_of_ble_eq_true rfl, Nat.le_of_ble_eq_true rfl⟩) (preWS hKK (hP.sub (ws' := [(q_t_costs, .inl (cI, 10, .inl f_t_costs))]) [1] rfl) (hD.sub (ws' := [(q_t_costs, .inl (cI, 10, .inl f_t_costs))]) [1] (by decide) rfl)) rfl rfl hl.1 rfl (lv_room (Nat.le_of_ble_eq_true rfl)) dX7_startCosts_7 ⟨Nat.zero_le _, Nat.zero_le _⟩) (fun H locs hP hD hS => ?_)
  refine lv_aload_n hx hb dX7_startCosts_10 rfl (lv_at hl 0 rfl) ?_
  refine va_get (D := (dC, dI)) (ci := 7) (v := .ref q_t_costs) (C := RX7) (T := TX7) (N := 4) hx hb hts in_X7_startCosts_X7 hown hK hP 0 rfl rfl 1 (by decide) (hts (.fieldLink RX7 15 "RightIfAsMany$Rows" "costs" "[I") (List.mem_of_getElem? (i := 1) rfl)) (fun _ h9 => h9) rfl dX7_startCosts_11 ?_
  refine lv_iconst (v := (0 : Int32)) hx hb dX7_startCosts_14 (by decide) ?_
  refine lv_iconst (v := (0 : Int32)) hx hb dX7_startCosts_15 (by decide) ?_
  obtain ⟨hg1, h⟩ := grd_s h
  refine va_iast hx hb hK hP hD hS 1 0 rfl rfl hg1 dX7_startCosts_16 (fun H locs hP hD hS => ?_)
  have hP : va_P (dC, dI) vwCl [(q_t, .inr (7, [.ref q_t_sums, .ref q_t_costs, .ref q_t_weights, .ref q_t_needed])), (q_t_costs, .inl (cI, 10, .inl (upd (fillI 10 f_t_costs (1000 : Int32)) (0 : Int32).toNatClampNeg (0 : Int32))))] H := hP
  have hD : va_D A [(q_t, .inr (7, [.ref q_t_sums, .ref q_t_costs, .ref q_t_weights, .ref q_t_needed])), (q_t_costs, .inl (cI, 10, .inl (upd (fillI 10 f_t_costs (1000 : Int32)) (0 : Int32).toNatClampNeg (0 : Int32))))] := hD
  replace h := Option.some.inj h
  have e1 := h
  exact W.vret hx hb hr (fun t ht hW => ⟨⟨(), rfl, trivial, (by rw [ht, ← e1]; exact hP), (by rw [← e1]; exact hD)⟩, hS.F ht⟩) hS.2.2 dX7_startCosts_17
abbrev rm_X7_leastNotRight : Room := { frames := 1, cells := 0, slots := 0, locals := 30 }
theorem in_X7_leastNotRight_X8 : ∀ w ∈ wsX80, w ∈ wsX7_leastNotRight := fun _ h => List.mem_cons_of_mem _ (List.mem_append_right _ h)
theorem in_X7_leastNotRight_X7 : ∀ w ∈ wsX70, w ∈ wsX7_leastNotRight := fun _ h => List.mem_cons_of_mem _ (List.mem_append_left _ (List.mem_append_right _ h))
set_option maxHeartbeats 4000000 in
set_option maxRecDepth 100000 in
theorem cn_X7_leastNotRight (l : Launch) (dC : Nat → ClassId) (dI : Nat → Nat → Nat) (cI cJ cZ : ClassId) (q_t q_p1 q_t_sums q_t_costs q_t_weights q_t_needed : Nat) (f_t_costs : (Nat → Int32)) (v_p1_law : Int32) (v_p1_share : Int32) (v_p1_pot : Int32) (v_p1_barred : Int32) (p2 : Int32) (p3 : Int32) (res : Int32) (h : X7_leastNotRight f_t_costs v_p1_law p2 p3 = some res) : Met l yX7_leastNotRight wsX7_leastNotRight rm_X7_leastNotRight (pcR dC dI cI cJ cZ [(q_t, .inr (7, [.ref q_t_sums, .ref q_t_costs, .ref q_t_weights, .ref q_t_needed])), (q_t_costs, .inl (cI, 10, .inl f_t_costs)), (q_p1, .inr (8, [.int v_p1_law, .int v_p1_share, .int v_p1_pot, .int v_p1_barred]))] [.ref q_t, .ref q_p1, .int p2, .int p3]) (vp_Si (fun r => r = res)) 0 0 (fun _ => False) := by
  refine Met.ofW (cc := cX7_leastNotRight) (maxL := 7) (ret := (some .int)) (by decide) rfl ?_
  intro p e s m args below meth c s₁ B hml hv
  obtain ⟨rfl, hP, hKK⟩ := hv
  have hx := B.exec
  have hb := B.bytes
  have hr := B.returns
  have hts := atoms_spec (ws := wsX7_leastNotRight) B.pre
  have hown : s.vm.findClass RX7 = some m.cls := findClass_of_methodNamed B.named
  have hlocks := B.notSynchronized
  have hK := hKK.1
  have hl := lv_entry ([.ref q_t, .ref q_p1, .int p2, .int p3]) (n := 7) (Nat.le_of_ble_eq_true rfl)
  rw [lg_entry_eq]
  generalize (lg_sl ([.ref q_t, .ref q_p1, .int p2, .int p3]) ++ List.replicate (7 - (lg_sl ([.ref q_t, .ref q_p1, .int p2, .int p3])).length) Slot.unset).toArray = ls at hl ⊢
  have hl : lv_has ls 7 [(0, .ref q_t), (1, .ref q_p1), (2, .int p2), (3, .int p3)] := hl
  have L_11 : ∀ (n11 : Nat) , ∀  (x2 : Int32) (x3 : Int32) (x4 : Int32) (x5 : Int32), X7_leastNotRight_b11 n11 f_t_costs v_p1_law x2 x3 x4 x5 = some res → ∀ (ls : Array Slot), lv_has ls 7 [(0, .ref q_t), (1, .ref q_p1), (2, .int x2), (3, .int x3), (4, .int x4), (5, .int x5)] → W p l e (headSpec wsX7_leastNotRight rm_X7_leastNotRight).room s m ([.ref q_t, .ref q_p1, .int p2, .int p3] : List Value).toArray below meth c s.heap [] 0 0 (MQ below (vp_Si (fun r => r = res)) ([.ref q_t, .ref q_p1, .int p2, .int p3] : List Value).toArray s 0 0 (fun _ => False)) (F0 m 11 ls []) := by
    intro n11
    induction n11 with
    | zero => intro x2 x3 x4 x5 h ls hl; exact absurd h (fun h => by cases h)
    | succ n11 ih_11 =>
      have B_33 : ∀  (x2 : Int32) (x3 : Int32) (x4 : Int32) (x5 : Int32) (s0 : Int32), X7_leastNotRight_b33 (X7_leastNotRight_b11 n11) f_t_costs v_p1_law x2 x3 x4 x5 s0 = some res → ∀ (ls : Array Slot), lv_has ls 7 [(0, .ref q_t), (1, .ref q_p1), (2, .int x2), (3, .int x3), (4, .int x4), (5, .int x5)] → W p l e (headSpec wsX7_leastNotRight rm_X7_leastNotRight).room s m ([.ref q_t, .ref q_p1, .int p2, .int p3] : List Value).toArray below meth c s.heap [] 0 0 (MQ below (vp_Si (fun r => r = res)) ([.ref q_t, .ref q_p1, .int p2, .int p3] : List Value).toArray s 0 0 (fun _ => False)) (F0 m 33 ls [.int s0]) := by
        intro x2 x3 x4 x5 s0 h ls hl
        unfold X7_leastNotRight_b33 at h
        refine lv_istore (lv' := [(6, .int s0), (0, .ref q_t), (1, .ref q_p1), (2, .int x2), (3, .int x3), (4, .int x4), (5, .int x5)]) hx hb dX7_leastNotRight_33 hl (by decide) rfl (fun ls hl => ?_)
        refine lv_iload hx hb dX7_leastNotRight_35 (lv_at hl 5 rfl) ?_
        refine lv_aload_n hx hb dX7_leastNotRight_37 rfl (lv_at hl 1 rfl) ?_
        refine va_get (D := (dC, dI)) (ci := 7) (v := .ref q_t_costs) (C := RX7) (T := TX7) (N := 4) hx hb hts in_X7_leastNotRight_X7 hown hK hP 0 rfl rfl 1 (by decide) (hts (.fieldLink RX7 15 "RightIfAsMany$Rows" "costs" "[I") (List.mem_of_getElem? (i := 1) rfl)) (fun _ h9 => h9) rfl dX7_leastNotRight_38 ?_
        refine lv_iload_n hx hb dX7_leastNotRight_41 rfl (lv_at hl 4 rfl) ?_
        refine lv_iload hx hb dX7_leastNotRight_42 (lv_at hl 6 rfl) ?_
        refine lv_isub hx hb dX7_leastNotRight_44 ?_
        obtain ⟨hg1, h⟩ := grd_s h
        refine va_iald hx hb hK hP 1 0 rfl rfl hg1 dX7_leastNotRight_45 ?_
        refine lv_iload hx hb dX7_leastNotRight_46 (lv_at hl 0 rfl) ?_
        refine lv_iadd hx hb dX7_leastNotRight_48 ?_
        refine va_mmin hx hb (hml.trans hl.1.symm) hown (hts (.methodLink RX7 59 Lib.Math.min.name) (List.mem_of_getElem? (i := 2) rfl)) (hts (.static Lib.Math.min.name) (List.mem_of_getElem? (i := 3) rfl)) (hts (.initialized "java/lang/Math") (List.mem_of_getElem? (i := 4) rfl)) (hts (.code Lib.Math.min.name Lib.Math.min.code 2 (some .int)) (List.mem_of_getElem? (i := 5) rfl)) (Nat.le_of_ble_eq_true rfl) (Nat.le_of_ble_eq_true rfl) (Nat.zero_le _) (Nat.zero_le _) dX7_leastNotRight_49 ?_
        refine lv_istore (lv' := [(4, .int (if ((f_t_costs (x3 - x5).toNatClampNeg) + s0) < x4 then ((f_t_costs (x3 - x5).toNatClampNeg) + s0) else x4)), (6, .int s0), (0, .ref q_t), (1, .ref q_p1), (2, .int x2), (3, .int x3), (5, .int x5)]) hx hb dX7_leastNotRight_52 hl (by decide) rfl (fun ls hl => ?_)
        refine lv_iinc (v := (x5 + (1 : Int32))) (lv' := [(5, .int (x5 + (1 : Int32))), (4, .int (if ((f_t_costs (x3 - x5).toNatClampNeg) + s0) < x4 then ((f_t_costs (x3 - x5).toNatClampNeg) + s0) else x4)), (6, .int s0), (0, .ref q_t), (1, .ref q_p1), (2, .int x2), (3, .int x3)]) hx hb dX7_leastNotRight_54 hl (k := 6) rfl rfl (by decide) rfl (fun ls hl => ?_)
        refine lv_goto (tgt := 11) hx hb dX7_leastNotRight_57 (by decide) ?_
        exact ih_11 x2 x3 (if ((f_t_costs (x3 - x5).toNatClampNeg) + s0) < x4 then ((f_t_costs (x3 - x5).toNatClampNeg) + s0) else x4) (x5 + (1 : Int32)) h ls (lv_sub hl [3, 4, 5, 6, 1, 0] rfl)
      intro x2 x3 x4 x5 h ls hl
      replace h : X7_leastNotRight_b11_s (X7_leastNotRight_b11 n11) f_t_costs v_p1_law x2 x3 x4 x5 = some res := h
      unfold X7_leastNotRight_b11_s at h
      refine lv_iload hx hb dX7_leastNotRight_11 (lv_at hl 5 rfl) ?_
      refine lv_iload_n hx hb dX7_leastNotRight_13 rfl (lv_at hl 3 rfl) ?_
      refine lv_icmp_gt (tgt := 60) hx hb dX7_leastNotRight_14 (by decide) (fun c2 => ?_) (fun c2 => ?_)
      · replace h := ite_t h c2
        refine lv_iload hx hb dX7_leastNotRight_60 (lv_at hl 4 rfl) ?_
        have e1 := Option.some.inj h
        exact W.iret (v := x4) hx hb hr (fun t ht hW => ⟨_, rfl, e1, ht⟩) (fun q hq => by cases hq) dX7_leastNotRight_62
      replace h := ite_f h c2
      refine lv_aload_n hx hb dX7_leastNotRight_17 rfl (lv_at hl 1 rfl) ?_
      refine lv_iload_n hx hb dX7_leastNotRight_18 rfl (lv_at hl 2 rfl) ?_
      refine lv_iload hx hb dX7_leastNotRight_19 (lv_at hl 5 rfl) ?_
      refine kRz (res := (X8_suits v_p1_law x2 x5)) (va_runV (As := [.int x2, .int x5]) (rest := []) ⟨hx, hb, hml, hown, hts⟩ (cn_X8_suits l dC dI cI cJ cZ q_p1  v_p1_law v_p1_share v_p1_pot v_p1_barred x2 x5 (X8_suits v_p1_law x2 x5) rfl) (cwV 2 hts gX7_leastNotRight_X8_suits rfl rfl rfl (by decide +kernel) ⟨Nat.le_of_ble_eq_true rfl, Nat.le_of_ble_eq_true rfl⟩) (preR hKK (hP.sub (ws' := [(q_p1, .inr (8, [.int v_p1_law, .int v_p1_share, .int v_p1_pot, .int v_p1_barred]))]) [2] rfl) (ci := 8) (q0 := 0) rfl rfl) rfl rfl hl.1 rfl (lv_room (Nat.le_of_ble_eq_true rfl)) dX7_leastNotRight_21 ⟨Nat.zero_le _, Nat.zero_le _⟩) (fun hz3 => ?_)
      refine lv_if_eq (tgt := 31) hx hb dX7_leastNotRight_24 (by decide) (fun c4 => ?_) (fun c4 => ?_)
      · replace h := ite_t h c4
        refine lv_iload hx hb dX7_leastNotRight_31 (lv_at hl 5 rfl) ?_
        exact B_33 x2 x3 x4 x5 x5 h ls (lv_sub hl [0, 1, 2, 3, 4, 5] rfl)
      replace h := ite_f h c4
      refine lv_iconst (v := (0 : Int32)) hx hb dX7_leastNotRight_27 (by decide) ?_
      refine lv_goto (tgt := 33) hx hb dX7_leastNotRight_28 (by decide) ?_
      exact B_33 x2 x3 x4 x5 (0 : Int32) h ls (lv_sub hl [0, 1, 2, 3, 4, 5] rfl)
  unfold X7_leastNotRight at h
  refine lv_aload_n hx hb dX7_leastNotRight_0 rfl (lv_at hl 0 rfl) ?_
  refine va_get (D := (dC, dI)) (ci := 7) (v := .ref q_t_costs) (C := RX7) (T := TX7) (N := 4) hx hb hts in_X7_leastNotRight_X7 hown hK hP 0 rfl rfl 1 (by decide) (hts (.fieldLink RX7 15 "RightIfAsMany$Rows" "costs" "[I") (List.mem_of_getElem? (i := 1) rfl)) (fun _ h9 => h9) rfl dX7_leastNotRight_1 ?_
  refine lv_iload_n hx hb dX7_leastNotRight_4 rfl (lv_at hl 3 rfl) ?_
  obtain ⟨hg5, h⟩ := grd_s h
  refine va_iald hx hb hK hP 1 0 rfl rfl hg5 dX7_leastNotRight_5 ?_
  refine lv_istore (lv' := [(4, .int (f_t_costs p3.toNatClampNeg)), (0, .ref q_t), (1, .ref q_p1), (2, .int p2), (3, .int p3)]) hx hb dX7_leastNotRight_6 hl (by decide) rfl (fun ls hl => ?_)
  refine lv_iconst (v := (1 : Int32)) hx hb dX7_leastNotRight_8 (by decide) ?_
  refine lv_istore (lv' := [(5, .int (1 : Int32)), (4, .int (f_t_costs p3.toNatClampNeg)), (0, .ref q_t), (1, .ref q_p1), (2, .int p2), (3, .int p3)]) hx hb dX7_leastNotRight_9 hl (by decide) rfl (fun ls hl => ?_)
  exact L_11 fU p2 p3 (f_t_costs p3.toNatClampNeg) (1 : Int32) h ls (lv_sub hl [2, 3, 4, 5, 1, 0] rfl)
abbrev rm_X7_fewestNotRight : Room := { frames := 2, cells := 0, slots := 0, locals := 56 }
theorem in_X7_fewestNotRight_X8 : ∀ w ∈ wsX80, w ∈ wsX7_fewestNotRight := fun _ h => List.mem_cons_of_mem _ (List.mem_append_right _ h)
theorem in_X7_fewestNotRight_X7 : ∀ w ∈ wsX70, w ∈ wsX7_fewestNotRight := fun _ h => List.mem_cons_of_mem _ (List.mem_append_left _ (List.mem_append_right _ h))
set_option maxHeartbeats 4000000 in
set_option maxRecDepth 100000 in
theorem cn_X7_fewestNotRight (l : Launch) (dC : Nat → ClassId) (dI : Nat → Nat → Nat) (cI cJ cZ : ClassId) (q_t q_p1 q_t_sums q_t_costs q_t_weights q_t_needed : Nat) (sz : Nat) (f_t_costs : (Nat → Int32)) (v_p1_law : Int32) (v_p1_share : Int32) (v_p1_pot : Int32) (v_p1_barred : Int32) (p2 : Int32) (res : Int32) (r_f_t_costs : (Nat → Int32)) (h : X7_fewestNotRight f_t_costs v_p1_law v_p1_barred p2 = some (res, r_f_t_costs)) : Met l yX7_fewestNotRight wsX7_fewestNotRight rm_X7_fewestNotRight (pcW dC dI cI cJ cZ [(q_t, .inr (7, [.ref q_t_sums, .ref q_t_costs, .ref q_t_weights, .ref q_t_needed])), (q_t_costs, .inl (cI, 10, .inl f_t_costs)), (q_p1, .inr (8, [.int v_p1_law, .int v_p1_share, .int v_p1_pot, .int v_p1_barred]))] sz [.ref q_t, .ref q_p1, .int p2]) (va_Qi (fun (r : Int32) (_ : Unit) => r = res) (bW dC dI (va_A [(q_t, .inr (7, [.ref q_t_sums, .ref q_t_costs, .ref q_t_weights, .ref q_t_needed])), (q_t_costs, .inl (cI, 10, .inl f_t_costs)), (q_p1, .inr (8, [.int v_p1_law, .int v_p1_share, .int v_p1_pot, .int v_p1_barred]))] sz) [(q_t, .inr (7, [.ref q_t_sums, .ref q_t_costs, .ref q_t_weights, .ref q_t_needed])), (q_t_costs, .inl (cI, 10, .inl r_f_t_costs)), (q_p1, .inr (8, [.int v_p1_law, .int v_p1_share, .int v_p1_pot, .int v_p1_barred]))]) (va_A [(q_t, .inr (7, [.ref q_t_sums, .ref q_t_costs, .ref q_t_weights, .ref q_t_needed])), (q_t_costs, .inl (cI, 10, .inl f_t_costs)), (q_p1, .inr (8, [.int v_p1_law, .int v_p1_share, .int v_p1_pot, .int v_p1_barred]))] sz)) 0 0 (va_A [(q_t, .inr (7, [.ref q_t_sums, .ref q_t_costs, .ref q_t_weights, .ref q_t_needed])), (q_t_costs, .inl (cI, 10, .inl f_t_costs)), (q_p1, .inr (8, [.int v_p1_law, .int v_p1_share, .int v_p1_pot, .int v_p1_barred]))] sz) := by
  refine Met.ofW (cc := cX7_fewestNotRight) (maxL := 5) (ret := (some .int)) (by decide) rfl ?_
  intro p e s m args below meth c s₁ B hml hv
  obtain ⟨rfl, hsz, hP, hKK, hD0⟩ := hv
  have hx := B.exec
  have hb := B.bytes
  have hr := B.returns
  have hts := atoms_spec (ws := wsX7_fewestNotRight) B.pre
  have hown : s.vm.findClass RX7 = some m.cls := findClass_of_methodNamed B.named
  have hlocks := B.notSynchronized
  have hK := hKK.1
  subst hsz
  have hD := hD0.self (sz := s.heap.size)
  generalize hAe : va_A [(q_t, .inr (7, [.ref q_t_sums, .ref q_t_costs, .ref q_t_weights, .ref q_t_needed])), (q_t_costs, .inl (cI, 10, .inl f_t_costs)), (q_p1, .inr (8, [.int v_p1_law, .int v_p1_share, .int v_p1_pot, .int v_p1_barred]))] s.heap.size = A at hD ⊢
  have hA : ∀ q : Nat, s.heap.size ≤ q → A q := fun q h => by rw [← hAe]; exact Or.inr h
  have hS : va_S A s.heap s.heap [] := va_S.rf
  have hl := lv_entry ([.ref q_t, .ref q_p1, .int p2]) (n := 5) (Nat.le_of_ble_eq_true rfl)
  rw [lg_entry_eq]
  generalize (lg_sl ([.ref q_t, .ref q_p1, .int p2]) ++ List.replicate (5 - (lg_sl ([.ref q_t, .ref q_p1, .int p2])).length) Slot.unset).toArray = ls at hl ⊢
  have hl : lv_has ls 5 [(0, .ref q_t), (1, .ref q_p1), (2, .int p2)] := hl
  have B_66 : ∀ (f_t_costs : (Nat → Int32)) (x2 : Int32), X7_fewestNotRight_b66 f_t_costs v_p1_law v_p1_barred x2 = some (res, r_f_t_costs) → ∀ (H : Heap) (locs : List Loc) (ls : Array Slot), va_P (dC, dI) vwCl [(q_t, .inr (7, [.ref q_t_sums, .ref q_t_costs, .ref q_t_weights, .ref q_t_needed])), (q_t_costs, .inl (cI, 10, .inl f_t_costs)), (q_p1, .inr (8, [.int v_p1_law, .int v_p1_share, .int v_p1_pot, .int v_p1_barred]))] H → va_D A [(q_t, .inr (7, [.ref q_t_sums, .ref q_t_costs, .ref q_t_weights, .ref q_t_needed])), (q_t_costs, .inl (cI, 10, .inl f_t_costs)), (q_p1, .inr (8, [.int v_p1_law, .int v_p1_share, .int v_p1_pot, .int v_p1_barred]))] → va_S A s.heap H locs → lv_has ls 5 [(0, .ref q_t), (2, .int x2)] → W p l e (headSpec wsX7_fewestNotRight rm_X7_fewestNotRight).room s m ([.ref q_t, .ref q_p1, .int p2] : List Value).toArray below meth c H locs 0 0 (MQ below (va_Qi (fun (r : Int32) (_ : Unit) => r = res) (bW dC dI A [(q_t, .inr (7, [.ref q_t_sums, .ref q_t_costs, .ref q_t_weights, .ref q_t_needed])), (q_t_costs, .inl (cI, 10, .inl r_f_t_costs)), (q_p1, .inr (8, [.int v_p1_law, .int v_p1_share, .int v_p1_pot, .int v_p1_barred]))]) A) ([.ref q_t, .ref q_p1, .int p2] : List Value).toArray s 0 0 A) (F0 m 66 ls []) := by
    intro f_t_costs x2 h H locs ls hP hD hS hl
    unfold X7_fewestNotRight_b66 at h
    refine lv_aload_n hx hb dX7_fewestNotRight_66 rfl (lv_at hl 0 rfl) ?_
    refine va_get (D := (dC, dI)) (ci := 7) (v := .ref q_t_costs) (C := RX7) (T := TX7) (N := 4) hx hb hts in_X7_fewestNotRight_X7 hown hK hP 0 rfl rfl 1 (by decide) (hts (.fieldLink RX7 15 "RightIfAsMany$Rows" "costs" "[I") (List.mem_of_getElem? (i := 1) rfl)) (fun _ h9 => h9) rfl dX7_fewestNotRight_67 ?_
    refine lv_iload_n hx hb dX7_fewestNotRight_70 rfl (lv_at hl 1 rfl) ?_
    obtain ⟨hg4, h⟩ := grd_s h
    refine va_iald hx hb hK hP 1 0 rfl rfl hg4 dX7_fewestNotRight_71 ?_
    replace h := Option.some.inj h
    obtain ⟨e1, e2⟩ := pr2 h
    exact W.iret (v := (f_t_costs x2.toNatClampNeg)) hx hb hr (fun t ht hW => ⟨⟨_, (), rfl, e1, (by rw [ht, ← e2]; exact hP), (by rw [← e2]; exact hD)⟩, hS.F ht⟩) hS.2.2 dX7_fewestNotRight_72
  have L_16 : ∀ (n16 : Nat) , ∀ (f_t_costs : (Nat → Int32)) (x2 : Int32) (x3 : Int32), X7_fewestNotRight_b16 n16 f_t_costs v_p1_law v_p1_barred x2 x3 = some (res, r_f_t_costs) → ∀ (H : Heap) (locs : List Loc) (ls : Array Slot), va_P (dC, dI) vwCl [(q_t, .inr (7, [.ref q_t_sums, .ref q_t_costs, .ref q_t_weights, .ref q_t_needed])), (q_t_costs, .inl (cI, 10, .inl f_t_costs)), (q_p1, .inr (8, [.int v_p1_law, .int v_p1_share, .int v_p1_pot, .int v_p1_barred]))] H → va_D A [(q_t, .inr (7, [.ref q_t_sums, .ref q_t_costs, .ref q_t_weights, .ref q_t_needed])), (q_t_costs, .inl (cI, 10, .inl f_t_costs)), (q_p1, .inr (8, [.int v_p1_law, .int v_p1_share, .int v_p1_pot, .int v_p1_barred]))] → va_S A s.heap H locs → lv_has ls 5 [(0, .ref q_t), (1, .ref q_p1), (2, .int x2), (3, .int x3)] → W p l e (headSpec wsX7_fewestNotRight rm_X7_fewestNotRight).room s m ([.ref q_t, .ref q_p1, .int p2] : List Value).toArray below meth c H locs 0 0 (MQ below (va_Qi (fun (r : Int32) (_ : Unit) => r = res) (bW dC dI A [(q_t, .inr (7, [.ref q_t_sums, .ref q_t_costs, .ref q_t_weights, .ref q_t_needed])), (q_t_costs, .inl (cI, 10, .inl r_f_t_costs)), (q_p1, .inr (8, [.int v_p1_law, .int v_p1_share, .int v_p1_pot, .int v_p1_barred]))]) A) ([.ref q_t, .ref q_p1, .int p2] : List Value).toArray s 0 0 A) (F0 m 16 ls []) := by
    intro n16
    induction n16 with
    | zero => intro f_t_costs x2 x3 h H locs ls hP hD hS hl; exact absurd h (fun h => by cases h)
    | succ n16 ih_16 =>
      have B_60 : ∀ (f_t_costs : (Nat → Int32)) (x2 : Int32) (x3 : Int32), X7_fewestNotRight_b60 (X7_fewestNotRight_b16 n16) f_t_costs v_p1_law v_p1_barred x2 x3 = some (res, r_f_t_costs) → ∀ (H : Heap) (locs : List Loc) (ls : Array Slot), va_P (dC, dI) vwCl [(q_t, .inr (7, [.ref q_t_sums, .ref q_t_costs, .ref q_t_weights, .ref q_t_needed])), (q_t_costs, .inl (cI, 10, .inl f_t_costs)), (q_p1, .inr (8, [.int v_p1_law, .int v_p1_share, .int v_p1_pot, .int v_p1_barred]))] H → va_D A [(q_t, .inr (7, [.ref q_t_sums, .ref q_t_costs, .ref q_t_weights, .ref q_t_needed])), (q_t_costs, .inl (cI, 10, .inl f_t_costs)), (q_p1, .inr (8, [.int v_p1_law, .int v_p1_share, .int v_p1_pot, .int v_p1_barred]))] → va_S A s.heap H locs → lv_has ls 5 [(0, .ref q_t), (1, .ref q_p1), (2, .int x2), (3, .int x3)] → W p l e (headSpec wsX7_fewestNotRight rm_X7_fewestNotRight).room s m ([.ref q_t, .ref q_p1, .int p2] : List Value).toArray below meth c H locs 0 0 (MQ below (va_Qi (fun (r : Int32) (_ : Unit) => r = res) (bW dC dI A [(q_t, .inr (7, [.ref q_t_sums, .ref q_t_costs, .ref q_t_weights, .ref q_t_needed])), (q_t_costs, .inl (cI, 10, .inl r_f_t_costs)), (q_p1, .inr (8, [.int v_p1_law, .int v_p1_share, .int v_p1_pot, .int v_p1_barred]))]) A) ([.ref q_t, .ref q_p1, .int p2] : List Value).toArray s 0 0 A) (F0 m 60 ls []) := by
        intro f_t_costs x2 x3 h H locs ls hP hD hS hl
        unfold X7_fewestNotRight_b60 at h
        refine lv_iinc (v := (x3 + (1 : Int32))) (lv' := [(3, .int (x3 + (1 : Int32))), (0, .ref q_t), (1, .ref q_p1), (2, .int x2)]) hx hb dX7_fewestNotRight_60 hl (k := 3) rfl rfl (by decide) rfl (fun ls hl => ?_)
        refine lv_goto (tgt := 16) hx hb dX7_fewestNotRight_63 (by decide) ?_
        exact ih_16 f_t_costs x2 (x3 + (1 : Int32)) h H locs ls hP hD hS (lv_sub hl [1, 2, 3, 0] rfl)
      have L_33 : ∀ (n33 : Nat) , ∀ (f_t_costs : (Nat → Int32)) (x2 : Int32) (x3 : Int32) (x4 : Int32), X7_fewestNotRight_b33 (X7_fewestNotRight_b16 n16) n33 f_t_costs v_p1_law v_p1_barred x2 x3 x4 = some (res, r_f_t_costs) → ∀ (H : Heap) (locs : List Loc) (ls : Array Slot), va_P (dC, dI) vwCl [(q_t, .inr (7, [.ref q_t_sums, .ref q_t_costs, .ref q_t_weights, .ref q_t_needed])), (q_t_costs, .inl (cI, 10, .inl f_t_costs)), (q_p1, .inr (8, [.int v_p1_law, .int v_p1_share, .int v_p1_pot, .int v_p1_barred]))] H → va_D A [(q_t, .inr (7, [.ref q_t_sums, .ref q_t_costs, .ref q_t_weights, .ref q_t_needed])), (q_t_costs, .inl (cI, 10, .inl f_t_costs)), (q_p1, .inr (8, [.int v_p1_law, .int v_p1_share, .int v_p1_pot, .int v_p1_barred]))] → va_S A s.heap H locs → lv_has ls 5 [(0, .ref q_t), (1, .ref q_p1), (2, .int x2), (3, .int x3), (4, .int x4)] → W p l e (headSpec wsX7_fewestNotRight rm_X7_fewestNotRight).room s m ([.ref q_t, .ref q_p1, .int p2] : List Value).toArray below meth c H locs 0 0 (MQ below (va_Qi (fun (r : Int32) (_ : Unit) => r = res) (bW dC dI A [(q_t, .inr (7, [.ref q_t_sums, .ref q_t_costs, .ref q_t_weights, .ref q_t_needed])), (q_t_costs, .inl (cI, 10, .inl r_f_t_costs)), (q_p1, .inr (8, [.int v_p1_law, .int v_p1_share, .int v_p1_pot, .int v_p1_barred]))]) A) ([.ref q_t, .ref q_p1, .int p2] : List Value).toArray s 0 0 A) (F0 m 33 ls []) := by
        intro n33
        induction n33 with
        | zero => intro f_t_costs x2 x3 x4 h H locs ls hP hD hS hl; exact absurd h (fun h => by cases h)
        | succ n33 ih_33 =>
          intro f_t_costs x2 x3 x4 h H locs ls hP hD hS hl
          replace h : X7_fewestNotRight_b33_s (X7_fewestNotRight_b16 n16) (X7_fewestNotRight_b33 (X7_fewestNotRight_b16 n16) n33) f_t_costs v_p1_law v_p1_barred x2 x3 x4 = some (res, r_f_t_costs) := h
          unfold X7_fewestNotRight_b33_s at h
          refine lv_iload hx hb dX7_fewestNotRight_33 (lv_at hl 4 rfl) ?_
          refine lv_iconst (v := (1 : Int32)) hx hb dX7_fewestNotRight_35 (by decide) ?_
          refine lv_icmp_lt (tgt := 60) hx hb dX7_fewestNotRight_36 (by decide) (fun c1 => ?_) (fun c1 => ?_)
          · replace h := ite_t h c1
            exact B_60 f_t_costs x2 x3 h H locs ls hP hD hS (lv_sub hl [0, 1, 2, 3] rfl)
          replace h := ite_f h c1
          refine lv_aload_n hx hb dX7_fewestNotRight_39 rfl (lv_at hl 0 rfl) ?_
          refine va_get (D := (dC, dI)) (ci := 7) (v := .ref q_t_costs) (C := RX7) (T := TX7) (N := 4) hx hb hts in_X7_fewestNotRight_X7 hown hK hP 0 rfl rfl 1 (by decide) (hts (.fieldLink RX7 15 "RightIfAsMany$Rows" "costs" "[I") (List.mem_of_getElem? (i := 1) rfl)) (fun _ h9 => h9) rfl dX7_fewestNotRight_40 ?_
          refine lv_iload hx hb dX7_fewestNotRight_43 (lv_at hl 4 rfl) ?_
          refine lv_aload_n hx hb dX7_fewestNotRight_45 rfl (lv_at hl 0 rfl) ?_
          refine lv_aload_n hx hb dX7_fewestNotRight_46 rfl (lv_at hl 1 rfl) ?_
          refine lv_iload_n hx hb dX7_fewestNotRight_47 rfl (lv_at hl 3 rfl) ?_
          refine lv_iload hx hb dX7_fewestNotRight_48 (lv_at hl 4 rfl) ?_
          obtain ⟨r2, hc2, h⟩ := bnd1_s h
          refine kRi (res := r2) (va_runV (As := [.ref q_p1, .int x3, .int x4]) (rest := [.int x4, .ref q_t_costs]) ⟨hx, hb, hml, hown, hts⟩ (cn_X7_leastNotRight l dC dI cI cJ cZ q_t q_p1 q_t_sums q_t_costs q_t_weights q_t_needed  f_t_costs v_p1_law v_p1_share v_p1_pot v_p1_barred x3 x4 r2 hc2) (cwV 3 hts gX7_fewestNotRight_X7_leastNotRight rfl rfl rfl (by decide +kernel) ⟨Nat.le_of_ble_eq_true rfl, Nat.le_of_ble_eq_true rfl⟩) (preR hKK (hP.sub (ws' := [(q_t, .inr (7, [.ref q_t_sums, .ref q_t_costs, .ref q_t_weights, .ref q_t_needed])), (q_t_costs, .inl (cI, 10, .inl f_t_costs)), (q_p1, .inr (8, [.int v_p1_law, .int v_p1_share, .int v_p1_pot, .int v_p1_barred]))]) [0, 1, 2] rfl) (ci := 7) (q0 := 0) rfl rfl) rfl rfl hl.1 rfl (lv_room (Nat.le_of_ble_eq_true rfl)) dX7_fewestNotRight_50 ⟨Nat.zero_le _, Nat.zero_le _⟩) ?_
          obtain ⟨hg3, h⟩ := grd_s h
          refine va_iast hx hb hK hP hD hS 1 0 rfl rfl hg3 dX7_fewestNotRight_53 (fun H locs hP hD hS => ?_)
          have hP : va_P (dC, dI) vwCl [(q_t, .inr (7, [.ref q_t_sums, .ref q_t_costs, .ref q_t_weights, .ref q_t_needed])), (q_t_costs, .inl (cI, 10, .inl (upd f_t_costs x4.toNatClampNeg r2))), (q_p1, .inr (8, [.int v_p1_law, .int v_p1_share, .int v_p1_pot, .int v_p1_barred]))] H := hP
          have hD : va_D A [(q_t, .inr (7, [.ref q_t_sums, .ref q_t_costs, .ref q_t_weights, .ref q_t_needed])), (q_t_costs, .inl (cI, 10, .inl (upd f_t_costs x4.toNatClampNeg r2))), (q_p1, .inr (8, [.int v_p1_law, .int v_p1_share, .int v_p1_pot, .int v_p1_barred]))] := hD
          refine lv_iinc (v := (x4 + (-1 : Int32))) (lv' := [(4, .int (x4 + (-1 : Int32))), (0, .ref q_t), (1, .ref q_p1), (2, .int x2), (3, .int x3)]) hx hb dX7_fewestNotRight_54 hl (k := 4) rfl rfl (by decide) rfl (fun ls hl => ?_)
          refine lv_goto (tgt := 33) hx hb dX7_fewestNotRight_57 (by decide) ?_
          exact ih_33 (upd f_t_costs x4.toNatClampNeg r2) x2 x3 (x4 + (-1 : Int32)) h H locs ls hP hD hS (lv_sub hl [1, 2, 3, 4, 0] rfl)
      intro f_t_costs x2 x3 h H locs ls hP hD hS hl
      replace h : X7_fewestNotRight_b16_s (X7_fewestNotRight_b16 n16) f_t_costs v_p1_law v_p1_barred x2 x3 = some (res, r_f_t_costs) := h
      unfold X7_fewestNotRight_b16_s at h
      refine lv_iload_n hx hb dX7_fewestNotRight_16 rfl (lv_at hl 3 rfl) ?_
      refine lv_bipush (v := (10 : Int32)) hx hb dX7_fewestNotRight_17 (by decide) ?_
      refine lv_icmp_ge (tgt := 66) hx hb dX7_fewestNotRight_19 (by decide) (fun c5 => ?_) (fun c5 => ?_)
      · replace h := ite_t h c5
        exact B_66 f_t_costs x2 h H locs ls hP hD hS (lv_sub hl [0, 2] rfl)
      replace h := ite_f h c5
      refine lv_aload_n hx hb dX7_fewestNotRight_22 rfl (lv_at hl 1 rfl) ?_
      refine lv_iload_n hx hb dX7_fewestNotRight_23 rfl (lv_at hl 3 rfl) ?_
      refine kRz (res := (X8_isOpen v_p1_barred x3)) (va_runV (As := [.int x3]) (rest := []) ⟨hx, hb, hml, hown, hts⟩ (cn_X8_isOpen l dC dI cI cJ cZ q_p1  v_p1_law v_p1_share v_p1_pot v_p1_barred x3 (X8_isOpen v_p1_barred x3) rfl) (cwV 1 hts gX7_fewestNotRight_X8_isOpen rfl rfl rfl (by decide +kernel) ⟨Nat.le_of_ble_eq_true rfl, Nat.le_of_ble_eq_true rfl⟩) (preR hKK (hP.sub (ws' := [(q_p1, .inr (8, [.int v_p1_law, .int v_p1_share, .int v_p1_pot, .int v_p1_barred]))]) [2] rfl) (ci := 8) (q0 := 0) rfl rfl) rfl rfl hl.1 rfl (lv_room (Nat.le_of_ble_eq_true rfl)) dX7_fewestNotRight_24 ⟨Nat.zero_le _, Nat.zero_le _⟩) (fun hz6 => ?_)
      refine lv_if_eq (tgt := 60) hx hb dX7_fewestNotRight_27 (by decide) (fun c7 => ?_) (fun c7 => ?_)
      · replace h := ite_t h c7
        exact B_60 f_t_costs x2 x3 h H locs ls hP hD hS (lv_sub hl [0, 1, 2, 3] rfl)
      replace h := ite_f h c7
      refine lv_iload_n hx hb dX7_fewestNotRight_30 rfl (lv_at hl 2 rfl) ?_
      refine lv_istore (lv' := [(4, .int x2), (0, .ref q_t), (1, .ref q_p1), (2, .int x2), (3, .int x3)]) hx hb dX7_fewestNotRight_31 hl (by decide) rfl (fun ls hl => ?_)
      exact L_33 fU f_t_costs x2 x3 x2 h H locs ls hP hD hS (lv_sub hl [1, 2, 3, 4, 0] rfl)
  unfold X7_fewestNotRight at h
  obtain ⟨H, hHe⟩ : ∃ H, H = s.heap := ⟨_, rfl⟩
  obtain ⟨locs, hLe⟩ : ∃ x : List Loc, x = [] := ⟨_, rfl⟩
  rw [← hHe] at hP
  have hS : va_S A s.heap H locs := by rw [hHe, hLe]; exact hS
  suffices hW : W p l e (headSpec wsX7_fewestNotRight rm_X7_fewestNotRight).room s m ([.ref q_t, .ref q_p1, .int p2] : List Value).toArray below meth c H locs 0 0 (MQ below (va_Qi (fun (r : Int32) (_ : Unit) => r = res) (bW dC dI A [(q_t, .inr (7, [.ref q_t_sums, .ref q_t_costs, .ref q_t_weights, .ref q_t_needed])), (q_t_costs, .inl (cI, 10, .inl r_f_t_costs)), (q_p1, .inr (8, [.int v_p1_law, .int v_p1_share, .int v_p1_pot, .int v_p1_barred]))]) A) ([.ref q_t, .ref q_p1, .int p2] : List Value).toArray s 0 0 A) (F0 m 0 ls []) by rw [hHe, hLe] at hW; exact hW
  refine lv_iload_n hx hb dX7_fewestNotRight_0 rfl (lv_at hl 2 rfl) ?_
  refine kRz (res := (X10_isCrowd p2)) (va_runSN (As := [.int p2]) (rest := []) ⟨hx, hb, hml, hown, hts⟩ (cn_X10_isCrowd l dC dI cI cJ cZ    p2 (X10_isCrowd p2) rfl) ⟨va_cnB 1 hts gX7_fewestNotRight_X10_isCrowd_n35 rfl rfl rfl (hKK.nw 16 rfl) (hts (.initialized RX10) (List.mem_of_getElem? (i := 3) rfl)) (by decide +kernel) ⟨Nat.le_of_ble_eq_true rfl, Nat.le_of_ble_eq_true rfl⟩, hts (.static yX10_isCrowd) (List.mem_of_getElem? (i := 2) rfl), trivial⟩ (preRS hKK (hP.sub (ws' := []) [] rfl)) rfl rfl hl.1 rfl (lv_room (Nat.le_of_ble_eq_true rfl)) dX7_fewestNotRight_1 ⟨Nat.zero_le _, Nat.zero_le _⟩) (fun hz8 => ?_)
  refine lv_if_ne (tgt := 10) hx hb dX7_fewestNotRight_4 (by decide) (fun c9 => ?_) (fun c9 => ?_)
  · replace h := ite_f h c9
    refine lv_aload_n hx hb dX7_fewestNotRight_10 rfl (lv_at hl 0 rfl) ?_
    obtain ⟨w10_0, hc10, h⟩ := bnd1_s h
    refine kWv (wc := [(q_t, .inr (7, [.ref q_t_sums, .ref q_t_costs, .ref q_t_weights, .ref q_t_needed])), (q_t_costs, .inl (cI, 10, .inl f_t_costs))]) (wr := [(q_p1, .inr (8, [.int v_p1_law, .int v_p1_share, .int v_p1_pot, .int v_p1_barred]))]) (w1 := [(q_t, .inr (7, [.ref q_t_sums, .ref q_t_costs, .ref q_t_weights, .ref q_t_needed])), (q_t_costs, .inl (cI, 10, .inl w10_0))]) (wn := [(q_t, .inr (7, [.ref q_t_sums, .ref q_t_costs, .ref q_t_weights, .ref q_t_needed])), (q_t_costs, .inl (cI, 10, .inl w10_0)), (q_p1, .inr (8, [.int v_p1_law, .int v_p1_share, .int v_p1_pot, .int v_p1_barred]))]) hP hD hS hA [0, 1] [2] [1, 2, 0] rfl rfl (by decide) (by decide) rfl (by decide) (va_runV (As := []) (rest := []) ⟨hx, hb, hml, hown, hts⟩ (cn_X7_startCosts l dC dI cI cJ cZ q_t q_t_sums q_t_costs q_t_weights q_t_needed H.size f_t_costs  w10_0 hc10) (cwV 0 hts gX7_fewestNotRight_X7_startCosts rfl rfl rfl (by decide +kernel) ⟨Nat.le_of_ble_eq_true rfl, Nat.le_of_ble_eq_true rfl⟩) (preW hKK (hP.sub (ws' := [(q_t, .inr (7, [.ref q_t_sums, .ref q_t_costs, .ref q_t_weights, .ref q_t_needed])), (q_t_costs, .inl (cI, 10, .inl f_t_costs))]) [0, 1] rfl) (hD.sub (ws' := [(q_t, .inr (7, [.ref q_t_sums, .ref q_t_costs, .ref q_t_weights, .ref q_t_needed])), (q_t_costs, .inl (cI, 10, .inl f_t_costs))]) [0, 1] (by decide) rfl) (ci := 7) (q0 := 0) rfl rfl) rfl rfl hl.1 rfl (lv_room (Nat.le_of_ble_eq_true rfl)) dX7_fewestNotRight_11 ⟨Nat.zero_le _, Nat.zero_le _⟩) (fun H locs hP hD hS => ?_)
    refine lv_iconst (v := (0 : Int32)) hx hb dX7_fewestNotRight_14 (by decide) ?_
    refine lv_istore_n (lv' := [(3, .int (0 : Int32)), (0, .ref q_t), (1, .ref q_p1), (2, .int p2)]) hx hb dX7_fewestNotRight_15 rfl hl (by decide) rfl (fun ls hl => ?_)
    exact L_16 fU w10_0 p2 (0 : Int32) h H locs ls hP hD hS (lv_sub hl [1, 2, 3, 0] rfl)
  replace h := ite_t h c9
  refine lv_bipush (v := (-9 : Int32)) hx hb dX7_fewestNotRight_7 (by decide) ?_
  replace h := Option.some.inj h
  obtain ⟨e1, e2⟩ := pr2 h
  exact W.iret (v := (-9 : Int32)) hx hb hr (fun t ht hW => ⟨⟨_, (), rfl, e1, (by rw [ht, ← e2]; exact hP), (by rw [← e2]; exact hD)⟩, hS.F ht⟩) hS.2.2 dX7_fewestNotRight_9
abbrev rm_X10_wrong : Room := { frames := 3, cells := 0, slots := 0, locals := 80 }
theorem in_X10_wrong_X8 : ∀ w ∈ wsX80, w ∈ wsX10_wrong := fun _ h => List.mem_cons_of_mem _ (List.mem_append_right _ h)
theorem in_X10_wrong_X7 : ∀ w ∈ wsX70, w ∈ wsX10_wrong := fun _ h => List.mem_cons_of_mem _ (List.mem_append_left _ (List.mem_append_right _ h))
theorem in_X10_wrong_X10 : ∀ w ∈ wsX100, w ∈ wsX10_wrong := fun _ h => List.mem_cons_of_mem _ (List.mem_append_left _ (List.mem_append_left _ (List.mem_append_right _ h)))
set_option maxHeartbeats 4000000 in
set_option maxRecDepth 100000 in
theorem cn_X10_wrong (l : Launch) (dC : Nat → ClassId) (dI : Nat → Nat → Nat) (cI cJ cZ : ClassId) (q_t q_t_text q_t_reader q_t_rules q_t_people q_t_memory q_t_rows q_t_chances q_t_moves q_t_payments q_t_evenings q_t_rows_sums q_t_rows_costs q_t_rows_weights q_t_rows_needed : Nat) (sz : Nat) (v_t_rules_law : Int32) (v_t_rules_share : Int32) (v_t_rules_pot : Int32) (v_t_rules_barred : Int32) (f_t_rows_costs : (Nat → Int32)) (p1 : Int32) (res : Int32) (r_f_t_rows_costs : (Nat → Int32)) (h : X10_wrong v_t_rules_law v_t_rules_barred f_t_rows_costs p1 = some (res, r_f_t_rows_costs)) : Met l yX10_wrong wsX10_wrong rm_X10_wrong (pcW dC dI cI cJ cZ [(q_t, .inr (10, [.ref q_t_text, .ref q_t_reader, .ref q_t_rules, .ref q_t_people, .ref q_t_memory, .ref q_t_rows, .ref q_t_chances, .ref q_t_moves, .ref q_t_payments, .ref q_t_evenings])), (q_t_rules, .inr (8, [.int v_t_rules_law, .int v_t_rules_share, .int v_t_rules_pot, .int v_t_rules_barred])), (q_t_rows, .inr (7, [.ref q_t_rows_sums, .ref q_t_rows_costs, .ref q_t_rows_weights, .ref q_t_rows_needed])), (q_t_rows_costs, .inl (cI, 10, .inl f_t_rows_costs))] sz [.ref q_t, .int p1]) (va_Qi (fun (r : Int32) (_ : Unit) => r = res) (bW dC dI (va_A [(q_t, .inr (10, [.ref q_t_text, .ref q_t_reader, .ref q_t_rules, .ref q_t_people, .ref q_t_memory, .ref q_t_rows, .ref q_t_chances, .ref q_t_moves, .ref q_t_payments, .ref q_t_evenings])), (q_t_rules, .inr (8, [.int v_t_rules_law, .int v_t_rules_share, .int v_t_rules_pot, .int v_t_rules_barred])), (q_t_rows, .inr (7, [.ref q_t_rows_sums, .ref q_t_rows_costs, .ref q_t_rows_weights, .ref q_t_rows_needed])), (q_t_rows_costs, .inl (cI, 10, .inl f_t_rows_costs))] sz) [(q_t, .inr (10, [.ref q_t_text, .ref q_t_reader, .ref q_t_rules, .ref q_t_people, .ref q_t_memory, .ref q_t_rows, .ref q_t_chances, .ref q_t_moves, .ref q_t_payments, .ref q_t_evenings])), (q_t_rules, .inr (8, [.int v_t_rules_law, .int v_t_rules_share, .int v_t_rules_pot, .int v_t_rules_barred])), (q_t_rows, .inr (7, [.ref q_t_rows_sums, .ref q_t_rows_costs, .ref q_t_rows_weights, .ref q_t_rows_needed])), (q_t_rows_costs, .inl (cI, 10, .inl r_f_t_rows_costs))]) (va_A [(q_t, .inr (10, [.ref q_t_text, .ref q_t_reader, .ref q_t_rules, .ref q_t_people, .ref q_t_memory, .ref q_t_rows, .ref q_t_chances, .ref q_t_moves, .ref q_t_payments, .ref q_t_evenings])), (q_t_rules, .inr (8, [.int v_t_rules_law, .int v_t_rules_share, .int v_t_rules_pot, .int v_t_rules_barred])), (q_t_rows, .inr (7, [.ref q_t_rows_sums, .ref q_t_rows_costs, .ref q_t_rows_weights, .ref q_t_rows_needed])), (q_t_rows_costs, .inl (cI, 10, .inl f_t_rows_costs))] sz)) 0 0 (va_A [(q_t, .inr (10, [.ref q_t_text, .ref q_t_reader, .ref q_t_rules, .ref q_t_people, .ref q_t_memory, .ref q_t_rows, .ref q_t_chances, .ref q_t_moves, .ref q_t_payments, .ref q_t_evenings])), (q_t_rules, .inr (8, [.int v_t_rules_law, .int v_t_rules_share, .int v_t_rules_pot, .int v_t_rules_barred])), (q_t_rows, .inr (7, [.ref q_t_rows_sums, .ref q_t_rows_costs, .ref q_t_rows_weights, .ref q_t_rows_needed])), (q_t_rows_costs, .inl (cI, 10, .inl f_t_rows_costs))] sz) := by
  refine Met.ofW (cc := cX10_wrong) (maxL := 2) (ret := (some .int)) (by decide) rfl ?_
  intro p e s m args below meth c s₁ B hml hv
  obtain ⟨rfl, hsz, hP, hKK, hD0⟩ := hv
  have hx := B.exec
  have hb := B.bytes
  have hr := B.returns
  have hts := atoms_spec (ws := wsX10_wrong) B.pre
  have hown : s.vm.findClass RX10 = some m.cls := findClass_of_methodNamed B.named
  have hlocks := B.notSynchronized
  have hK := hKK.1
  subst hsz
  have hD := hD0.self (sz := s.heap.size)
  generalize hAe : va_A [(q_t, .inr (10, [.ref q_t_text, .ref q_t_reader, .ref q_t_rules, .ref q_t_people, .ref q_t_memory, .ref q_t_rows, .ref q_t_chances, .ref q_t_moves, .ref q_t_payments, .ref q_t_evenings])), (q_t_rules, .inr (8, [.int v_t_rules_law, .int v_t_rules_share, .int v_t_rules_pot, .int v_t_rules_barred])), (q_t_rows, .inr (7, [.ref q_t_rows_sums, .ref q_t_rows_costs, .ref q_t_rows_weights, .ref q_t_rows_needed])), (q_t_rows_costs, .inl (cI, 10, .inl f_t_rows_costs))] s.heap.size = A at hD ⊢
  have hA : ∀ q : Nat, s.heap.size ≤ q → A q := fun q h => by rw [← hAe]; exact Or.inr h
  have hS : va_S A s.heap s.heap [] := va_S.rf
  have hl := lv_entry ([.ref q_t, .int p1]) (n := 2) (Nat.le_of_ble_eq_true rfl)
  rw [lg_entry_eq]
  generalize (lg_sl ([.ref q_t, .int p1]) ++ List.replicate (2 - (lg_sl ([.ref q_t, .int p1])).length) Slot.unset).toArray = ls at hl ⊢
  have hl : lv_has ls 2 [(0, .ref q_t), (1, .int p1)] := hl
  unfold X10_wrong at h
  obtain ⟨H, hHe⟩ : ∃ H, H = s.heap := ⟨_, rfl⟩
  obtain ⟨locs, hLe⟩ : ∃ x : List Loc, x = [] := ⟨_, rfl⟩
  rw [← hHe] at hP
  have hS : va_S A s.heap H locs := by rw [hHe, hLe]; exact hS
  suffices hW : W p l e (headSpec wsX10_wrong rm_X10_wrong).room s m ([.ref q_t, .int p1] : List Value).toArray below meth c H locs 0 0 (MQ below (va_Qi (fun (r : Int32) (_ : Unit) => r = res) (bW dC dI A [(q_t, .inr (10, [.ref q_t_text, .ref q_t_reader, .ref q_t_rules, .ref q_t_people, .ref q_t_memory, .ref q_t_rows, .ref q_t_chances, .ref q_t_moves, .ref q_t_payments, .ref q_t_evenings])), (q_t_rules, .inr (8, [.int v_t_rules_law, .int v_t_rules_share, .int v_t_rules_pot, .int v_t_rules_barred])), (q_t_rows, .inr (7, [.ref q_t_rows_sums, .ref q_t_rows_costs, .ref q_t_rows_weights, .ref q_t_rows_needed])), (q_t_rows_costs, .inl (cI, 10, .inl r_f_t_rows_costs))]) A) ([.ref q_t, .int p1] : List Value).toArray s 0 0 A) (F0 m 0 ls []) by rw [hHe, hLe] at hW; exact hW
  refine lv_iload_n hx hb dX10_wrong_0 rfl (lv_at hl 1 rfl) ?_
  refine kRz (res := (X10_isCrowd p1)) (va_runS (As := [.int p1]) (rest := []) ⟨hx, hb, hml, hown, hts⟩ (cn_X10_isCrowd l dC dI cI cJ cZ    p1 (X10_isCrowd p1) rfl) (va_cwS 1 hts gX10_wrong_X10_isCrowd rfl rfl rfl (by decide +kernel) ⟨Nat.le_of_ble_eq_true rfl, Nat.le_of_ble_eq_true rfl⟩) (preRS hKK (hP.sub (ws' := []) [] rfl)) rfl rfl hl.1 rfl (lv_room (Nat.le_of_ble_eq_true rfl)) dX10_wrong_1 ⟨Nat.zero_le _, Nat.zero_le _⟩) (fun hz1 => ?_)
  refine lv_if_eq (tgt := 22) hx hb dX10_wrong_4 (by decide) (fun c2 => ?_) (fun c2 => ?_)
  · replace h := ite_t h c2
    refine lv_bipush (v := (-2 : Int32)) hx hb dX10_wrong_22 (by decide) ?_
    replace h := Option.some.inj h
    obtain ⟨e1, e2⟩ := pr2 h
    exact W.iret (v := (-2 : Int32)) hx hb hr (fun t ht hW => ⟨⟨_, (), rfl, e1, (by rw [ht, ← e2]; exact hP), (by rw [← e2]; exact hD)⟩, hS.F ht⟩) hS.2.2 dX10_wrong_24
  replace h := ite_f h c2
  refine lv_aload_n hx hb dX10_wrong_7 rfl (lv_at hl 0 rfl) ?_
  refine va_get (D := (dC, dI)) (ci := 10) (v := .ref q_t_rows) (C := RX10) (T := TX10) (N := 10) hx hb hts in_X10_wrong_X10 hown hK hP 0 rfl rfl 5 (by decide) (hts (.fieldLink RX10 47 "RightIfAsMany" "rows" "LRightIfAsMany$Rows;") (List.mem_of_getElem? (i := 1) rfl)) (fun _ h9 => h9) rfl dX10_wrong_8 ?_
  refine lv_aload_n hx hb dX10_wrong_11 rfl (lv_at hl 0 rfl) ?_
  refine va_get (D := (dC, dI)) (ci := 10) (v := .ref q_t_rules) (C := RX10) (T := TX10) (N := 10) hx hb hts in_X10_wrong_X10 hown hK hP 0 rfl rfl 2 (by decide) (hts (.fieldLink RX10 26 "RightIfAsMany" "rules" "LRightIfAsMany$Rules;") (List.mem_of_getElem? (i := 2) rfl)) (fun _ h9 => h9) rfl dX10_wrong_12 ?_
  refine lv_iload_n hx hb dX10_wrong_15 rfl (lv_at hl 1 rfl) ?_
  obtain ⟨r3, w3_1, hc3, h⟩ := bnd2_s h
  refine kWi (res := r3) (wc := [(q_t_rows, .inr (7, [.ref q_t_rows_sums, .ref q_t_rows_costs, .ref q_t_rows_weights, .ref q_t_rows_needed])), (q_t_rows_costs, .inl (cI, 10, .inl f_t_rows_costs)), (q_t_rules, .inr (8, [.int v_t_rules_law, .int v_t_rules_share, .int v_t_rules_pot, .int v_t_rules_barred]))]) (wr := [(q_t, .inr (10, [.ref q_t_text, .ref q_t_reader, .ref q_t_rules, .ref q_t_people, .ref q_t_memory, .ref q_t_rows, .ref q_t_chances, .ref q_t_moves, .ref q_t_payments, .ref q_t_evenings]))]) (w1 := [(q_t_rows, .inr (7, [.ref q_t_rows_sums, .ref q_t_rows_costs, .ref q_t_rows_weights, .ref q_t_rows_needed])), (q_t_rows_costs, .inl (cI, 10, .inl w3_1)), (q_t_rules, .inr (8, [.int v_t_rules_law, .int v_t_rules_share, .int v_t_rules_pot, .int v_t_rules_barred]))]) (wn := [(q_t, .inr (10, [.ref q_t_text, .ref q_t_reader, .ref q_t_rules, .ref q_t_people, .ref q_t_memory, .ref q_t_rows, .ref q_t_chances, .ref q_t_moves, .ref q_t_payments, .ref q_t_evenings])), (q_t_rules, .inr (8, [.int v_t_rules_law, .int v_t_rules_share, .int v_t_rules_pot, .int v_t_rules_barred])), (q_t_rows, .inr (7, [.ref q_t_rows_sums, .ref q_t_rows_costs, .ref q_t_rows_weights, .ref q_t_rows_needed])), (q_t_rows_costs, .inl (cI, 10, .inl w3_1))]) hP hD hS hA [2, 3, 1] [0] [0, 3, 1, 2] rfl rfl (by decide) (by decide) rfl (by decide) (va_runV (As := [.ref q_t_rules, .int p1]) (rest := []) ⟨hx, hb, hml, hown, hts⟩ (cn_X7_fewestNotRight l dC dI cI cJ cZ q_t_rows q_t_rules q_t_rows_sums q_t_rows_costs q_t_rows_weights q_t_rows_needed H.size f_t_rows_costs v_t_rules_law v_t_rules_share v_t_rules_pot v_t_rules_barred p1 r3 w3_1 hc3) (cwV 2 hts gX10_wrong_X7_fewestNotRight rfl rfl rfl (by decide +kernel) ⟨Nat.le_of_ble_eq_true rfl, Nat.le_of_ble_eq_true rfl⟩) (preW hKK (hP.sub (ws' := [(q_t_rows, .inr (7, [.ref q_t_rows_sums, .ref q_t_rows_costs, .ref q_t_rows_weights, .ref q_t_rows_needed])), (q_t_rows_costs, .inl (cI, 10, .inl f_t_rows_costs)), (q_t_rules, .inr (8, [.int v_t_rules_law, .int v_t_rules_share, .int v_t_rules_pot, .int v_t_rules_barred]))]) [2, 3, 1] rfl) (hD.sub (ws' := [(q_t_rows, .inr (7, [.ref q_t_rows_sums, .ref q_t_rows_costs, .ref q_t_rows_weights, .ref q_t_rows_needed])), (q_t_rows_costs, .inl (cI, 10, .inl f_t_rows_costs)), (q_t_rules, .inr (8, [.int v_t_rules_law, .int v_t_rules_share, .int v_t_rules_pot, .int v_t_rules_barred]))]) [2, 3, 1] (by decide) rfl) (ci := 7) (q0 := 0) rfl rfl) rfl rfl hl.1 rfl (lv_room (Nat.le_of_ble_eq_true rfl)) dX10_wrong_16 ⟨Nat.zero_le _, Nat.zero_le _⟩) (fun H locs hP hD hS => ?_)
  refine lv_goto (tgt := 24) hx hb dX10_wrong_19 (by decide) ?_
  replace h := Option.some.inj h
  obtain ⟨e1, e2⟩ := pr2 h
  exact W.iret (v := r3) hx hb hr (fun t ht hW => ⟨⟨_, (), rfl, e1, (by rw [ht, ← e2]; exact hP), (by rw [← e2]; exact hD)⟩, hS.F ht⟩) hS.2.2 dX10_wrong_24
abbrev rm_X7_reachedWith : Room := { frames := 1, cells := 0, slots := 0, locals := 30 }
theorem in_X7_reachedWith_X8 : ∀ w ∈ wsX80, w ∈ wsX7_reachedWith := fun _ h => List.mem_cons_of_mem _ (List.mem_append_right _ h)
theorem in_X7_reachedWith_X7 : ∀ w ∈ wsX70, w ∈ wsX7_reachedWith := fun _ h => List.mem_cons_of_mem _ (List.mem_append_left _ (List.mem_append_right _ h))
set_option maxHeartbeats 4000000 in
set_option maxRecDepth 100000 in
theorem cn_X7_reachedWith (l : Launch) (dC : Nat → ClassId) (dI : Nat → Nat → Nat) (cI cJ cZ : ClassId) (q_t q_p1 q_t_sums q_t_costs q_t_weights q_t_needed : Nat) (f_t_needed : (Nat → Int32)) (v_p1_law : Int32) (v_p1_share : Int32) (v_p1_pot : Int32) (v_p1_barred : Int32) (p2 : Int32) (p3 : Int32) (p4 : Int32) (res : Int32) (h : X7_reachedWith f_t_needed v_p1_law p2 p3 p4 = some res) : Met l yX7_reachedWith wsX7_reachedWith rm_X7_reachedWith (pcR dC dI cI cJ cZ [(q_t, .inr (7, [.ref q_t_sums, .ref q_t_costs, .ref q_t_weights, .ref q_t_needed])), (q_t_needed, .inl (cI, 10, .inl f_t_needed)), (q_p1, .inr (8, [.int v_p1_law, .int v_p1_share, .int v_p1_pot, .int v_p1_barred]))] [.ref q_t, .ref q_p1, .int p2, .int p3, .int p4]) (vp_Si (fun r => r = res)) 0 0 (fun _ => False) := by
  refine Met.ofW (cc := cX7_reachedWith) (maxL := 8) (ret := (some .int)) (by decide) rfl ?_
  intro p e s m args below meth c s₁ B hml hv
  obtain ⟨rfl, hP, hKK⟩ := hv
  have hx := B.exec
  have hb := B.bytes
  have hr := B.returns
  have hts := atoms_spec (ws := wsX7_reachedWith) B.pre
  have hown : s.vm.findClass RX7 = some m.cls := findClass_of_methodNamed B.named
  have hlocks := B.notSynchronized
  have hK := hKK.1
  have hl := lv_entry ([.ref q_t, .ref q_p1, .int p2, .int p3, .int p4]) (n := 8) (Nat.le_of_ble_eq_true rfl)
  rw [lg_entry_eq]
  generalize (lg_sl ([.ref q_t, .ref q_p1, .int p2, .int p3, .int p4]) ++ List.replicate (8 - (lg_sl ([.ref q_t, .ref q_p1, .int p2, .int p3, .int p4])).length) Slot.unset).toArray = ls at hl ⊢
  have hl : lv_has ls 8 [(0, .ref q_t), (1, .ref q_p1), (2, .int p2), (3, .int p3), (4, .int p4)] := hl
  have L_40 : ∀ (n40 : Nat) , ∀  (x2 : Int32) (x3 : Int32) (x4 : Int32) (x6 : Int32) (x7 : Int32), X7_reachedWith_b40 n40 f_t_needed v_p1_law x2 x3 x4 x6 x7 = some res → ∀ (ls : Array Slot), lv_has ls 8 [(1, .ref q_p1), (2, .int x2), (3, .int x3), (4, .int x4), (6, .int x6), (7, .int x7)] → W p l e (headSpec wsX7_reachedWith rm_X7_reachedWith).room s m ([.ref q_t, .ref q_p1, .int p2, .int p3, .int p4] : List Value).toArray below meth c s.heap [] 0 0 (MQ below (vp_Si (fun r => r = res)) ([.ref q_t, .ref q_p1, .int p2, .int p3, .int p4] : List Value).toArray s 0 0 (fun _ => False)) (F0 m 40 ls []) := by
    intro n40
    induction n40 with
    | zero => intro x2 x3 x4 x6 x7 h ls hl; exact absurd h (fun h => by cases h)
    | succ n40 ih_40 =>
      have B_66 : ∀  (x2 : Int32) (x3 : Int32) (x4 : Int32) (x6 : Int32) (x7 : Int32), X7_reachedWith_b66 (X7_reachedWith_b40 n40) f_t_needed v_p1_law x2 x3 x4 x6 x7 = some res → ∀ (ls : Array Slot), lv_has ls 8 [(1, .ref q_p1), (2, .int x2), (3, .int x3), (4, .int x4), (6, .int x6), (7, .int x7)] → W p l e (headSpec wsX7_reachedWith rm_X7_reachedWith).room s m ([.ref q_t, .ref q_p1, .int p2, .int p3, .int p4] : List Value).toArray below meth c s.heap [] 0 0 (MQ below (vp_Si (fun r => r = res)) ([.ref q_t, .ref q_p1, .int p2, .int p3, .int p4] : List Value).toArray s 0 0 (fun _ => False)) (F0 m 66 ls []) := by
        intro x2 x3 x4 x6 x7 h ls hl
        unfold X7_reachedWith_b66 at h
        refine lv_iinc (v := (x7 + (1 : Int32))) (lv' := [(7, .int (x7 + (1 : Int32))), (1, .ref q_p1), (2, .int x2), (3, .int x3), (4, .int x4), (6, .int x6)]) hx hb dX7_reachedWith_66 hl (k := 5) rfl rfl (by decide) rfl (fun ls hl => ?_)
        refine lv_goto (tgt := 40) hx hb dX7_reachedWith_69 (by decide) ?_
        exact ih_40 x2 x3 x4 x6 (x7 + (1 : Int32)) h ls (lv_sub hl [1, 2, 3, 4, 5, 0] rfl)
      intro x2 x3 x4 x6 x7 h ls hl
      replace h : X7_reachedWith_b40_s (X7_reachedWith_b40 n40) f_t_needed v_p1_law x2 x3 x4 x6 x7 = some res := h
      unfold X7_reachedWith_b40_s at h
      refine lv_iload hx hb dX7_reachedWith_40 (lv_at hl 5 rfl) ?_
      refine lv_iload_n hx hb dX7_reachedWith_42 rfl (lv_at hl 2 rfl) ?_
      refine lv_icmp_gt (tgt := 72) hx hb dX7_reachedWith_43 (by decide) (fun c1 => ?_) (fun c1 => ?_)
      · replace h := ite_t h c1
        refine lv_iload hx hb dX7_reachedWith_72 (lv_at hl 4 rfl) ?_
        have e1 := Option.some.inj h
        exact W.iret (v := x6) hx hb hr (fun t ht hW => ⟨_, rfl, e1, ht⟩) (fun q hq => by cases hq) dX7_reachedWith_74
      replace h := ite_f h c1
      refine lv_aload_n hx hb dX7_reachedWith_46 rfl (lv_at hl 0 rfl) ?_
      refine lv_iload_n hx hb dX7_reachedWith_47 rfl (lv_at hl 1 rfl) ?_
      refine lv_iload hx hb dX7_reachedWith_48 (lv_at hl 5 rfl) ?_
      refine kRz (res := (X8_suits v_p1_law x2 x7)) (va_runV (As := [.int x2, .int x7]) (rest := []) ⟨hx, hb, hml, hown, hts⟩ (cn_X8_suits l dC dI cI cJ cZ q_p1  v_p1_law v_p1_share v_p1_pot v_p1_barred x2 x7 (X8_suits v_p1_law x2 x7) rfl) (cwV 2 hts gX7_reachedWith_X8_suits rfl rfl rfl (by decide +kernel) ⟨Nat.le_of_ble_eq_true rfl, Nat.le_of_ble_eq_true rfl⟩) (preR hKK (hP.sub (ws' := [(q_p1, .inr (8, [.int v_p1_law, .int v_p1_share, .int v_p1_pot, .int v_p1_barred]))]) [2] rfl) (ci := 8) (q0 := 0) rfl rfl) rfl rfl hl.1 rfl (lv_room (Nat.le_of_ble_eq_true rfl)) dX7_reachedWith_50 ⟨Nat.zero_le _, Nat.zero_le _⟩) (fun hz2 => ?_)
      refine lv_if_eq (tgt := 66) hx hb dX7_reachedWith_53 (by decide) (fun c3 => ?_) (fun c3 => ?_)
      · replace h := ite_t h c3
        exact B_66 x2 x3 x4 x6 x7 h ls (lv_sub hl [0, 1, 2, 3, 4, 5] rfl)
      replace h := ite_f h c3
      refine lv_iload hx hb dX7_reachedWith_56 (lv_at hl 4 rfl) ?_
      refine lv_iload hx hb dX7_reachedWith_58 (lv_at hl 3 rfl) ?_
      refine lv_iload hx hb dX7_reachedWith_60 (lv_at hl 5 rfl) ?_
      refine lv_ishl hx hb dX7_reachedWith_62 ?_
      refine lv_ior hx hb dX7_reachedWith_63 ?_
      refine lv_istore (lv' := [(6, .int (x6 ||| (x4 <<< (x7 &&& 31)))), (1, .ref q_p1), (2, .int x2), (3, .int x3), (4, .int x4), (7, .int x7)]) hx hb dX7_reachedWith_64 hl (by decide) rfl (fun ls hl => ?_)
      exact B_66 x2 x3 x4 (x6 ||| (x4 <<< (x7 &&& 31))) x7 h ls (lv_sub hl [1, 2, 3, 4, 0, 5] rfl)
  have B_30 : ∀  (x2 : Int32) (x3 : Int32) (x4 : Int32) (x5 : Int32) (s0 : Int32), X7_reachedWith_b30 f_t_needed v_p1_law x2 x3 x4 x5 s0 = some res → ∀ (ls : Array Slot), lv_has ls 8 [(1, .ref q_p1), (2, .int x2), (3, .int x3), (4, .int x4), (5, .int x5)] → W p l e (headSpec wsX7_reachedWith rm_X7_reachedWith).room s m ([.ref q_t, .ref q_p1, .int p2, .int p3, .int p4] : List Value).toArray below meth c s.heap [] 0 0 (MQ below (vp_Si (fun r => r = res)) ([.ref q_t, .ref q_p1, .int p2, .int p3, .int p4] : List Value).toArray s 0 0 (fun _ => False)) (F0 m 30 ls [.int s0]) := by
    intro x2 x3 x4 x5 s0 h ls hl
    unfold X7_reachedWith_b30 at h
    refine lv_istore (lv' := [(6, .int s0), (1, .ref q_p1), (2, .int x2), (3, .int x3), (4, .int x4), (5, .int x5)]) hx hb dX7_reachedWith_30 hl (by decide) rfl (fun ls hl => ?_)
    refine lv_iconst (v := (1 : Int32)) hx hb dX7_reachedWith_32 (by decide) ?_
    refine lv_iload hx hb dX7_reachedWith_33 (lv_at hl 5 rfl) ?_
    refine va_mmax hx hb (hml.trans hl.1.symm) hown (hts (.methodLink RX7 69 Lib.Math.max.name) (List.mem_of_getElem? (i := 2) rfl)) (hts (.static Lib.Math.max.name) (List.mem_of_getElem? (i := 3) rfl)) (hts (.initialized "java/lang/Math") (List.mem_of_getElem? (i := 4) rfl)) (hts (.code Lib.Math.max.name Lib.Math.max.code 2 (some .int)) (List.mem_of_getElem? (i := 5) rfl)) (Nat.le_of_ble_eq_true rfl) (Nat.le_of_ble_eq_true rfl) (Nat.zero_le _) (Nat.zero_le _) dX7_reachedWith_35 ?_
    refine lv_istore (lv' := [(7, .int (if (1 : Int32) < x5 then x5 else (1 : Int32))), (6, .int s0), (1, .ref q_p1), (2, .int x2), (3, .int x3), (4, .int x4), (5, .int x5)]) hx hb dX7_reachedWith_38 hl (by decide) rfl (fun ls hl => ?_)
    exact L_40 fU x2 x3 x4 s0 (if (1 : Int32) < x5 then x5 else (1 : Int32)) h ls (lv_sub hl [2, 3, 4, 5, 1, 0] rfl)
  have B_17 : ∀  (x2 : Int32) (x3 : Int32) (x4 : Int32) (s0 : Int32), X7_reachedWith_b17 f_t_needed v_p1_law x2 x3 x4 s0 = some res → ∀ (ls : Array Slot), lv_has ls 8 [(1, .ref q_p1), (2, .int x2), (3, .int x3), (4, .int x4)] → W p l e (headSpec wsX7_reachedWith rm_X7_reachedWith).room s m ([.ref q_t, .ref q_p1, .int p2, .int p3, .int p4] : List Value).toArray below meth c s.heap [] 0 0 (MQ below (vp_Si (fun r => r = res)) ([.ref q_t, .ref q_p1, .int p2, .int p3, .int p4] : List Value).toArray s 0 0 (fun _ => False)) (F0 m 17 ls [.int s0]) := by
    intro x2 x3 x4 s0 h ls hl
    unfold X7_reachedWith_b17 at h
    refine lv_istore (lv' := [(5, .int s0), (1, .ref q_p1), (2, .int x2), (3, .int x3), (4, .int x4)]) hx hb dX7_reachedWith_17 hl (by decide) rfl (fun ls hl => ?_)
    refine lv_iload hx hb dX7_reachedWith_19 (lv_at hl 0 rfl) ?_
    refine lv_if_ne (tgt := 29) hx hb dX7_reachedWith_21 (by decide) (fun c4 => ?_) (fun c4 => ?_)
    · replace h := ite_f h c4
      refine lv_iconst (v := (0 : Int32)) hx hb dX7_reachedWith_29 (by decide) ?_
      exact B_30 x2 x3 x4 s0 (0 : Int32) h ls (lv_sub hl [1, 2, 3, 4, 0] rfl)
    replace h := ite_t h c4
    refine lv_iload hx hb dX7_reachedWith_24 (lv_at hl 4 rfl) ?_
    refine lv_goto (tgt := 30) hx hb dX7_reachedWith_26 (by decide) ?_
    exact B_30 x2 x3 x4 s0 x4 h ls (lv_sub hl [1, 2, 3, 4, 0] rfl)
  unfold X7_reachedWith at h
  refine lv_iload_n hx hb dX7_reachedWith_0 rfl (lv_at hl 2 rfl) ?_
  refine kRz (res := (X10_isNumber p2)) (va_runSN (As := [.int p2]) (rest := []) ⟨hx, hb, hml, hown, hts⟩ (cn_X10_isNumber l dC dI cI cJ cZ    p2 (X10_isNumber p2) rfl) ⟨va_cnB 1 hts gX7_reachedWith_X10_isNumber_n85 rfl rfl rfl (hKK.nw 17 rfl) (hts (.initialized RX10) (List.mem_of_getElem? (i := 7) rfl)) (by decide +kernel) ⟨Nat.le_of_ble_eq_true rfl, Nat.le_of_ble_eq_true rfl⟩, hts (.static yX10_isNumber) (List.mem_of_getElem? (i := 6) rfl), trivial⟩ (preRS hKK (hP.sub (ws' := []) [] rfl)) rfl rfl hl.1 rfl (lv_room (Nat.le_of_ble_eq_true rfl)) dX7_reachedWith_1 ⟨Nat.zero_le _, Nat.zero_le _⟩) (fun hz5 => ?_)
  refine lv_if_eq (tgt := 16) hx hb dX7_reachedWith_4 (by decide) (fun c6 => ?_) (fun c6 => ?_)
  · replace h := ite_t h c6
    refine lv_iconst (v := (0 : Int32)) hx hb dX7_reachedWith_16 (by decide) ?_
    exact B_17 p2 p3 p4 (0 : Int32) h ls (lv_sub hl [1, 2, 3, 4] rfl)
  replace h := ite_f h c6
  refine lv_aload_n hx hb dX7_reachedWith_7 rfl (lv_at hl 0 rfl) ?_
  refine va_get (D := (dC, dI)) (ci := 7) (v := .ref q_t_needed) (C := RX7) (T := TX7) (N := 4) hx hb hts in_X7_reachedWith_X7 hown hK hP 0 rfl rfl 3 (by decide) (hts (.fieldLink RX7 22 "RightIfAsMany$Rows" "needed" "[I") (List.mem_of_getElem? (i := 1) rfl)) (fun _ h9 => h9) rfl dX7_reachedWith_8 ?_
  refine lv_iload_n hx hb dX7_reachedWith_11 rfl (lv_at hl 2 rfl) ?_
  obtain ⟨hg7, h⟩ := grd_s h
  refine va_iald hx hb hK hP 1 0 rfl rfl hg7 dX7_reachedWith_12 ?_
  refine lv_goto (tgt := 17) hx hb dX7_reachedWith_13 (by decide) ?_
  exact B_17 p2 p3 p4 (f_t_needed p2.toNatClampNeg) h ls (lv_sub hl [1, 2, 3, 4] rfl)
abbrev rm_X7_canBeFilled : Room := { frames := 2, cells := 0, slots := 0, locals := 57 }
theorem in_X7_canBeFilled_X7 : ∀ w ∈ wsX70, w ∈ wsX7_canBeFilled := fun _ h => List.mem_cons_of_mem _ (List.mem_append_right _ h)
theorem in_X7_canBeFilled_X8 : ∀ w ∈ wsX80, w ∈ wsX7_canBeFilled := fun _ h => List.mem_cons_of_mem _ (List.mem_append_left _ (List.mem_append_right _ h))
set_option maxHeartbeats 4000000 in
set_option maxRecDepth 100000 in
theorem cn_X7_canBeFilled (l : Launch) (dC : Nat → ClassId) (dI : Nat → Nat → Nat) (cI cJ cZ : ClassId) (q_t q_p1 q_t_sums q_t_costs q_t_weights q_t_needed : Nat) (f_t_needed : (Nat → Int32)) (v_p1_law : Int32) (v_p1_share : Int32) (v_p1_pot : Int32) (v_p1_barred : Int32) (p2 : Int32) (res : Int32) (h : X7_canBeFilled f_t_needed v_p1_law v_p1_barred p2 = some res) : Met l yX7_canBeFilled wsX7_canBeFilled rm_X7_canBeFilled (pcR dC dI cI cJ cZ [(q_t, .inr (7, [.ref q_t_sums, .ref q_t_costs, .ref q_t_weights, .ref q_t_needed])), (q_t_needed, .inl (cI, 10, .inl f_t_needed)), (q_p1, .inr (8, [.int v_p1_law, .int v_p1_share, .int v_p1_pot, .int v_p1_barred]))] [.ref q_t, .ref q_p1, .int p2]) (vp_Si (fun r => r = res ∧ r &&& 1 = r)) 0 0 (fun _ => False) := by
  refine Met.ofW (cc := cX7_canBeFilled) (maxL := 5) (ret := (some .boolean)) (by decide) rfl ?_
  intro p e s m args below meth c s₁ B hml hv
  obtain ⟨rfl, hP, hKK⟩ := hv
  have hx := B.exec
  have hb := B.bytes
  have hr := B.returns
  have hts := atoms_spec (ws := wsX7_canBeFilled) B.pre
  have hown : s.vm.findClass RX7 = some m.cls := findClass_of_methodNamed B.named
  have hlocks := B.notSynchronized
  have hK := hKK.1
  have hl := lv_entry ([.ref q_t, .ref q_p1, .int p2]) (n := 5) (Nat.le_of_ble_eq_true rfl)
  rw [lg_entry_eq]
  generalize (lg_sl ([.ref q_t, .ref q_p1, .int p2]) ++ List.replicate (5 - (lg_sl ([.ref q_t, .ref q_p1, .int p2])).length) Slot.unset).toArray = ls at hl ⊢
  have hl : lv_has ls 5 [(0, .ref q_t), (1, .ref q_p1), (2, .int p2)] := hl
  have B_37 : ∀  (x2 : Int32) (x3 : Int32), X7_canBeFilled_b37 f_t_needed v_p1_law v_p1_barred x2 x3 = some res → ∀ (ls : Array Slot), lv_has ls 5 [(2, .int x2), (3, .int x3)] → W p l e (headSpec wsX7_canBeFilled rm_X7_canBeFilled).room s m ([.ref q_t, .ref q_p1, .int p2] : List Value).toArray below meth c s.heap [] 0 0 (MQ below (vp_Si (fun r => r = res ∧ r &&& 1 = r)) ([.ref q_t, .ref q_p1, .int p2] : List Value).toArray s 0 0 (fun _ => False)) (F0 m 37 ls []) := by
    intro x2 x3 h ls hl
    unfold X7_canBeFilled_b37 at h
    refine lv_iload_n hx hb dX7_canBeFilled_37 rfl (lv_at hl 1 rfl) ?_
    refine lv_iload_n hx hb dX7_canBeFilled_38 rfl (lv_at hl 0 rfl) ?_
    refine lv_ishr hx hb dX7_canBeFilled_39 ?_
    refine lv_iconst (v := (1 : Int32)) hx hb dX7_canBeFilled_40 (by decide) ?_
    refine lv_iand hx hb dX7_canBeFilled_41 ?_
    refine lv_iconst (v := (1 : Int32)) hx hb dX7_canBeFilled_42 (by decide) ?_
    refine lv_icmp_ne (tgt := 50) hx hb dX7_canBeFilled_43 (by decide) (fun c1 => ?_) (fun c1 => ?_)
    · replace h := ite_f h c1
      refine lv_iconst (v := (0 : Int32)) hx hb dX7_canBeFilled_50 (by decide) ?_
      have e1 := Option.some.inj h
      exact W.zret (v := (0 : Int32)) (ty := .boolean) hx hb hr (congrArg Value.int rfl) (fun t ht hW => ⟨_, rfl, ⟨e1, rfl⟩, ht⟩) (fun q hq => by cases hq) dX7_canBeFilled_51
    replace h := ite_t h c1
    refine lv_iconst (v := (1 : Int32)) hx hb dX7_canBeFilled_46 (by decide) ?_
    refine lv_goto (tgt := 51) hx hb dX7_canBeFilled_47 (by decide) ?_
    have e1 := Option.some.inj h
    exact W.zret (v := (1 : Int32)) (ty := .boolean) hx hb hr (congrArg Value.int rfl) (fun t ht hW => ⟨_, rfl, ⟨e1, rfl⟩, ht⟩) (fun q hq => by cases hq) dX7_canBeFilled_51
  have L_5 : ∀ (n5 : Nat) , ∀  (x2 : Int32) (x3 : Int32) (x4 : Int32), X7_canBeFilled_b5 n5 f_t_needed v_p1_law v_p1_barred x2 x3 x4 = some res → ∀ (ls : Array Slot), lv_has ls 5 [(0, .ref q_t), (1, .ref q_p1), (2, .int x2), (3, .int x3), (4, .int x4)] → W p l e (headSpec wsX7_canBeFilled rm_X7_canBeFilled).room s m ([.ref q_t, .ref q_p1, .int p2] : List Value).toArray below meth c s.heap [] 0 0 (MQ below (vp_Si (fun r => r = res ∧ r &&& 1 = r)) ([.ref q_t, .ref q_p1, .int p2] : List Value).toArray s 0 0 (fun _ => False)) (F0 m 5 ls []) := by
    intro n5
    induction n5 with
    | zero => intro x2 x3 x4 h ls hl; exact absurd h (fun h => by cases h)
    | succ n5 ih_5 =>
      have B_31 : ∀  (x2 : Int32) (x3 : Int32) (x4 : Int32), X7_canBeFilled_b31 (X7_canBeFilled_b5 n5) f_t_needed v_p1_law v_p1_barred x2 x3 x4 = some res → ∀ (ls : Array Slot), lv_has ls 5 [(0, .ref q_t), (1, .ref q_p1), (2, .int x2), (3, .int x3), (4, .int x4)] → W p l e (headSpec wsX7_canBeFilled rm_X7_canBeFilled).room s m ([.ref q_t, .ref q_p1, .int p2] : List Value).toArray below meth c s.heap [] 0 0 (MQ below (vp_Si (fun r => r = res ∧ r &&& 1 = r)) ([.ref q_t, .ref q_p1, .int p2] : List Value).toArray s 0 0 (fun _ => False)) (F0 m 31 ls []) := by
        intro x2 x3 x4 h ls hl
        unfold X7_canBeFilled_b31 at h
        refine lv_iinc (v := (x4 + (1 : Int32))) (lv' := [(4, .int (x4 + (1 : Int32))), (0, .ref q_t), (1, .ref q_p1), (2, .int x2), (3, .int x3)]) hx hb dX7_canBeFilled_31 hl (k := 4) rfl rfl (by decide) rfl (fun ls hl => ?_)
        refine lv_goto (tgt := 5) hx hb dX7_canBeFilled_34 (by decide) ?_
        exact ih_5 x2 x3 (x4 + (1 : Int32)) h ls (lv_sub hl [1, 2, 3, 4, 0] rfl)
      intro x2 x3 x4 h ls hl
      replace h : X7_canBeFilled_b5_s (X7_canBeFilled_b5 n5) f_t_needed v_p1_law v_p1_barred x2 x3 x4 = some res := h
      unfold X7_canBeFilled_b5_s at h
      refine lv_iload hx hb dX7_canBeFilled_5 (lv_at hl 4 rfl) ?_
      refine lv_bipush (v := (10 : Int32)) hx hb dX7_canBeFilled_7 (by decide) ?_
      refine lv_icmp_ge (tgt := 37) hx hb dX7_canBeFilled_9 (by decide) (fun c2 => ?_) (fun c2 => ?_)
      · replace h := ite_t h c2
        exact B_37 x2 x3 h ls (lv_sub hl [2, 3] rfl)
      replace h := ite_f h c2
      refine lv_aload_n hx hb dX7_canBeFilled_12 rfl (lv_at hl 1 rfl) ?_
      refine lv_iload hx hb dX7_canBeFilled_13 (lv_at hl 4 rfl) ?_
      refine kRz (res := (X8_isOpen v_p1_barred x4)) (va_runV (As := [.int x4]) (rest := []) ⟨hx, hb, hml, hown, hts⟩ (cn_X8_isOpen l dC dI cI cJ cZ q_p1  v_p1_law v_p1_share v_p1_pot v_p1_barred x4 (X8_isOpen v_p1_barred x4) rfl) (cwV 1 hts gX7_canBeFilled_X8_isOpen rfl rfl rfl (by decide +kernel) ⟨Nat.le_of_ble_eq_true rfl, Nat.le_of_ble_eq_true rfl⟩) (preR hKK (hP.sub (ws' := [(q_p1, .inr (8, [.int v_p1_law, .int v_p1_share, .int v_p1_pot, .int v_p1_barred]))]) [2] rfl) (ci := 8) (q0 := 0) rfl rfl) rfl rfl hl.1 rfl (lv_room (Nat.le_of_ble_eq_true rfl)) dX7_canBeFilled_15 ⟨Nat.zero_le _, Nat.zero_le _⟩) (fun hz3 => ?_)
      refine lv_if_eq (tgt := 31) hx hb dX7_canBeFilled_18 (by decide) (fun c4 => ?_) (fun c4 => ?_)
      · replace h := ite_t h c4
        exact B_31 x2 x3 x4 h ls (lv_sub hl [0, 1, 2, 3, 4] rfl)
      replace h := ite_f h c4
      refine lv_aload_n hx hb dX7_canBeFilled_21 rfl (lv_at hl 0 rfl) ?_
      refine lv_aload_n hx hb dX7_canBeFilled_22 rfl (lv_at hl 1 rfl) ?_
      refine lv_iload hx hb dX7_canBeFilled_23 (lv_at hl 4 rfl) ?_
      refine lv_iload_n hx hb dX7_canBeFilled_25 rfl (lv_at hl 2 rfl) ?_
      refine lv_iload_n hx hb dX7_canBeFilled_26 rfl (lv_at hl 3 rfl) ?_
      obtain ⟨r5, hc5, h⟩ := bnd1_s h
      refine kRi (res := r5) (va_runV (As := [.ref q_p1, .int x4, .int x2, .int x3]) (rest := []) ⟨hx, hb, hml, hown, hts⟩ (cn_X7_reachedWith l dC dI cI cJ cZ q_t q_p1 q_t_sums q_t_costs q_t_weights q_t_needed  f_t_needed v_p1_law v_p1_share v_p1_pot v_p1_barred x4 x2 x3 r5 hc5) (cwV 4 hts gX7_canBeFilled_X7_reachedWith rfl rfl rfl (by decide +kernel) ⟨Nat.le_of_ble_eq_true rfl, Nat.le_of_ble_eq_true rfl⟩) (preR hKK (hP.sub (ws' := [(q_t, .inr (7, [.ref q_t_sums, .ref q_t_costs, .ref q_t_weights, .ref q_t_needed])), (q_t_needed, .inl (cI, 10, .inl f_t_needed)), (q_p1, .inr (8, [.int v_p1_law, .int v_p1_share, .int v_p1_pot, .int v_p1_barred]))]) [0, 1, 2] rfl) (ci := 7) (q0 := 0) rfl rfl) rfl rfl hl.1 rfl (lv_room (Nat.le_of_ble_eq_true rfl)) dX7_canBeFilled_27 ⟨Nat.zero_le _, Nat.zero_le _⟩) ?_
      refine lv_istore_n (lv' := [(3, .int r5), (0, .ref q_t), (1, .ref q_p1), (2, .int x2), (4, .int x4)]) hx hb dX7_canBeFilled_30 rfl hl (by decide) rfl (fun ls hl => ?_)
      exact B_31 x2 r5 x4 h ls (lv_sub hl [1, 2, 3, 0, 4] rfl)
  unfold X7_canBeFilled at h
  refine lv_iconst (v := (1 : Int32)) hx hb dX7_canBeFilled_0 (by decide) ?_
  refine lv_istore_n (lv' := [(3, .int (1 : Int32)), (0, .ref q_t), (1, .ref q_p1), (2, .int p2)]) hx hb dX7_canBeFilled_1 rfl hl (by decide) rfl (fun ls hl => ?_)
  refine lv_iconst (v := (0 : Int32)) hx hb dX7_canBeFilled_2 (by decide) ?_
  refine lv_istore (lv' := [(4, .int (0 : Int32)), (3, .int (1 : Int32)), (0, .ref q_t), (1, .ref q_p1), (2, .int p2)]) hx hb dX7_canBeFilled_3 hl (by decide) rfl (fun ls hl => ?_)
  exact L_5 fU p2 (1 : Int32) (0 : Int32) h ls (lv_sub hl [2, 3, 4, 1, 0] rfl)
