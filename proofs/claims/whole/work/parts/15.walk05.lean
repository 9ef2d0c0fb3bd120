/-! walks, by program: X10_gainOf X8_others X8_gainBy X8_wanted X10_person X10_wrote X10_refusalOfNumber X2_addAct X5_rewrite -/
abbrev rm_X10_gainOf : Room := { frames := 3, cells := 0, slots := 0, locals := 67 }
theorem in_X10_gainOf_X8 : ∀ w ∈ wsX80, w ∈ wsX10_gainOf := fun _ h => List.mem_cons_of_mem _ (List.mem_append_right _ h)
theorem in_X10_gainOf_X5 : ∀ w ∈ wsX50, w ∈ wsX10_gainOf := fun _ h => List.mem_cons_of_mem _ (List.mem_append_left _ (List.mem_append_right _ h))
theorem in_X10_gainOf_X10 : ∀ w ∈ wsX100, w ∈ wsX10_gainOf := fun _ h => List.mem_cons_of_mem _ (List.mem_append_left _ (List.mem_append_left _ (List.mem_append_right _ h)))
set_option maxHeartbeats 4000000 in
set_option maxRecDepth 100000 in
theorem cn_X10_gainOf (l : Launch) (dC : Nat → ClassId) (dI : Nat → Nat → Nat) (cI cJ cZ : ClassId) (q_t q_t_text q_t_reader q_t_rules q_t_people q_t_memory q_t_rows q_t_chances q_t_moves q_t_payments q_t_evenings q_t_people_numbers q_t_people_counts : Nat) (v_t_rules_law : Int32) (v_t_rules_share : Int32) (v_t_rules_pot : Int32) (v_t_rules_barred : Int32) (v_t_people_size : Int32) (f_t_people_numbers : (Nat → Int32)) (f_t_people_counts : (Nat → Int32)) (p1 : Int32) (res : Int32) (h : X10_gainOf v_t_rules_law v_t_rules_share v_t_rules_pot v_t_people_size f_t_people_numbers f_t_people_counts p1 = some res) : Met l yX10_gainOf wsX10_gainOf rm_X10_gainOf (pcR dC dI cI cJ cZ [(q_t, .inr (10, [.ref q_t_text, .ref q_t_reader, .ref q_t_rules, .ref q_t_people, .ref q_t_memory, .ref q_t_rows, .ref q_t_chances, .ref q_t_moves, .ref q_t_payments, .ref q_t_evenings])), (q_t_rules, .inr (8, [.int v_t_rules_law, .int v_t_rules_share, .int v_t_rules_pot, .int v_t_rules_barred])), (q_t_people, .inr (5, [.ref q_t_people_numbers, .ref q_t_people_counts, .int v_t_people_size])), (q_t_people_numbers, .inl (cI, 9, .inl f_t_people_numbers)), (q_t_people_counts, .inl (cI, 10, .inl f_t_people_counts))] [.ref q_t, .int p1]) (vp_Si (fun r => r = res)) 0 0 (fun _ => False) := by
  refine Met.ofW (cc := cX10_gainOf) (maxL := 3) (ret := (some .int)) (by decide) rfl ?_
  intro p e s m args below meth c s₁ B hml hv
  obtain ⟨rfl, hP, hKK⟩ := hv
  have hx := B.exec
  have hb := B.bytes
  have hr := B.returns
  have hts := atoms_spec (ws := wsX10_gainOf) B.pre
  have hown : s.vm.findClass RX10 = some m.cls := findClass_of_methodNamed B.named
  have hlocks := B.notSynchronized
  have hK := hKK.1
  have hl := lv_entry ([.ref q_t, .int p1]) (n := 3) (Nat.le_of_ble_eq_true rfl)
  rw [lg_entry_eq]
  generalize (lg_sl ([.ref q_t, .int p1]) ++ List.replicate (3 - (lg_sl ([.ref q_t, .int p1])).length) Slot.unset).toArray = ls at hl ⊢
  have hl : lv_has ls 3 [(0, .ref q_t), (1, .int p1)] := hl
  unfold X10_gainOf at h
  refine lv_aload_n hx hb dX10_gainOf_0 rfl (lv_at hl 0 rfl) ?_
  refine va_get (D := (dC, dI)) (ci := 10) (v := .ref q_t_people) (C := RX10) (T := TX10) (N := 10) hx hb hts in_X10_gainOf_X10 hown hK hP 0 rfl rfl 3 (by decide) (hts (.fieldLink RX10 33 "RightIfAsMany" "people" "LRightIfAsMany$People;") (List.mem_of_getElem? (i := 1) rfl)) (fun _ h9 => h9) rfl dX10_gainOf_1 ?_
  refine lv_iload_n hx hb dX10_gainOf_4 rfl (lv_at hl 1 rfl) ?_
  obtain ⟨r1, hc1, h⟩ := bnd1_s h
  refine kRi (res := r1) (va_runV (As := [.int p1]) (rest := []) ⟨hx, hb, hml, hown, hts⟩ (cn_X5_numberOf l dC dI cI cJ cZ q_t_people q_t_people_numbers q_t_people_counts  v_t_people_size f_t_people_numbers p1 r1 hc1) (cwV 1 hts gX10_gainOf_X5_numberOf rfl rfl rfl (by decide +kernel) ⟨Nat.le_of_ble_eq_true rfl, Nat.le_of_ble_eq_true rfl⟩) (preR hKK (hP.sub (ws' := [(q_t_people, .inr (5, [.ref q_t_people_numbers, .ref q_t_people_counts, .int v_t_people_size])), (q_t_people_numbers, .inl (cI, 9, .inl f_t_people_numbers))]) [2, 3] rfl) (ci := 5) (q0 := 0) rfl rfl) rfl rfl hl.1 rfl (lv_room (Nat.le_of_ble_eq_true rfl)) dX10_gainOf_5 ⟨Nat.zero_le _, Nat.zero_le _⟩) ?_
  refine lv_istore_n (lv' := [(2, .int r1), (0, .ref q_t), (1, .int p1)]) hx hb dX10_gainOf_8 rfl hl (by decide) rfl (fun ls hl => ?_)
  refine lv_aload_n hx hb dX10_gainOf_9 rfl (lv_at hl 1 rfl) ?_
  refine va_get (D := (dC, dI)) (ci := 10) (v := .ref q_t_rules) (C := RX10) (T := TX10) (N := 10) hx hb hts in_X10_gainOf_X10 hown hK hP 0 rfl rfl 2 (by decide) (hts (.fieldLink RX10 26 "RightIfAsMany" "rules" "LRightIfAsMany$Rules;") (List.mem_of_getElem? (i := 2) rfl)) (fun _ h9 => h9) rfl dX10_gainOf_10 ?_
  refine lv_iload_n hx hb dX10_gainOf_13 rfl (lv_at hl 0 rfl) ?_
  refine lv_aload_n hx hb dX10_gainOf_14 rfl (lv_at hl 1 rfl) ?_
  refine va_get (D := (dC, dI)) (ci := 10) (v := .ref q_t_people) (C := RX10) (T := TX10) (N := 10) hx hb hts in_X10_gainOf_X10 hown hK hP 0 rfl rfl 3 (by decide) (hts (.fieldLink RX10 33 "RightIfAsMany" "people" "LRightIfAsMany$People;") (List.mem_of_getElem? (i := 1) rfl)) (fun _ h9 => h9) rfl dX10_gainOf_15 ?_
  refine lv_iload_n hx hb dX10_gainOf_18 rfl (lv_at hl 0 rfl) ?_
  obtain ⟨r2, hc2, h⟩ := bnd1_s h
  refine kRi (res := r2) (va_runV (As := [.int r1]) (rest := [.int r1, .ref q_t_rules]) ⟨hx, hb, hml, hown, hts⟩ (cn_X5_many l dC dI cI cJ cZ q_t_people q_t_people_numbers q_t_people_counts  v_t_people_size f_t_people_counts r1 r2 hc2) (cwV 1 hts gX10_gainOf_X5_many rfl rfl rfl (by decide +kernel) ⟨Nat.le_of_ble_eq_true rfl, Nat.le_of_ble_eq_true rfl⟩) (preR hKK (hP.sub (ws' := [(q_t_people, .inr (5, [.ref q_t_people_numbers, .ref q_t_people_counts, .int v_t_people_size])), (q_t_people_counts, .inl (cI, 10, .inl f_t_people_counts))]) [2, 4] rfl) (ci := 5) (q0 := 0) rfl rfl) rfl rfl hl.1 rfl (lv_room (Nat.le_of_ble_eq_true rfl)) dX10_gainOf_19 ⟨Nat.zero_le _, Nat.zero_le _⟩) ?_
  refine lv_aload_n hx hb dX10_gainOf_22 rfl (lv_at hl 1 rfl) ?_
  refine va_get (D := (dC, dI)) (ci := 10) (v := .ref q_t_rules) (C := RX10) (T := TX10) (N := 10) hx hb hts in_X10_gainOf_X10 hown hK hP 0 rfl rfl 2 (by decide) (hts (.fieldLink RX10 26 "RightIfAsMany" "rules" "LRightIfAsMany$Rules;") (List.mem_of_getElem? (i := 2) rfl)) (fun _ h9 => h9) rfl dX10_gainOf_23 ?_
  refine lv_aload_n hx hb dX10_gainOf_26 rfl (lv_at hl 1 rfl) ?_
  refine va_get (D := (dC, dI)) (ci := 10) (v := .ref q_t_people) (C := RX10) (T := TX10) (N := 10) hx hb hts in_X10_gainOf_X10 hown hK hP 0 rfl rfl 3 (by decide) (hts (.fieldLink RX10 33 "RightIfAsMany" "people" "LRightIfAsMany$People;") (List.mem_of_getElem? (i := 1) rfl)) (fun _ h9 => h9) rfl dX10_gainOf_27 ?_
  refine kRr (res := q_t_people_counts) (va_runV (As := []) (rest := [.ref q_t_rules, .int r2, .int r1, .ref q_t_rules]) ⟨hx, hb, hml, hown, hts⟩ (cn_X5_counts l dC dI cI cJ cZ q_t_people q_t_people_numbers q_t_people_counts  v_t_people_size   ) (cwV 0 hts gX10_gainOf_X5_counts rfl rfl rfl (by decide +kernel) ⟨Nat.le_of_ble_eq_true rfl, Nat.le_of_ble_eq_true rfl⟩) (preR hKK (hP.sub (ws' := [(q_t_people, .inr (5, [.ref q_t_people_numbers, .ref q_t_people_counts, .int v_t_people_size]))]) [2] rfl) (ci := 5) (q0 := 0) rfl rfl) rfl rfl hl.1 rfl (lv_room (Nat.le_of_ble_eq_true rfl)) dX10_gainOf_30 ⟨Nat.zero_le _, Nat.zero_le _⟩) ?_
  obtain ⟨r3, hc3, h⟩ := bnd1_s h
  refine kRi (res := r3) (va_runV (As := [.ref q_t_people_counts]) (rest := [.int r2, .int r1, .ref q_t_rules]) ⟨hx, hb, hml, hown, hts⟩ (cn_X8_claims l dC dI cI cJ cZ q_t_rules q_t_people_counts  v_t_rules_law v_t_rules_share v_t_rules_pot v_t_rules_barred f_t_people_counts  r3 hc3) (cwV 1 hts gX10_gainOf_X8_claims rfl rfl rfl (by decide +kernel) ⟨Nat.le_of_ble_eq_true rfl, Nat.le_of_ble_eq_true rfl⟩) (preR hKK (hP.sub (ws' := [(q_t_rules, .inr (8, [.int v_t_rules_law, .int v_t_rules_share, .int v_t_rules_pot, .int v_t_rules_barred])), (q_t_people_counts, .inl (cI, 10, .inl f_t_people_counts))]) [1, 4] rfl) (ci := 8) (q0 := 0) rfl rfl) rfl rfl hl.1 rfl (lv_room (Nat.le_of_ble_eq_true rfl)) dX10_gainOf_33 ⟨Nat.zero_le _, Nat.zero_le _⟩) ?_
  obtain ⟨r4, hc4, h⟩ := bnd1_s h
  refine kRi (res := r4) (va_runV (As := [.int r1, .int r2, .int r3]) (rest := []) ⟨hx, hb, hml, hown, hts⟩ (cn_X8_gain l dC dI cI cJ cZ q_t_rules  v_t_rules_law v_t_rules_share v_t_rules_pot v_t_rules_barred r1 r2 r3 r4 hc4) (cwV 3 hts gX10_gainOf_X8_gain rfl rfl rfl (by decide +kernel) ⟨Nat.le_of_ble_eq_true rfl, Nat.le_of_ble_eq_true rfl⟩) (preR hKK (hP.sub (ws' := [(q_t_rules, .inr (8, [.int v_t_rules_law, .int v_t_rules_share, .int v_t_rules_pot, .int v_t_rules_barred]))]) [1] rfl) (ci := 8) (q0 := 0) rfl rfl) rfl rfl hl.1 rfl (lv_room (Nat.le_of_ble_eq_true rfl)) dX10_gainOf_36 ⟨Nat.zero_le _, Nat.zero_le _⟩) ?_
  have e1 := Option.some.inj h
  exact W.iret (v := r4) hx hb hr (fun t ht hW => ⟨_, rfl, e1, ht⟩) (fun q hq => by cases hq) dX10_gainOf_39
abbrev rm_X8_others : Room := { frames := 0, cells := 0, slots := 0, locals := 0 }
set_option maxHeartbeats 4000000 in
set_option maxRecDepth 100000 in
theorem cn_X8_others (l : Launch) (dC : Nat → ClassId) (dI : Nat → Nat → Nat) (cI cJ cZ : ClassId) (q_t q_p3 : Nat) (v_t_law : Int32) (v_t_share : Int32) (v_t_pot : Int32) (v_t_barred : Int32) (f_p3 : (Nat → Int32)) (p1 : Int32) (p2 : Int32) (res : Int32) (h : X8_others f_p3 p1 p2 = some res) : Met l yX8_others wsX8_others rm_X8_others (pcR dC dI cI cJ cZ [(q_t, .inr (8, [.int v_t_law, .int v_t_share, .int v_t_pot, .int v_t_barred])), (q_p3, .inl (cI, 10, .inl f_p3))] [.ref q_t, .int p1, .int p2, .ref q_p3]) (vp_Si (fun r => r = res)) 0 0 (fun _ => False) := by
  refine Met.ofW (cc := cX8_others) (maxL := 4) (ret := (some .int)) (by decide) rfl ?_
  intro p e s m args below meth c s₁ B hml hv
  obtain ⟨rfl, hP, hKK⟩ := hv
  have hx := B.exec
  have hb := B.bytes
  have hr := B.returns
  have hts := atoms_spec (ws := wsX8_others) B.pre
  have hown : s.vm.findClass RX8 = some m.cls := findClass_of_methodNamed B.named
  have hlocks := B.notSynchronized
  have hK := hKK.1
  have hl := lv_entry ([.ref q_t, .int p1, .int p2, .ref q_p3]) (n := 4) (Nat.le_of_ble_eq_true rfl)
  rw [lg_entry_eq]
  generalize (lg_sl ([.ref q_t, .int p1, .int p2, .ref q_p3]) ++ List.replicate (4 - (lg_sl ([.ref q_t, .int p1, .int p2, .ref q_p3])).length) Slot.unset).toArray = ls at hl ⊢
  have hl : lv_has ls 4 [(0, .ref q_t), (1, .int p1), (2, .int p2), (3, .ref q_p3)] := hl
  unfold X8_others at h
  refine lv_iload_n hx hb dX8_others_0 rfl (lv_at hl 2 rfl) ?_
  refine lv_if_lt (tgt := 10) hx hb dX8_others_1 (by decide) (fun c1 => ?_) (fun c1 => ?_)
  · replace h := ite_t h c1
    refine lv_iconst (v := (0 : Int32)) hx hb dX8_others_10 (by decide) ?_
    have e1 := Option.some.inj h
    exact W.iret (v := (0 : Int32)) hx hb hr (fun t ht hW => ⟨_, rfl, e1, ht⟩) (fun q hq => by cases hq) dX8_others_11
  replace h := ite_f h c1
  refine lv_iload_n hx hb dX8_others_4 rfl (lv_at hl 2 rfl) ?_
  refine lv_aload_n hx hb dX8_others_5 rfl (lv_at hl 3 rfl) ?_
  refine va_alen (v := (10 : Int32)) hx hb hK hP 1 0 rfl rfl (show Int32.ofNat 10 = 10 by decide) dX8_others_6 ?_
  refine lv_icmp_lt (tgt := 12) hx hb dX8_others_7 (by decide) (fun c2 => ?_) (fun c2 => ?_)
  · replace h := ite_t h c2
    refine lv_iload_n hx hb dX8_others_12 rfl (lv_at hl 2 rfl) ?_
    refine lv_iload_n hx hb dX8_others_13 rfl (lv_at hl 1 rfl) ?_
    refine lv_icmp_ne (tgt := 25) hx hb dX8_others_14 (by decide) (fun c3 => ?_) (fun c3 => ?_)
    · replace h := ite_f h c3
      refine lv_aload_n hx hb dX8_others_25 rfl (lv_at hl 3 rfl) ?_
      refine lv_iload_n hx hb dX8_others_26 rfl (lv_at hl 2 rfl) ?_
      obtain ⟨hg4, h⟩ := grd_s h
      refine va_iald hx hb hK hP 1 0 rfl rfl hg4 dX8_others_27 ?_
      have e1 := Option.some.inj h
      exact W.iret (v := (f_p3 p2.toNatClampNeg)) hx hb hr (fun t ht hW => ⟨_, rfl, e1, ht⟩) (fun q hq => by cases hq) dX8_others_28
    replace h := ite_t h c3
    refine lv_aload_n hx hb dX8_others_17 rfl (lv_at hl 3 rfl) ?_
    refine lv_iload_n hx hb dX8_others_18 rfl (lv_at hl 2 rfl) ?_
    obtain ⟨hg5, h⟩ := grd_s h
    refine va_iald hx hb hK hP 1 0 rfl rfl hg5 dX8_others_19 ?_
    refine lv_iconst (v := (1 : Int32)) hx hb dX8_others_20 (by decide) ?_
    refine lv_isub hx hb dX8_others_21 ?_
    refine lv_goto (tgt := 28) hx hb dX8_others_22 (by decide) ?_
    have e1 := Option.some.inj h
    exact W.iret (v := ((f_p3 p2.toNatClampNeg) - (1 : Int32))) hx hb hr (fun t ht hW => ⟨_, rfl, e1, ht⟩) (fun q hq => by cases hq) dX8_others_28
  replace h := ite_f h c2
  refine lv_iconst (v := (0 : Int32)) hx hb dX8_others_10 (by decide) ?_
  have e1 := Option.some.inj h
  exact W.iret (v := (0 : Int32)) hx hb hr (fun t ht hW => ⟨_, rfl, e1, ht⟩) (fun q hq => by cases hq) dX8_others_11
abbrev rm_X8_gainBy : Room := { frames := 2, cells := 0, slots := 0, locals := 45 }
theorem in_X8_gainBy_X8 : ∀ w ∈ wsX80, w ∈ wsX8_gainBy := fun _ h => List.mem_cons_of_mem _ (List.mem_append_right _ h)
set_option maxHeartbeats 4000000 in
set_option maxRecDepth 100000 in
theorem cn_X8_gainBy (l : Launch) (dC : Nat → ClassId) (dI : Nat → Nat → Nat) (cI cJ cZ : ClassId) (q_t : Nat) (v_t_law : Int32) (v_t_share : Int32) (v_t_pot : Int32) (v_t_barred : Int32) (p1 : Int32) (p2 : Int32) (p3 : Int32) (res : Int32) (h : X8_gainBy v_t_law v_t_share v_t_pot p1 p2 p3 = some res) : Met l yX8_gainBy wsX8_gainBy rm_X8_gainBy (pcR dC dI cI cJ cZ [(q_t, .inr (8, [.int v_t_law, .int v_t_share, .int v_t_pot, .int v_t_barred]))] [.ref q_t, .int p1, .int p2, .int p3]) (vp_Si (fun r => r = res)) 0 0 (fun _ => False) := by
  refine Met.ofW (cc := cX8_gainBy) (maxL := 5) (ret := (some .int)) (by decide) rfl ?_
  intro p e s m args below meth c s₁ B hml hv
  obtain ⟨rfl, hP, hKK⟩ := hv
  have hx := B.exec
  have hb := B.bytes
  have hr := B.returns
  have hts := atoms_spec (ws := wsX8_gainBy) B.pre
  have hown : s.vm.findClass RX8 = some m.cls := findClass_of_methodNamed B.named
  have hlocks := B.notSynchronized
  have hK := hKK.1
  have hl := lv_entry ([.ref q_t, .int p1, .int p2, .int p3]) (n := 5) (Nat.le_of_ble_eq_true rfl)
  rw [lg_entry_eq]
  generalize (lg_sl ([.ref q_t, .int p1, .int p2, .int p3]) ++ List.replicate (5 - (lg_sl ([.ref q_t, .int p1, .int p2, .int p3])).length) Slot.unset).toArray = ls at hl ⊢
  have hl : lv_has ls 5 [(0, .ref q_t), (1, .int p1), (2, .int p2), (3, .int p3)] := hl
  unfold X8_gainBy at h
  refine lv_iload_n hx hb dX8_gainBy_0 rfl (lv_at hl 2 rfl) ?_
  refine lv_iconst (v := (1 : Int32)) hx hb dX8_gainBy_1 (by decide) ?_
  refine lv_iadd hx hb dX8_gainBy_2 ?_
  refine lv_istore (lv' := [(4, .int (p2 + (1 : Int32))), (0, .ref q_t), (1, .int p1), (2, .int p2), (3, .int p3)]) hx hb dX8_gainBy_3 hl (by decide) rfl (fun ls hl => ?_)
  refine lv_aload_n hx hb dX8_gainBy_5 rfl (lv_at hl 1 rfl) ?_
  refine lv_iload_n hx hb dX8_gainBy_6 rfl (lv_at hl 2 rfl) ?_
  refine lv_iload hx hb dX8_gainBy_7 (lv_at hl 0 rfl) ?_
  refine kRz (res := (X8_suits v_t_law p1 (p2 + (1 : Int32)))) (va_runV (As := [.int p1, .int (p2 + (1 : Int32))]) (rest := []) ⟨hx, hb, hml, hown, hts⟩ (cn_X8_suits l dC dI cI cJ cZ q_t  v_t_law v_t_share v_t_pot v_t_barred p1 (p2 + (1 : Int32)) (X8_suits v_t_law p1 (p2 + (1 : Int32))) rfl) (cwV 2 hts gX8_gainBy_X8_suits rfl rfl rfl (by decide +kernel) ⟨Nat.le_of_ble_eq_true rfl, Nat.le_of_ble_eq_true rfl⟩) (preR hKK (hP.sub (ws' := [(q_t, .inr (8, [.int v_t_law, .int v_t_share, .int v_t_pot, .int v_t_barred]))]) [0] rfl) (ci := 8) (q0 := 0) rfl rfl) rfl rfl hl.1 rfl (lv_room (Nat.le_of_ble_eq_true rfl)) dX8_gainBy_9 ⟨Nat.zero_le _, Nat.zero_le _⟩) (fun hz1 => ?_)
  refine lv_if_ne (tgt := 17) hx hb dX8_gainBy_12 (by decide) (fun c2 => ?_) (fun c2 => ?_)
  · replace h := ite_f h c2
    refine lv_aload_n hx hb dX8_gainBy_17 rfl (lv_at hl 1 rfl) ?_
    refine lv_iload_n hx hb dX8_gainBy_18 rfl (lv_at hl 2 rfl) ?_
    refine lv_iload hx hb dX8_gainBy_19 (lv_at hl 0 rfl) ?_
    refine lv_iload_n hx hb dX8_gainBy_21 rfl (lv_at hl 4 rfl) ?_
    refine lv_aload_n hx hb dX8_gainBy_22 rfl (lv_at hl 1 rfl) ?_
    refine lv_iload_n hx hb dX8_gainBy_23 rfl (lv_at hl 2 rfl) ?_
    refine lv_iload_n hx hb dX8_gainBy_24 rfl (lv_at hl 3 rfl) ?_
    refine kRi (res := (X8_claim v_t_law v_t_share p1 p2)) (va_runV (As := [.int p1, .int p2]) (rest := [.int p3, .int (p2 + (1 : Int32)), .int p1, .ref q_t]) ⟨hx, hb, hml, hown, hts⟩ (cn_X8_claim l dC dI cI cJ cZ q_t  v_t_law v_t_share v_t_pot v_t_barred p1 p2 (X8_claim v_t_law v_t_share p1 p2) rfl) (cwV 2 hts gX8_gainBy_X8_claim rfl rfl rfl (by decide +kernel) ⟨Nat.le_of_ble_eq_true rfl, Nat.le_of_ble_eq_true rfl⟩) (preR hKK (hP.sub (ws' := [(q_t, .inr (8, [.int v_t_law, .int v_t_share, .int v_t_pot, .int v_t_barred]))]) [0] rfl) (ci := 8) (q0 := 0) rfl rfl) rfl rfl hl.1 rfl (lv_room (Nat.le_of_ble_eq_true rfl)) dX8_gainBy_25 ⟨Nat.zero_le _, Nat.zero_le _⟩) ?_
    refine lv_isub hx hb dX8_gainBy_28 ?_
    refine lv_aload_n hx hb dX8_gainBy_29 rfl (lv_at hl 1 rfl) ?_
    refine lv_iload_n hx hb dX8_gainBy_30 rfl (lv_at hl 2 rfl) ?_
    refine lv_iload hx hb dX8_gainBy_31 (lv_at hl 0 rfl) ?_
    refine kRi (res := (X8_claim v_t_law v_t_share p1 (p2 + (1 : Int32)))) (va_runV (As := [.int p1, .int (p2 + (1 : Int32))]) (rest := [.int (p3 - (X8_claim v_t_law v_t_share p1 p2)), .int (p2 + (1 : Int32)), .int p1, .ref q_t]) ⟨hx, hb, hml, hown, hts⟩ (cn_X8_claim l dC dI cI cJ cZ q_t  v_t_law v_t_share v_t_pot v_t_barred p1 (p2 + (1 : Int32)) (X8_claim v_t_law v_t_share p1 (p2 + (1 : Int32))) rfl) (cwV 2 hts gX8_gainBy_X8_claim rfl rfl rfl (by decide +kernel) ⟨Nat.le_of_ble_eq_true rfl, Nat.le_of_ble_eq_true rfl⟩) (preR hKK (hP.sub (ws' := [(q_t, .inr (8, [.int v_t_law, .int v_t_share, .int v_t_pot, .int v_t_barred]))]) [0] rfl) (ci := 8) (q0 := 0) rfl rfl) rfl rfl hl.1 rfl (lv_room (Nat.le_of_ble_eq_true rfl)) dX8_gainBy_33 ⟨Nat.zero_le _, Nat.zero_le _⟩) ?_
    refine lv_iadd hx hb dX8_gainBy_36 ?_
    obtain ⟨r3, hc3, h⟩ := bnd1_s h
    refine kRi (res := r3) (va_runV (As := [.int p1, .int (p2 + (1 : Int32)), .int ((p3 - (X8_claim v_t_law v_t_share p1 p2)) + (X8_claim v_t_law v_t_share p1 (p2 + (1 : Int32))))]) (rest := []) ⟨hx, hb, hml, hown, hts⟩ (cn_X8_gain l dC dI cI cJ cZ q_t  v_t_law v_t_share v_t_pot v_t_barred p1 (p2 + (1 : Int32)) ((p3 - (X8_claim v_t_law v_t_share p1 p2)) + (X8_claim v_t_law v_t_share p1 (p2 + (1 : Int32)))) r3 hc3) (cwV 3 hts gX8_gainBy_X8_gain rfl rfl rfl (by decide +kernel) ⟨Nat.le_of_ble_eq_true rfl, Nat.le_of_ble_eq_true rfl⟩) (preR hKK (hP.sub (ws' := [(q_t, .inr (8, [.int v_t_law, .int v_t_share, .int v_t_pot, .int v_t_barred]))]) [0] rfl) (ci := 8) (q0 := 0) rfl rfl) rfl rfl hl.1 rfl (lv_room (Nat.le_of_ble_eq_true rfl)) dX8_gainBy_37 ⟨Nat.zero_le _, Nat.zero_le _⟩) ?_
    have e1 := Option.some.inj h
    exact W.iret (v := r3) hx hb hr (fun t ht hW => ⟨_, rfl, e1, ht⟩) (fun q hq => by cases hq) dX8_gainBy_40
  replace h := ite_t h c2
  refine lv_iconst (v := (0 : Int32)) hx hb dX8_gainBy_15 (by decide) ?_
  have e1 := Option.some.inj h
  exact W.iret (v := (0 : Int32)) hx hb hr (fun t ht hW => ⟨_, rfl, e1, ht⟩) (fun q hq => by cases hq) dX8_gainBy_16
abbrev rm_X8_wanted : Room := { frames := 3, cells := 0, slots := 0, locals := 69 }
theorem in_X8_wanted_X8 : ∀ w ∈ wsX80, w ∈ wsX8_wanted := fun _ h => List.mem_cons_of_mem _ (List.mem_append_right _ h)
set_option maxHeartbeats 4000000 in
set_option maxRecDepth 100000 in
theorem cn_X8_wanted (l : Launch) (dC : Nat → ClassId) (dI : Nat → Nat → Nat) (cI cJ cZ : ClassId) (q_t q_p2 : Nat) (v_t_law : Int32) (v_t_share : Int32) (v_t_pot : Int32) (v_t_barred : Int32) (f_p2 : (Nat → Int32)) (p1 : Int32) (res : Int32) (h : X8_wanted v_t_law v_t_share v_t_pot v_t_barred f_p2 p1 = some res) : Met l yX8_wanted wsX8_wanted rm_X8_wanted (pcR dC dI cI cJ cZ [(q_t, .inr (8, [.int v_t_law, .int v_t_share, .int v_t_pot, .int v_t_barred])), (q_p2, .inl (cI, 10, .inl f_p2))] [.ref q_t, .int p1, .ref q_p2]) (vp_Si (fun r => r = res)) 0 0 (fun _ => False) := by
  refine Met.ofW (cc := cX8_wanted) (maxL := 9) (ret := (some .int)) (by decide) rfl ?_
  intro p e s m args below meth c s₁ B hml hv
  obtain ⟨rfl, hP, hKK⟩ := hv
  have hx := B.exec
  have hb := B.bytes
  have hr := B.returns
  have hts := atoms_spec (ws := wsX8_wanted) B.pre
  have hown : s.vm.findClass RX8 = some m.cls := findClass_of_methodNamed B.named
  have hlocks := B.notSynchronized
  have hK := hKK.1
  have hl := lv_entry ([.ref q_t, .int p1, .ref q_p2]) (n := 9) (Nat.le_of_ble_eq_true rfl)
  rw [lg_entry_eq]
  generalize (lg_sl ([.ref q_t, .int p1, .ref q_p2]) ++ List.replicate (9 - (lg_sl ([.ref q_t, .int p1, .ref q_p2])).length) Slot.unset).toArray = ls at hl ⊢
  have hl : lv_has ls 9 [(0, .ref q_t), (1, .int p1), (2, .ref q_p2)] := hl
  have L_47 : ∀ (n47 : Nat) , ∀  (x1 : Int32) (x4 : Int32) (x5 : Int32) (x6 : Int32) (x7 : Int32), X8_wanted_b47 n47 v_t_law v_t_share v_t_pot v_t_barred f_p2 x1 x4 x5 x6 x7 = some res → ∀ (ls : Array Slot), lv_has ls 9 [(0, .ref q_t), (1, .int x1), (2, .ref q_p2), (4, .int x4), (5, .int x5), (6, .int x6), (7, .int x7)] → W p l e (headSpec wsX8_wanted rm_X8_wanted).room s m ([.ref q_t, .int p1, .ref q_p2] : List Value).toArray below meth c s.heap [] 0 0 (MQ below (vp_Si (fun r => r = res)) ([.ref q_t, .int p1, .ref q_p2] : List Value).toArray s 0 0 (fun _ => False)) (F0 m 47 ls []) := by
    intro n47
    induction n47 with
    | zero => intro x1 x4 x5 x6 x7 h ls hl; exact absurd h (fun h => by cases h)
    | succ n47 ih_47 =>
      have B_96 : ∀  (x1 : Int32) (x4 : Int32) (x5 : Int32) (x6 : Int32) (x7 : Int32), X8_wanted_b96 (X8_wanted_b47 n47) v_t_law v_t_share v_t_pot v_t_barred f_p2 x1 x4 x5 x6 x7 = some res → ∀ (ls : Array Slot), lv_has ls 9 [(0, .ref q_t), (1, .int x1), (2, .ref q_p2), (4, .int x4), (5, .int x5), (6, .int x6), (7, .int x7)] → W p l e (headSpec wsX8_wanted rm_X8_wanted).room s m ([.ref q_t, .int p1, .ref q_p2] : List Value).toArray below meth c s.heap [] 0 0 (MQ below (vp_Si (fun r => r = res)) ([.ref q_t, .int p1, .ref q_p2] : List Value).toArray s 0 0 (fun _ => False)) (F0 m 96 ls []) := by
        intro x1 x4 x5 x6 x7 h ls hl
        unfold X8_wanted_b96 at h
        refine lv_iinc (v := (x7 + (1 : Int32))) (lv' := [(7, .int (x7 + (1 : Int32))), (0, .ref q_t), (1, .int x1), (2, .ref q_p2), (4, .int x4), (5, .int x5), (6, .int x6)]) hx hb dX8_wanted_96 hl (k := 6) rfl rfl (by decide) rfl (fun ls hl => ?_)
        refine lv_goto (tgt := 47) hx hb dX8_wanted_99 (by decide) ?_
        exact ih_47 x1 x4 x5 x6 (x7 + (1 : Int32)) h ls (lv_sub hl [1, 2, 3, 4, 5, 6, 0] rfl)
      intro x1 x4 x5 x6 x7 h ls hl
      replace h : X8_wanted_b47_s (X8_wanted_b47 n47) v_t_law v_t_share v_t_pot v_t_barred f_p2 x1 x4 x5 x6 x7 = some res := h
      unfold X8_wanted_b47_s at h
      refine lv_iload hx hb dX8_wanted_47 (lv_at hl 6 rfl) ?_
      refine lv_bipush (v := (10 : Int32)) hx hb dX8_wanted_49 (by decide) ?_
      refine lv_icmp_ge (tgt := 102) hx hb dX8_wanted_51 (by decide) (fun c1 => ?_) (fun c1 => ?_)
      · replace h := ite_t h c1
        refine lv_iload hx hb dX8_wanted_102 (lv_at hl 4 rfl) ?_
        have e1 := Option.some.inj h
        exact W.iret (v := x5) hx hb hr (fun t ht hW => ⟨_, rfl, e1, ht⟩) (fun q hq => by cases hq) dX8_wanted_104
      replace h := ite_f h c1
      refine lv_aload_n hx hb dX8_wanted_54 rfl (lv_at hl 0 rfl) ?_
      refine lv_iload hx hb dX8_wanted_55 (lv_at hl 6 rfl) ?_
      refine kRz (res := (X8_isOpen v_t_barred x7)) (va_runV (As := [.int x7]) (rest := []) ⟨hx, hb, hml, hown, hts⟩ (cn_X8_isOpen l dC dI cI cJ cZ q_t  v_t_law v_t_share v_t_pot v_t_barred x7 (X8_isOpen v_t_barred x7) rfl) (cwV 1 hts gX8_wanted_X8_isOpen rfl rfl rfl (by decide +kernel) ⟨Nat.le_of_ble_eq_true rfl, Nat.le_of_ble_eq_true rfl⟩) (preR hKK (hP.sub (ws' := [(q_t, .inr (8, [.int v_t_law, .int v_t_share, .int v_t_pot, .int v_t_barred]))]) [0] rfl) (ci := 8) (q0 := 0) rfl rfl) rfl rfl hl.1 rfl (lv_room (Nat.le_of_ble_eq_true rfl)) dX8_wanted_57 ⟨Nat.zero_le _, Nat.zero_le _⟩) (fun hz2 => ?_)
      refine lv_if_eq (tgt := 96) hx hb dX8_wanted_60 (by decide) (fun c3 => ?_) (fun c3 => ?_)
      · replace h := ite_t h c3
        exact B_96 x1 x4 x5 x6 x7 h ls (lv_sub hl [0, 1, 2, 3, 4, 5, 6] rfl)
      replace h := ite_f h c3
      refine lv_aload_n hx hb dX8_wanted_63 rfl (lv_at hl 0 rfl) ?_
      refine lv_iload hx hb dX8_wanted_64 (lv_at hl 6 rfl) ?_
      refine lv_aload_n hx hb dX8_wanted_66 rfl (lv_at hl 0 rfl) ?_
      refine lv_iload_n hx hb dX8_wanted_67 rfl (lv_at hl 1 rfl) ?_
      refine lv_iload hx hb dX8_wanted_68 (lv_at hl 6 rfl) ?_
      refine lv_aload_n hx hb dX8_wanted_70 rfl (lv_at hl 2 rfl) ?_
      obtain ⟨r4, hc4, h⟩ := bnd1_s h
      refine kRi (res := r4) (va_runV (As := [.int x1, .int x7, .ref q_p2]) (rest := [.int x7, .ref q_t]) ⟨hx, hb, hml, hown, hts⟩ (cn_X8_others l dC dI cI cJ cZ q_t q_p2  v_t_law v_t_share v_t_pot v_t_barred f_p2 x1 x7 r4 hc4) (cwV 3 hts gX8_wanted_X8_others rfl rfl rfl (by decide +kernel) ⟨Nat.le_of_ble_eq_true rfl, Nat.le_of_ble_eq_true rfl⟩) (preR hKK (hP.sub (ws' := [(q_t, .inr (8, [.int v_t_law, .int v_t_share, .int v_t_pot, .int v_t_barred])), (q_p2, .inl (cI, 10, .inl f_p2))]) [0, 1] rfl) (ci := 8) (q0 := 0) rfl rfl) rfl rfl hl.1 rfl (lv_room (Nat.le_of_ble_eq_true rfl)) dX8_wanted_71 ⟨Nat.zero_le _, Nat.zero_le _⟩) ?_
      refine lv_iload hx hb dX8_wanted_74 (lv_at hl 3 rfl) ?_
      obtain ⟨r5, hc5, h⟩ := bnd1_s h
      refine kRi (res := r5) (va_runV (As := [.int x7, .int r4, .int x4]) (rest := []) ⟨hx, hb, hml, hown, hts⟩ (cn_X8_gainBy l dC dI cI cJ cZ q_t  v_t_law v_t_share v_t_pot v_t_barred x7 r4 x4 r5 hc5) (cwV 3 hts gX8_wanted_X8_gainBy rfl rfl rfl (by decide +kernel) ⟨Nat.le_of_ble_eq_true rfl, Nat.le_of_ble_eq_true rfl⟩) (preR hKK (hP.sub (ws' := [(q_t, .inr (8, [.int v_t_law, .int v_t_share, .int v_t_pot, .int v_t_barred]))]) [0] rfl) (ci := 8) (q0 := 0) rfl rfl) rfl rfl hl.1 rfl (lv_room (Nat.le_of_ble_eq_true rfl)) dX8_wanted_76 ⟨Nat.zero_le _, Nat.zero_le _⟩) ?_
      refine lv_istore (lv' := [(8, .int r5), (0, .ref q_t), (1, .int x1), (2, .ref q_p2), (4, .int x4), (5, .int x5), (6, .int x6), (7, .int x7)]) hx hb dX8_wanted_79 hl (by decide) rfl (fun ls hl => ?_)
      refine lv_iload hx hb dX8_wanted_81 (lv_at hl 0 rfl) ?_
      refine lv_iload hx hb dX8_wanted_83 (lv_at hl 6 rfl) ?_
      refine lv_icmp_le (tgt := 96) hx hb dX8_wanted_85 (by decide) (fun c6 => ?_) (fun c6 => ?_)
      · replace h := ite_t h c6
        exact B_96 x1 x4 x5 x6 x7 h ls (lv_sub hl [1, 2, 3, 4, 5, 6, 7] rfl)
      replace h := ite_f h c6
      refine lv_iload hx hb dX8_wanted_88 (lv_at hl 7 rfl) ?_
      refine lv_istore (lv' := [(5, .int x7), (8, .int r5), (0, .ref q_t), (1, .int x1), (2, .ref q_p2), (4, .int x4), (6, .int x6), (7, .int x7)]) hx hb dX8_wanted_90 hl (by decide) rfl (fun ls hl => ?_)
      refine lv_iload hx hb dX8_wanted_92 (lv_at hl 1 rfl) ?_
      refine lv_istore (lv' := [(6, .int r5), (5, .int x7), (8, .int r5), (0, .ref q_t), (1, .int x1), (2, .ref q_p2), (4, .int x4), (7, .int x7)]) hx hb dX8_wanted_94 hl (by decide) rfl (fun ls hl => ?_)
      exact B_96 x1 x4 x7 r5 x7 h ls (lv_sub hl [3, 4, 5, 6, 1, 0, 7] rfl)
  unfold X8_wanted at h
  refine lv_aload_n hx hb dX8_wanted_0 rfl (lv_at hl 0 rfl) ?_
  refine lv_iload_n hx hb dX8_wanted_1 rfl (lv_at hl 1 rfl) ?_
  refine lv_iload_n hx hb dX8_wanted_2 rfl (lv_at hl 1 rfl) ?_
  refine lv_aload_n hx hb dX8_wanted_3 rfl (lv_at hl 2 rfl) ?_
  obtain ⟨r7, hc7, h⟩ := bnd1_s h
  refine kRi (res := r7) (va_runV (As := [.int p1, .int p1, .ref q_p2]) (rest := []) ⟨hx, hb, hml, hown, hts⟩ (cn_X8_others l dC dI cI cJ cZ q_t q_p2  v_t_law v_t_share v_t_pot v_t_barred f_p2 p1 p1 r7 hc7) (cwV 3 hts gX8_wanted_X8_others rfl rfl rfl (by decide +kernel) ⟨Nat.le_of_ble_eq_true rfl, Nat.le_of_ble_eq_true rfl⟩) (preR hKK (hP.sub (ws' := [(q_t, .inr (8, [.int v_t_law, .int v_t_share, .int v_t_pot, .int v_t_barred])), (q_p2, .inl (cI, 10, .inl f_p2))]) [0, 1] rfl) (ci := 8) (q0 := 0) rfl rfl) rfl rfl hl.1 rfl (lv_room (Nat.le_of_ble_eq_true rfl)) dX8_wanted_4 ⟨Nat.zero_le _, Nat.zero_le _⟩) ?_
  refine lv_istore_n (lv' := [(3, .int r7), (0, .ref q_t), (1, .int p1), (2, .ref q_p2)]) hx hb dX8_wanted_7 rfl hl (by decide) rfl (fun ls hl => ?_)
  refine lv_aload_n hx hb dX8_wanted_8 rfl (lv_at hl 1 rfl) ?_
  refine lv_aload_n hx hb dX8_wanted_9 rfl (lv_at hl 3 rfl) ?_
  obtain ⟨r8, hc8, h⟩ := bnd1_s h
  refine kRi (res := r8) (va_runV (As := [.ref q_p2]) (rest := []) ⟨hx, hb, hml, hown, hts⟩ (cn_X8_claims l dC dI cI cJ cZ q_t q_p2  v_t_law v_t_share v_t_pot v_t_barred f_p2  r8 hc8) (cwV 1 hts gX8_wanted_X8_claims rfl rfl rfl (by decide +kernel) ⟨Nat.le_of_ble_eq_true rfl, Nat.le_of_ble_eq_true rfl⟩) (preR hKK (hP.sub (ws' := [(q_t, .inr (8, [.int v_t_law, .int v_t_share, .int v_t_pot, .int v_t_barred])), (q_p2, .inl (cI, 10, .inl f_p2))]) [0, 1] rfl) (ci := 8) (q0 := 0) rfl rfl) rfl rfl hl.1 rfl (lv_room (Nat.le_of_ble_eq_true rfl)) dX8_wanted_10 ⟨Nat.zero_le _, Nat.zero_le _⟩) ?_
  refine lv_aload_n hx hb dX8_wanted_13 rfl (lv_at hl 1 rfl) ?_
  refine lv_iload_n hx hb dX8_wanted_14 rfl (lv_at hl 2 rfl) ?_
  refine lv_iload_n hx hb dX8_wanted_15 rfl (lv_at hl 0 rfl) ?_
  refine lv_iconst (v := (1 : Int32)) hx hb dX8_wanted_16 (by decide) ?_
  refine lv_iadd hx hb dX8_wanted_17 ?_
  refine kRi (res := (X8_claim v_t_law v_t_share p1 (r7 + (1 : Int32)))) (va_runV (As := [.int p1, .int (r7 + (1 : Int32))]) (rest := [.int r8]) ⟨hx, hb, hml, hown, hts⟩ (cn_X8_claim l dC dI cI cJ cZ q_t  v_t_law v_t_share v_t_pot v_t_barred p1 (r7 + (1 : Int32)) (X8_claim v_t_law v_t_share p1 (r7 + (1 : Int32))) rfl) (cwV 2 hts gX8_wanted_X8_claim rfl rfl rfl (by decide +kernel) ⟨Nat.le_of_ble_eq_true rfl, Nat.le_of_ble_eq_true rfl⟩) (preR hKK (hP.sub (ws' := [(q_t, .inr (8, [.int v_t_law, .int v_t_share, .int v_t_pot, .int v_t_barred]))]) [0] rfl) (ci := 8) (q0 := 0) rfl rfl) rfl rfl hl.1 rfl (lv_room (Nat.le_of_ble_eq_true rfl)) dX8_wanted_18 ⟨Nat.zero_le _, Nat.zero_le _⟩) ?_
  refine lv_isub hx hb dX8_wanted_21 ?_
  refine lv_aload_n hx hb dX8_wanted_22 rfl (lv_at hl 1 rfl) ?_
  refine lv_iload_n hx hb dX8_wanted_23 rfl (lv_at hl 2 rfl) ?_
  refine lv_iload_n hx hb dX8_wanted_24 rfl (lv_at hl 0 rfl) ?_
  refine kRi (res := (X8_claim v_t_law v_t_share p1 r7)) (va_runV (As := [.int p1, .int r7]) (rest := [.int (r8 - (X8_claim v_t_law v_t_share p1 (r7 + (1 : Int32))))]) ⟨hx, hb, hml, hown, hts⟩ (cn_X8_claim l dC dI cI cJ cZ q_t  v_t_law v_t_share v_t_pot v_t_barred p1 r7 (X8_claim v_t_law v_t_share p1 r7) rfl) (cwV 2 hts gX8_wanted_X8_claim rfl rfl rfl (by decide +kernel) ⟨Nat.le_of_ble_eq_true rfl, Nat.le_of_ble_eq_true rfl⟩) (preR hKK (hP.sub (ws' := [(q_t, .inr (8, [.int v_t_law, .int v_t_share, .int v_t_pot, .int v_t_barred]))]) [0] rfl) (ci := 8) (q0 := 0) rfl rfl) rfl rfl hl.1 rfl (lv_room (Nat.le_of_ble_eq_true rfl)) dX8_wanted_25 ⟨Nat.zero_le _, Nat.zero_le _⟩) ?_
  refine lv_iadd hx hb dX8_wanted_28 ?_
  refine lv_istore (lv' := [(4, .int ((r8 - (X8_claim v_t_law v_t_share p1 (r7 + (1 : Int32)))) + (X8_claim v_t_law v_t_share p1 r7))), (3, .int r7), (0, .ref q_t), (1, .int p1), (2, .ref q_p2)]) hx hb dX8_wanted_29 hl (by decide) rfl (fun ls hl => ?_)
  refine lv_iload_n hx hb dX8_wanted_31 rfl (lv_at hl 3 rfl) ?_
  refine lv_istore (lv' := [(5, .int p1), (4, .int ((r8 - (X8_claim v_t_law v_t_share p1 (r7 + (1 : Int32)))) + (X8_claim v_t_law v_t_share p1 r7))), (3, .int r7), (0, .ref q_t), (1, .int p1), (2, .ref q_p2)]) hx hb dX8_wanted_32 hl (by decide) rfl (fun ls hl => ?_)
  refine lv_aload_n hx hb dX8_wanted_34 rfl (lv_at hl 3 rfl) ?_
  refine lv_iload_n hx hb dX8_wanted_35 rfl (lv_at hl 4 rfl) ?_
  refine lv_iload_n hx hb dX8_wanted_36 rfl (lv_at hl 2 rfl) ?_
  refine lv_iload hx hb dX8_wanted_37 (lv_at hl 1 rfl) ?_
  obtain ⟨r9, hc9, h⟩ := bnd1_s h
  refine kRi (res := r9) (va_runV (As := [.int p1, .int r7, .int ((r8 - (X8_claim v_t_law v_t_share p1 (r7 + (1 : Int32)))) + (X8_claim v_t_law v_t_share p1 r7))]) (rest := []) ⟨hx, hb, hml, hown, hts⟩ (cn_X8_gainBy l dC dI cI cJ cZ q_t  v_t_law v_t_share v_t_pot v_t_barred p1 r7 ((r8 - (X8_claim v_t_law v_t_share p1 (r7 + (1 : Int32)))) + (X8_claim v_t_law v_t_share p1 r7)) r9 hc9) (cwV 3 hts gX8_wanted_X8_gainBy rfl rfl rfl (by decide +kernel) ⟨Nat.le_of_ble_eq_true rfl, Nat.le_of_ble_eq_true rfl⟩) (preR hKK (hP.sub (ws' := [(q_t, .inr (8, [.int v_t_law, .int v_t_share, .int v_t_pot, .int v_t_barred]))]) [0] rfl) (ci := 8) (q0 := 0) rfl rfl) rfl rfl hl.1 rfl (lv_room (Nat.le_of_ble_eq_true rfl)) dX8_wanted_39 ⟨Nat.zero_le _, Nat.zero_le _⟩) ?_
  refine lv_istore (lv' := [(6, .int r9), (5, .int p1), (4, .int ((r8 - (X8_claim v_t_law v_t_share p1 (r7 + (1 : Int32)))) + (X8_claim v_t_law v_t_share p1 r7))), (3, .int r7), (0, .ref q_t), (1, .int p1), (2, .ref q_p2)]) hx hb dX8_wanted_42 hl (by decide) rfl (fun ls hl => ?_)
  refine lv_iconst (v := (0 : Int32)) hx hb dX8_wanted_44 (by decide) ?_
  refine lv_istore (lv' := [(7, .int (0 : Int32)), (6, .int r9), (5, .int p1), (4, .int ((r8 - (X8_claim v_t_law v_t_share p1 (r7 + (1 : Int32)))) + (X8_claim v_t_law v_t_share p1 r7))), (3, .int r7), (0, .ref q_t), (1, .int p1), (2, .ref q_p2)]) hx hb dX8_wanted_45 hl (by decide) rfl (fun ls hl => ?_)
  exact L_47 fU p1 ((r8 - (X8_claim v_t_law v_t_share p1 (r7 + (1 : Int32)))) + (X8_claim v_t_law v_t_share p1 r7)) p1 r9 (0 : Int32) h ls (lv_sub hl [5, 6, 7, 3, 2, 1, 0] rfl)
abbrev rm_X10_person : Room := { frames := 4, cells := 0, slots := 0, locals := 97 }
theorem in_X10_person_X8 : ∀ w ∈ wsX80, w ∈ wsX10_person := fun _ h => List.mem_cons_of_mem _ (List.mem_append_right _ h)
theorem in_X10_person_X5 : ∀ w ∈ wsX50, w ∈ wsX10_person := fun _ h => List.mem_cons_of_mem _ (List.mem_append_left _ (List.mem_append_right _ h))
theorem in_X10_person_X10 : ∀ w ∈ wsX100, w ∈ wsX10_person := fun _ h => List.mem_cons_of_mem _ (List.mem_append_left _ (List.mem_append_left _ (List.mem_append_right _ h)))
set_option maxHeartbeats 4000000 in
set_option maxRecDepth 100000 in
theorem cn_X10_person (l : Launch) (dC : Nat → ClassId) (dI : Nat → Nat → Nat) (cI cJ cZ : ClassId) (q_t q_t_text q_t_reader q_t_rules q_t_people q_t_memory q_t_rows q_t_chances q_t_moves q_t_payments q_t_evenings q_t_people_numbers q_t_people_counts : Nat) (v_t_rules_law : Int32) (v_t_rules_share : Int32) (v_t_rules_pot : Int32) (v_t_rules_barred : Int32) (v_t_people_size : Int32) (f_t_people_numbers : (Nat → Int32)) (f_t_people_counts : (Nat → Int32)) (p1 : Int32) (p2 : Int32) (res : Int32) (h : X10_person v_t_rules_law v_t_rules_share v_t_rules_pot v_t_rules_barred v_t_people_size f_t_people_numbers f_t_people_counts p1 p2 = some res) : Met l yX10_person wsX10_person rm_X10_person (pcR dC dI cI cJ cZ [(q_t, .inr (10, [.ref q_t_text, .ref q_t_reader, .ref q_t_rules, .ref q_t_people, .ref q_t_memory, .ref q_t_rows, .ref q_t_chances, .ref q_t_moves, .ref q_t_payments, .ref q_t_evenings])), (q_t_rules, .inr (8, [.int v_t_rules_law, .int v_t_rules_share, .int v_t_rules_pot, .int v_t_rules_barred])), (q_t_people, .inr (5, [.ref q_t_people_numbers, .ref q_t_people_counts, .int v_t_people_size])), (q_t_people_numbers, .inl (cI, 9, .inl f_t_people_numbers)), (q_t_people_counts, .inl (cI, 10, .inl f_t_people_counts))] [.ref q_t, .int p1, .int p2]) (vp_Si (fun r => r = res)) 0 0 (fun _ => False) := by
  refine Met.ofW (cc := cX10_person) (maxL := 4) (ret := (some .int)) (by decide) rfl ?_
  intro p e s m args below meth c s₁ B hml hv
  obtain ⟨rfl, hP, hKK⟩ := hv
  have hx := B.exec
  have hb := B.bytes
  have hr := B.returns
  have hts := atoms_spec (ws := wsX10_person) B.pre
  have hown : s.vm.findClass RX10 = some m.cls := findClass_of_methodNamed B.named
  have hlocks := B.notSynchronized
  have hK := hKK.1
  have hl := lv_entry ([.ref q_t, .int p1, .int p2]) (n := 4) (Nat.le_of_ble_eq_true rfl)
  rw [lg_entry_eq]
  generalize (lg_sl ([.ref q_t, .int p1, .int p2]) ++ List.replicate (4 - (lg_sl ([.ref q_t, .int p1, .int p2])).length) Slot.unset).toArray = ls at hl ⊢
  have hl : lv_has ls 4 [(0, .ref q_t), (1, .int p1), (2, .int p2)] := hl
  unfold X10_person at h
  refine lv_aload_n hx hb dX10_person_0 rfl (lv_at hl 0 rfl) ?_
  refine va_get (D := (dC, dI)) (ci := 10) (v := .ref q_t_people) (C := RX10) (T := TX10) (N := 10) hx hb hts in_X10_person_X10 hown hK hP 0 rfl rfl 3 (by decide) (hts (.fieldLink RX10 33 "RightIfAsMany" "people" "LRightIfAsMany$People;") (List.mem_of_getElem? (i := 1) rfl)) (fun _ h9 => h9) rfl dX10_person_1 ?_
  refine lv_iload_n hx hb dX10_person_4 rfl (lv_at hl 1 rfl) ?_
  refine kRz (res := (X5_has v_t_people_size p1)) (va_runV (As := [.int p1]) (rest := []) ⟨hx, hb, hml, hown, hts⟩ (cn_X5_has l dC dI cI cJ cZ q_t_people q_t_people_numbers q_t_people_counts  v_t_people_size p1 (X5_has v_t_people_size p1) rfl) (cwV 1 hts gX10_person_X5_has rfl rfl rfl (by decide +kernel) ⟨Nat.le_of_ble_eq_true rfl, Nat.le_of_ble_eq_true rfl⟩) (preR hKK (hP.sub (ws' := [(q_t_people, .inr (5, [.ref q_t_people_numbers, .ref q_t_people_counts, .int v_t_people_size]))]) [2] rfl) (ci := 5) (q0 := 0) rfl rfl) rfl rfl hl.1 rfl (lv_room (Nat.le_of_ble_eq_true rfl)) dX10_person_5 ⟨Nat.zero_le _, Nat.zero_le _⟩) (fun hz1 => ?_)
  refine lv_if_ne (tgt := 13) hx hb dX10_person_8 (by decide) (fun c2 => ?_) (fun c2 => ?_)
  · replace h := ite_f h c2
    refine lv_aload_n hx hb dX10_person_13 rfl (lv_at hl 0 rfl) ?_
    refine va_get (D := (dC, dI)) (ci := 10) (v := .ref q_t_people) (C := RX10) (T := TX10) (N := 10) hx hb hts in_X10_person_X10 hown hK hP 0 rfl rfl 3 (by decide) (hts (.fieldLink RX10 33 "RightIfAsMany" "people" "LRightIfAsMany$People;") (List.mem_of_getElem? (i := 1) rfl)) (fun _ h9 => h9) rfl dX10_person_14 ?_
    refine lv_iload_n hx hb dX10_person_17 rfl (lv_at hl 1 rfl) ?_
    obtain ⟨r3, hc3, h⟩ := bnd1_s h
    refine kRi (res := r3) (va_runV (As := [.int p1]) (rest := []) ⟨hx, hb, hml, hown, hts⟩ (cn_X5_numberOf l dC dI cI cJ cZ q_t_people q_t_people_numbers q_t_people_counts  v_t_people_size f_t_people_numbers p1 r3 hc3) (cwV 1 hts gX10_person_X5_numberOf rfl rfl rfl (by decide +kernel) ⟨Nat.le_of_ble_eq_true rfl, Nat.le_of_ble_eq_true rfl⟩) (preR hKK (hP.sub (ws' := [(q_t_people, .inr (5, [.ref q_t_people_numbers, .ref q_t_people_counts, .int v_t_people_size])), (q_t_people_numbers, .inl (cI, 9, .inl f_t_people_numbers))]) [2, 3] rfl) (ci := 5) (q0 := 0) rfl rfl) rfl rfl hl.1 rfl (lv_room (Nat.le_of_ble_eq_true rfl)) dX10_person_18 ⟨Nat.zero_le _, Nat.zero_le _⟩) ?_
    refine lv_istore_n (lv' := [(3, .int r3), (0, .ref q_t), (1, .int p1), (2, .int p2)]) hx hb dX10_person_21 rfl hl (by decide) rfl (fun ls hl => ?_)
    refine lv_iload_n hx hb dX10_person_22 rfl (lv_at hl 3 rfl) ?_
    by_cases c4 : p2 = (0 : Int32)
    · replace h := ite_t h c4
      refine lv_tableIn (off := 29) (tgt := 52) hx hb dX10_person_23 (by rw [c4]; decide) (by rw [c4]; decide) (by rw [c4]; decide) (by decide) ?_
      refine lv_iload_n hx hb dX10_person_52 rfl (lv_at hl 0 rfl) ?_
      have e1 := Option.some.inj h
      exact W.iret (v := r3) hx hb hr (fun t ht hW => ⟨_, rfl, e1, ht⟩) (fun q hq => by cases hq) dX10_person_53
    replace h := ite_f h c4
    by_cases c5 : p2 = (1 : Int32)
    · replace h := ite_t h c5
      refine lv_tableIn (off := 31) (tgt := 54) hx hb dX10_person_23 (by rw [c5]; decide) (by rw [c5]; decide) (by rw [c5]; decide) (by decide) ?_
      refine lv_aload_n hx hb dX10_person_54 rfl (lv_at hl 1 rfl) ?_
      refine va_get (D := (dC, dI)) (ci := 10) (v := .ref q_t_rules) (C := RX10) (T := TX10) (N := 10) hx hb hts in_X10_person_X10 hown hK hP 0 rfl rfl 2 (by decide) (hts (.fieldLink RX10 26 "RightIfAsMany" "rules" "LRightIfAsMany$Rules;") (List.mem_of_getElem? (i := 2) rfl)) (fun _ h9 => h9) rfl dX10_person_55 ?_
      refine lv_iload_n hx hb dX10_person_58 rfl (lv_at hl 0 rfl) ?_
      refine lv_aload_n hx hb dX10_person_59 rfl (lv_at hl 1 rfl) ?_
      refine va_get (D := (dC, dI)) (ci := 10) (v := .ref q_t_people) (C := RX10) (T := TX10) (N := 10) hx hb hts in_X10_person_X10 hown hK hP 0 rfl rfl 3 (by decide) (hts (.fieldLink RX10 33 "RightIfAsMany" "people" "LRightIfAsMany$People;") (List.mem_of_getElem? (i := 1) rfl)) (fun _ h9 => h9) rfl dX10_person_60 ?_
      refine lv_iload_n hx hb dX10_person_63 rfl (lv_at hl 0 rfl) ?_
      obtain ⟨r6, hc6, h⟩ := bnd1_s h
      refine kRi (res := r6) (va_runV (As := [.int r3]) (rest := [.int r3, .ref q_t_rules]) ⟨hx, hb, hml, hown, hts⟩ (cn_X5_many l dC dI cI cJ cZ q_t_people q_t_people_numbers q_t_people_counts  v_t_people_size f_t_people_counts r3 r6 hc6) (cwV 1 hts gX10_person_X5_many rfl rfl rfl (by decide +kernel) ⟨Nat.le_of_ble_eq_true rfl, Nat.le_of_ble_eq_true rfl⟩) (preR hKK (hP.sub (ws' := [(q_t_people, .inr (5, [.ref q_t_people_numbers, .ref q_t_people_counts, .int v_t_people_size])), (q_t_people_counts, .inl (cI, 10, .inl f_t_people_counts))]) [2, 4] rfl) (ci := 5) (q0 := 0) rfl rfl) rfl rfl hl.1 rfl (lv_room (Nat.le_of_ble_eq_true rfl)) dX10_person_64 ⟨Nat.zero_le _, Nat.zero_le _⟩) ?_
      refine kRz (res := (X8_suits v_t_rules_law r3 r6)) (va_runV (As := [.int r3, .int r6]) (rest := []) ⟨hx, hb, hml, hown, hts⟩ (cn_X8_suits l dC dI cI cJ cZ q_t_rules  v_t_rules_law v_t_rules_share v_t_rules_pot v_t_rules_barred r3 r6 (X8_suits v_t_rules_law r3 r6) rfl) (cwV 2 hts gX10_person_X8_suits rfl rfl rfl (by decide +kernel) ⟨Nat.le_of_ble_eq_true rfl, Nat.le_of_ble_eq_true rfl⟩) (preR hKK (hP.sub (ws' := [(q_t_rules, .inr (8, [.int v_t_rules_law, .int v_t_rules_share, .int v_t_rules_pot, .int v_t_rules_barred]))]) [1] rfl) (ci := 8) (q0 := 0) rfl rfl) rfl rfl hl.1 rfl (lv_room (Nat.le_of_ble_eq_true rfl)) dX10_person_67 ⟨Nat.zero_le _, Nat.zero_le _⟩) (fun hz7 => ?_)
      refine lv_if_eq (tgt := 77) hx hb dX10_person_70 (by decide) (fun c8 => ?_) (fun c8 => ?_)
      · replace h := ite_t h c8
        refine lv_iconst (v := (0 : Int32)) hx hb dX10_person_77 (by decide) ?_
        have e1 := Option.some.inj h
        exact W.iret (v := (0 : Int32)) hx hb hr (fun t ht hW => ⟨_, rfl, e1, ht⟩) (fun q hq => by cases hq) dX10_person_78
      replace h := ite_f h c8
      refine lv_iconst (v := (1 : Int32)) hx hb dX10_person_73 (by decide) ?_
      refine lv_goto (tgt := 78) hx hb dX10_person_74 (by decide) ?_
      have e1 := Option.some.inj h
      exact W.iret (v := (1 : Int32)) hx hb hr (fun t ht hW => ⟨_, rfl, e1, ht⟩) (fun q hq => by cases hq) dX10_person_78
    replace h := ite_f h c5
    by_cases c9 : p2 = (2 : Int32)
    · replace h := ite_t h c9
      refine lv_tableIn (off := 56) (tgt := 79) hx hb dX10_person_23 (by rw [c9]; decide) (by rw [c9]; decide) (by rw [c9]; decide) (by decide) ?_
      refine lv_aload_n hx hb dX10_person_79 rfl (lv_at hl 1 rfl) ?_
      refine lv_iload_n hx hb dX10_person_80 rfl (lv_at hl 2 rfl) ?_
      obtain ⟨r10, hc10, h⟩ := bnd1_s h
      refine kRi (res := r10) (va_runV (As := [.int p1]) (rest := []) ⟨hx, hb, hml, hown, hts⟩ (cn_X10_gainOf l dC dI cI cJ cZ q_t q_t_text q_t_reader q_t_rules q_t_people q_t_memory q_t_rows q_t_chances q_t_moves q_t_payments q_t_evenings q_t_people_numbers q_t_people_counts  v_t_rules_law v_t_rules_share v_t_rules_pot v_t_rules_barred v_t_people_size f_t_people_numbers f_t_people_counts p1 r10 hc10) (cwV 1 hts gX10_person_X10_gainOf rfl rfl rfl (by decide +kernel) ⟨Nat.le_of_ble_eq_true rfl, Nat.le_of_ble_eq_true rfl⟩) (preR hKK (hP.sub (ws' := [(q_t, .inr (10, [.ref q_t_text, .ref q_t_reader, .ref q_t_rules, .ref q_t_people, .ref q_t_memory, .ref q_t_rows, .ref q_t_chances, .ref q_t_moves, .ref q_t_payments, .ref q_t_evenings])), (q_t_rules, .inr (8, [.int v_t_rules_law, .int v_t_rules_share, .int v_t_rules_pot, .int v_t_rules_barred])), (q_t_people, .inr (5, [.ref q_t_people_numbers, .ref q_t_people_counts, .int v_t_people_size])), (q_t_people_numbers, .inl (cI, 9, .inl f_t_people_numbers)), (q_t_people_counts, .inl (cI, 10, .inl f_t_people_counts))]) [0, 1, 2, 3, 4] rfl) (ci := 10) (q0 := 0) rfl rfl) rfl rfl hl.1 rfl (lv_room (Nat.le_of_ble_eq_true rfl)) dX10_person_81 ⟨Nat.zero_le _, Nat.zero_le _⟩) ?_
      have e1 := Option.some.inj h
      exact W.iret (v := r10) hx hb hr (fun t ht hW => ⟨_, rfl, e1, ht⟩) (fun q hq => by cases hq) dX10_person_84
    replace h := ite_f h c9
    by_cases c11 : p2 = (3 : Int32)
    · replace h := ite_t h c11
      refine lv_tableIn (off := 62) (tgt := 85) hx hb dX10_person_23 (by rw [c11]; decide) (by rw [c11]; decide) (by rw [c11]; decide) (by decide) ?_
      refine lv_aload_n hx hb dX10_person_85 rfl (lv_at hl 1 rfl) ?_
      refine va_get (D := (dC, dI)) (ci := 10) (v := .ref q_t_rules) (C := RX10) (T := TX10) (N := 10) hx hb hts in_X10_person_X10 hown hK hP 0 rfl rfl 2 (by decide) (hts (.fieldLink RX10 26 "RightIfAsMany" "rules" "LRightIfAsMany$Rules;") (List.mem_of_getElem? (i := 2) rfl)) (fun _ h9 => h9) rfl dX10_person_86 ?_
      refine lv_iload_n hx hb dX10_person_89 rfl (lv_at hl 0 rfl) ?_
      refine lv_aload_n hx hb dX10_person_90 rfl (lv_at hl 1 rfl) ?_
      refine va_get (D := (dC, dI)) (ci := 10) (v := .ref q_t_people) (C := RX10) (T := TX10) (N := 10) hx hb hts in_X10_person_X10 hown hK hP 0 rfl rfl 3 (by decide) (hts (.fieldLink RX10 33 "RightIfAsMany" "people" "LRightIfAsMany$People;") (List.mem_of_getElem? (i := 1) rfl)) (fun _ h9 => h9) rfl dX10_person_91 ?_
      refine kRr (res := q_t_people_counts) (va_runV (As := []) (rest := [.int r3, .ref q_t_rules]) ⟨hx, hb, hml, hown, hts⟩ (cn_X5_counts l dC dI cI cJ cZ q_t_people q_t_people_numbers q_t_people_counts  v_t_people_size   ) (cwV 0 hts gX10_person_X5_counts rfl rfl rfl (by decide +kernel) ⟨Nat.le_of_ble_eq_true rfl, Nat.le_of_ble_eq_true rfl⟩) (preR hKK (hP.sub (ws' := [(q_t_people, .inr (5, [.ref q_t_people_numbers, .ref q_t_people_counts, .int v_t_people_size]))]) [2] rfl) (ci := 5) (q0 := 0) rfl rfl) rfl rfl hl.1 rfl (lv_room (Nat.le_of_ble_eq_true rfl)) dX10_person_94 ⟨Nat.zero_le _, Nat.zero_le _⟩) ?_
      obtain ⟨r12, hc12, h⟩ := bnd1_s h
      refine kRi (res := r12) (va_runV (As := [.int r3, .ref q_t_people_counts]) (rest := []) ⟨hx, hb, hml, hown, hts⟩ (cn_X8_wanted l dC dI cI cJ cZ q_t_rules q_t_people_counts  v_t_rules_law v_t_rules_share v_t_rules_pot v_t_rules_barred f_t_people_counts r3 r12 hc12) (cwV 2 hts gX10_person_X8_wanted rfl rfl rfl (by decide +kernel) ⟨Nat.le_of_ble_eq_true rfl, Nat.le_of_ble_eq_true rfl⟩) (preR hKK (hP.sub (ws' := [(q_t_rules, .inr (8, [.int v_t_rules_law, .int v_t_rules_share, .int v_t_rules_pot, .int v_t_rules_barred])), (q_t_people_counts, .inl (cI, 10, .inl f_t_people_counts))]) [1, 4] rfl) (ci := 8) (q0 := 0) rfl rfl) rfl rfl hl.1 rfl (lv_room (Nat.le_of_ble_eq_true rfl)) dX10_person_97 ⟨Nat.zero_le _, Nat.zero_le _⟩) ?_
      have e1 := Option.some.inj h
      exact W.iret (v := r12) hx hb hr (fun t ht hW => ⟨_, rfl, e1, ht⟩) (fun q hq => by cases hq) dX10_person_100
    replace h := ite_f h c11
    have e4 := lv_neT (a := 0) c4 (by decide)
    have e5 := lv_neT (a := 1) c5 (by decide)
    have e9 := lv_neT (a := 2) c9 (by decide)
    have e11 := lv_neT (a := 3) c11 (by decide)
    refine lv_tableOut (tgt := 101) hx hb dX10_person_23 (by omega) (by decide) ?_
    refine lv_bipush (v := (-2 : Int32)) hx hb dX10_person_101 (by decide) ?_
    have e1 := Option.some.inj h
    exact W.iret (v := (-2 : Int32)) hx hb hr (fun t ht hW => ⟨_, rfl, e1, ht⟩) (fun q hq => by cases hq) dX10_person_103
  replace h := ite_t h c2
  refine lv_iconst (v := (-1 : Int32)) hx hb dX10_person_11 (by decide) ?_
  have e1 := Option.some.inj h
  exact W.iret (v := (-1 : Int32)) hx hb hr (fun t ht hW => ⟨_, rfl, e1, ht⟩) (fun q hq => by cases hq) dX10_person_12
abbrev rm_X10_wrote : Room := { frames := 2, cells := 0, slots := 0, locals := 41 }
theorem in_X10_wrote_X5 : ∀ w ∈ wsX50, w ∈ wsX10_wrote := fun _ h => List.mem_cons_of_mem _ (List.mem_append_right _ h)
theorem in_X10_wrote_X10 : ∀ w ∈ wsX100, w ∈ wsX10_wrote := fun _ h => List.mem_cons_of_mem _ (List.mem_append_left _ (List.mem_append_right _ h))
set_option maxHeartbeats 4000000 in
set_option maxRecDepth 100000 in
theorem cn_X10_wrote (l : Launch) (dC : Nat → ClassId) (dI : Nat → Nat → Nat) (cI cJ cZ : ClassId) (q_t q_t_text q_t_reader q_t_rules q_t_people q_t_memory q_t_rows q_t_chances q_t_moves q_t_payments q_t_evenings q_t_people_numbers q_t_people_counts : Nat) (v_t_people_size : Int32) (f_t_people_counts : (Nat → Int32)) (p1 : Int32) (res : Int32) (h : X10_wrote f_t_people_counts p1 = some res) : Met l yX10_wrote wsX10_wrote rm_X10_wrote (pcR dC dI cI cJ cZ [(q_t, .inr (10, [.ref q_t_text, .ref q_t_reader, .ref q_t_rules, .ref q_t_people, .ref q_t_memory, .ref q_t_rows, .ref q_t_chances, .ref q_t_moves, .ref q_t_payments, .ref q_t_evenings])), (q_t_people, .inr (5, [.ref q_t_people_numbers, .ref q_t_people_counts, .int v_t_people_size])), (q_t_people_counts, .inl (cI, 10, .inl f_t_people_counts))] [.ref q_t, .int p1]) (vp_Si (fun r => r = res)) 0 0 (fun _ => False) := by
  refine Met.ofW (cc := cX10_wrote) (maxL := 2) (ret := (some .int)) (by decide) rfl ?_
  intro p e s m args below meth c s₁ B hml hv
  obtain ⟨rfl, hP, hKK⟩ := hv
  have hx := B.exec
  have hb := B.bytes
  have hr := B.returns
  have hts := atoms_spec (ws := wsX10_wrote) B.pre
  have hown : s.vm.findClass RX10 = some m.cls := findClass_of_methodNamed B.named
  have hlocks := B.notSynchronized
  have hK := hKK.1
  have hl := lv_entry ([.ref q_t, .int p1]) (n := 2) (Nat.le_of_ble_eq_true rfl)
  rw [lg_entry_eq]
  generalize (lg_sl ([.ref q_t, .int p1]) ++ List.replicate (2 - (lg_sl ([.ref q_t, .int p1])).length) Slot.unset).toArray = ls at hl ⊢
  have hl : lv_has ls 2 [(0, .ref q_t), (1, .int p1)] := hl
  unfold X10_wrote at h
  refine lv_iload_n hx hb dX10_wrote_0 rfl (lv_at hl 1 rfl) ?_
  refine kRz (res := (X10_isNumber p1)) (va_runS (As := [.int p1]) (rest := []) ⟨hx, hb, hml, hown, hts⟩ (cn_X10_isNumber l dC dI cI cJ cZ    p1 (X10_isNumber p1) rfl) (va_cwS 1 hts gX10_wrote_X10_isNumber rfl rfl rfl (by decide +kernel) ⟨Nat.le_of_ble_eq_true rfl, Nat.le_of_ble_eq_true rfl⟩) (preRS hKK (hP.sub (ws' := []) [] rfl)) rfl rfl hl.1 rfl (lv_room (Nat.le_of_ble_eq_true rfl)) dX10_wrote_1 ⟨Nat.zero_le _, Nat.zero_le _⟩) (fun hz1 => ?_)
  refine lv_if_eq (tgt := 18) hx hb dX10_wrote_4 (by decide) (fun c2 => ?_) (fun c2 => ?_)
  · replace h := ite_t h c2
    refine lv_bipush (v := (-2 : Int32)) hx hb dX10_wrote_18 (by decide) ?_
    have e1 := Option.some.inj h
    exact W.iret (v := (-2 : Int32)) hx hb hr (fun t ht hW => ⟨_, rfl, e1, ht⟩) (fun q hq => by cases hq) dX10_wrote_20
  replace h := ite_f h c2
  refine lv_aload_n hx hb dX10_wrote_7 rfl (lv_at hl 0 rfl) ?_
  refine va_get (D := (dC, dI)) (ci := 10) (v := .ref q_t_people) (C := RX10) (T := TX10) (N := 10) hx hb hts in_X10_wrote_X10 hown hK hP 0 rfl rfl 3 (by decide) (hts (.fieldLink RX10 33 "RightIfAsMany" "people" "LRightIfAsMany$People;") (List.mem_of_getElem? (i := 1) rfl)) (fun _ h9 => h9) rfl dX10_wrote_8 ?_
  refine lv_iload_n hx hb dX10_wrote_11 rfl (lv_at hl 1 rfl) ?_
  obtain ⟨r3, hc3, h⟩ := bnd1_s h
  refine kRi (res := r3) (va_runV (As := [.int p1]) (rest := []) ⟨hx, hb, hml, hown, hts⟩ (cn_X5_many l dC dI cI cJ cZ q_t_people q_t_people_numbers q_t_people_counts  v_t_people_size f_t_people_counts p1 r3 hc3) (cwV 1 hts gX10_wrote_X5_many rfl rfl rfl (by decide +kernel) ⟨Nat.le_of_ble_eq_true rfl, Nat.le_of_ble_eq_true rfl⟩) (preR hKK (hP.sub (ws' := [(q_t_people, .inr (5, [.ref q_t_people_numbers, .ref q_t_people_counts, .int v_t_people_size])), (q_t_people_counts, .inl (cI, 10, .inl f_t_people_counts))]) [1, 2] rfl) (ci := 5) (q0 := 0) rfl rfl) rfl rfl hl.1 rfl (lv_room (Nat.le_of_ble_eq_true rfl)) dX10_wrote_12 ⟨Nat.zero_le _, Nat.zero_le _⟩) ?_
  refine lv_goto (tgt := 20) hx hb dX10_wrote_15 (by decide) ?_
  have e1 := Option.some.inj h
  exact W.iret (v := r3) hx hb hr (fun t ht hW => ⟨_, rfl, e1, ht⟩) (fun q hq => by cases hq) dX10_wrote_20
abbrev rm_X10_refusalOfNumber : Room := { frames := 2, cells := 0, slots := 0, locals := 41 }
theorem in_X10_refusalOfNumber_X8 : ∀ w ∈ wsX80, w ∈ wsX10_refusalOfNumber := fun _ h => List.mem_cons_of_mem _ (List.mem_append_right _ h)
theorem in_X10_refusalOfNumber_X10 : ∀ w ∈ wsX100, w ∈ wsX10_refusalOfNumber := fun _ h => List.mem_cons_of_mem _ (List.mem_append_left _ (List.mem_append_right _ h))
set_option maxHeartbeats 4000000 in
set_option maxRecDepth 100000 in
theorem cn_X10_refusalOfNumber (l : Launch) (dC : Nat → ClassId) (dI : Nat → Nat → Nat) (cI cJ cZ : ClassId) (q_t q_t_text q_t_reader q_t_rules q_t_people q_t_memory q_t_rows q_t_chances q_t_moves q_t_payments q_t_evenings : Nat) (v_t_rules_law : Int32) (v_t_rules_share : Int32) (v_t_rules_pot : Int32) (v_t_rules_barred : Int32) (p1 : Int32) (res : Int32) (h : X10_refusalOfNumber v_t_rules_barred p1 = res) : Met l yX10_refusalOfNumber wsX10_refusalOfNumber rm_X10_refusalOfNumber (pcR dC dI cI cJ cZ [(q_t, .inr (10, [.ref q_t_text, .ref q_t_reader, .ref q_t_rules, .ref q_t_people, .ref q_t_memory, .ref q_t_rows, .ref q_t_chances, .ref q_t_moves, .ref q_t_payments, .ref q_t_evenings])), (q_t_rules, .inr (8, [.int v_t_rules_law, .int v_t_rules_share, .int v_t_rules_pot, .int v_t_rules_barred]))] [.ref q_t, .int p1]) (vp_Si (fun r => r = res)) 0 0 (fun _ => False) := by
  refine Met.ofW (cc := cX10_refusalOfNumber) (maxL := 2) (ret := (some .int)) (by decide) rfl ?_
  intro p e s m args below meth c s₁ B hml hv
  obtain ⟨rfl, hP, hKK⟩ := hv
  have hx := B.exec
  have hb := B.bytes
  have hr := B.returns
  have hts := atoms_spec (ws := wsX10_refusalOfNumber) B.pre
  have hown : s.vm.findClass RX10 = some m.cls := findClass_of_methodNamed B.named
  have hlocks := B.notSynchronized
  have hK := hKK.1
  have hl := lv_entry ([.ref q_t, .int p1]) (n := 2) (Nat.le_of_ble_eq_true rfl)
  rw [lg_entry_eq]
  generalize (lg_sl ([.ref q_t, .int p1]) ++ List.replicate (2 - (lg_sl ([.ref q_t, .int p1])).length) Slot.unset).toArray = ls at hl ⊢
  have hl : lv_has ls 2 [(0, .ref q_t), (1, .int p1)] := hl
  unfold X10_refusalOfNumber at h
  refine lv_iload_n hx hb dX10_refusalOfNumber_0 rfl (lv_at hl 1 rfl) ?_
  refine kRz (res := (X10_isNumber p1)) (va_runS (As := [.int p1]) (rest := []) ⟨hx, hb, hml, hown, hts⟩ (cn_X10_isNumber l dC dI cI cJ cZ    p1 (X10_isNumber p1) rfl) (va_cwS 1 hts gX10_refusalOfNumber_X10_isNumber rfl rfl rfl (by decide +kernel) ⟨Nat.le_of_ble_eq_true rfl, Nat.le_of_ble_eq_true rfl⟩) (preRS hKK (hP.sub (ws' := []) [] rfl)) rfl rfl hl.1 rfl (lv_room (Nat.le_of_ble_eq_true rfl)) dX10_refusalOfNumber_1 ⟨Nat.zero_le _, Nat.zero_le _⟩) (fun hz1 => ?_)
  refine lv_if_ne (tgt := 10) hx hb dX10_refusalOfNumber_4 (by decide) (fun c2 => ?_) (fun c2 => ?_)
  · replace h := ite_f h c2
    refine lv_aload_n hx hb dX10_refusalOfNumber_10 rfl (lv_at hl 0 rfl) ?_
    refine va_get (D := (dC, dI)) (ci := 10) (v := .ref q_t_rules) (C := RX10) (T := TX10) (N := 10) hx hb hts in_X10_refusalOfNumber_X10 hown hK hP 0 rfl rfl 2 (by decide) (hts (.fieldLink RX10 26 "RightIfAsMany" "rules" "LRightIfAsMany$Rules;") (List.mem_of_getElem? (i := 1) rfl)) (fun _ h9 => h9) rfl dX10_refusalOfNumber_11 ?_
    refine lv_iload_n hx hb dX10_refusalOfNumber_14 rfl (lv_at hl 1 rfl) ?_
    refine kRz (res := (X8_isOpen v_t_rules_barred p1)) (va_runV (As := [.int p1]) (rest := []) ⟨hx, hb, hml, hown, hts⟩ (cn_X8_isOpen l dC dI cI cJ cZ q_t_rules  v_t_rules_law v_t_rules_share v_t_rules_pot v_t_rules_barred p1 (X8_isOpen v_t_rules_barred p1) rfl) (cwV 1 hts gX10_refusalOfNumber_X8_isOpen rfl rfl rfl (by decide +kernel) ⟨Nat.le_of_ble_eq_true rfl, Nat.le_of_ble_eq_true rfl⟩) (preR hKK (hP.sub (ws' := [(q_t_rules, .inr (8, [.int v_t_rules_law, .int v_t_rules_share, .int v_t_rules_pot, .int v_t_rules_barred]))]) [1] rfl) (ci := 8) (q0 := 0) rfl rfl) rfl rfl hl.1 rfl (lv_room (Nat.le_of_ble_eq_true rfl)) dX10_refusalOfNumber_15 ⟨Nat.zero_le _, Nat.zero_le _⟩) (fun hz3 => ?_)
    refine lv_if_eq (tgt := 25) hx hb dX10_refusalOfNumber_18 (by decide) (fun c4 => ?_) (fun c4 => ?_)
    · replace h := ite_t h c4
      refine lv_bipush (v := (-3 : Int32)) hx hb dX10_refusalOfNumber_25 (by decide) ?_
      have e1 := h
      exact W.iret (v := (-3 : Int32)) hx hb hr (fun t ht hW => ⟨_, rfl, e1, ht⟩) (fun q hq => by cases hq) dX10_refusalOfNumber_27
    replace h := ite_f h c4
    refine lv_iconst (v := (0 : Int32)) hx hb dX10_refusalOfNumber_21 (by decide) ?_
    refine lv_goto (tgt := 27) hx hb dX10_refusalOfNumber_22 (by decide) ?_
    have e1 := h
    exact W.iret (v := (0 : Int32)) hx hb hr (fun t ht hW => ⟨_, rfl, e1, ht⟩) (fun q hq => by cases hq) dX10_refusalOfNumber_27
  replace h := ite_t h c2
  refine lv_bipush (v := (-2 : Int32)) hx hb dX10_refusalOfNumber_7 (by decide) ?_
  have e1 := h
  exact W.iret (v := (-2 : Int32)) hx hb hr (fun t ht hW => ⟨_, rfl, e1, ht⟩) (fun q hq => by cases hq) dX10_refusalOfNumber_9
abbrev rm_X2_addAct : Room := { frames := 1, cells := 0, slots := 0, locals := 60 }
theorem in_X2_addAct_X2 : ∀ w ∈ wsX20, w ∈ wsX2_addAct := fun _ h => List.mem_cons_of_mem _ (List.mem_append_right _ h)
set_option maxHeartbeats 4000000 in
set_option maxRecDepth 100000 in
theorem cn_X2_addAct (l : Launch) (dC : Nat → ClassId) (dI : Nat → Nat → Nat) (cI cJ cZ : ClassId) (q_t q_t_row q_t_slots : Nat) (sz : Nat) (v_t_acts : Int32) (f_t_row : (Nat → Int64)) (p1 : Int64) (r_v_t_acts : Int32) (r_f_t_row : (Nat → Int64)) (h : X2_addAct v_t_acts f_t_row p1 = some (r_v_t_acts, r_f_t_row)) : Met l yX2_addAct wsX2_addAct rm_X2_addAct (pcW dC dI cI cJ cZ [(q_t, .inr (2, [.ref q_t_row, .ref q_t_slots, .int v_t_acts])), (q_t_row, .inl (cJ, 16, .inr (.inl f_t_row)))] sz [.ref q_t, .long p1]) (va_Qv (fun (_ : Unit) => True) (bW dC dI (va_A [(q_t, .inr (2, [.ref q_t_row, .ref q_t_slots, .int v_t_acts])), (q_t_row, .inl (cJ, 16, .inr (.inl f_t_row)))] sz) [(q_t, .inr (2, [.ref q_t_row, .ref q_t_slots, .int r_v_t_acts])), (q_t_row, .inl (cJ, 16, .inr (.inl r_f_t_row)))]) (va_A [(q_t, .inr (2, [.ref q_t_row, .ref q_t_slots, .int v_t_acts])), (q_t_row, .inl (cJ, 16, .inr (.inl f_t_row)))] sz)) 0 0 (va_A [(q_t, .inr (2, [.ref q_t_row, .ref q_t_slots, .int v_t_acts])), (q_t_row, .inl (cJ, 16, .inr (.inl f_t_row)))] sz) := by
  refine Met.ofW (cc := cX2_addAct) (maxL := 3) (ret := none) (by decide) rfl ?_
  intro p e s m args below meth c s₁ B hml hv
  obtain ⟨rfl, hsz, hP, hKK, hD0⟩ := hv
  have hx := B.exec
  have hb := B.bytes
  have hr := B.returns
  have hts := atoms_spec (ws := wsX2_addAct) B.pre
  have hown : s.vm.findClass RX2 = some m.cls := findClass_of_methodNamed B.named
  have hlocks := B.notSynchronized
  have hK := hKK.1
  subst hsz
  have hD := hD0.self (sz := s.heap.size)
  generalize hAe : va_A [(q_t, .inr (2, [.ref q_t_row, .ref q_t_slots, .int v_t_acts])), (q_t_row, .inl (cJ, 16, .inr (.inl f_t_row)))] s.heap.size = A at hD ⊢
  have hA : ∀ q : Nat, s.heap.size ≤ q → A q := fun q h => by rw [← hAe]; exact Or.inr h
  have hS : va_S A s.heap s.heap [] := va_S.rf
  have hl := lv_entry ([.ref q_t, .long p1]) (n := 3) (Nat.le_of_ble_eq_true rfl)
  rw [lg_entry_eq]
  generalize (lg_sl ([.ref q_t, .long p1]) ++ List.replicate (3 - (lg_sl ([.ref q_t, .long p1])).length) Slot.unset).toArray = ls at hl ⊢
  have hl : lv_has ls 3 [(0, .ref q_t), (1, .long p1)] := hl
  have B_30 : ∀ (v_t_acts : Int32) (f_t_row : (Nat → Int64)) (x1 : Int64), X2_addAct_b30 v_t_acts f_t_row x1 = some (r_v_t_acts, r_f_t_row) → ∀ (H : Heap) (locs : List Loc) (ls : Array Slot), va_P (dC, dI) vwCl [(q_t, .inr (2, [.ref q_t_row, .ref q_t_slots, .int v_t_acts])), (q_t_row, .inl (cJ, 16, .inr (.inl f_t_row)))] H → va_D A [(q_t, .inr (2, [.ref q_t_row, .ref q_t_slots, .int v_t_acts])), (q_t_row, .inl (cJ, 16, .inr (.inl f_t_row)))] → va_S A s.heap H locs → lv_has ls 3 [(0, .ref q_t), (1, .long x1)] → W p l e (headSpec wsX2_addAct rm_X2_addAct).room s m ([.ref q_t, .long p1] : List Value).toArray below meth c H locs 0 0 (MQ below (va_Qv (fun (_ : Unit) => True) (bW dC dI A [(q_t, .inr (2, [.ref q_t_row, .ref q_t_slots, .int r_v_t_acts])), (q_t_row, .inl (cJ, 16, .inr (.inl r_f_t_row)))]) A) ([.ref q_t, .long p1] : List Value).toArray s 0 0 A) (F0 m 30 ls []) := by
    intro v_t_acts f_t_row x1 h H locs ls hP hD hS hl
    unfold X2_addAct_b30 at h
    refine lv_aload_n hx hb dX2_addAct_30 rfl (lv_at hl 0 rfl) ?_
    refine va_get (D := (dC, dI)) (ci := 2) (v := .ref q_t_row) (C := RX2) (T := TX2) (N := 3) hx hb hts in_X2_addAct_X2 hown hK hP 0 rfl rfl 0 (by decide) (hts (.fieldLink RX2 9 "RightIfAsMany$Memory" "row" "[J") (List.mem_of_getElem? (i := 2) rfl)) (fun _ h9 => h9) rfl dX2_addAct_31 ?_
    refine lv_aload_n hx hb dX2_addAct_34 rfl (lv_at hl 0 rfl) ?_
    refine va_get (D := (dC, dI)) (ci := 2) (v := .int v_t_acts) (C := RX2) (T := TX2) (N := 3) hx hb hts in_X2_addAct_X2 hown hK hP 0 rfl rfl 2 (by decide) (hts (.fieldLink RX2 20 "RightIfAsMany$Memory" "acts" "I") (List.mem_of_getElem? (i := 1) rfl)) (fun _ h9 => h9) rfl dX2_addAct_35 ?_
    refine lv_lload_n hx hb dX2_addAct_38 rfl (lv_at hl 1 rfl) ?_
    obtain ⟨hg1, h⟩ := grd_s h
    refine va_last hx hb hK hP hD hS 1 1 rfl rfl hg1 dX2_addAct_39 (fun H locs hP hD hS => ?_)
    have hP : va_P (dC, dI) vwCl [(q_t, .inr (2, [.ref q_t_row, .ref q_t_slots, .int v_t_acts])), (q_t_row, .inl (cJ, 16, .inr (.inl (vp_updL f_t_row v_t_acts.toNatClampNeg x1))))] H := hP
    have hD : va_D A [(q_t, .inr (2, [.ref q_t_row, .ref q_t_slots, .int v_t_acts])), (q_t_row, .inl (cJ, 16, .inr (.inl (vp_updL f_t_row v_t_acts.toNatClampNeg x1))))] := hD
    refine lv_aload_n hx hb dX2_addAct_40 rfl (lv_at hl 0 rfl) ?_
    refine lv_dup hx hb dX2_addAct_41 rfl ?_
    refine va_get (D := (dC, dI)) (ci := 2) (v := .int v_t_acts) (C := RX2) (T := TX2) (N := 3) hx hb hts in_X2_addAct_X2 hown hK hP 0 rfl rfl 2 (by decide) (hts (.fieldLink RX2 20 "RightIfAsMany$Memory" "acts" "I") (List.mem_of_getElem? (i := 1) rfl)) (fun _ h9 => h9) rfl dX2_addAct_42 ?_
    refine lv_iconst (v := (1 : Int32)) hx hb dX2_addAct_45 (by decide) ?_
    refine lv_iadd hx hb dX2_addAct_46 ?_
    refine va_put (D := (dC, dI)) (ci := 2) (v := .int (v_t_acts + (1 : Int32))) (ty := .int) (C := RX2) (T := TX2) (N := 3) hx hb hts in_X2_addAct_X2 tyX2 tyX2_ok nmX2 hown hK hP hD hS 0 rfl rfl 2 (by decide) (hts (.fieldLink RX2 20 "RightIfAsMany$Memory" "acts" "I") (List.mem_of_getElem? (i := 1) rfl)) (fun _ h9 => h9) rfl (by decide +kernel) rfl rfl (Nat.le_of_ble_eq_true rfl) dX2_addAct_47 (fun H locs hP hD hS => ?_)
    have hP : va_P (dC, dI) vwCl [(q_t, .inr (2, [.ref q_t_row, .ref q_t_slots, .int (v_t_acts + (1 : Int32))])), (q_t_row, .inl (cJ, 16, .inr (.inl (vp_updL f_t_row v_t_acts.toNatClampNeg x1))))] H := hP
    have hD : va_D A [(q_t, .inr (2, [.ref q_t_row, .ref q_t_slots, .int (v_t_acts + (1 : Int32))])), (q_t_row, .inl (cJ, 16, .inr (.inl (vp_updL f_t_row v_t_acts.toNatClampNeg x1))))] := hD
    replace h := Option.some.inj h
    obtain ⟨e1, e2⟩ := pr2 h
    exact W.vret hx hb hr (fun t ht hW => ⟨⟨(), rfl, trivial, (by rw [ht, ← e1, ← e2]; exact hP), (by rw [← e1, ← e2]; exact hD)⟩, hS.F ht⟩) hS.2.2 dX2_addAct_50
  unfold X2_addAct at h
  obtain ⟨H, hHe⟩ : ∃ H, H = s.heap := ⟨_, rfl⟩
  obtain ⟨locs, hLe⟩ : ∃ x : List Loc, x = [] := ⟨_, rfl⟩
  rw [← hHe] at hP
  have hS : va_S A s.heap H locs := by rw [hHe, hLe]; exact hS
  suffices hW : W p l e (headSpec wsX2_addAct rm_X2_addAct).room s m ([.ref q_t, .long p1] : List Value).toArray below meth c H locs 0 0 (MQ below (va_Qv (fun (_ : Unit) => True) (bW dC dI A [(q_t, .inr (2, [.ref q_t_row, .ref q_t_slots, .int r_v_t_acts])), (q_t_row, .inl (cJ, 16, .inr (.inl r_f_t_row)))]) A) ([.ref q_t, .long p1] : List Value).toArray s 0 0 A) (F0 m 0 ls []) by rw [hHe, hLe] at hW; exact hW
  refine lv_aload_n hx hb dX2_addAct_0 rfl (lv_at hl 0 rfl) ?_
  refine va_get (D := (dC, dI)) (ci := 2) (v := .int v_t_acts) (C := RX2) (T := TX2) (N := 3) hx hb hts in_X2_addAct_X2 hown hK hP 0 rfl rfl 2 (by decide) (hts (.fieldLink RX2 20 "RightIfAsMany$Memory" "acts" "I") (List.mem_of_getElem? (i := 1) rfl)) (fun _ h9 => h9) rfl dX2_addAct_1 ?_
  refine lv_bipush (v := (16 : Int32)) hx hb dX2_addAct_4 (by decide) ?_
  refine lv_icmp_lt (tgt := 30) hx hb dX2_addAct_6 (by decide) (fun c2 => ?_) (fun c2 => ?_)
  · replace h := ite_t h c2
    exact B_30 v_t_acts f_t_row p1 h H locs ls hP hD hS (lv_sub hl [0, 1] rfl)
  replace h := ite_f h c2
  refine lv_aload_n hx hb dX2_addAct_9 rfl (lv_at hl 0 rfl) ?_
  refine va_get (D := (dC, dI)) (ci := 2) (v := .ref q_t_row) (C := RX2) (T := TX2) (N := 3) hx hb hts in_X2_addAct_X2 hown hK hP 0 rfl rfl 0 (by decide) (hts (.fieldLink RX2 9 "RightIfAsMany$Memory" "row" "[J") (List.mem_of_getElem? (i := 2) rfl)) (fun _ h9 => h9) rfl dX2_addAct_10 ?_
  refine lv_iconst (v := (1 : Int32)) hx hb dX2_addAct_13 (by decide) ?_
  refine lv_aload_n hx hb dX2_addAct_14 rfl (lv_at hl 0 rfl) ?_
  refine va_get (D := (dC, dI)) (ci := 2) (v := .ref q_t_row) (C := RX2) (T := TX2) (N := 3) hx hb hts in_X2_addAct_X2 hown hK hP 0 rfl rfl 0 (by decide) (hts (.fieldLink RX2 9 "RightIfAsMany$Memory" "row" "[J") (List.mem_of_getElem? (i := 2) rfl)) (fun _ h9 => h9) rfl dX2_addAct_15 ?_
  refine lv_iconst (v := (0 : Int32)) hx hb dX2_addAct_18 (by decide) ?_
  refine lv_bipush (v := (15 : Int32)) hx hb dX2_addAct_19 (by decide) ?_
  refine va_copyl hx hb (hml.trans hl.1.symm) hown (hts (.methodLink RX2 24 arraycopyName) (List.mem_of_getElem? (i := 3) rfl)) (hts (.native arraycopyName) (List.mem_of_getElem? (i := 4) rfl)) (hts (.static arraycopyName) (List.mem_of_getElem? (i := 5) rfl)) (hts (.initialized "java/lang/System") (List.mem_of_getElem? (i := 6) rfl)) hK hP hD hS 1 1 1 1 rfl rfl rfl rfl rfl (by decide) (by decide) (by decide) (by decide) (by decide) (fun _ _ => rfl) (Nat.le_of_ble_eq_true rfl) (by decide) dX2_addAct_21 (fun H locs hP hD hS => ?_)
  have hP : va_P (dC, dI) vwCl [(q_t, .inr (2, [.ref q_t_row, .ref q_t_slots, .int v_t_acts])), (q_t_row, .inl (cJ, 16, .inr (.inl (va_cpy f_t_row f_t_row (1 : Int32).toNatClampNeg (0 : Int32).toNatClampNeg (15 : Int32).toNatClampNeg))))] H := hP
  have hD : va_D A [(q_t, .inr (2, [.ref q_t_row, .ref q_t_slots, .int v_t_acts])), (q_t_row, .inl (cJ, 16, .inr (.inl (va_cpy f_t_row f_t_row (1 : Int32).toNatClampNeg (0 : Int32).toNatClampNeg (15 : Int32).toNatClampNeg))))] := hD
  refine lv_aload_n hx hb dX2_addAct_24 rfl (lv_at hl 0 rfl) ?_
  refine lv_bipush (v := (15 : Int32)) hx hb dX2_addAct_25 (by decide) ?_
  refine va_put (D := (dC, dI)) (ci := 2) (v := .int (15 : Int32)) (ty := .int) (C := RX2) (T := TX2) (N := 3) hx hb hts in_X2_addAct_X2 tyX2 tyX2_ok nmX2 hown hK hP hD hS 0 rfl rfl 2 (by decide) (hts (.fieldLink RX2 20 "RightIfAsMany$Memory" "acts" "I") (List.mem_of_getElem? (i := 1) rfl)) (fun _ h9 => h9) rfl (by decide +kernel) rfl rfl (Nat.le_of_ble_eq_true rfl) dX2_addAct_27 (fun H locs hP hD hS => ?_)
  have hP : va_P (dC, dI) vwCl [(q_t, .inr (2, [.ref q_t_row, .ref q_t_slots, .int (15 : Int32)])), (q_t_row, .inl (cJ, 16, .inr (.inl (va_cpy f_t_row f_t_row (1 : Int32).toNatClampNeg (0 : Int32).toNatClampNeg (15 : Int32).toNatClampNeg))))] H := hP
  have hD : va_D A [(q_t, .inr (2, [.ref q_t_row, .ref q_t_slots, .int (15 : Int32)])), (q_t_row, .inl (cJ, 16, .inr (.inl (va_cpy f_t_row f_t_row (1 : Int32).toNatClampNeg (0 : Int32).toNatClampNeg (15 : Int32).toNatClampNeg))))] := hD
  exact B_30 (15 : Int32) (va_cpy f_t_row f_t_row (1 : Int32).toNatClampNeg (0 : Int32).toNatClampNeg (15 : Int32).toNatClampNeg) p1 h H locs ls hP hD hS (lv_sub hl [0, 1] rfl)
abbrev rm_X5_rewrite : Room := { frames := 1, cells := 0, slots := 0, locals := 21 }
theorem in_X5_rewrite_X5 : ∀ w ∈ wsX50, w ∈ wsX5_rewrite := fun _ h => List.mem_cons_of_mem _ (List.mem_append_right _ h)
set_option maxHeartbeats 4000000 in
set_option maxRecDepth 100000 in
theorem cn_X5_rewrite (l : Launch) (dC : Nat → ClassId) (dI : Nat → Nat → Nat) (cI cJ cZ : ClassId) (q_t q_t_numbers q_t_counts : Nat) (sz : Nat) (v_t_size : Int32) (f_t_numbers : (Nat → Int32)) (f_t_counts : (Nat → Int32)) (p1 : Int32) (p2 : Int32) (r_f_t_numbers : (Nat → Int32)) (r_f_t_counts : (Nat → Int32)) (h : X5_rewrite v_t_size f_t_numbers f_t_counts p1 p2 = some (r_f_t_numbers, r_f_t_counts)) : Met l yX5_rewrite wsX5_rewrite rm_X5_rewrite (pcW dC dI cI cJ cZ [(q_t, .inr (5, [.ref q_t_numbers, .ref q_t_counts, .int v_t_size])), (q_t_numbers, .inl (cI, 9, .inl f_t_numbers)), (q_t_counts, .inl (cI, 10, .inl f_t_counts))] sz [.ref q_t, .int p1, .int p2]) (va_Qv (fun (_ : Unit) => True) (bW dC dI (va_A [(q_t, .inr (5, [.ref q_t_numbers, .ref q_t_counts, .int v_t_size])), (q_t_numbers, .inl (cI, 9, .inl f_t_numbers)), (q_t_counts, .inl (cI, 10, .inl f_t_counts))] sz) [(q_t, .inr (5, [.ref q_t_numbers, .ref q_t_counts, .int v_t_size])), (q_t_numbers, .inl (cI, 9, .inl r_f_t_numbers)), (q_t_counts, .inl (cI, 10, .inl r_f_t_counts))]) (va_A [(q_t, .inr (5, [.ref q_t_numbers, .ref q_t_counts, .int v_t_size])), (q_t_numbers, .inl (cI, 9, .inl f_t_numbers)), (q_t_counts, .inl (cI, 10, .inl f_t_counts))] sz)) 0 0 (va_A [(q_t, .inr (5, [.ref q_t_numbers, .ref q_t_counts, .int v_t_size])), (q_t_numbers, .inl (cI, 9, .inl f_t_numbers)), (q_t_counts, .inl (cI, 10, .inl f_t_counts))] sz) := by
  refine Met.ofW (cc := cX5_rewrite) (maxL := 3) (ret := none) (by decide) rfl ?_
  intro p e s m args below meth c s₁ B hml hv
  obtain ⟨rfl, hsz, hP, hKK, hD0⟩ := hv
  have hx := B.exec
  have hb := B.bytes
  have hr := B.returns
  have hts := atoms_spec (ws := wsX5_rewrite) B.pre
  have hown : s.vm.findClass RX5 = some m.cls := findClass_of_methodNamed B.named
  have hlocks := B.notSynchronized
  have hK := hKK.1
  subst hsz
  have hD := hD0.self (sz := s.heap.size)
  generalize hAe : va_A [(q_t, .inr (5, [.ref q_t_numbers, .ref q_t_counts, .int v_t_size])), (q_t_numbers, .inl (cI, 9, .inl f_t_numbers)), (q_t_counts, .inl (cI, 10, .inl f_t_counts))] s.heap.size = A at hD ⊢
  have hA : ∀ q : Nat, s.heap.size ≤ q → A q := fun q h => by rw [← hAe]; exact Or.inr h
  have hS : va_S A s.heap s.heap [] := va_S.rf
  have hl := lv_entry ([.ref q_t, .int p1, .int p2]) (n := 3) (Nat.le_of_ble_eq_true rfl)
  rw [lg_entry_eq]
  generalize (lg_sl ([.ref q_t, .int p1, .int p2]) ++ List.replicate (3 - (lg_sl ([.ref q_t, .int p1, .int p2])).length) Slot.unset).toArray = ls at hl ⊢
  have hl : lv_has ls 3 [(0, .ref q_t), (1, .int p1), (2, .int p2)] := hl
  unfold X5_rewrite at h
  obtain ⟨H, hHe⟩ : ∃ H, H = s.heap := ⟨_, rfl⟩
  obtain ⟨locs, hLe⟩ : ∃ x : List Loc, x = [] := ⟨_, rfl⟩
  rw [← hHe] at hP
  have hS : va_S A s.heap H locs := by rw [hHe, hLe]; exact hS
  suffices hW : W p l e (headSpec wsX5_rewrite rm_X5_rewrite).room s m ([.ref q_t, .int p1, .int p2] : List Value).toArray below meth c H locs 0 0 (MQ below (va_Qv (fun (_ : Unit) => True) (bW dC dI A [(q_t, .inr (5, [.ref q_t_numbers, .ref q_t_counts, .int v_t_size])), (q_t_numbers, .inl (cI, 9, .inl r_f_t_numbers)), (q_t_counts, .inl (cI, 10, .inl r_f_t_counts))]) A) ([.ref q_t, .int p1, .int p2] : List Value).toArray s 0 0 A) (F0 m 0 ls []) by rw [hHe, hLe] at hW; exact hW
  refine lv_aload_n hx hb dX5_rewrite_0 rfl (lv_at hl 0 rfl) ?_
  refine lv_iload_n hx hb dX5_rewrite_1 rfl (lv_at hl 1 rfl) ?_
  refine kRz (res := (X5_has v_t_size p1)) (va_runV (As := [.int p1]) (rest := []) ⟨hx, hb, hml, hown, hts⟩ (cn_X5_has l dC dI cI cJ cZ q_t q_t_numbers q_t_counts  v_t_size p1 (X5_has v_t_size p1) rfl) (cwV 1 hts gX5_rewrite_X5_has rfl rfl rfl (by decide +kernel) ⟨Nat.le_of_ble_eq_true rfl, Nat.le_of_ble_eq_true rfl⟩) (preR hKK (hP.sub (ws' := [(q_t, .inr (5, [.ref q_t_numbers, .ref q_t_counts, .int v_t_size]))]) [0] rfl) (ci := 5) (q0 := 0) rfl rfl) rfl rfl hl.1 rfl (lv_room (Nat.le_of_ble_eq_true rfl)) dX5_rewrite_2 ⟨Nat.zero_le _, Nat.zero_le _⟩) (fun hz1 => ?_)
  refine lv_if_eq (tgt := 47) hx hb dX5_rewrite_5 (by decide) (fun c2 => ?_) (fun c2 => ?_)
  · replace h := ite_t h c2
    replace h := Option.some.inj h
    obtain ⟨e1, e2⟩ := pr2 h
    exact W.vret hx hb hr (fun t ht hW => ⟨⟨(), rfl, trivial, (by rw [ht, ← e1, ← e2]; exact hP), (by rw [← e1, ← e2]; exact hD)⟩, hS.F ht⟩) hS.2.2 dX5_rewrite_47
  replace h := ite_f h c2
  refine lv_iload_n hx hb dX5_rewrite_8 rfl (lv_at hl 2 rfl) ?_
  refine kRz (res := (X10_isNumber p2)) (va_runSN (As := [.int p2]) (rest := []) ⟨hx, hb, hml, hown, hts⟩ (cn_X10_isNumber l dC dI cI cJ cZ    p2 (X10_isNumber p2) rfl) ⟨va_cnB 1 hts gX5_rewrite_X10_isNumber_n26 rfl rfl rfl (hKK.nw 13 rfl) (hts (.initialized RX10) (List.mem_of_getElem? (i := 10) rfl)) (by decide +kernel) ⟨Nat.le_of_ble_eq_true rfl, Nat.le_of_ble_eq_true rfl⟩, hts (.static yX10_isNumber) (List.mem_of_getElem? (i := 9) rfl), trivial⟩ (preRS hKK (hP.sub (ws' := []) [] rfl)) rfl rfl hl.1 rfl (lv_room (Nat.le_of_ble_eq_true rfl)) dX5_rewrite_9 ⟨Nat.zero_le _, Nat.zero_le _⟩) (fun hz3 => ?_)
  refine lv_if_eq (tgt := 47) hx hb dX5_rewrite_12 (by decide) (fun c4 => ?_) (fun c4 => ?_)
  · replace h := ite_t h c4
    replace h := Option.some.inj h
    obtain ⟨e1, e2⟩ := pr2 h
    exact W.vret hx hb hr (fun t ht hW => ⟨⟨(), rfl, trivial, (by rw [ht, ← e1, ← e2]; exact hP), (by rw [← e1, ← e2]; exact hD)⟩, hS.F ht⟩) hS.2.2 dX5_rewrite_47
  replace h := ite_f h c4
  refine lv_aload_n hx hb dX5_rewrite_15 rfl (lv_at hl 0 rfl) ?_
  refine va_get (D := (dC, dI)) (ci := 5) (v := .ref q_t_counts) (C := RX5) (T := TX5) (N := 3) hx hb hts in_X5_rewrite_X5 hown hK hP 0 rfl rfl 1 (by decide) (hts (.fieldLink RX5 15 "RightIfAsMany$People" "counts" "[I") (List.mem_of_getElem? (i := 1) rfl)) (fun _ h9 => h9) rfl dX5_rewrite_16 ?_
  refine lv_aload_n hx hb dX5_rewrite_19 rfl (lv_at hl 0 rfl) ?_
  refine va_get (D := (dC, dI)) (ci := 5) (v := .ref q_t_numbers) (C := RX5) (T := TX5) (N := 3) hx hb hts in_X5_rewrite_X5 hown hK hP 0 rfl rfl 0 (by decide) (hts (.fieldLink RX5 9 "RightIfAsMany$People" "numbers" "[I") (List.mem_of_getElem? (i := 2) rfl)) (fun _ h9 => h9) rfl dX5_rewrite_20 ?_
  refine lv_iload_n hx hb dX5_rewrite_23 rfl (lv_at hl 1 rfl) ?_
  obtain ⟨hg5, h⟩ := grd_s h
  refine va_iald hx hb hK hP 1 0 rfl rfl hg5 dX5_rewrite_24 ?_
  refine lv_dup2_11 hx hb dX5_rewrite_25 rfl rfl ?_
  obtain ⟨hg6, h⟩ := grd_s h
  refine va_iald hx hb hK hP 2 0 rfl rfl hg6 dX5_rewrite_26 ?_
  refine lv_iconst (v := (1 : Int32)) hx hb dX5_rewrite_27 (by decide) ?_
  refine lv_isub hx hb dX5_rewrite_28 ?_
  obtain ⟨hg7, h⟩ := grd_s h
  refine va_iast hx hb hK hP hD hS 2 0 rfl rfl hg7 dX5_rewrite_29 (fun H locs hP hD hS => ?_)
  have hP : va_P (dC, dI) vwCl [(q_t, .inr (5, [.ref q_t_numbers, .ref q_t_counts, .int v_t_size])), (q_t_numbers, .inl (cI, 9, .inl f_t_numbers)), (q_t_counts, .inl (cI, 10, .inl (upd f_t_counts (f_t_numbers p1.toNatClampNeg).toNatClampNeg ((f_t_counts (f_t_numbers p1.toNatClampNeg).toNatClampNeg) - (1 : Int32)))))] H := hP
  have hD : va_D A [(q_t, .inr (5, [.ref q_t_numbers, .ref q_t_counts, .int v_t_size])), (q_t_numbers, .inl (cI, 9, .inl f_t_numbers)), (q_t_counts, .inl (cI, 10, .inl (upd f_t_counts (f_t_numbers p1.toNatClampNeg).toNatClampNeg ((f_t_counts (f_t_numbers p1.toNatClampNeg).toNatClampNeg) - (1 : Int32)))))] := hD
  refine lv_aload_n hx hb dX5_rewrite_30 rfl (lv_at hl 0 rfl) ?_
  refine va_get (D := (dC, dI)) (ci := 5) (v := .ref q_t_counts) (C := RX5) (T := TX5) (N := 3) hx hb hts in_X5_rewrite_X5 hown hK hP 0 rfl rfl 1 (by decide) (hts (.fieldLink RX5 15 "RightIfAsMany$People" "counts" "[I") (List.mem_of_getElem? (i := 1) rfl)) (fun _ h9 => h9) rfl dX5_rewrite_31 ?_
  refine lv_iload_n hx hb dX5_rewrite_34 rfl (lv_at hl 2 rfl) ?_
  refine lv_dup2_11 hx hb dX5_rewrite_35 rfl rfl ?_
  obtain ⟨hg8, h⟩ := grd_s h
  refine va_iald hx hb hK hP 2 0 rfl rfl hg8 dX5_rewrite_36 ?_
  refine lv_iconst (v := (1 : Int32)) hx hb dX5_rewrite_37 (by decide) ?_
  refine lv_iadd hx hb dX5_rewrite_38 ?_
  obtain ⟨hg9, h⟩ := grd_s h
  refine va_iast hx hb hK hP hD hS 2 0 rfl rfl hg9 dX5_rewrite_39 (fun H locs hP hD hS => ?_)
  have hP : va_P (dC, dI) vwCl [(q_t, .inr (5, [.ref q_t_numbers, .ref q_t_counts, .int v_t_size])), (q_t_numbers, .inl (cI, 9, .inl f_t_numbers)), (q_t_counts, .inl (cI, 10, .inl (upd (upd f_t_counts (f_t_numbers p1.toNatClampNeg).toNatClampNeg ((f_t_counts (f_t_numbers p1.toNatClampNeg).toNatClampNeg) - (1 : Int32))) p2.toNatClampNeg (((upd f_t_counts (f_t_numbers p1.toNatClampNeg).toNatClampNeg ((f_t_counts (f_t_numbers p1.toNatClampNeg).toNatClampNeg) - (1 : Int32))) p2.toNatClampNeg) + (1 : Int32)))))] H := hP
  have hD : va_D A [(q_t, .inr (5, [.ref q_t_numbers, .ref q_t_counts, .int v_t_size])), (q_t_numbers, .inl (cI, 9, .inl f_t_numbers)), (q_t_counts, .inl (cI, 10, .inl (upd (upd f_t_counts (f_t_numbers p1.toNatClampNeg).toNatClampNeg ((f_t_counts (f_t_numbers p1.toNatClampNeg).toNatClampNeg) - (1 : Int32))) p2.toNatClampNeg (((upd f_t_counts (f_t_numbers p1.toNatClampNeg).toNatClampNeg ((f_t_counts (f_t_numbers p1.toNatClampNeg).toNatClampNeg) - (1 : Int32))) p2.toNatClampNeg) + (1 : Int32)))))] := hD
  refine lv_aload_n hx hb dX5_rewrite_40 rfl (lv_at hl 0 rfl) ?_
  refine va_get (D := (dC, dI)) (ci := 5) (v := .ref q_t_numbers) (C := RX5) (T := TX5) (N := 3) hx hb hts in_X5_rewrite_X5 hown hK hP 0 rfl rfl 0 (by decide) (hts (.fieldLink RX5 9 "RightIfAsMany$People" "numbers" "[I") (List.mem_of_getElem? (i := 2) rfl)) (fun _ h9 => h9) rfl dX5_rewrite_41 ?_
  refine lv_iload_n hx hb dX5_rewrite_44 rfl (lv_at hl 1 rfl) ?_
  refine lv_iload_n hx hb dX5_rewrite_45 rfl (lv_at hl 2 rfl) ?_
  obtain ⟨hg10, h⟩ := grd_s h
  refine va_iast hx hb hK hP hD hS 1 0 rfl rfl hg10 dX5_rewrite_46 (fun H locs hP hD hS => ?_)
  have hP : va_P (dC, dI) vwCl [(q_t, .inr (5, [.ref q_t_numbers, .ref q_t_counts, .int v_t_size])), (q_t_numbers, .inl (cI, 9, .inl (upd f_t_numbers p1.toNatClampNeg p2))), (q_t_counts, .inl (cI, 10, .inl (upd (upd f_t_counts (f_t_numbers p1.toNatClampNeg).toNatClampNeg ((f_t_counts (f_t_numbers p1.toNatClampNeg).toNatClampNeg) - (1 : Int32))) p2.toNatClampNeg (((upd f_t_counts (f_t_numbers p1.toNatClampNeg).toNatClampNeg ((f_t_counts (f_t_numbers p1.toNatClampNeg).toNatClampNeg) - (1 : Int32))) p2.toNatClampNeg) + (1 : Int32)))))] H := hP
  have hD : va_D A [(q_t, .inr (5, [.ref q_t_numbers, .ref q_t_counts, .int v_t_size])), (q_t_numbers, .inl (cI, 9, .inl (upd f_t_numbers p1.toNatClampNeg p2))), (q_t_counts, .inl (cI, 10, .inl (upd (upd f_t_counts (f_t_numbers p1.toNatClampNeg).toNatClampNeg ((f_t_counts (f_t_numbers p1.toNatClampNeg).toNatClampNeg) - (1 : Int32))) p2.toNatClampNeg (((upd f_t_counts (f_t_numbers p1.toNatClampNeg).toNatClampNeg ((f_t_counts (f_t_numbers p1.toNatClampNeg).toNatClampNeg) - (1 : Int32))) p2.toNatClampNeg) + (1 : Int32)))))] := hD
  replace h := Option.some.inj h
  obtain ⟨e1, e2⟩ := pr2 h
  exact W.vret hx hb hr (fun t ht hW => ⟨⟨(), rfl, trivial, (by rw [ht, ← e1, ← e2]; exact hP), (by rw [← e1, ← e2]; exact hD)⟩, hS.F ht⟩) hS.2.2 dX5_rewrite_47
