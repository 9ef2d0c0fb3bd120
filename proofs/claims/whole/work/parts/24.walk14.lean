/-! walks, by program: X10_leftOfPot X10_count X11_in X11_write X11_wipe -/
abbrev rm_X10_leftOfPot : Room := { frames := 4, cells := 0, slots := 0, locals := 89 }
theorem in_X10_leftOfPot_X5 : ∀ w ∈ wsX50, w ∈ wsX10_leftOfPot := fun _ h => List.mem_cons_of_mem _ (List.mem_append_right _ h)
theorem in_X10_leftOfPot_X8 : ∀ w ∈ wsX80, w ∈ wsX10_leftOfPot := fun _ h => List.mem_cons_of_mem _ (List.mem_append_left _ (List.mem_append_right _ h))
theorem in_X10_leftOfPot_X10 : ∀ w ∈ wsX100, w ∈ wsX10_leftOfPot := fun _ h => List.mem_cons_of_mem _ (List.mem_append_left _ (List.mem_append_left _ (List.mem_append_right _ h)))
set_option maxHeartbeats 4000000 in
set_option maxRecDepth 100000 in
theorem cn_X10_leftOfPot (l : Launch) (dC : Nat → ClassId) (dI : Nat → Nat → Nat) (cI cJ cZ : ClassId) (q_t q_t_text q_t_reader q_t_rules q_t_people q_t_memory q_t_rows q_t_chances q_t_moves q_t_payments q_t_evenings q_t_people_numbers q_t_people_counts : Nat) (v_t_rules_law : Int32) (v_t_rules_share : Int32) (v_t_rules_pot : Int32) (v_t_rules_barred : Int32) (v_t_people_size : Int32) (f_t_people_numbers : (Nat → Int32)) (f_t_people_counts : (Nat → Int32)) (res : Int32) (h : X10_leftOfPot v_t_rules_law v_t_rules_share v_t_rules_pot v_t_people_size f_t_people_numbers f_t_people_counts = some res) : Met l yX10_leftOfPot wsX10_leftOfPot rm_X10_leftOfPot (pcR dC dI cI cJ cZ [(q_t, .inr (10, [.ref q_t_text, .ref q_t_reader, .ref q_t_rules, .ref q_t_people, .ref q_t_memory, .ref q_t_rows, .ref q_t_chances, .ref q_t_moves, .ref q_t_payments, .ref q_t_evenings])), (q_t_rules, .inr (8, [.int v_t_rules_law, .int v_t_rules_share, .int v_t_rules_pot, .int v_t_rules_barred])), (q_t_people, .inr (5, [.ref q_t_people_numbers, .ref q_t_people_counts, .int v_t_people_size])), (q_t_people_numbers, .inl (cI, 9, .inl f_t_people_numbers)), (q_t_people_counts, .inl (cI, 10, .inl f_t_people_counts))] [.ref q_t]) (vp_Si (fun r => r = res)) 0 0 (fun _ => False) := by
  refine Met.ofW (cc := cX10_leftOfPot) (maxL := 3) (ret := (some .int)) (by decide) rfl ?_
  intro p e s m args below meth c s₁ B hml hv
  obtain ⟨rfl, hP, hKK⟩ := hv
  have hx := B.exec
  have hb := B.bytes
  have hr := B.returns
  have hts := atoms_spec (ws := wsX10_leftOfPot) B.pre
  have hown : s.vm.findClass RX10 = some m.cls := findClass_of_methodNamed B.named
  have hlocks := B.notSynchronized
  have hK := hKK.1
  have hl := lv_entry ([.ref q_t]) (n := 3) (Nat.le_of_ble_eq_true rfl)
  rw [lg_entry_eq]
  generalize (lg_sl ([.ref q_t]) ++ List.replicate (3 - (lg_sl ([.ref q_t])).length) Slot.unset).toArray = ls at hl ⊢
  have hl : lv_has ls 3 [(0, .ref q_t)] := hl
  have L_10 : ∀ (n10 : Nat) , ∀  (x1 : Int32) (x2 : Int32), X10_leftOfPot_b10 n10 v_t_rules_law v_t_rules_share v_t_rules_pot v_t_people_size f_t_people_numbers f_t_people_counts x1 x2 = some res → ∀ (ls : Array Slot), lv_has ls 3 [(0, .ref q_t), (1, .int x1), (2, .int x2)] → W p l e (headSpec wsX10_leftOfPot rm_X10_leftOfPot).room s m ([.ref q_t] : List Value).toArray below meth c s.heap [] 0 0 (MQ below (vp_Si (fun r => r = res)) ([.ref q_t] : List Value).toArray s 0 0 (fun _ => False)) (F0 m 10 ls []) := by
    intro n10
    induction n10 with
    | zero => intro x1 x2 h ls hl; exact absurd h (fun h => by cases h)
    | succ n10 ih_10 =>
      intro x1 x2 h ls hl
      replace h : X10_leftOfPot_b10_s (X10_leftOfPot_b10 n10) v_t_rules_law v_t_rules_share v_t_rules_pot v_t_people_size f_t_people_numbers f_t_people_counts x1 x2 = some res := h
      unfold X10_leftOfPot_b10_s at h
      refine lv_iload_n hx hb dX10_leftOfPot_10 rfl (lv_at hl 2 rfl) ?_
      refine lv_aload_n hx hb dX10_leftOfPot_11 rfl (lv_at hl 0 rfl) ?_
      refine va_get (D := (dC, dI)) (ci := 10) (v := .ref q_t_people) (C := RX10) (T := TX10) (N := 10) hx hb hts in_X10_leftOfPot_X10 hown hK hP 0 rfl rfl 3 (by decide) (hts (.fieldLink RX10 33 "RightIfAsMany" "people" "LRightIfAsMany$People;") (List.mem_of_getElem? (i := 2) rfl)) (fun _ h9 => h9) rfl dX10_leftOfPot_12 ?_
      refine kRi (res := (X5_size v_t_people_size)) (va_runV (As := []) (rest := [.int x2]) ⟨hx, hb, hml, hown, hts⟩ (cn_X5_size l dC dI cI cJ cZ q_t_people q_t_people_numbers q_t_people_counts  v_t_people_size  (X5_size v_t_people_size) rfl) (cwV 0 hts gX10_leftOfPot_X5_size rfl rfl rfl (by decide +kernel) ⟨Nat.le_of_ble_eq_true rfl, Nat.le_of_ble_eq_true rfl⟩) (preR hKK (hP.sub (ws' := [(q_t_people, .inr (5, [.ref q_t_people_numbers, .ref q_t_people_counts, .int v_t_people_size]))]) [2] rfl) (ci := 5) (q0 := 0) rfl rfl) rfl rfl hl.1 rfl (lv_room (Nat.le_of_ble_eq_true rfl)) dX10_leftOfPot_15 ⟨Nat.zero_le _, Nat.zero_le _⟩) ?_
      refine lv_icmp_ge (tgt := 35) hx hb dX10_leftOfPot_18 (by decide) (fun c1 => ?_) (fun c1 => ?_)
      · replace h := ite_t h c1
        refine lv_iload_n hx hb dX10_leftOfPot_35 rfl (lv_at hl 1 rfl) ?_
        have e1 := Option.some.inj h
        exact W.iret (v := x1) hx hb hr (fun t ht hW => ⟨_, rfl, e1, ht⟩) (fun q hq => by cases hq) dX10_leftOfPot_36
      replace h := ite_f h c1
      refine lv_iload_n hx hb dX10_leftOfPot_21 rfl (lv_at hl 1 rfl) ?_
      refine lv_aload_n hx hb dX10_leftOfPot_22 rfl (lv_at hl 0 rfl) ?_
      refine lv_iload_n hx hb dX10_leftOfPot_23 rfl (lv_at hl 2 rfl) ?_
      obtain ⟨r2, hc2, h⟩ := bnd1_s h
      refine kRi (res := r2) (va_runV (As := [.int x2]) (rest := [.int x1]) ⟨hx, hb, hml, hown, hts⟩ (cn_X10_gainOf l dC dI cI cJ cZ q_t q_t_text q_t_reader q_t_rules q_t_people q_t_memory q_t_rows q_t_chances q_t_moves q_t_payments q_t_evenings q_t_people_numbers q_t_people_counts  v_t_rules_law v_t_rules_share v_t_rules_pot v_t_rules_barred v_t_people_size f_t_people_numbers f_t_people_counts x2 r2 hc2) (cwV 1 hts gX10_leftOfPot_X10_gainOf rfl rfl rfl (by decide +kernel) ⟨Nat.le_of_ble_eq_true rfl, Nat.le_of_ble_eq_true rfl⟩) (preR hKK (hP.sub (ws' := [(q_t, .inr (10, [.ref q_t_text, .ref q_t_reader, .ref q_t_rules, .ref q_t_people, .ref q_t_memory, .ref q_t_rows, .ref q_t_chances, .ref q_t_moves, .ref q_t_payments, .ref q_t_evenings])), (q_t_rules, .inr (8, [.int v_t_rules_law, .int v_t_rules_share, .int v_t_rules_pot, .int v_t_rules_barred])), (q_t_people, .inr (5, [.ref q_t_people_numbers, .ref q_t_people_counts, .int v_t_people_size])), (q_t_people_numbers, .inl (cI, 9, .inl f_t_people_numbers)), (q_t_people_counts, .inl (cI, 10, .inl f_t_people_counts))]) [0, 1, 2, 3, 4] rfl) (ci := 10) (q0 := 0) rfl rfl) rfl rfl hl.1 rfl (lv_room (Nat.le_of_ble_eq_true rfl)) dX10_leftOfPot_24 ⟨Nat.zero_le _, Nat.zero_le _⟩) ?_
      refine lv_isub hx hb dX10_leftOfPot_27 ?_
      refine lv_istore_n (lv' := [(1, .int (x1 - r2)), (0, .ref q_t), (2, .int x2)]) hx hb dX10_leftOfPot_28 rfl hl (by decide) rfl (fun ls hl => ?_)
      refine lv_iinc (v := (x2 + (1 : Int32))) (lv' := [(2, .int (x2 + (1 : Int32))), (1, .int (x1 - r2)), (0, .ref q_t)]) hx hb dX10_leftOfPot_29 hl (k := 2) rfl rfl (by decide) rfl (fun ls hl => ?_)
      refine lv_goto (tgt := 10) hx hb dX10_leftOfPot_32 (by decide) ?_
      exact ih_10 (x1 - r2) (x2 + (1 : Int32)) h ls (lv_sub hl [2, 1, 0] rfl)
  unfold X10_leftOfPot at h
  refine lv_aload_n hx hb dX10_leftOfPot_0 rfl (lv_at hl 0 rfl) ?_
  refine va_get (D := (dC, dI)) (ci := 10) (v := .ref q_t_rules) (C := RX10) (T := TX10) (N := 10) hx hb hts in_X10_leftOfPot_X10 hown hK hP 0 rfl rfl 2 (by decide) (hts (.fieldLink RX10 26 "RightIfAsMany" "rules" "LRightIfAsMany$Rules;") (List.mem_of_getElem? (i := 1) rfl)) (fun _ h9 => h9) rfl dX10_leftOfPot_1 ?_
  refine kRi (res := (X8_potWhole v_t_rules_pot)) (va_runV (As := []) (rest := []) ⟨hx, hb, hml, hown, hts⟩ (cn_X8_potWhole l dC dI cI cJ cZ q_t_rules  v_t_rules_law v_t_rules_share v_t_rules_pot v_t_rules_barred  (X8_potWhole v_t_rules_pot) rfl) (cwV 0 hts gX10_leftOfPot_X8_potWhole rfl rfl rfl (by decide +kernel) ⟨Nat.le_of_ble_eq_true rfl, Nat.le_of_ble_eq_true rfl⟩) (preR hKK (hP.sub (ws' := [(q_t_rules, .inr (8, [.int v_t_rules_law, .int v_t_rules_share, .int v_t_rules_pot, .int v_t_rules_barred]))]) [1] rfl) (ci := 8) (q0 := 0) rfl rfl) rfl rfl hl.1 rfl (lv_room (Nat.le_of_ble_eq_true rfl)) dX10_leftOfPot_4 ⟨Nat.zero_le _, Nat.zero_le _⟩) ?_
  refine lv_istore_n (lv' := [(1, .int (X8_potWhole v_t_rules_pot)), (0, .ref q_t)]) hx hb dX10_leftOfPot_7 rfl hl (by decide) rfl (fun ls hl => ?_)
  refine lv_iconst (v := (0 : Int32)) hx hb dX10_leftOfPot_8 (by decide) ?_
  refine lv_istore_n (lv' := [(2, .int (0 : Int32)), (1, .int (X8_potWhole v_t_rules_pot)), (0, .ref q_t)]) hx hb dX10_leftOfPot_9 rfl hl (by decide) rfl (fun ls hl => ?_)
  exact L_10 fU (X8_potWhole v_t_rules_pot) (0 : Int32) h ls (lv_sub hl [2, 1, 0] rfl)
abbrev rm_X10_count : Room := { frames := 5, cells := 0, slots := 0, locals := 111 }
theorem in_X10_count_X4 : ∀ w ∈ wsX40, w ∈ wsX10_count := fun _ h => List.mem_cons_of_mem _ (List.mem_append_right _ h)
theorem in_X10_count_X2 : ∀ w ∈ wsX20, w ∈ wsX10_count := fun _ h => List.mem_cons_of_mem _ (List.mem_append_left _ (List.mem_append_right _ h))
theorem in_X10_count_X8 : ∀ w ∈ wsX80, w ∈ wsX10_count := fun _ h => List.mem_cons_of_mem _ (List.mem_append_left _ (List.mem_append_left _ (List.mem_append_right _ h)))
theorem in_X10_count_X5 : ∀ w ∈ wsX50, w ∈ wsX10_count := fun _ h => List.mem_cons_of_mem _ (List.mem_append_left _ (List.mem_append_left _ (List.mem_append_left _ (List.mem_append_right _ h))))
theorem in_X10_count_X9 : ∀ w ∈ wsX90, w ∈ wsX10_count := fun _ h => List.mem_cons_of_mem _ (List.mem_append_left _ (List.mem_append_left _ (List.mem_append_left _ (List.mem_append_left _ (List.mem_append_right _ h)))))
theorem in_X10_count_X10 : ∀ w ∈ wsX100, w ∈ wsX10_count := fun _ h => List.mem_cons_of_mem _ (List.mem_append_left _ (List.mem_append_left _ (List.mem_append_left _ (List.mem_append_left _ (List.mem_append_left _ (List.mem_append_right _ h))))))
set_option maxHeartbeats 4000000 in
set_option maxRecDepth 100000 in
theorem cn_X10_count (l : Launch) (dC : Nat → ClassId) (dI : Nat → Nat → Nat) (cI cJ cZ : ClassId) (q_t q_t_text q_t_reader q_t_rules q_t_people q_t_memory q_t_rows q_t_chances q_t_moves q_t_payments q_t_evenings q_t_text_bytes q_t_people_numbers q_t_people_counts q_t_memory_row q_t_memory_slots q_t_payments_last : Nat) (v_t_text_length : Int32) (v_t_rules_law : Int32) (v_t_rules_share : Int32) (v_t_rules_pot : Int32) (v_t_rules_barred : Int32) (v_t_people_size : Int32) (f_t_people_numbers : (Nat → Int32)) (f_t_people_counts : (Nat → Int32)) (v_t_memory_acts : Int32) (v_t_payments_told : Int32) (p1 : Int32) (res : Int32) (h : X10_count v_t_text_length v_t_rules_law v_t_rules_share v_t_rules_pot v_t_rules_barred v_t_people_size f_t_people_numbers f_t_people_counts v_t_memory_acts v_t_payments_told p1 = some res) : Met l yX10_count wsX10_count rm_X10_count (pcR dC dI cI cJ cZ [(q_t, .inr (10, [.ref q_t_text, .ref q_t_reader, .ref q_t_rules, .ref q_t_people, .ref q_t_memory, .ref q_t_rows, .ref q_t_chances, .ref q_t_moves, .ref q_t_payments, .ref q_t_evenings])), (q_t_text, .inr (9, [.ref q_t_text_bytes, .int v_t_text_length])), (q_t_rules, .inr (8, [.int v_t_rules_law, .int v_t_rules_share, .int v_t_rules_pot, .int v_t_rules_barred])), (q_t_people, .inr (5, [.ref q_t_people_numbers, .ref q_t_people_counts, .int v_t_people_size])), (q_t_people_numbers, .inl (cI, 9, .inl f_t_people_numbers)), (q_t_people_counts, .inl (cI, 10, .inl f_t_people_counts)), (q_t_memory, .inr (2, [.ref q_t_memory_row, .ref q_t_memory_slots, .int v_t_memory_acts])), (q_t_payments, .inr (4, [.ref q_t_payments_last, .int v_t_payments_told]))] [.ref q_t, .int p1]) (vp_Si (fun r => r = res)) 0 0 (fun _ => False) := by
  refine Met.ofW (cc := cX10_count) (maxL := 2) (ret := (some .int)) (by decide) rfl ?_
  intro p e s m args below meth c s₁ B hml hv
  obtain ⟨rfl, hP, hKK⟩ := hv
  have hx := B.exec
  have hb := B.bytes
  have hr := B.returns
  have hts := atoms_spec (ws := wsX10_count) B.pre
  have hown : s.vm.findClass RX10 = some m.cls := findClass_of_methodNamed B.named
  have hlocks := B.notSynchronized
  have hK := hKK.1
  have hl := lv_entry ([.ref q_t, .int p1]) (n := 2) (Nat.le_of_ble_eq_true rfl)
  rw [lg_entry_eq]
  generalize (lg_sl ([.ref q_t, .int p1]) ++ List.replicate (2 - (lg_sl ([.ref q_t, .int p1])).length) Slot.unset).toArray = ls at hl ⊢
  have hl : lv_has ls 2 [(0, .ref q_t), (1, .int p1)] := hl
  unfold X10_count at h
  refine lv_iload_n hx hb dX10_count_0 rfl (lv_at hl 1 rfl) ?_
  by_cases c1 : p1 = (0 : Int32)
  · replace h := ite_t h c1
    refine lv_tableIn (off := 55) (tgt := 56) hx hb dX10_count_1 (by rw [c1]; decide) (by rw [c1]; decide) (by rw [c1]; decide) (by decide) ?_
    refine lv_aload_n hx hb dX10_count_56 rfl (lv_at hl 0 rfl) ?_
    refine va_get (D := (dC, dI)) (ci := 10) (v := .ref q_t_text) (C := RX10) (T := TX10) (N := 10) hx hb hts in_X10_count_X10 hown hK hP 0 rfl rfl 0 (by decide) (hts (.fieldLink RX10 10 "RightIfAsMany" "text" "LRightIfAsMany$Text;") (List.mem_of_getElem? (i := 1) rfl)) (fun _ h9 => h9) rfl dX10_count_57 ?_
    refine kRi (res := (X9_length v_t_text_length)) (va_runV (As := []) (rest := []) ⟨hx, hb, hml, hown, hts⟩ (cn_X9_length l dC dI cI cJ cZ q_t_text q_t_text_bytes  v_t_text_length  (X9_length v_t_text_length) rfl) (cwV 0 hts gX10_count_X9_length rfl rfl rfl (by decide +kernel) ⟨Nat.le_of_ble_eq_true rfl, Nat.le_of_ble_eq_true rfl⟩) (preR hKK (hP.sub (ws' := [(q_t_text, .inr (9, [.ref q_t_text_bytes, .int v_t_text_length]))]) [1] rfl) (ci := 9) (q0 := 0) rfl rfl) rfl rfl hl.1 rfl (lv_room (Nat.le_of_ble_eq_true rfl)) dX10_count_60 ⟨Nat.zero_le _, Nat.zero_le _⟩) ?_
    have e1 := Option.some.inj h
    exact W.iret (v := (X9_length v_t_text_length)) hx hb hr (fun t ht hW => ⟨_, rfl, e1, ht⟩) (fun q hq => by cases hq) dX10_count_63
  replace h := ite_f h c1
  by_cases c2 : p1 = (1 : Int32)
  · replace h := ite_t h c2
    refine lv_tableIn (off := 63) (tgt := 64) hx hb dX10_count_1 (by rw [c2]; decide) (by rw [c2]; decide) (by rw [c2]; decide) (by decide) ?_
    refine lv_aload_n hx hb dX10_count_64 rfl (lv_at hl 0 rfl) ?_
    refine va_get (D := (dC, dI)) (ci := 10) (v := .ref q_t_people) (C := RX10) (T := TX10) (N := 10) hx hb hts in_X10_count_X10 hown hK hP 0 rfl rfl 3 (by decide) (hts (.fieldLink RX10 33 "RightIfAsMany" "people" "LRightIfAsMany$People;") (List.mem_of_getElem? (i := 2) rfl)) (fun _ h9 => h9) rfl dX10_count_65 ?_
    refine kRi (res := (X5_size v_t_people_size)) (va_runV (As := []) (rest := []) ⟨hx, hb, hml, hown, hts⟩ (cn_X5_size l dC dI cI cJ cZ q_t_people q_t_people_numbers q_t_people_counts  v_t_people_size  (X5_size v_t_people_size) rfl) (cwV 0 hts gX10_count_X5_size rfl rfl rfl (by decide +kernel) ⟨Nat.le_of_ble_eq_true rfl, Nat.le_of_ble_eq_true rfl⟩) (preR hKK (hP.sub (ws' := [(q_t_people, .inr (5, [.ref q_t_people_numbers, .ref q_t_people_counts, .int v_t_people_size]))]) [3] rfl) (ci := 5) (q0 := 0) rfl rfl) rfl rfl hl.1 rfl (lv_room (Nat.le_of_ble_eq_true rfl)) dX10_count_68 ⟨Nat.zero_le _, Nat.zero_le _⟩) ?_
    have e1 := Option.some.inj h
    exact W.iret (v := (X5_size v_t_people_size)) hx hb hr (fun t ht hW => ⟨_, rfl, e1, ht⟩) (fun q hq => by cases hq) dX10_count_71
  replace h := ite_f h c2
  by_cases c3 : p1 = (2 : Int32)
  · replace h := ite_t h c3
    refine lv_tableIn (off := 71) (tgt := 72) hx hb dX10_count_1 (by rw [c3]; decide) (by rw [c3]; decide) (by rw [c3]; decide) (by decide) ?_
    refine lv_aload_n hx hb dX10_count_72 rfl (lv_at hl 0 rfl) ?_
    obtain ⟨r4, hc4, h⟩ := bnd1_s h
    refine kRi (res := r4) (va_runV (As := []) (rest := []) ⟨hx, hb, hml, hown, hts⟩ (cn_X10_rightBits l dC dI cI cJ cZ q_t q_t_text q_t_reader q_t_rules q_t_people q_t_memory q_t_rows q_t_chances q_t_moves q_t_payments q_t_evenings q_t_people_numbers q_t_people_counts  v_t_rules_law v_t_rules_share v_t_rules_pot v_t_rules_barred v_t_people_size f_t_people_numbers f_t_people_counts  r4 hc4) (cwV 0 hts gX10_count_X10_rightBits rfl rfl rfl (by decide +kernel) ⟨Nat.le_of_ble_eq_true rfl, Nat.le_of_ble_eq_true rfl⟩) (preR hKK (hP.sub (ws' := [(q_t, .inr (10, [.ref q_t_text, .ref q_t_reader, .ref q_t_rules, .ref q_t_people, .ref q_t_memory, .ref q_t_rows, .ref q_t_chances, .ref q_t_moves, .ref q_t_payments, .ref q_t_evenings])), (q_t_rules, .inr (8, [.int v_t_rules_law, .int v_t_rules_share, .int v_t_rules_pot, .int v_t_rules_barred])), (q_t_people, .inr (5, [.ref q_t_people_numbers, .ref q_t_people_counts, .int v_t_people_size])), (q_t_people_numbers, .inl (cI, 9, .inl f_t_people_numbers)), (q_t_people_counts, .inl (cI, 10, .inl f_t_people_counts))]) [0, 2, 3, 4, 5] rfl) (ci := 10) (q0 := 0) rfl rfl) rfl rfl hl.1 rfl (lv_room (Nat.le_of_ble_eq_true rfl)) dX10_count_73 ⟨Nat.zero_le _, Nat.zero_le _⟩) ?_
    have e1 := Option.some.inj h
    exact W.iret (v := r4) hx hb hr (fun t ht hW => ⟨_, rfl, e1, ht⟩) (fun q hq => by cases hq) dX10_count_76
  replace h := ite_f h c3
  by_cases c5 : p1 = (3 : Int32)
  · replace h := ite_t h c5
    refine lv_tableIn (off := 76) (tgt := 77) hx hb dX10_count_1 (by rw [c5]; decide) (by rw [c5]; decide) (by rw [c5]; decide) (by decide) ?_
    refine lv_aload_n hx hb dX10_count_77 rfl (lv_at hl 0 rfl) ?_
    refine va_get (D := (dC, dI)) (ci := 10) (v := .ref q_t_rules) (C := RX10) (T := TX10) (N := 10) hx hb hts in_X10_count_X10 hown hK hP 0 rfl rfl 2 (by decide) (hts (.fieldLink RX10 26 "RightIfAsMany" "rules" "LRightIfAsMany$Rules;") (List.mem_of_getElem? (i := 3) rfl)) (fun _ h9 => h9) rfl dX10_count_78 ?_
    refine kRi (res := (X8_barredBits v_t_rules_barred)) (va_runV (As := []) (rest := []) ⟨hx, hb, hml, hown, hts⟩ (cn_X8_barredBits l dC dI cI cJ cZ q_t_rules  v_t_rules_law v_t_rules_share v_t_rules_pot v_t_rules_barred  (X8_barredBits v_t_rules_barred) rfl) (cwV 0 hts gX10_count_X8_barredBits rfl rfl rfl (by decide +kernel) ⟨Nat.le_of_ble_eq_true rfl, Nat.le_of_ble_eq_true rfl⟩) (preR hKK (hP.sub (ws' := [(q_t_rules, .inr (8, [.int v_t_rules_law, .int v_t_rules_share, .int v_t_rules_pot, .int v_t_rules_barred]))]) [2] rfl) (ci := 8) (q0 := 0) rfl rfl) rfl rfl hl.1 rfl (lv_room (Nat.le_of_ble_eq_true rfl)) dX10_count_81 ⟨Nat.zero_le _, Nat.zero_le _⟩) ?_
    have e1 := Option.some.inj h
    exact W.iret (v := (X8_barredBits v_t_rules_barred)) hx hb hr (fun t ht hW => ⟨_, rfl, e1, ht⟩) (fun q hq => by cases hq) dX10_count_84
  replace h := ite_f h c5
  by_cases c6 : p1 = (4 : Int32)
  · replace h := ite_t h c6
    refine lv_tableIn (off := 84) (tgt := 85) hx hb dX10_count_1 (by rw [c6]; decide) (by rw [c6]; decide) (by rw [c6]; decide) (by decide) ?_
    refine lv_aload_n hx hb dX10_count_85 rfl (lv_at hl 0 rfl) ?_
    refine va_get (D := (dC, dI)) (ci := 10) (v := .ref q_t_memory) (C := RX10) (T := TX10) (N := 10) hx hb hts in_X10_count_X10 hown hK hP 0 rfl rfl 4 (by decide) (hts (.fieldLink RX10 40 "RightIfAsMany" "memory" "LRightIfAsMany$Memory;") (List.mem_of_getElem? (i := 4) rfl)) (fun _ h9 => h9) rfl dX10_count_86 ?_
    refine kRi (res := (X2_acts v_t_memory_acts)) (va_runV (As := []) (rest := []) ⟨hx, hb, hml, hown, hts⟩ (cn_X2_acts l dC dI cI cJ cZ q_t_memory q_t_memory_row q_t_memory_slots  v_t_memory_acts  (X2_acts v_t_memory_acts) rfl) (cwV 0 hts gX10_count_X2_acts rfl rfl rfl (by decide +kernel) ⟨Nat.le_of_ble_eq_true rfl, Nat.le_of_ble_eq_true rfl⟩) (preR hKK (hP.sub (ws' := [(q_t_memory, .inr (2, [.ref q_t_memory_row, .ref q_t_memory_slots, .int v_t_memory_acts]))]) [6] rfl) (ci := 2) (q0 := 0) rfl rfl) rfl rfl hl.1 rfl (lv_room (Nat.le_of_ble_eq_true rfl)) dX10_count_89 ⟨Nat.zero_le _, Nat.zero_le _⟩) ?_
    have e1 := Option.some.inj h
    exact W.iret (v := (X2_acts v_t_memory_acts)) hx hb hr (fun t ht hW => ⟨_, rfl, e1, ht⟩) (fun q hq => by cases hq) dX10_count_92
  replace h := ite_f h c6
  by_cases c7 : p1 = (5 : Int32)
  · replace h := ite_t h c7
    refine lv_tableIn (off := 92) (tgt := 93) hx hb dX10_count_1 (by rw [c7]; decide) (by rw [c7]; decide) (by rw [c7]; decide) (by decide) ?_
    refine lv_aload_n hx hb dX10_count_93 rfl (lv_at hl 0 rfl) ?_
    refine va_get (D := (dC, dI)) (ci := 10) (v := .ref q_t_payments) (C := RX10) (T := TX10) (N := 10) hx hb hts in_X10_count_X10 hown hK hP 0 rfl rfl 8 (by decide) (hts (.fieldLink RX10 68 "RightIfAsMany" "payments" "LRightIfAsMany$Payments;") (List.mem_of_getElem? (i := 5) rfl)) (fun _ h9 => h9) rfl dX10_count_94 ?_
    refine kRi (res := (X4_told v_t_payments_told)) (va_runV (As := []) (rest := []) ⟨hx, hb, hml, hown, hts⟩ (cn_X4_told l dC dI cI cJ cZ q_t_payments q_t_payments_last  v_t_payments_told  (X4_told v_t_payments_told) rfl) (cwV 0 hts gX10_count_X4_told rfl rfl rfl (by decide +kernel) ⟨Nat.le_of_ble_eq_true rfl, Nat.le_of_ble_eq_true rfl⟩) (preR hKK (hP.sub (ws' := [(q_t_payments, .inr (4, [.ref q_t_payments_last, .int v_t_payments_told]))]) [7] rfl) (ci := 4) (q0 := 0) rfl rfl) rfl rfl hl.1 rfl (lv_room (Nat.le_of_ble_eq_true rfl)) dX10_count_97 ⟨Nat.zero_le _, Nat.zero_le _⟩) ?_
    have e1 := Option.some.inj h
    exact W.iret (v := (X4_told v_t_payments_told)) hx hb hr (fun t ht hW => ⟨_, rfl, e1, ht⟩) (fun q hq => by cases hq) dX10_count_100
  replace h := ite_f h c7
  by_cases c8 : p1 = (6 : Int32)
  · replace h := ite_t h c8
    refine lv_tableIn (off := 100) (tgt := 101) hx hb dX10_count_1 (by rw [c8]; decide) (by rw [c8]; decide) (by rw [c8]; decide) (by decide) ?_
    refine lv_aload_n hx hb dX10_count_101 rfl (lv_at hl 0 rfl) ?_
    refine va_get (D := (dC, dI)) (ci := 10) (v := .ref q_t_rules) (C := RX10) (T := TX10) (N := 10) hx hb hts in_X10_count_X10 hown hK hP 0 rfl rfl 2 (by decide) (hts (.fieldLink RX10 26 "RightIfAsMany" "rules" "LRightIfAsMany$Rules;") (List.mem_of_getElem? (i := 3) rfl)) (fun _ h9 => h9) rfl dX10_count_102 ?_
    refine kRi (res := (X8_potWhole v_t_rules_pot)) (va_runV (As := []) (rest := []) ⟨hx, hb, hml, hown, hts⟩ (cn_X8_potWhole l dC dI cI cJ cZ q_t_rules  v_t_rules_law v_t_rules_share v_t_rules_pot v_t_rules_barred  (X8_potWhole v_t_rules_pot) rfl) (cwV 0 hts gX10_count_X8_potWhole rfl rfl rfl (by decide +kernel) ⟨Nat.le_of_ble_eq_true rfl, Nat.le_of_ble_eq_true rfl⟩) (preR hKK (hP.sub (ws' := [(q_t_rules, .inr (8, [.int v_t_rules_law, .int v_t_rules_share, .int v_t_rules_pot, .int v_t_rules_barred]))]) [2] rfl) (ci := 8) (q0 := 0) rfl rfl) rfl rfl hl.1 rfl (lv_room (Nat.le_of_ble_eq_true rfl)) dX10_count_105 ⟨Nat.zero_le _, Nat.zero_le _⟩) ?_
    have e1 := Option.some.inj h
    exact W.iret (v := (X8_potWhole v_t_rules_pot)) hx hb hr (fun t ht hW => ⟨_, rfl, e1, ht⟩) (fun q hq => by cases hq) dX10_count_108
  replace h := ite_f h c8
  by_cases c9 : p1 = (7 : Int32)
  · replace h := ite_t h c9
    refine lv_tableIn (off := 108) (tgt := 109) hx hb dX10_count_1 (by rw [c9]; decide) (by rw [c9]; decide) (by rw [c9]; decide) (by decide) ?_
    refine lv_aload_n hx hb dX10_count_109 rfl (lv_at hl 0 rfl) ?_
    refine va_get (D := (dC, dI)) (ci := 10) (v := .ref q_t_rules) (C := RX10) (T := TX10) (N := 10) hx hb hts in_X10_count_X10 hown hK hP 0 rfl rfl 2 (by decide) (hts (.fieldLink RX10 26 "RightIfAsMany" "rules" "LRightIfAsMany$Rules;") (List.mem_of_getElem? (i := 3) rfl)) (fun _ h9 => h9) rfl dX10_count_110 ?_
    refine kRi (res := (X8_lawKind v_t_rules_law)) (va_runV (As := []) (rest := []) ⟨hx, hb, hml, hown, hts⟩ (cn_X8_lawKind l dC dI cI cJ cZ q_t_rules  v_t_rules_law v_t_rules_share v_t_rules_pot v_t_rules_barred  (X8_lawKind v_t_rules_law) rfl) (cwV 0 hts gX10_count_X8_lawKind rfl rfl rfl (by decide +kernel) ⟨Nat.le_of_ble_eq_true rfl, Nat.le_of_ble_eq_true rfl⟩) (preR hKK (hP.sub (ws' := [(q_t_rules, .inr (8, [.int v_t_rules_law, .int v_t_rules_share, .int v_t_rules_pot, .int v_t_rules_barred]))]) [2] rfl) (ci := 8) (q0 := 0) rfl rfl) rfl rfl hl.1 rfl (lv_room (Nat.le_of_ble_eq_true rfl)) dX10_count_113 ⟨Nat.zero_le _, Nat.zero_le _⟩) ?_
    have e1 := Option.some.inj h
    exact W.iret (v := (X8_lawKind v_t_rules_law)) hx hb hr (fun t ht hW => ⟨_, rfl, e1, ht⟩) (fun q hq => by cases hq) dX10_count_116
  replace h := ite_f h c9
  by_cases c10 : p1 = (8 : Int32)
  · replace h := ite_t h c10
    refine lv_tableIn (off := 116) (tgt := 117) hx hb dX10_count_1 (by rw [c10]; decide) (by rw [c10]; decide) (by rw [c10]; decide) (by decide) ?_
    refine lv_aload_n hx hb dX10_count_117 rfl (lv_at hl 0 rfl) ?_
    refine va_get (D := (dC, dI)) (ci := 10) (v := .ref q_t_rules) (C := RX10) (T := TX10) (N := 10) hx hb hts in_X10_count_X10 hown hK hP 0 rfl rfl 2 (by decide) (hts (.fieldLink RX10 26 "RightIfAsMany" "rules" "LRightIfAsMany$Rules;") (List.mem_of_getElem? (i := 3) rfl)) (fun _ h9 => h9) rfl dX10_count_118 ?_
    refine kRi (res := (X8_shareKind v_t_rules_share)) (va_runV (As := []) (rest := []) ⟨hx, hb, hml, hown, hts⟩ (cn_X8_shareKind l dC dI cI cJ cZ q_t_rules  v_t_rules_law v_t_rules_share v_t_rules_pot v_t_rules_barred  (X8_shareKind v_t_rules_share) rfl) (cwV 0 hts gX10_count_X8_shareKind rfl rfl rfl (by decide +kernel) ⟨Nat.le_of_ble_eq_true rfl, Nat.le_of_ble_eq_true rfl⟩) (preR hKK (hP.sub (ws' := [(q_t_rules, .inr (8, [.int v_t_rules_law, .int v_t_rules_share, .int v_t_rules_pot, .int v_t_rules_barred]))]) [2] rfl) (ci := 8) (q0 := 0) rfl rfl) rfl rfl hl.1 rfl (lv_room (Nat.le_of_ble_eq_true rfl)) dX10_count_121 ⟨Nat.zero_le _, Nat.zero_le _⟩) ?_
    have e1 := Option.some.inj h
    exact W.iret (v := (X8_shareKind v_t_rules_share)) hx hb hr (fun t ht hW => ⟨_, rfl, e1, ht⟩) (fun q hq => by cases hq) dX10_count_124
  replace h := ite_f h c10
  by_cases c11 : p1 = (9 : Int32)
  · replace h := ite_t h c11
    refine lv_tableIn (off := 124) (tgt := 125) hx hb dX10_count_1 (by rw [c11]; decide) (by rw [c11]; decide) (by rw [c11]; decide) (by decide) ?_
    refine lv_aload_n hx hb dX10_count_125 rfl (lv_at hl 0 rfl) ?_
    obtain ⟨r12, hc12, h⟩ := bnd1_s h
    refine kRi (res := r12) (va_runV (As := []) (rest := []) ⟨hx, hb, hml, hown, hts⟩ (cn_X10_leftOfPot l dC dI cI cJ cZ q_t q_t_text q_t_reader q_t_rules q_t_people q_t_memory q_t_rows q_t_chances q_t_moves q_t_payments q_t_evenings q_t_people_numbers q_t_people_counts  v_t_rules_law v_t_rules_share v_t_rules_pot v_t_rules_barred v_t_people_size f_t_people_numbers f_t_people_counts  r12 hc12) (cwV 0 hts gX10_count_X10_leftOfPot rfl rfl rfl (by decide +kernel) ⟨Nat.le_of_ble_eq_true rfl, Nat.le_of_ble_eq_true rfl⟩) (preR hKK (hP.sub (ws' := [(q_t, .inr (10, [.ref q_t_text, .ref q_t_reader, .ref q_t_rules, .ref q_t_people, .ref q_t_memory, .ref q_t_rows, .ref q_t_chances, .ref q_t_moves, .ref q_t_payments, .ref q_t_evenings])), (q_t_rules, .inr (8, [.int v_t_rules_law, .int v_t_rules_share, .int v_t_rules_pot, .int v_t_rules_barred])), (q_t_people, .inr (5, [.ref q_t_people_numbers, .ref q_t_people_counts, .int v_t_people_size])), (q_t_people_numbers, .inl (cI, 9, .inl f_t_people_numbers)), (q_t_people_counts, .inl (cI, 10, .inl f_t_people_counts))]) [0, 2, 3, 4, 5] rfl) (ci := 10) (q0 := 0) rfl rfl) rfl rfl hl.1 rfl (lv_room (Nat.le_of_ble_eq_true rfl)) dX10_count_126 ⟨Nat.zero_le _, Nat.zero_le _⟩) ?_
    have e1 := Option.some.inj h
    exact W.iret (v := r12) hx hb hr (fun t ht hW => ⟨_, rfl, e1, ht⟩) (fun q hq => by cases hq) dX10_count_129
  replace h := ite_f h c11
  have e1 := lv_neT (a := 0) c1 (by decide)
  have e2 := lv_neT (a := 1) c2 (by decide)
  have e3 := lv_neT (a := 2) c3 (by decide)
  have e5 := lv_neT (a := 3) c5 (by decide)
  have e6 := lv_neT (a := 4) c6 (by decide)
  have e7 := lv_neT (a := 5) c7 (by decide)
  have e8 := lv_neT (a := 6) c8 (by decide)
  have e9 := lv_neT (a := 7) c9 (by decide)
  have e10 := lv_neT (a := 8) c10 (by decide)
  have e11 := lv_neT (a := 9) c11 (by decide)
  refine lv_tableOut (tgt := 130) hx hb dX10_count_1 (by omega) (by decide) ?_
  refine lv_bipush (v := (-2 : Int32)) hx hb dX10_count_130 (by decide) ?_
  have e1 := Option.some.inj h
  exact W.iret (v := (-2 : Int32)) hx hb hr (fun t ht hW => ⟨_, rfl, e1, ht⟩) (fun q hq => by cases hq) dX10_count_132
abbrev rm_X11_in : Room := { frames := 0, cells := 0, slots := 0, locals := 0 }
set_option maxHeartbeats 4000000 in
set_option maxRecDepth 100000 in
theorem cn_X11_in (l : Launch) (dC : Nat → ClassId) (dI : Nat → Nat → Nat) (cI cJ cZ : ClassId) (p0 : Int64) (p2 : Int64) (p4 : Int64) (res : Int32) (h : X11_in p0 p2 p4 = res) : Met l yX11_in wsX11_in rm_X11_in (pcR dC dI cI cJ cZ [] [.long p0, .long p2, .long p4]) (vp_Si (fun r => r = res ∧ r &&& 1 = r)) 0 0 (fun _ => False) := by
  refine Met.ofW (cc := cX11_in) (maxL := 6) (ret := (some .boolean)) (by decide) rfl ?_
  intro p e s m args below meth c s₁ B hml hv
  obtain ⟨rfl, hP, hKK⟩ := hv
  have hx := B.exec
  have hb := B.bytes
  have hr := B.returns
  have hts := atoms_spec (ws := wsX11_in) B.pre
  have hown : s.vm.findClass RX11 = some m.cls := findClass_of_methodNamed B.named
  have hlocks := B.notSynchronized
  have hK := hKK.1
  have hl := lv_entry ([.long p0, .long p2, .long p4]) (n := 6) (Nat.le_of_ble_eq_true rfl)
  rw [lg_entry_eq]
  generalize (lg_sl ([.long p0, .long p2, .long p4]) ++ List.replicate (6 - (lg_sl ([.long p0, .long p2, .long p4])).length) Slot.unset).toArray = ls at hl ⊢
  have hl : lv_has ls 6 [(0, .long p0), (2, .long p2), (4, .long p4)] := hl
  unfold X11_in at h
  refine lv_lload_n hx hb dX11_in_0 rfl (lv_at hl 0 rfl) ?_
  refine lv_lload_n hx hb dX11_in_1 rfl (lv_at hl 1 rfl) ?_
  refine W.lcmp hx hb dX11_in_2 ?_
  refine lv_if_lt (tgt := 17) hx hb dX11_in_3 (by decide) (fun c1 => ?_) (fun c1 => ?_)
  · replace h := ite_t h c1
    refine lv_iconst (v := (0 : Int32)) hx hb dX11_in_17 (by decide) ?_
    have e1 := h
    exact W.zret (v := (0 : Int32)) (ty := .boolean) hx hb hr (congrArg Value.int rfl) (fun t ht hW => ⟨_, rfl, ⟨e1, rfl⟩, ht⟩) (fun q hq => by cases hq) dX11_in_18
  replace h := ite_f h c1
  refine lv_lload_n hx hb dX11_in_6 rfl (lv_at hl 0 rfl) ?_
  refine lv_lload hx hb dX11_in_7 (lv_at hl 2 rfl) ?_
  refine W.lcmp hx hb dX11_in_9 ?_
  refine lv_if_gt (tgt := 17) hx hb dX11_in_10 (by decide) (fun c2 => ?_) (fun c2 => ?_)
  · replace h := ite_t h c2
    refine lv_iconst (v := (0 : Int32)) hx hb dX11_in_17 (by decide) ?_
    have e1 := h
    exact W.zret (v := (0 : Int32)) (ty := .boolean) hx hb hr (congrArg Value.int rfl) (fun t ht hW => ⟨_, rfl, ⟨e1, rfl⟩, ht⟩) (fun q hq => by cases hq) dX11_in_18
  replace h := ite_f h c2
  refine lv_iconst (v := (1 : Int32)) hx hb dX11_in_13 (by decide) ?_
  refine lv_goto (tgt := 18) hx hb dX11_in_14 (by decide) ?_
  have e1 := h
  exact W.zret (v := (1 : Int32)) (ty := .boolean) hx hb hr (congrArg Value.int rfl) (fun t ht hW => ⟨_, rfl, ⟨e1, rfl⟩, ht⟩) (fun q hq => by cases hq) dX11_in_18
abbrev rm_X11_write : Room := { frames := 1, cells := 0, slots := 0, locals := 25 }
theorem in_X11_write_X11 : ∀ w ∈ wsX110, w ∈ wsX11_write := fun _ h => List.mem_cons_of_mem _ (List.mem_append_right _ h)
set_option maxHeartbeats 4000000 in
set_option maxRecDepth 100000 in
theorem cn_X11_write (l : Launch) (dC : Nat → ClassId) (dI : Nat → Nat → Nat) (cI cJ cZ : ClassId) (q_t q_t_readSlips q_t_slips q_t_text q_t_row q_t_before q_t_anew q_t_sums q_t_spare q_t_least q_t_then q_t_told q_t_tens q_t_paidTo q_t_paid q_t_isKept q_t_kept : Nat) (sz : Nat) (v_t_readMany : Int32) (v_t_readBarred : Int32) (v_t_readRule : Int32) (v_t_readShare : Int32) (v_t_readPot : Int32) (v_t_many : Int32) (v_t_barred : Int32) (v_t_rule : Int32) (v_t_share : Int32) (v_t_pot : Int32) (v_t_length : Int32) (v_t_at : Int32) (v_t_faultAt : Int32) (v_t_rowMany : Int32) (v_t_acts : Int32) (v_t_next : Int32) (v_t_payments : Int32) (v_t_seed : Int64) (f_t_text : (Nat → Int32)) (p1 : Int32) (p2 : Int64) (res : Int32) (r_v_t_length : Int32) (r_f_t_text : (Nat → Int32)) (h : X11_write v_t_length f_t_text p1 p2 = some (res, r_v_t_length, r_f_t_text)) : Met l yX11_write wsX11_write rm_X11_write (pcW dC dI cI cJ cZ [(q_t, .inr (11, [.ref q_t_readSlips, .int v_t_readMany, .int v_t_readBarred, .int v_t_readRule, .int v_t_readShare, .int v_t_readPot, .ref q_t_slips, .int v_t_many, .int v_t_barred, .int v_t_rule, .int v_t_share, .int v_t_pot, .ref q_t_text, .int v_t_length, .int v_t_at, .int v_t_faultAt, .ref q_t_row, .int v_t_rowMany, .int v_t_acts, .int v_t_next, .ref q_t_before, .ref q_t_anew, .ref q_t_sums, .ref q_t_spare, .ref q_t_least, .ref q_t_then, .ref q_t_told, .ref q_t_tens, .int v_t_payments, .ref q_t_paidTo, .ref q_t_paid, .long v_t_seed, .ref q_t_isKept, .ref q_t_kept])), (q_t_text, .inl (cI, 40, .inl f_t_text))] sz [.ref q_t, .int p1, .long p2]) (va_Qi (fun (r : Int32) (_ : Unit) => r = res) (bW dC dI (va_A [(q_t, .inr (11, [.ref q_t_readSlips, .int v_t_readMany, .int v_t_readBarred, .int v_t_readRule, .int v_t_readShare, .int v_t_readPot, .ref q_t_slips, .int v_t_many, .int v_t_barred, .int v_t_rule, .int v_t_share, .int v_t_pot, .ref q_t_text, .int v_t_length, .int v_t_at, .int v_t_faultAt, .ref q_t_row, .int v_t_rowMany, .int v_t_acts, .int v_t_next, .ref q_t_before, .ref q_t_anew, .ref q_t_sums, .ref q_t_spare, .ref q_t_least, .ref q_t_then, .ref q_t_told, .ref q_t_tens, .int v_t_payments, .ref q_t_paidTo, .ref q_t_paid, .long v_t_seed, .ref q_t_isKept, .ref q_t_kept])), (q_t_text, .inl (cI, 40, .inl f_t_text))] sz) [(q_t, .inr (11, [.ref q_t_readSlips, .int v_t_readMany, .int v_t_readBarred, .int v_t_readRule, .int v_t_readShare, .int v_t_readPot, .ref q_t_slips, .int v_t_many, .int v_t_barred, .int v_t_rule, .int v_t_share, .int v_t_pot, .ref q_t_text, .int r_v_t_length, .int v_t_at, .int v_t_faultAt, .ref q_t_row, .int v_t_rowMany, .int v_t_acts, .int v_t_next, .ref q_t_before, .ref q_t_anew, .ref q_t_sums, .ref q_t_spare, .ref q_t_least, .ref q_t_then, .ref q_t_told, .ref q_t_tens, .int v_t_payments, .ref q_t_paidTo, .ref q_t_paid, .long v_t_seed, .ref q_t_isKept, .ref q_t_kept])), (q_t_text, .inl (cI, 40, .inl r_f_t_text))]) (va_A [(q_t, .inr (11, [.ref q_t_readSlips, .int v_t_readMany, .int v_t_readBarred, .int v_t_readRule, .int v_t_readShare, .int v_t_readPot, .ref q_t_slips, .int v_t_many, .int v_t_barred, .int v_t_rule, .int v_t_share, .int v_t_pot, .ref q_t_text, .int v_t_length, .int v_t_at, .int v_t_faultAt, .ref q_t_row, .int v_t_rowMany, .int v_t_acts, .int v_t_next, .ref q_t_before, .ref q_t_anew, .ref q_t_sums, .ref q_t_spare, .ref q_t_least, .ref q_t_then, .ref q_t_told, .ref q_t_tens, .int v_t_payments, .ref q_t_paidTo, .ref q_t_paid, .long v_t_seed, .ref q_t_isKept, .ref q_t_kept])), (q_t_text, .inl (cI, 40, .inl f_t_text))] sz)) 0 0 (va_A [(q_t, .inr (11, [.ref q_t_readSlips, .int v_t_readMany, .int v_t_readBarred, .int v_t_readRule, .int v_t_readShare, .int v_t_readPot, .ref q_t_slips, .int v_t_many, .int v_t_barred, .int v_t_rule, .int v_t_share, .int v_t_pot, .ref q_t_text, .int v_t_length, .int v_t_at, .int v_t_faultAt, .ref q_t_row, .int v_t_rowMany, .int v_t_acts, .int v_t_next, .ref q_t_before, .ref q_t_anew, .ref q_t_sums, .ref q_t_spare, .ref q_t_least, .ref q_t_then, .ref q_t_told, .ref q_t_tens, .int v_t_payments, .ref q_t_paidTo, .ref q_t_paid, .long v_t_seed, .ref q_t_isKept, .ref q_t_kept])), (q_t_text, .inl (cI, 40, .inl f_t_text))] sz) := by
  refine Met.ofW (cc := cX11_write) (maxL := 5) (ret := (some .int)) (by decide) rfl ?_
  intro p e s m args below meth c s₁ B hml hv
  obtain ⟨rfl, hsz, hP, hKK, hD0⟩ := hv
  have hx := B.exec
  have hb := B.bytes
  have hr := B.returns
  have hts := atoms_spec (ws := wsX11_write) B.pre
  have hown : s.vm.findClass RX11 = some m.cls := findClass_of_methodNamed B.named
  have hlocks := B.notSynchronized
  have hK := hKK.1
  subst hsz
  have hD := hD0.self (sz := s.heap.size)
  generalize hAe : va_A [(q_t, .inr (11, [.ref q_t_readSlips, .int v_t_readMany, .int v_t_readBarred, .int v_t_readRule, .int v_t_readShare, .int v_t_readPot, .ref q_t_slips, .int v_t_many, .int v_t_barred, .int v_t_rule, .int v_t_share, .int v_t_pot, .ref q_t_text, .int v_t_length, .int v_t_at, .int v_t_faultAt, .ref q_t_row, .int v_t_rowMany, .int v_t_acts, .int v_t_next, .ref q_t_before, .ref q_t_anew, .ref q_t_sums, .ref q_t_spare, .ref q_t_least, .ref q_t_then, .ref q_t_told, .ref q_t_tens, .int v_t_payments, .ref q_t_paidTo, .ref q_t_paid, .long v_t_seed, .ref q_t_isKept, .ref q_t_kept])), (q_t_text, .inl (cI, 40, .inl f_t_text))] s.heap.size = A at hD ⊢
  have hA : ∀ q : Nat, s.heap.size ≤ q → A q := fun q h => by rw [← hAe]; exact Or.inr h
  have hS : va_S A s.heap s.heap [] := va_S.rf
  have hl := lv_entry ([.ref q_t, .int p1, .long p2]) (n := 5) (Nat.le_of_ble_eq_true rfl)
  rw [lg_entry_eq]
  generalize (lg_sl ([.ref q_t, .int p1, .long p2]) ++ List.replicate (5 - (lg_sl ([.ref q_t, .int p1, .long p2])).length) Slot.unset).toArray = ls at hl ⊢
  have hl : lv_has ls 5 [(0, .ref q_t), (1, .int p1), (2, .long p2)] := hl
  have B_76 : ∀ (v_t_length : Int32) (f_t_text : (Nat → Int32)) , X11_write_b76 v_t_length f_t_text = some (res, r_v_t_length, r_f_t_text) → ∀ (H : Heap) (locs : List Loc) (ls : Array Slot), va_P (dC, dI) vwCl [(q_t, .inr (11, [.ref q_t_readSlips, .int v_t_readMany, .int v_t_readBarred, .int v_t_readRule, .int v_t_readShare, .int v_t_readPot, .ref q_t_slips, .int v_t_many, .int v_t_barred, .int v_t_rule, .int v_t_share, .int v_t_pot, .ref q_t_text, .int v_t_length, .int v_t_at, .int v_t_faultAt, .ref q_t_row, .int v_t_rowMany, .int v_t_acts, .int v_t_next, .ref q_t_before, .ref q_t_anew, .ref q_t_sums, .ref q_t_spare, .ref q_t_least, .ref q_t_then, .ref q_t_told, .ref q_t_tens, .int v_t_payments, .ref q_t_paidTo, .ref q_t_paid, .long v_t_seed, .ref q_t_isKept, .ref q_t_kept])), (q_t_text, .inl (cI, 40, .inl f_t_text))] H → va_D A [(q_t, .inr (11, [.ref q_t_readSlips, .int v_t_readMany, .int v_t_readBarred, .int v_t_readRule, .int v_t_readShare, .int v_t_readPot, .ref q_t_slips, .int v_t_many, .int v_t_barred, .int v_t_rule, .int v_t_share, .int v_t_pot, .ref q_t_text, .int v_t_length, .int v_t_at, .int v_t_faultAt, .ref q_t_row, .int v_t_rowMany, .int v_t_acts, .int v_t_next, .ref q_t_before, .ref q_t_anew, .ref q_t_sums, .ref q_t_spare, .ref q_t_least, .ref q_t_then, .ref q_t_told, .ref q_t_tens, .int v_t_payments, .ref q_t_paidTo, .ref q_t_paid, .long v_t_seed, .ref q_t_isKept, .ref q_t_kept])), (q_t_text, .inl (cI, 40, .inl f_t_text))] → va_S A s.heap H locs → lv_has ls 5 [(0, .ref q_t)] → W p l e (headSpec wsX11_write rm_X11_write).room s m ([.ref q_t, .int p1, .long p2] : List Value).toArray below meth c H locs 0 0 (MQ below (va_Qi (fun (r : Int32) (_ : Unit) => r = res) (bW dC dI A [(q_t, .inr (11, [.ref q_t_readSlips, .int v_t_readMany, .int v_t_readBarred, .int v_t_readRule, .int v_t_readShare, .int v_t_readPot, .ref q_t_slips, .int v_t_many, .int v_t_barred, .int v_t_rule, .int v_t_share, .int v_t_pot, .ref q_t_text, .int r_v_t_length, .int v_t_at, .int v_t_faultAt, .ref q_t_row, .int v_t_rowMany, .int v_t_acts, .int v_t_next, .ref q_t_before, .ref q_t_anew, .ref q_t_sums, .ref q_t_spare, .ref q_t_least, .ref q_t_then, .ref q_t_told, .ref q_t_tens, .int v_t_payments, .ref q_t_paidTo, .ref q_t_paid, .long v_t_seed, .ref q_t_isKept, .ref q_t_kept])), (q_t_text, .inl (cI, 40, .inl r_f_t_text))]) A) ([.ref q_t, .int p1, .long p2] : List Value).toArray s 0 0 A) (F0 m 76 ls []) := by
    intro v_t_length f_t_text h H locs ls hP hD hS hl
    unfold X11_write_b76 at h
    refine lv_aload_n hx hb dX11_write_76 rfl (lv_at hl 0 rfl) ?_
    refine va_get (D := (dC, dI)) (ci := 11) (v := .int v_t_length) (C := RX11) (T := TX11) (N := 34) hx hb hts in_X11_write_X11 hown hK hP 0 rfl rfl 13 (by decide) (hts (.fieldLink RX11 66 "RightIfAsManyModel" "length" "I") (List.mem_of_getElem? (i := 2) rfl)) (fun _ h9 => h9) rfl dX11_write_77 ?_
    replace h := Option.some.inj h
    obtain ⟨e1, e2, e3⟩ := pr3 h
    exact W.iret (v := v_t_length) hx hb hr (fun t ht hW => ⟨⟨_, (), rfl, e1, (by rw [ht, ← e2, ← e3]; exact hP), (by rw [← e2, ← e3]; exact hD)⟩, hS.F ht⟩) hS.2.2 dX11_write_80
  have L_34 : ∀ (n34 : Nat) , ∀ (v_t_length : Int32) (f_t_text : (Nat → Int32)) (x2 : Int64) (x4 : Int32), X11_write_b34 n34 v_t_length f_t_text x2 x4 = some (res, r_v_t_length, r_f_t_text) → ∀ (H : Heap) (locs : List Loc) (ls : Array Slot), va_P (dC, dI) vwCl [(q_t, .inr (11, [.ref q_t_readSlips, .int v_t_readMany, .int v_t_readBarred, .int v_t_readRule, .int v_t_readShare, .int v_t_readPot, .ref q_t_slips, .int v_t_many, .int v_t_barred, .int v_t_rule, .int v_t_share, .int v_t_pot, .ref q_t_text, .int v_t_length, .int v_t_at, .int v_t_faultAt, .ref q_t_row, .int v_t_rowMany, .int v_t_acts, .int v_t_next, .ref q_t_before, .ref q_t_anew, .ref q_t_sums, .ref q_t_spare, .ref q_t_least, .ref q_t_then, .ref q_t_told, .ref q_t_tens, .int v_t_payments, .ref q_t_paidTo, .ref q_t_paid, .long v_t_seed, .ref q_t_isKept, .ref q_t_kept])), (q_t_text, .inl (cI, 40, .inl f_t_text))] H → va_D A [(q_t, .inr (11, [.ref q_t_readSlips, .int v_t_readMany, .int v_t_readBarred, .int v_t_readRule, .int v_t_readShare, .int v_t_readPot, .ref q_t_slips, .int v_t_many, .int v_t_barred, .int v_t_rule, .int v_t_share, .int v_t_pot, .ref q_t_text, .int v_t_length, .int v_t_at, .int v_t_faultAt, .ref q_t_row, .int v_t_rowMany, .int v_t_acts, .int v_t_next, .ref q_t_before, .ref q_t_anew, .ref q_t_sums, .ref q_t_spare, .ref q_t_least, .ref q_t_then, .ref q_t_told, .ref q_t_tens, .int v_t_payments, .ref q_t_paidTo, .ref q_t_paid, .long v_t_seed, .ref q_t_isKept, .ref q_t_kept])), (q_t_text, .inl (cI, 40, .inl f_t_text))] → va_S A s.heap H locs → lv_has ls 5 [(0, .ref q_t), (2, .long x2), (4, .int x4)] → W p l e (headSpec wsX11_write rm_X11_write).room s m ([.ref q_t, .int p1, .long p2] : List Value).toArray below meth c H locs 0 0 (MQ below (va_Qi (fun (r : Int32) (_ : Unit) => r = res) (bW dC dI A [(q_t, .inr (11, [.ref q_t_readSlips, .int v_t_readMany, .int v_t_readBarred, .int v_t_readRule, .int v_t_readShare, .int v_t_readPot, .ref q_t_slips, .int v_t_many, .int v_t_barred, .int v_t_rule, .int v_t_share, .int v_t_pot, .ref q_t_text, .int r_v_t_length, .int v_t_at, .int v_t_faultAt, .ref q_t_row, .int v_t_rowMany, .int v_t_acts, .int v_t_next, .ref q_t_before, .ref q_t_anew, .ref q_t_sums, .ref q_t_spare, .ref q_t_least, .ref q_t_then, .ref q_t_told, .ref q_t_tens, .int v_t_payments, .ref q_t_paidTo, .ref q_t_paid, .long v_t_seed, .ref q_t_isKept, .ref q_t_kept])), (q_t_text, .inl (cI, 40, .inl r_f_t_text))]) A) ([.ref q_t, .int p1, .long p2] : List Value).toArray s 0 0 A) (F0 m 34 ls []) := by
    intro n34
    induction n34 with
    | zero => intro v_t_length f_t_text x2 x4 h H locs ls hP hD hS hl; exact absurd h (fun h => by cases h)
    | succ n34 ih_34 =>
      intro v_t_length f_t_text x2 x4 h H locs ls hP hD hS hl
      replace h : X11_write_b34_s (X11_write_b34 n34) v_t_length f_t_text x2 x4 = some (res, r_v_t_length, r_f_t_text) := h
      unfold X11_write_b34_s at h
      refine lv_iload hx hb dX11_write_34 (lv_at hl 2 rfl) ?_
      refine lv_if_lt (tgt := 76) hx hb dX11_write_36 (by decide) (fun c1 => ?_) (fun c1 => ?_)
      · replace h := ite_t h c1
        exact B_76 v_t_length f_t_text h H locs ls hP hD hS (lv_sub hl [0] rfl)
      replace h := ite_f h c1
      refine lv_aload_n hx hb dX11_write_39 rfl (lv_at hl 0 rfl) ?_
      refine va_get (D := (dC, dI)) (ci := 11) (v := .ref q_t_text) (C := RX11) (T := TX11) (N := 34) hx hb hts in_X11_write_X11 hown hK hP 0 rfl rfl 12 (by decide) (hts (.fieldLink RX11 16 "RightIfAsManyModel" "text" "[I") (List.mem_of_getElem? (i := 3) rfl)) (fun _ h9 => h9) rfl dX11_write_40 ?_
      refine lv_aload_n hx hb dX11_write_43 rfl (lv_at hl 0 rfl) ?_
      refine va_get (D := (dC, dI)) (ci := 11) (v := .int v_t_length) (C := RX11) (T := TX11) (N := 34) hx hb hts in_X11_write_X11 hown hK hP 0 rfl rfl 13 (by decide) (hts (.fieldLink RX11 66 "RightIfAsManyModel" "length" "I") (List.mem_of_getElem? (i := 2) rfl)) (fun _ h9 => h9) rfl dX11_write_44 ?_
      refine lv_lload_n hx hb dX11_write_47 rfl (lv_at hl 1 rfl) ?_
      refine lv_bipush (v := (8 : Int32)) hx hb dX11_write_48 (by decide) ?_
      refine lv_iload hx hb dX11_write_50 (lv_at hl 2 rfl) ?_
      refine lv_imul hx hb dX11_write_52 ?_
      refine lv_lshr hx hb dX11_write_53 rfl ?_
      refine lv_ldc2 (v := (255 : Int64)) hx hb hown (hts (.constantLong RX11 70 (255)) (List.mem_of_getElem? (i := 4) rfl)) dX11_write_54 ?_
      refine lv_land hx hb dX11_write_57 ?_
      refine lv_l2i hx hb dX11_write_58 rfl ?_
      obtain ⟨hg2, h⟩ := grd_s h
      refine va_iast hx hb hK hP hD hS 1 0 rfl rfl hg2 dX11_write_59 (fun H locs hP hD hS => ?_)
      have hP : va_P (dC, dI) vwCl [(q_t, .inr (11, [.ref q_t_readSlips, .int v_t_readMany, .int v_t_readBarred, .int v_t_readRule, .int v_t_readShare, .int v_t_readPot, .ref q_t_slips, .int v_t_many, .int v_t_barred, .int v_t_rule, .int v_t_share, .int v_t_pot, .ref q_t_text, .int v_t_length, .int v_t_at, .int v_t_faultAt, .ref q_t_row, .int v_t_rowMany, .int v_t_acts, .int v_t_next, .ref q_t_before, .ref q_t_anew, .ref q_t_sums, .ref q_t_spare, .ref q_t_least, .ref q_t_then, .ref q_t_told, .ref q_t_tens, .int v_t_payments, .ref q_t_paidTo, .ref q_t_paid, .long v_t_seed, .ref q_t_isKept, .ref q_t_kept])), (q_t_text, .inl (cI, 40, .inl (upd f_t_text v_t_length.toNatClampNeg ((x2 >>> (((8 : Int32) * x4).toInt64 &&& 63)) &&& (255 : Int64)).toInt32)))] H := hP
      have hD : va_D A [(q_t, .inr (11, [.ref q_t_readSlips, .int v_t_readMany, .int v_t_readBarred, .int v_t_readRule, .int v_t_readShare, .int v_t_readPot, .ref q_t_slips, .int v_t_many, .int v_t_barred, .int v_t_rule, .int v_t_share, .int v_t_pot, .ref q_t_text, .int v_t_length, .int v_t_at, .int v_t_faultAt, .ref q_t_row, .int v_t_rowMany, .int v_t_acts, .int v_t_next, .ref q_t_before, .ref q_t_anew, .ref q_t_sums, .ref q_t_spare, .ref q_t_least, .ref q_t_then, .ref q_t_told, .ref q_t_tens, .int v_t_payments, .ref q_t_paidTo, .ref q_t_paid, .long v_t_seed, .ref q_t_isKept, .ref q_t_kept])), (q_t_text, .inl (cI, 40, .inl (upd f_t_text v_t_length.toNatClampNeg ((x2 >>> (((8 : Int32) * x4).toInt64 &&& 63)) &&& (255 : Int64)).toInt32)))] := hD
      refine lv_aload_n hx hb dX11_write_60 rfl (lv_at hl 0 rfl) ?_
      refine lv_dup hx hb dX11_write_61 rfl ?_
      refine va_get (D := (dC, dI)) (ci := 11) (v := .int v_t_length) (C := RX11) (T := TX11) (N := 34) hx hb hts in_X11_write_X11 hown hK hP 0 rfl rfl 13 (by decide) (hts (.fieldLink RX11 66 "RightIfAsManyModel" "length" "I") (List.mem_of_getElem? (i := 2) rfl)) (fun _ h9 => h9) rfl dX11_write_62 ?_
      refine lv_iconst (v := (1 : Int32)) hx hb dX11_write_65 (by decide) ?_
      refine lv_iadd hx hb dX11_write_66 ?_
      refine va_put (D := (dC, dI)) (ci := 11) (v := .int (v_t_length + (1 : Int32))) (ty := .int) (C := RX11) (T := TX11) (N := 34) hx hb hts in_X11_write_X11 tyX11 tyX11_ok nmX11 hown hK hP hD hS 0 rfl rfl 13 (by decide) (hts (.fieldLink RX11 66 "RightIfAsManyModel" "length" "I") (List.mem_of_getElem? (i := 2) rfl)) (fun _ h9 => h9) rfl (by decide +kernel) rfl rfl (Nat.le_of_ble_eq_true rfl) dX11_write_67 (fun H locs hP hD hS => ?_)
      have hP : va_P (dC, dI) vwCl [(q_t, .inr (11, [.ref q_t_readSlips, .int v_t_readMany, .int v_t_readBarred, .int v_t_readRule, .int v_t_readShare, .int v_t_readPot, .ref q_t_slips, .int v_t_many, .int v_t_barred, .int v_t_rule, .int v_t_share, .int v_t_pot, .ref q_t_text, .int (v_t_length + (1 : Int32)), .int v_t_at, .int v_t_faultAt, .ref q_t_row, .int v_t_rowMany, .int v_t_acts, .int v_t_next, .ref q_t_before, .ref q_t_anew, .ref q_t_sums, .ref q_t_spare, .ref q_t_least, .ref q_t_then, .ref q_t_told, .ref q_t_tens, .int v_t_payments, .ref q_t_paidTo, .ref q_t_paid, .long v_t_seed, .ref q_t_isKept, .ref q_t_kept])), (q_t_text, .inl (cI, 40, .inl (upd f_t_text v_t_length.toNatClampNeg ((x2 >>> (((8 : Int32) * x4).toInt64 &&& 63)) &&& (255 : Int64)).toInt32)))] H := hP
      have hD : va_D A [(q_t, .inr (11, [.ref q_t_readSlips, .int v_t_readMany, .int v_t_readBarred, .int v_t_readRule, .int v_t_readShare, .int v_t_readPot, .ref q_t_slips, .int v_t_many, .int v_t_barred, .int v_t_rule, .int v_t_share, .int v_t_pot, .ref q_t_text, .int (v_t_length + (1 : Int32)), .int v_t_at, .int v_t_faultAt, .ref q_t_row, .int v_t_rowMany, .int v_t_acts, .int v_t_next, .ref q_t_before, .ref q_t_anew, .ref q_t_sums, .ref q_t_spare, .ref q_t_least, .ref q_t_then, .ref q_t_told, .ref q_t_tens, .int v_t_payments, .ref q_t_paidTo, .ref q_t_paid, .long v_t_seed, .ref q_t_isKept, .ref q_t_kept])), (q_t_text, .inl (cI, 40, .inl (upd f_t_text v_t_length.toNatClampNeg ((x2 >>> (((8 : Int32) * x4).toInt64 &&& 63)) &&& (255 : Int64)).toInt32)))] := hD
      refine lv_iinc (v := (x4 + (-1 : Int32))) (lv' := [(4, .int (x4 + (-1 : Int32))), (0, .ref q_t), (2, .long x2)]) hx hb dX11_write_70 hl (k := 2) rfl rfl (by decide) rfl (fun ls hl => ?_)
      refine lv_goto (tgt := 34) hx hb dX11_write_73 (by decide) ?_
      exact ih_34 (v_t_length + (1 : Int32)) (upd f_t_text v_t_length.toNatClampNeg ((x2 >>> (((8 : Int32) * x4).toInt64 &&& 63)) &&& (255 : Int64)).toInt32) x2 (x4 + (-1 : Int32)) h H locs ls hP hD hS (lv_sub hl [1, 2, 0] rfl)
  unfold X11_write at h
  obtain ⟨H, hHe⟩ : ∃ H, H = s.heap := ⟨_, rfl⟩
  obtain ⟨locs, hLe⟩ : ∃ x : List Loc, x = [] := ⟨_, rfl⟩
  rw [← hHe] at hP
  have hS : va_S A s.heap H locs := by rw [hHe, hLe]; exact hS
  suffices hW : W p l e (headSpec wsX11_write rm_X11_write).room s m ([.ref q_t, .int p1, .long p2] : List Value).toArray below meth c H locs 0 0 (MQ below (va_Qi (fun (r : Int32) (_ : Unit) => r = res) (bW dC dI A [(q_t, .inr (11, [.ref q_t_readSlips, .int v_t_readMany, .int v_t_readBarred, .int v_t_readRule, .int v_t_readShare, .int v_t_readPot, .ref q_t_slips, .int v_t_many, .int v_t_barred, .int v_t_rule, .int v_t_share, .int v_t_pot, .ref q_t_text, .int r_v_t_length, .int v_t_at, .int v_t_faultAt, .ref q_t_row, .int v_t_rowMany, .int v_t_acts, .int v_t_next, .ref q_t_before, .ref q_t_anew, .ref q_t_sums, .ref q_t_spare, .ref q_t_least, .ref q_t_then, .ref q_t_told, .ref q_t_tens, .int v_t_payments, .ref q_t_paidTo, .ref q_t_paid, .long v_t_seed, .ref q_t_isKept, .ref q_t_kept])), (q_t_text, .inl (cI, 40, .inl r_f_t_text))]) A) ([.ref q_t, .int p1, .long p2] : List Value).toArray s 0 0 A) (F0 m 0 ls []) by rw [hHe, hLe] at hW; exact hW
  refine lv_iload_n hx hb dX11_write_0 rfl (lv_at hl 1 rfl) ?_
  refine lv_i2l hx hb dX11_write_1 rfl ?_
  refine lv_lconst (v := (1 : Int64)) hx hb dX11_write_2 (by decide) ?_
  refine lv_ldc2 (v := (8 : Int64)) hx hb hown (hts (.constantLong RX11 60 (8)) (List.mem_of_getElem? (i := 1) rfl)) dX11_write_3 ?_
  refine kRz (res := (X11_in p1.toInt64 (1 : Int64) (8 : Int64))) (va_runS (As := [.long p1.toInt64, .long (1 : Int64), .long (8 : Int64)]) (rest := []) ⟨hx, hb, hml, hown, hts⟩ (cn_X11_in l dC dI cI cJ cZ    p1.toInt64 (1 : Int64) (8 : Int64) (X11_in p1.toInt64 (1 : Int64) (8 : Int64)) rfl) (va_cwS 3 hts gX11_write_X11_in rfl rfl rfl (by decide +kernel) ⟨Nat.le_of_ble_eq_true rfl, Nat.le_of_ble_eq_true rfl⟩) (preRS hKK (hP.sub (ws' := []) [] rfl)) rfl rfl hl.1 rfl (lv_room (Nat.le_of_ble_eq_true rfl)) dX11_write_6 ⟨Nat.zero_le _, Nat.zero_le _⟩) (fun hz3 => ?_)
  refine lv_if_ne (tgt := 15) hx hb dX11_write_9 (by decide) (fun c4 => ?_) (fun c4 => ?_)
  · replace h := ite_f h c4
    refine lv_aload_n hx hb dX11_write_15 rfl (lv_at hl 0 rfl) ?_
    refine va_get (D := (dC, dI)) (ci := 11) (v := .int v_t_length) (C := RX11) (T := TX11) (N := 34) hx hb hts in_X11_write_X11 hown hK hP 0 rfl rfl 13 (by decide) (hts (.fieldLink RX11 66 "RightIfAsManyModel" "length" "I") (List.mem_of_getElem? (i := 2) rfl)) (fun _ h9 => h9) rfl dX11_write_16 ?_
    refine lv_iload_n hx hb dX11_write_19 rfl (lv_at hl 1 rfl) ?_
    refine lv_iadd hx hb dX11_write_20 ?_
    refine lv_bipush (v := (40 : Int32)) hx hb dX11_write_21 (by decide) ?_
    refine lv_icmp_le (tgt := 29) hx hb dX11_write_23 (by decide) (fun c5 => ?_) (fun c5 => ?_)
    · replace h := ite_t h c5
      refine lv_iload_n hx hb dX11_write_29 rfl (lv_at hl 1 rfl) ?_
      refine lv_iconst (v := (1 : Int32)) hx hb dX11_write_30 (by decide) ?_
      refine lv_isub hx hb dX11_write_31 ?_
      refine lv_istore (lv' := [(4, .int (p1 - (1 : Int32))), (0, .ref q_t), (1, .int p1), (2, .long p2)]) hx hb dX11_write_32 hl (by decide) rfl (fun ls hl => ?_)
      exact L_34 fU v_t_length f_t_text p2 (p1 - (1 : Int32)) h H locs ls hP hD hS (lv_sub hl [1, 3, 0] rfl)
    replace h := ite_f h c5
    refine lv_bipush (v := (-4 : Int32)) hx hb dX11_write_26 (by decide) ?_
    replace h := Option.some.inj h
    obtain ⟨e1, e2, e3⟩ := pr3 h
    exact W.iret (v := (-4 : Int32)) hx hb hr (fun t ht hW => ⟨⟨_, (), rfl, e1, (by rw [ht, ← e2, ← e3]; exact hP), (by rw [← e2, ← e3]; exact hD)⟩, hS.F ht⟩) hS.2.2 dX11_write_28
  replace h := ite_t h c4
  refine lv_bipush (v := (-2 : Int32)) hx hb dX11_write_12 (by decide) ?_
  replace h := Option.some.inj h
  obtain ⟨e1, e2, e3⟩ := pr3 h
  exact W.iret (v := (-2 : Int32)) hx hb hr (fun t ht hW => ⟨⟨_, (), rfl, e1, (by rw [ht, ← e2, ← e3]; exact hP), (by rw [← e2, ← e3]; exact hD)⟩, hS.F ht⟩) hS.2.2 dX11_write_14
abbrev rm_X11_wipe : Room := { frames := 0, cells := 0, slots := 0, locals := 0 }
theorem in_X11_wipe_X11 : ∀ w ∈ wsX110, w ∈ wsX11_wipe := fun _ h => List.mem_cons_of_mem _ (List.mem_append_right _ h)
set_option maxHeartbeats 4000000 in
set_option maxRecDepth 100000 in
theorem cn_X11_wipe (l : Launch) (dC : Nat → ClassId) (dI : Nat → Nat → Nat) (cI cJ cZ : ClassId) (q_t q_t_readSlips q_t_slips q_t_text q_t_row q_t_before q_t_anew q_t_sums q_t_spare q_t_least q_t_then q_t_told q_t_tens q_t_paidTo q_t_paid q_t_isKept q_t_kept : Nat) (sz : Nat) (v_t_readMany : Int32) (v_t_readBarred : Int32) (v_t_readRule : Int32) (v_t_readShare : Int32) (v_t_readPot : Int32) (v_t_many : Int32) (v_t_barred : Int32) (v_t_rule : Int32) (v_t_share : Int32) (v_t_pot : Int32) (v_t_length : Int32) (v_t_at : Int32) (v_t_faultAt : Int32) (v_t_rowMany : Int32) (v_t_acts : Int32) (v_t_next : Int32) (v_t_payments : Int32) (v_t_seed : Int64) (res : Int32) (r_v_t_length : Int32) (h : X11_wipe v_t_length = some (res, r_v_t_length)) : Met l yX11_wipe wsX11_wipe rm_X11_wipe (pcW dC dI cI cJ cZ [(q_t, .inr (11, [.ref q_t_readSlips, .int v_t_readMany, .int v_t_readBarred, .int v_t_readRule, .int v_t_readShare, .int v_t_readPot, .ref q_t_slips, .int v_t_many, .int v_t_barred, .int v_t_rule, .int v_t_share, .int v_t_pot, .ref q_t_text, .int v_t_length, .int v_t_at, .int v_t_faultAt, .ref q_t_row, .int v_t_rowMany, .int v_t_acts, .int v_t_next, .ref q_t_before, .ref q_t_anew, .ref q_t_sums, .ref q_t_spare, .ref q_t_least, .ref q_t_then, .ref q_t_told, .ref q_t_tens, .int v_t_payments, .ref q_t_paidTo, .ref q_t_paid, .long v_t_seed, .ref q_t_isKept, .ref q_t_kept]))] sz [.ref q_t]) (va_Qi (fun (r : Int32) (_ : Unit) => r = res) (bW dC dI (va_A [(q_t, .inr (11, [.ref q_t_readSlips, .int v_t_readMany, .int v_t_readBarred, .int v_t_readRule, .int v_t_readShare, .int v_t_readPot, .ref q_t_slips, .int v_t_many, .int v_t_barred, .int v_t_rule, .int v_t_share, .int v_t_pot, .ref q_t_text, .int v_t_length, .int v_t_at, .int v_t_faultAt, .ref q_t_row, .int v_t_rowMany, .int v_t_acts, .int v_t_next, .ref q_t_before, .ref q_t_anew, .ref q_t_sums, .ref q_t_spare, .ref q_t_least, .ref q_t_then, .ref q_t_told, .ref q_t_tens, .int v_t_payments, .ref q_t_paidTo, .ref q_t_paid, .long v_t_seed, .ref q_t_isKept, .ref q_t_kept]))] sz) [(q_t, .inr (11, [.ref q_t_readSlips, .int v_t_readMany, .int v_t_readBarred, .int v_t_readRule, .int v_t_readShare, .int v_t_readPot, .ref q_t_slips, .int v_t_many, .int v_t_barred, .int v_t_rule, .int v_t_share, .int v_t_pot, .ref q_t_text, .int r_v_t_length, .int v_t_at, .int v_t_faultAt, .ref q_t_row, .int v_t_rowMany, .int v_t_acts, .int v_t_next, .ref q_t_before, .ref q_t_anew, .ref q_t_sums, .ref q_t_spare, .ref q_t_least, .ref q_t_then, .ref q_t_told, .ref q_t_tens, .int v_t_payments, .ref q_t_paidTo, .ref q_t_paid, .long v_t_seed, .ref q_t_isKept, .ref q_t_kept]))]) (va_A [(q_t, .inr (11, [.ref q_t_readSlips, .int v_t_readMany, .int v_t_readBarred, .int v_t_readRule, .int v_t_readShare, .int v_t_readPot, .ref q_t_slips, .int v_t_many, .int v_t_barred, .int v_t_rule, .int v_t_share, .int v_t_pot, .ref q_t_text, .int v_t_length, .int v_t_at, .int v_t_faultAt, .ref q_t_row, .int v_t_rowMany, .int v_t_acts, .int v_t_next, .ref q_t_before, .ref q_t_anew, .ref q_t_sums, .ref q_t_spare, .ref q_t_least, .ref q_t_then, .ref q_t_told, .ref q_t_tens, .int v_t_payments, .ref q_t_paidTo, .ref q_t_paid, .long v_t_seed, .ref q_t_isKept, .ref q_t_kept]))] sz)) 0 0 (va_A [(q_t, .inr (11, [.ref q_t_readSlips, .int v_t_readMany, .int v_t_readBarred, .int v_t_readRule, .int v_t_readShare, .int v_t_readPot, .ref q_t_slips, .int v_t_many, .int v_t_barred, .int v_t_rule, .int v_t_share, .int v_t_pot, .ref q_t_text, .int v_t_length, .int v_t_at, .int v_t_faultAt, .ref q_t_row, .int v_t_rowMany, .int v_t_acts, .int v_t_next, .ref q_t_before, .ref q_t_anew, .ref q_t_sums, .ref q_t_spare, .ref q_t_least, .ref q_t_then, .ref q_t_told, .ref q_t_tens, .int v_t_payments, .ref q_t_paidTo, .ref q_t_paid, .long v_t_seed, .ref q_t_isKept, .ref q_t_kept]))] sz) := by
  refine Met.ofW (cc := cX11_wipe) (maxL := 2) (ret := (some .int)) (by decide) rfl ?_
  intro p e s m args below meth c s₁ B hml hv
  obtain ⟨rfl, hsz, hP, hKK, hD0⟩ := hv
  have hx := B.exec
  have hb := B.bytes
  have hr := B.returns
  have hts := atoms_spec (ws := wsX11_wipe) B.pre
  have hown : s.vm.findClass RX11 = some m.cls := findClass_of_methodNamed B.named
  have hlocks := B.notSynchronized
  have hK := hKK.1
  subst hsz
  have hD := hD0.self (sz := s.heap.size)
  generalize hAe : va_A [(q_t, .inr (11, [.ref q_t_readSlips, .int v_t_readMany, .int v_t_readBarred, .int v_t_readRule, .int v_t_readShare, .int v_t_readPot, .ref q_t_slips, .int v_t_many, .int v_t_barred, .int v_t_rule, .int v_t_share, .int v_t_pot, .ref q_t_text, .int v_t_length, .int v_t_at, .int v_t_faultAt, .ref q_t_row, .int v_t_rowMany, .int v_t_acts, .int v_t_next, .ref q_t_before, .ref q_t_anew, .ref q_t_sums, .ref q_t_spare, .ref q_t_least, .ref q_t_then, .ref q_t_told, .ref q_t_tens, .int v_t_payments, .ref q_t_paidTo, .ref q_t_paid, .long v_t_seed, .ref q_t_isKept, .ref q_t_kept]))] s.heap.size = A at hD ⊢
  have hA : ∀ q : Nat, s.heap.size ≤ q → A q := fun q h => by rw [← hAe]; exact Or.inr h
  have hS : va_S A s.heap s.heap [] := va_S.rf
  have hl := lv_entry ([.ref q_t]) (n := 2) (Nat.le_of_ble_eq_true rfl)
  rw [lg_entry_eq]
  generalize (lg_sl ([.ref q_t]) ++ List.replicate (2 - (lg_sl ([.ref q_t])).length) Slot.unset).toArray = ls at hl ⊢
  have hl : lv_has ls 2 [(0, .ref q_t)] := hl
  unfold X11_wipe at h
  obtain ⟨H, hHe⟩ : ∃ H, H = s.heap := ⟨_, rfl⟩
  obtain ⟨locs, hLe⟩ : ∃ x : List Loc, x = [] := ⟨_, rfl⟩
  rw [← hHe] at hP
  have hS : va_S A s.heap H locs := by rw [hHe, hLe]; exact hS
  suffices hW : W p l e (headSpec wsX11_wipe rm_X11_wipe).room s m ([.ref q_t] : List Value).toArray below meth c H locs 0 0 (MQ below (va_Qi (fun (r : Int32) (_ : Unit) => r = res) (bW dC dI A [(q_t, .inr (11, [.ref q_t_readSlips, .int v_t_readMany, .int v_t_readBarred, .int v_t_readRule, .int v_t_readShare, .int v_t_readPot, .ref q_t_slips, .int v_t_many, .int v_t_barred, .int v_t_rule, .int v_t_share, .int v_t_pot, .ref q_t_text, .int r_v_t_length, .int v_t_at, .int v_t_faultAt, .ref q_t_row, .int v_t_rowMany, .int v_t_acts, .int v_t_next, .ref q_t_before, .ref q_t_anew, .ref q_t_sums, .ref q_t_spare, .ref q_t_least, .ref q_t_then, .ref q_t_told, .ref q_t_tens, .int v_t_payments, .ref q_t_paidTo, .ref q_t_paid, .long v_t_seed, .ref q_t_isKept, .ref q_t_kept]))]) A) ([.ref q_t] : List Value).toArray s 0 0 A) (F0 m 0 ls []) by rw [hHe, hLe] at hW; exact hW
  refine lv_aload_n hx hb dX11_wipe_0 rfl (lv_at hl 0 rfl) ?_
  refine va_get (D := (dC, dI)) (ci := 11) (v := .int v_t_length) (C := RX11) (T := TX11) (N := 34) hx hb hts in_X11_wipe_X11 hown hK hP 0 rfl rfl 13 (by decide) (hts (.fieldLink RX11 66 "RightIfAsManyModel" "length" "I") (List.mem_of_getElem? (i := 1) rfl)) (fun _ h9 => h9) rfl dX11_wipe_1 ?_
  refine lv_istore_n (lv' := [(1, .int v_t_length), (0, .ref q_t)]) hx hb dX11_wipe_4 rfl hl (by decide) rfl (fun ls hl => ?_)
  refine lv_aload_n hx hb dX11_wipe_5 rfl (lv_at hl 1 rfl) ?_
  refine lv_iconst (v := (0 : Int32)) hx hb dX11_wipe_6 (by decide) ?_
  refine va_put (D := (dC, dI)) (ci := 11) (v := .int (0 : Int32)) (ty := .int) (C := RX11) (T := TX11) (N := 34) hx hb hts in_X11_wipe_X11 tyX11 tyX11_ok nmX11 hown hK hP hD hS 0 rfl rfl 13 (by decide) (hts (.fieldLink RX11 66 "RightIfAsManyModel" "length" "I") (List.mem_of_getElem? (i := 1) rfl)) (fun _ h9 => h9) rfl (by decide +kernel) rfl rfl (Nat.le_of_ble_eq_true rfl) dX11_wipe_7 (fun H locs hP hD hS => ?_)
  have hP : va_P (dC, dI) vwCl [(q_t, .inr (11, [.ref q_t_readSlips, .int v_t_readMany, .int v_t_readBarred, .int v_t_readRule, .int v_t_readShare, .int v_t_readPot, .ref q_t_slips, .int v_t_many, .int v_t_barred, .int v_t_rule, .int v_t_share, .int v_t_pot, .ref q_t_text, .int (0 : Int32), .int v_t_at, .int v_t_faultAt, .ref q_t_row, .int v_t_rowMany, .int v_t_acts, .int v_t_next, .ref q_t_before, .ref q_t_anew, .ref q_t_sums, .ref q_t_spare, .ref q_t_least, .ref q_t_then, .ref q_t_told, .ref q_t_tens, .int v_t_payments, .ref q_t_paidTo, .ref q_t_paid, .long v_t_seed, .ref q_t_isKept, .ref q_t_kept]))] H := hP
  have hD : va_D A [(q_t, .inr (11, [.ref q_t_readSlips, .int v_t_readMany, .int v_t_readBarred, .int v_t_readRule, .int v_t_readShare, .int v_t_readPot, .ref q_t_slips, .int v_t_many, .int v_t_barred, .int v_t_rule, .int v_t_share, .int v_t_pot, .ref q_t_text, .int (0 : Int32), .int v_t_at, .int v_t_faultAt, .ref q_t_row, .int v_t_rowMany, .int v_t_acts, .int v_t_next, .ref q_t_before, .ref q_t_anew, .ref q_t_sums, .ref q_t_spare, .ref q_t_least, .ref q_t_then, .ref q_t_told, .ref q_t_tens, .int v_t_payments, .ref q_t_paidTo, .ref q_t_paid, .long v_t_seed, .ref q_t_isKept, .ref q_t_kept]))] := hD
  refine lv_iload_n hx hb dX11_wipe_10 rfl (lv_at hl 0 rfl) ?_
  replace h := Option.some.inj h
  obtain ⟨e1, e2⟩ := pr2 h
  exact W.iret (v := v_t_length) hx hb hr (fun t ht hW => ⟨⟨_, (), rfl, e1, (by rw [ht, ← e2]; exact hP), (by rw [← e2]; exact hD)⟩, hS.F ht⟩) hS.2.2 dX11_wipe_11
