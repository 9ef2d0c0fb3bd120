/-! walks, by program: X10_seed X10_won X10_isSlot X2_putSlot X10_keep X2_slot X10_again X10_rightBits X8_barredBits X8_potWhole X8_lawKind X8_shareKind -/
abbrev rm_X10_seed : Room := { frames := 1, cells := 0, slots := 0, locals := 24 }
theorem in_X10_seed_X1 : ∀ w ∈ wsX10, w ∈ wsX10_seed := fun _ h => List.mem_cons_of_mem _ (List.mem_append_right _ h)
theorem in_X10_seed_X10 : ∀ w ∈ wsX100, w ∈ wsX10_seed := fun _ h => List.mem_cons_of_mem _ (List.mem_append_left _ (List.mem_append_right _ h))
set_option maxHeartbeats 4000000 in
set_option maxRecDepth 100000 in
theorem cn_X10_seed (l : Launch) (dC : Nat → ClassId) (dI : Nat → Nat → Nat) (cI cJ cZ : ClassId) (q_t q_t_text q_t_reader q_t_rules q_t_people q_t_memory q_t_rows q_t_chances q_t_moves q_t_payments q_t_evenings q_t_evenings_counts : Nat) (sz : Nat) (v_t_evenings_state : Int64) (p1 : Int64) (res : Int64) (r_v_t_evenings_state : Int64) (h : X10_seed v_t_evenings_state p1 = some (res, r_v_t_evenings_state)) : Met l yX10_seed wsX10_seed rm_X10_seed (pcW dC dI cI cJ cZ [(q_t, .inr (10, [.ref q_t_text, .ref q_t_reader, .ref q_t_rules, .ref q_t_people, .ref q_t_memory, .ref q_t_rows, .ref q_t_chances, .ref q_t_moves, .ref q_t_payments, .ref q_t_evenings])), (q_t_evenings, .inr (1, [.ref q_t_evenings_counts, .long v_t_evenings_state]))] sz [.ref q_t, .long p1]) (va_Ql (fun (r : Int64) (_ : Unit) => r = res) (bW dC dI (va_A [(q_t, .inr (10, [.ref q_t_text, .ref q_t_reader, .ref q_t_rules, .ref q_t_people, .ref q_t_memory, .ref q_t_rows, .ref q_t_chances, .ref q_t_moves, .ref q_t_payments, .ref q_t_evenings])), (q_t_evenings, .inr (1, [.ref q_t_evenings_counts, .long v_t_evenings_state]))] sz) [(q_t, .inr (10, [.ref q_t_text, .ref q_t_reader, .ref q_t_rules, .ref q_t_people, .ref q_t_memory, .ref q_t_rows, .ref q_t_chances, .ref q_t_moves, .ref q_t_payments, .ref q_t_evenings])), (q_t_evenings, .inr (1, [.ref q_t_evenings_counts, .long r_v_t_evenings_state]))]) (va_A [(q_t, .inr (10, [.ref q_t_text, .ref q_t_reader, .ref q_t_rules, .ref q_t_people, .ref q_t_memory, .ref q_t_rows, .ref q_t_chances, .ref q_t_moves, .ref q_t_payments, .ref q_t_evenings])), (q_t_evenings, .inr (1, [.ref q_t_evenings_counts, .long v_t_evenings_state]))] sz)) 0 0 (va_A [(q_t, .inr (10, [.ref q_t_text, .ref q_t_reader, .ref q_t_rules, .ref q_t_people, .ref q_t_memory, .ref q_t_rows, .ref q_t_chances, .ref q_t_moves, .ref q_t_payments, .ref q_t_evenings])), (q_t_evenings, .inr (1, [.ref q_t_evenings_counts, .long v_t_evenings_state]))] sz) := by
  refine Met.ofW (cc := cX10_seed) (maxL := 3) (ret := (some .long)) (by decide) rfl ?_
  intro p e s m args below meth c s₁ B hml hv
  obtain ⟨rfl, hsz, hP, hKK, hD0⟩ := hv
  have hx := B.exec
  have hb := B.bytes
  have hr := B.returns
  have hts := atoms_spec (ws := wsX10_seed) B.pre
  have hown : s.vm.findClass RX10 = some m.cls := findClass_of_methodNamed B.named
  have hlocks := B.notSynchronized
  have hK := hKK.1
  subst hsz
  have hD := hD0.self (sz := s.heap.size)
  generalize hAe : va_A [(q_t, .inr (10, [.ref q_t_text, .ref q_t_reader, .ref q_t_rules, .ref q_t_people, .ref q_t_memory, .ref q_t_rows, .ref q_t_chances, .ref q_t_moves, .ref q_t_payments, .ref q_t_evenings])), (q_t_evenings, .inr (1, [.ref q_t_evenings_counts, .long v_t_evenings_state]))] s.heap.size = A at hD ⊢
  have hA : ∀ q : Nat, s.heap.size ≤ q → A q := fun q h => by rw [← hAe]; exact Or.inr h
  have hS : va_S A s.heap s.heap [] := va_S.rf
  have hl := lv_entry ([.ref q_t, .long p1]) (n := 3) (Nat.le_of_ble_eq_true rfl)
  rw [lg_entry_eq]
  generalize (lg_sl ([.ref q_t, .long p1]) ++ List.replicate (3 - (lg_sl ([.ref q_t, .long p1])).length) Slot.unset).toArray = ls at hl ⊢
  have hl : lv_has ls 3 [(0, .ref q_t), (1, .long p1)] := hl
  unfold X10_seed at h
  obtain ⟨H, hHe⟩ : ∃ H, H = s.heap := ⟨_, rfl⟩
  obtain ⟨locs, hLe⟩ : ∃ x : List Loc, x = [] := ⟨_, rfl⟩
  rw [← hHe] at hP
  have hS : va_S A s.heap H locs := by rw [hHe, hLe]; exact hS
  suffices hW : W p l e (headSpec wsX10_seed rm_X10_seed).room s m ([.ref q_t, .long p1] : List Value).toArray below meth c H locs 0 0 (MQ below (va_Ql (fun (r : Int64) (_ : Unit) => r = res) (bW dC dI A [(q_t, .inr (10, [.ref q_t_text, .ref q_t_reader, .ref q_t_rules, .ref q_t_people, .ref q_t_memory, .ref q_t_rows, .ref q_t_chances, .ref q_t_moves, .ref q_t_payments, .ref q_t_evenings])), (q_t_evenings, .inr (1, [.ref q_t_evenings_counts, .long r_v_t_evenings_state]))]) A) ([.ref q_t, .long p1] : List Value).toArray s 0 0 A) (F0 m 0 ls []) by rw [hHe, hLe] at hW; exact hW
  refine lv_aload_n hx hb dX10_seed_0 rfl (lv_at hl 0 rfl) ?_
  refine va_get (D := (dC, dI)) (ci := 10) (v := .ref q_t_evenings) (C := RX10) (T := TX10) (N := 10) hx hb hts in_X10_seed_X10 hown hK hP 0 rfl rfl 9 (by decide) (hts (.fieldLink RX10 75 "RightIfAsMany" "evenings" "LRightIfAsMany$Evenings;") (List.mem_of_getElem? (i := 1) rfl)) (fun _ h9 => h9) rfl dX10_seed_1 ?_
  refine lv_lload_n hx hb dX10_seed_4 rfl (lv_at hl 1 rfl) ?_
  obtain ⟨r1, w1_1, hc1, h⟩ := bnd2_s h
  refine kWl (res := r1) (wc := [(q_t_evenings, .inr (1, [.ref q_t_evenings_counts, .long v_t_evenings_state]))]) (wr := [(q_t, .inr (10, [.ref q_t_text, .ref q_t_reader, .ref q_t_rules, .ref q_t_people, .ref q_t_memory, .ref q_t_rows, .ref q_t_chances, .ref q_t_moves, .ref q_t_payments, .ref q_t_evenings]))]) (w1 := [(q_t_evenings, .inr (1, [.ref q_t_evenings_counts, .long w1_1]))]) (wn := [(q_t, .inr (10, [.ref q_t_text, .ref q_t_reader, .ref q_t_rules, .ref q_t_people, .ref q_t_memory, .ref q_t_rows, .ref q_t_chances, .ref q_t_moves, .ref q_t_payments, .ref q_t_evenings])), (q_t_evenings, .inr (1, [.ref q_t_evenings_counts, .long w1_1]))]) hP hD hS hA [1] [0] [0, 1] rfl rfl (by decide) (by decide) rfl (by decide) (va_runV (As := [.long p1]) (rest := []) ⟨hx, hb, hml, hown, hts⟩ (cn_X1_sow l dC dI cI cJ cZ q_t_evenings q_t_evenings_counts H.size v_t_evenings_state p1 r1 w1_1 hc1) (cwV 1 hts gX10_seed_X1_sow rfl rfl rfl (by decide +kernel) ⟨Nat.le_of_ble_eq_true rfl, Nat.le_of_ble_eq_true rfl⟩) (preW hKK (hP.sub (ws' := [(q_t_evenings, .inr (1, [.ref q_t_evenings_counts, .long v_t_evenings_state]))]) [1] rfl) (hD.sub (ws' := [(q_t_evenings, .inr (1, [.ref q_t_evenings_counts, .long v_t_evenings_state]))]) [1] (by decide) rfl) (ci := 1) (q0 := 0) rfl rfl) rfl rfl hl.1 rfl (lv_room (Nat.le_of_ble_eq_true rfl)) dX10_seed_5 ⟨Nat.zero_le _, Nat.zero_le _⟩) (fun H locs hP hD hS => ?_)
  replace h := Option.some.inj h
  obtain ⟨e1, e2⟩ := pr2 h
  exact W.lret (v := r1) hx hb hr (fun t ht hW => ⟨⟨_, (), rfl, e1, (by rw [ht, ← e2]; exact hP), (by rw [← e2]; exact hD)⟩, hS.F ht⟩) hS.2.2 dX10_seed_8
abbrev rm_X10_won : Room := { frames := 5, cells := 0, slots := 0, locals := 112 }
theorem in_X10_won_X8 : ∀ w ∈ wsX80, w ∈ wsX10_won := fun _ h => List.mem_cons_of_mem _ (List.mem_append_right _ h)
theorem in_X10_won_X1 : ∀ w ∈ wsX10, w ∈ wsX10_won := fun _ h => List.mem_cons_of_mem _ (List.mem_append_left _ (List.mem_append_right _ h))
theorem in_X10_won_X5 : ∀ w ∈ wsX50, w ∈ wsX10_won := fun _ h => List.mem_cons_of_mem _ (List.mem_append_left _ (List.mem_append_left _ (List.mem_append_right _ h)))
theorem in_X10_won_X10 : ∀ w ∈ wsX100, w ∈ wsX10_won := fun _ h => List.mem_cons_of_mem _ (List.mem_append_left _ (List.mem_append_left _ (List.mem_append_left _ (List.mem_append_right _ h))))
set_option maxHeartbeats 4000000 in
set_option maxRecDepth 100000 in
theorem cn_X10_won (l : Launch) (dC : Nat → ClassId) (dI : Nat → Nat → Nat) (cI cJ cZ : ClassId) (q_t q_t_text q_t_reader q_t_rules q_t_people q_t_memory q_t_rows q_t_chances q_t_moves q_t_payments q_t_evenings q_t_people_numbers q_t_people_counts q_t_evenings_counts : Nat) (sz : Nat) (v_t_rules_law : Int32) (v_t_rules_share : Int32) (v_t_rules_pot : Int32) (v_t_rules_barred : Int32) (v_t_people_size : Int32) (v_t_evenings_state : Int64) (f_t_evenings_counts : (Nat → Int32)) (p1 : Int32) (p2 : Int32) (res : Int32) (r_v_t_evenings_state : Int64) (r_f_t_evenings_counts : (Nat → Int32)) (h : X10_won v_t_rules_law v_t_rules_share v_t_rules_pot v_t_rules_barred v_t_people_size v_t_evenings_state f_t_evenings_counts p1 p2 = some (res, r_v_t_evenings_state, r_f_t_evenings_counts)) : Met l yX10_won wsX10_won rm_X10_won (pcW dC dI cI cJ cZ [(q_t, .inr (10, [.ref q_t_text, .ref q_t_reader, .ref q_t_rules, .ref q_t_people, .ref q_t_memory, .ref q_t_rows, .ref q_t_chances, .ref q_t_moves, .ref q_t_payments, .ref q_t_evenings])), (q_t_rules, .inr (8, [.int v_t_rules_law, .int v_t_rules_share, .int v_t_rules_pot, .int v_t_rules_barred])), (q_t_people, .inr (5, [.ref q_t_people_numbers, .ref q_t_people_counts, .int v_t_people_size])), (q_t_evenings, .inr (1, [.ref q_t_evenings_counts, .long v_t_evenings_state])), (q_t_evenings_counts, .inl (cI, 10, .inl f_t_evenings_counts))] sz [.ref q_t, .int p1, .int p2]) (va_Qi (fun (r : Int32) (_ : Unit) => r = res) (bW dC dI (va_A [(q_t, .inr (10, [.ref q_t_text, .ref q_t_reader, .ref q_t_rules, .ref q_t_people, .ref q_t_memory, .ref q_t_rows, .ref q_t_chances, .ref q_t_moves, .ref q_t_payments, .ref q_t_evenings])), (q_t_rules, .inr (8, [.int v_t_rules_law, .int v_t_rules_share, .int v_t_rules_pot, .int v_t_rules_barred])), (q_t_people, .inr (5, [.ref q_t_people_numbers, .ref q_t_people_counts, .int v_t_people_size])), (q_t_evenings, .inr (1, [.ref q_t_evenings_counts, .long v_t_evenings_state])), (q_t_evenings_counts, .inl (cI, 10, .inl f_t_evenings_counts))] sz) [(q_t, .inr (10, [.ref q_t_text, .ref q_t_reader, .ref q_t_rules, .ref q_t_people, .ref q_t_memory, .ref q_t_rows, .ref q_t_chances, .ref q_t_moves, .ref q_t_payments, .ref q_t_evenings])), (q_t_rules, .inr (8, [.int v_t_rules_law, .int v_t_rules_share, .int v_t_rules_pot, .int v_t_rules_barred])), (q_t_people, .inr (5, [.ref q_t_people_numbers, .ref q_t_people_counts, .int v_t_people_size])), (q_t_evenings, .inr (1, [.ref q_t_evenings_counts, .long r_v_t_evenings_state])), (q_t_evenings_counts, .inl (cI, 10, .inl r_f_t_evenings_counts))]) (va_A [(q_t, .inr (10, [.ref q_t_text, .ref q_t_reader, .ref q_t_rules, .ref q_t_people, .ref q_t_memory, .ref q_t_rows, .ref q_t_chances, .ref q_t_moves, .ref q_t_payments, .ref q_t_evenings])), (q_t_rules, .inr (8, [.int v_t_rules_law, .int v_t_rules_share, .int v_t_rules_pot, .int v_t_rules_barred])), (q_t_people, .inr (5, [.ref q_t_people_numbers, .ref q_t_people_counts, .int v_t_people_size])), (q_t_evenings, .inr (1, [.ref q_t_evenings_counts, .long v_t_evenings_state])), (q_t_evenings_counts, .inl (cI, 10, .inl f_t_evenings_counts))] sz)) 0 0 (va_A [(q_t, .inr (10, [.ref q_t_text, .ref q_t_reader, .ref q_t_rules, .ref q_t_people, .ref q_t_memory, .ref q_t_rows, .ref q_t_chances, .ref q_t_moves, .ref q_t_payments, .ref q_t_evenings])), (q_t_rules, .inr (8, [.int v_t_rules_law, .int v_t_rules_share, .int v_t_rules_pot, .int v_t_rules_barred])), (q_t_people, .inr (5, [.ref q_t_people_numbers, .ref q_t_people_counts, .int v_t_people_size])), (q_t_evenings, .inr (1, [.ref q_t_evenings_counts, .long v_t_evenings_state])), (q_t_evenings_counts, .inl (cI, 10, .inl f_t_evenings_counts))] sz) := by
  refine Met.ofW (cc := cX10_won) (maxL := 5) (ret := (some .int)) (by decide) rfl ?_
  intro p e s m args below meth c s₁ B hml hv
  obtain ⟨rfl, hsz, hP, hKK, hD0⟩ := hv
  have hx := B.exec
  have hb := B.bytes
  have hr := B.returns
  have hts := atoms_spec (ws := wsX10_won) B.pre
  have hown : s.vm.findClass RX10 = some m.cls := findClass_of_methodNamed B.named
  have hlocks := B.notSynchronized
  have hK := hKK.1
  subst hsz
  have hD := hD0.self (sz := s.heap.size)
  generalize hAe : va_A [(q_t, .inr (10, [.ref q_t_text, .ref q_t_reader, .ref q_t_rules, .ref q_t_people, .ref q_t_memory, .ref q_t_rows, .ref q_t_chances, .ref q_t_moves, .ref q_t_payments, .ref q_t_evenings])), (q_t_rules, .inr (8, [.int v_t_rules_law, .int v_t_rules_share, .int v_t_rules_pot, .int v_t_rules_barred])), (q_t_people, .inr (5, [.ref q_t_people_numbers, .ref q_t_people_counts, .int v_t_people_size])), (q_t_evenings, .inr (1, [.ref q_t_evenings_counts, .long v_t_evenings_state])), (q_t_evenings_counts, .inl (cI, 10, .inl f_t_evenings_counts))] s.heap.size = A at hD ⊢
  have hA : ∀ q : Nat, s.heap.size ≤ q → A q := fun q h => by rw [← hAe]; exact Or.inr h
  have hS : va_S A s.heap s.heap [] := va_S.rf
  have hl := lv_entry ([.ref q_t, .int p1, .int p2]) (n := 5) (Nat.le_of_ble_eq_true rfl)
  rw [lg_entry_eq]
  generalize (lg_sl ([.ref q_t, .int p1, .int p2]) ++ List.replicate (5 - (lg_sl ([.ref q_t, .int p1, .int p2])).length) Slot.unset).toArray = ls at hl ⊢
  have hl : lv_has ls 5 [(0, .ref q_t), (1, .int p1), (2, .int p2)] := hl
  have L_32 : ∀ (n32 : Nat) , ∀ (v_t_evenings_state : Int64) (f_t_evenings_counts : (Nat → Int32)) (x1 : Int32) (x2 : Int32) (x3 : Int32) (x4 : Int32), X10_won_b32 n32 v_t_rules_law v_t_rules_share v_t_rules_pot v_t_rules_barred v_t_people_size v_t_evenings_state f_t_evenings_counts x1 x2 x3 x4 = some (res, r_v_t_evenings_state, r_f_t_evenings_counts) → ∀ (H : Heap) (locs : List Loc) (ls : Array Slot), va_P (dC, dI) vwCl [(q_t, .inr (10, [.ref q_t_text, .ref q_t_reader, .ref q_t_rules, .ref q_t_people, .ref q_t_memory, .ref q_t_rows, .ref q_t_chances, .ref q_t_moves, .ref q_t_payments, .ref q_t_evenings])), (q_t_rules, .inr (8, [.int v_t_rules_law, .int v_t_rules_share, .int v_t_rules_pot, .int v_t_rules_barred])), (q_t_people, .inr (5, [.ref q_t_people_numbers, .ref q_t_people_counts, .int v_t_people_size])), (q_t_evenings, .inr (1, [.ref q_t_evenings_counts, .long v_t_evenings_state])), (q_t_evenings_counts, .inl (cI, 10, .inl f_t_evenings_counts))] H → va_D A [(q_t, .inr (10, [.ref q_t_text, .ref q_t_reader, .ref q_t_rules, .ref q_t_people, .ref q_t_memory, .ref q_t_rows, .ref q_t_chances, .ref q_t_moves, .ref q_t_payments, .ref q_t_evenings])), (q_t_rules, .inr (8, [.int v_t_rules_law, .int v_t_rules_share, .int v_t_rules_pot, .int v_t_rules_barred])), (q_t_people, .inr (5, [.ref q_t_people_numbers, .ref q_t_people_counts, .int v_t_people_size])), (q_t_evenings, .inr (1, [.ref q_t_evenings_counts, .long v_t_evenings_state])), (q_t_evenings_counts, .inl (cI, 10, .inl f_t_evenings_counts))] → va_S A s.heap H locs → lv_has ls 5 [(0, .ref q_t), (1, .int x1), (2, .int x2), (3, .int x3), (4, .int x4)] → W p l e (headSpec wsX10_won rm_X10_won).room s m ([.ref q_t, .int p1, .int p2] : List Value).toArray below meth c H locs 0 0 (MQ below (va_Qi (fun (r : Int32) (_ : Unit) => r = res) (bW dC dI A [(q_t, .inr (10, [.ref q_t_text, .ref q_t_reader, .ref q_t_rules, .ref q_t_people, .ref q_t_memory, .ref q_t_rows, .ref q_t_chances, .ref q_t_moves, .ref q_t_payments, .ref q_t_evenings])), (q_t_rules, .inr (8, [.int v_t_rules_law, .int v_t_rules_share, .int v_t_rules_pot, .int v_t_rules_barred])), (q_t_people, .inr (5, [.ref q_t_people_numbers, .ref q_t_people_counts, .int v_t_people_size])), (q_t_evenings, .inr (1, [.ref q_t_evenings_counts, .long r_v_t_evenings_state])), (q_t_evenings_counts, .inl (cI, 10, .inl r_f_t_evenings_counts))]) A) ([.ref q_t, .int p1, .int p2] : List Value).toArray s 0 0 A) (F0 m 32 ls []) := by
    intro n32
    induction n32 with
    | zero => intro v_t_evenings_state f_t_evenings_counts x1 x2 x3 x4 h H locs ls hP hD hS hl; exact absurd h (fun h => by cases h)
    | succ n32 ih_32 =>
      intro v_t_evenings_state f_t_evenings_counts x1 x2 x3 x4 h H locs ls hP hD hS hl
      replace h : X10_won_b32_s (X10_won_b32 n32) v_t_rules_law v_t_rules_share v_t_rules_pot v_t_rules_barred v_t_people_size v_t_evenings_state f_t_evenings_counts x1 x2 x3 x4 = some (res, r_v_t_evenings_state, r_f_t_evenings_counts) := h
      unfold X10_won_b32_s at h
      refine lv_iload hx hb dX10_won_32 (lv_at hl 4 rfl) ?_
      refine lv_iload_n hx hb dX10_won_34 rfl (lv_at hl 2 rfl) ?_
      refine lv_icmp_ge (tgt := 66) hx hb dX10_won_35 (by decide) (fun c1 => ?_) (fun c1 => ?_)
      · replace h := ite_t h c1
        refine lv_iload_n hx hb dX10_won_66 rfl (lv_at hl 3 rfl) ?_
        replace h := Option.some.inj h
        obtain ⟨e1, e2, e3⟩ := pr3 h
        exact W.iret (v := x3) hx hb hr (fun t ht hW => ⟨⟨_, (), rfl, e1, (by rw [ht, ← e2, ← e3]; exact hP), (by rw [← e2, ← e3]; exact hD)⟩, hS.F ht⟩) hS.2.2 dX10_won_67
      replace h := ite_f h c1
      refine lv_iload_n hx hb dX10_won_38 rfl (lv_at hl 3 rfl) ?_
      refine lv_aload_n hx hb dX10_won_39 rfl (lv_at hl 0 rfl) ?_
      refine va_get (D := (dC, dI)) (ci := 10) (v := .ref q_t_evenings) (C := RX10) (T := TX10) (N := 10) hx hb hts in_X10_won_X10 hown hK hP 0 rfl rfl 9 (by decide) (hts (.fieldLink RX10 75 "RightIfAsMany" "evenings" "LRightIfAsMany$Evenings;") (List.mem_of_getElem? (i := 2) rfl)) (fun _ h9 => h9) rfl dX10_won_40 ?_
      refine lv_aload_n hx hb dX10_won_43 rfl (lv_at hl 0 rfl) ?_
      refine va_get (D := (dC, dI)) (ci := 10) (v := .ref q_t_rules) (C := RX10) (T := TX10) (N := 10) hx hb hts in_X10_won_X10 hown hK hP 0 rfl rfl 2 (by decide) (hts (.fieldLink RX10 26 "RightIfAsMany" "rules" "LRightIfAsMany$Rules;") (List.mem_of_getElem? (i := 3) rfl)) (fun _ h9 => h9) rfl dX10_won_44 ?_
      refine lv_iload_n hx hb dX10_won_47 rfl (lv_at hl 1 rfl) ?_
      refine lv_aload_n hx hb dX10_won_48 rfl (lv_at hl 0 rfl) ?_
      refine va_get (D := (dC, dI)) (ci := 10) (v := .ref q_t_people) (C := RX10) (T := TX10) (N := 10) hx hb hts in_X10_won_X10 hown hK hP 0 rfl rfl 3 (by decide) (hts (.fieldLink RX10 33 "RightIfAsMany" "people" "LRightIfAsMany$People;") (List.mem_of_getElem? (i := 1) rfl)) (fun _ h9 => h9) rfl dX10_won_49 ?_
      refine kRi (res := (X5_size v_t_people_size)) (va_runV (As := []) (rest := [.int x1, .ref q_t_rules, .ref q_t_evenings, .int x3]) ⟨hx, hb, hml, hown, hts⟩ (cn_X5_size l dC dI cI cJ cZ q_t_people q_t_people_numbers q_t_people_counts  v_t_people_size  (X5_size v_t_people_size) rfl) (cwV 0 hts gX10_won_X5_size rfl rfl rfl (by decide +kernel) ⟨Nat.le_of_ble_eq_true rfl, Nat.le_of_ble_eq_true rfl⟩) (preR hKK (hP.sub (ws' := [(q_t_people, .inr (5, [.ref q_t_people_numbers, .ref q_t_people_counts, .int v_t_people_size]))]) [2] rfl) (ci := 5) (q0 := 0) rfl rfl) rfl rfl hl.1 rfl (lv_room (Nat.le_of_ble_eq_true rfl)) dX10_won_52 ⟨Nat.zero_le _, Nat.zero_le _⟩) ?_
      obtain ⟨r2, w2_1, w2_2, hc2, h⟩ := bnd3_s h
      refine kWi (res := r2) (wc := [(q_t_evenings, .inr (1, [.ref q_t_evenings_counts, .long v_t_evenings_state])), (q_t_evenings_counts, .inl (cI, 10, .inl f_t_evenings_counts)), (q_t_rules, .inr (8, [.int v_t_rules_law, .int v_t_rules_share, .int v_t_rules_pot, .int v_t_rules_barred]))]) (wr := [(q_t, .inr (10, [.ref q_t_text, .ref q_t_reader, .ref q_t_rules, .ref q_t_people, .ref q_t_memory, .ref q_t_rows, .ref q_t_chances, .ref q_t_moves, .ref q_t_payments, .ref q_t_evenings])), (q_t_people, .inr (5, [.ref q_t_people_numbers, .ref q_t_people_counts, .int v_t_people_size]))]) (w1 := [(q_t_evenings, .inr (1, [.ref q_t_evenings_counts, .long w2_1])), (q_t_evenings_counts, .inl (cI, 10, .inl w2_2)), (q_t_rules, .inr (8, [.int v_t_rules_law, .int v_t_rules_share, .int v_t_rules_pot, .int v_t_rules_barred]))]) (wn := [(q_t, .inr (10, [.ref q_t_text, .ref q_t_reader, .ref q_t_rules, .ref q_t_people, .ref q_t_memory, .ref q_t_rows, .ref q_t_chances, .ref q_t_moves, .ref q_t_payments, .ref q_t_evenings])), (q_t_rules, .inr (8, [.int v_t_rules_law, .int v_t_rules_share, .int v_t_rules_pot, .int v_t_rules_barred])), (q_t_people, .inr (5, [.ref q_t_people_numbers, .ref q_t_people_counts, .int v_t_people_size])), (q_t_evenings, .inr (1, [.ref q_t_evenings_counts, .long w2_1])), (q_t_evenings_counts, .inl (cI, 10, .inl w2_2))]) hP hD hS hA [3, 4, 1] [0, 2] [0, 4, 1, 2, 3] rfl rfl (by decide) (by decide) rfl (by decide) (va_runV (As := [.ref q_t_rules, .int x1, .int (X5_size v_t_people_size)]) (rest := [.int x3]) ⟨hx, hb, hml, hown, hts⟩ (cn_X1_gain l dC dI cI cJ cZ q_t_evenings q_t_rules q_t_evenings_counts H.size v_t_evenings_state f_t_evenings_counts v_t_rules_law v_t_rules_share v_t_rules_pot v_t_rules_barred x1 (X5_size v_t_people_size) r2 w2_1 w2_2 hc2) (cwV 3 hts gX10_won_X1_gain rfl rfl rfl (by decide +kernel) ⟨Nat.le_of_ble_eq_true rfl, Nat.le_of_ble_eq_true rfl⟩) (preW hKK (hP.sub (ws' := [(q_t_evenings, .inr (1, [.ref q_t_evenings_counts, .long v_t_evenings_state])), (q_t_evenings_counts, .inl (cI, 10, .inl f_t_evenings_counts)), (q_t_rules, .inr (8, [.int v_t_rules_law, .int v_t_rules_share, .int v_t_rules_pot, .int v_t_rules_barred]))]) [3, 4, 1] rfl) (hD.sub (ws' := [(q_t_evenings, .inr (1, [.ref q_t_evenings_counts, .long v_t_evenings_state])), (q_t_evenings_counts, .inl (cI, 10, .inl f_t_evenings_counts)), (q_t_rules, .inr (8, [.int v_t_rules_law, .int v_t_rules_share, .int v_t_rules_pot, .int v_t_rules_barred]))]) [3, 4, 1] (by decide) rfl) (ci := 1) (q0 := 0) rfl rfl) rfl rfl hl.1 rfl (lv_room (Nat.le_of_ble_eq_true rfl)) dX10_won_55 ⟨Nat.zero_le _, Nat.zero_le _⟩) (fun H locs hP hD hS => ?_)
      refine lv_iadd hx hb dX10_won_58 ?_
      refine lv_istore_n (lv' := [(3, .int (x3 + r2)), (0, .ref q_t), (1, .int x1), (2, .int x2), (4, .int x4)]) hx hb dX10_won_59 rfl hl (by decide) rfl (fun ls hl => ?_)
      refine lv_iinc (v := (x4 + (1 : Int32))) (lv' := [(4, .int (x4 + (1 : Int32))), (3, .int (x3 + r2)), (0, .ref q_t), (1, .int x1), (2, .int x2)]) hx hb dX10_won_60 hl (k := 4) rfl rfl (by decide) rfl (fun ls hl => ?_)
      refine lv_goto (tgt := 32) hx hb dX10_won_63 (by decide) ?_
      exact ih_32 w2_1 w2_2 x1 x2 (x3 + r2) (x4 + (1 : Int32)) h H locs ls hP hD hS (lv_sub hl [2, 3, 4, 1, 0] rfl)
  unfold X10_won at h
  obtain ⟨H, hHe⟩ : ∃ H, H = s.heap := ⟨_, rfl⟩
  obtain ⟨locs, hLe⟩ : ∃ x : List Loc, x = [] := ⟨_, rfl⟩
  rw [← hHe] at hP
  have hS : va_S A s.heap H locs := by rw [hHe, hLe]; exact hS
  suffices hW : W p l e (headSpec wsX10_won rm_X10_won).room s m ([.ref q_t, .int p1, .int p2] : List Value).toArray below meth c H locs 0 0 (MQ below (va_Qi (fun (r : Int32) (_ : Unit) => r = res) (bW dC dI A [(q_t, .inr (10, [.ref q_t_text, .ref q_t_reader, .ref q_t_rules, .ref q_t_people, .ref q_t_memory, .ref q_t_rows, .ref q_t_chances, .ref q_t_moves, .ref q_t_payments, .ref q_t_evenings])), (q_t_rules, .inr (8, [.int v_t_rules_law, .int v_t_rules_share, .int v_t_rules_pot, .int v_t_rules_barred])), (q_t_people, .inr (5, [.ref q_t_people_numbers, .ref q_t_people_counts, .int v_t_people_size])), (q_t_evenings, .inr (1, [.ref q_t_evenings_counts, .long r_v_t_evenings_state])), (q_t_evenings_counts, .inl (cI, 10, .inl r_f_t_evenings_counts))]) A) ([.ref q_t, .int p1, .int p2] : List Value).toArray s 0 0 A) (F0 m 0 ls []) by rw [hHe, hLe] at hW; exact hW
  refine lv_aload_n hx hb dX10_won_0 rfl (lv_at hl 0 rfl) ?_
  refine va_get (D := (dC, dI)) (ci := 10) (v := .ref q_t_people) (C := RX10) (T := TX10) (N := 10) hx hb hts in_X10_won_X10 hown hK hP 0 rfl rfl 3 (by decide) (hts (.fieldLink RX10 33 "RightIfAsMany" "people" "LRightIfAsMany$People;") (List.mem_of_getElem? (i := 1) rfl)) (fun _ h9 => h9) rfl dX10_won_1 ?_
  refine lv_iload_n hx hb dX10_won_4 rfl (lv_at hl 1 rfl) ?_
  refine kRz (res := (X5_has v_t_people_size p1)) (va_runV (As := [.int p1]) (rest := []) ⟨hx, hb, hml, hown, hts⟩ (cn_X5_has l dC dI cI cJ cZ q_t_people q_t_people_numbers q_t_people_counts  v_t_people_size p1 (X5_has v_t_people_size p1) rfl) (cwV 1 hts gX10_won_X5_has rfl rfl rfl (by decide +kernel) ⟨Nat.le_of_ble_eq_true rfl, Nat.le_of_ble_eq_true rfl⟩) (preR hKK (hP.sub (ws' := [(q_t_people, .inr (5, [.ref q_t_people_numbers, .ref q_t_people_counts, .int v_t_people_size]))]) [2] rfl) (ci := 5) (q0 := 0) rfl rfl) rfl rfl hl.1 rfl (lv_room (Nat.le_of_ble_eq_true rfl)) dX10_won_5 ⟨Nat.zero_le _, Nat.zero_le _⟩) (fun hz3 => ?_)
  refine lv_if_ne (tgt := 13) hx hb dX10_won_8 (by decide) (fun c4 => ?_) (fun c4 => ?_)
  · replace h := ite_f h c4
    refine lv_iload_n hx hb dX10_won_13 rfl (lv_at hl 2 rfl) ?_
    refine lv_iconst (v := (1 : Int32)) hx hb dX10_won_14 (by decide) ?_
    refine lv_icmp_lt (tgt := 24) hx hb dX10_won_15 (by decide) (fun c5 => ?_) (fun c5 => ?_)
    · replace h := ite_t h c5
      refine lv_bipush (v := (-2 : Int32)) hx hb dX10_won_24 (by decide) ?_
      replace h := Option.some.inj h
      obtain ⟨e1, e2, e3⟩ := pr3 h
      exact W.iret (v := (-2 : Int32)) hx hb hr (fun t ht hW => ⟨⟨_, (), rfl, e1, (by rw [ht, ← e2, ← e3]; exact hP), (by rw [← e2, ← e3]; exact hD)⟩, hS.F ht⟩) hS.2.2 dX10_won_26
    replace h := ite_f h c5
    refine lv_iload_n hx hb dX10_won_18 rfl (lv_at hl 2 rfl) ?_
    refine lv_bipush (v := (40 : Int32)) hx hb dX10_won_19 (by decide) ?_
    refine lv_icmp_le (tgt := 27) hx hb dX10_won_21 (by decide) (fun c6 => ?_) (fun c6 => ?_)
    · replace h := ite_t h c6
      refine lv_iconst (v := (0 : Int32)) hx hb dX10_won_27 (by decide) ?_
      refine lv_istore_n (lv' := [(3, .int (0 : Int32)), (0, .ref q_t), (1, .int p1), (2, .int p2)]) hx hb dX10_won_28 rfl hl (by decide) rfl (fun ls hl => ?_)
      refine lv_iconst (v := (0 : Int32)) hx hb dX10_won_29 (by decide) ?_
      refine lv_istore (lv' := [(4, .int (0 : Int32)), (3, .int (0 : Int32)), (0, .ref q_t), (1, .int p1), (2, .int p2)]) hx hb dX10_won_30 hl (by decide) rfl (fun ls hl => ?_)
      exact L_32 fU v_t_evenings_state f_t_evenings_counts p1 p2 (0 : Int32) (0 : Int32) h H locs ls hP hD hS (lv_sub hl [2, 3, 4, 1, 0] rfl)
    replace h := ite_f h c6
    refine lv_bipush (v := (-2 : Int32)) hx hb dX10_won_24 (by decide) ?_
    replace h := Option.some.inj h
    obtain ⟨e1, e2, e3⟩ := pr3 h
    exact W.iret (v := (-2 : Int32)) hx hb hr (fun t ht hW => ⟨⟨_, (), rfl, e1, (by rw [ht, ← e2, ← e3]; exact hP), (by rw [← e2, ← e3]; exact hD)⟩, hS.F ht⟩) hS.2.2 dX10_won_26
  replace h := ite_t h c4
  refine lv_iconst (v := (-1 : Int32)) hx hb dX10_won_11 (by decide) ?_
  replace h := Option.some.inj h
  obtain ⟨e1, e2, e3⟩ := pr3 h
  exact W.iret (v := (-1 : Int32)) hx hb hr (fun t ht hW => ⟨⟨_, (), rfl, e1, (by rw [ht, ← e2, ← e3]; exact hP), (by rw [← e2, ← e3]; exact hD)⟩, hS.F ht⟩) hS.2.2 dX10_won_12
abbrev rm_X10_isSlot : Room := { frames := 0, cells := 0, slots := 0, locals := 0 }
set_option maxHeartbeats 4000000 in
set_option maxRecDepth 100000 in
theorem cn_X10_isSlot (l : Launch) (dC : Nat → ClassId) (dI : Nat → Nat → Nat) (cI cJ cZ : ClassId) (p0 : Int32) (res : Int32) (h : X10_isSlot p0 = res) : Met l yX10_isSlot wsX10_isSlot rm_X10_isSlot (pcR dC dI cI cJ cZ [] [.int p0]) (vp_Si (fun r => r = res ∧ r &&& 1 = r)) 0 0 (fun _ => False) := by
  refine Met.ofW (cc := cX10_isSlot) (maxL := 1) (ret := (some .boolean)) (by decide) rfl ?_
  intro p e s m args below meth c s₁ B hml hv
  obtain ⟨rfl, hP, hKK⟩ := hv
  have hx := B.exec
  have hb := B.bytes
  have hr := B.returns
  have hts := atoms_spec (ws := wsX10_isSlot) B.pre
  have hown : s.vm.findClass RX10 = some m.cls := findClass_of_methodNamed B.named
  have hlocks := B.notSynchronized
  have hK := hKK.1
  have hl := lv_entry ([.int p0]) (n := 1) (Nat.le_of_ble_eq_true rfl)
  rw [lg_entry_eq]
  generalize (lg_sl ([.int p0]) ++ List.replicate (1 - (lg_sl ([.int p0])).length) Slot.unset).toArray = ls at hl ⊢
  have hl : lv_has ls 1 [(0, .int p0)] := hl
  unfold X10_isSlot at h
  refine lv_iload_n hx hb dX10_isSlot_0 rfl (lv_at hl 0 rfl) ?_
  refine lv_if_lt (tgt := 13) hx hb dX10_isSlot_1 (by decide) (fun c1 => ?_) (fun c1 => ?_)
  · replace h := ite_t h c1
    refine lv_iconst (v := (0 : Int32)) hx hb dX10_isSlot_13 (by decide) ?_
    have e1 := h
    exact W.zret (v := (0 : Int32)) (ty := .boolean) hx hb hr (congrArg Value.int rfl) (fun t ht hW => ⟨_, rfl, ⟨e1, rfl⟩, ht⟩) (fun q hq => by cases hq) dX10_isSlot_14
  replace h := ite_f h c1
  refine lv_iload_n hx hb dX10_isSlot_4 rfl (lv_at hl 0 rfl) ?_
  refine lv_iconst (v := (2 : Int32)) hx hb dX10_isSlot_5 (by decide) ?_
  refine lv_icmp_ge (tgt := 13) hx hb dX10_isSlot_6 (by decide) (fun c2 => ?_) (fun c2 => ?_)
  · replace h := ite_t h c2
    refine lv_iconst (v := (0 : Int32)) hx hb dX10_isSlot_13 (by decide) ?_
    have e1 := h
    exact W.zret (v := (0 : Int32)) (ty := .boolean) hx hb hr (congrArg Value.int rfl) (fun t ht hW => ⟨_, rfl, ⟨e1, rfl⟩, ht⟩) (fun q hq => by cases hq) dX10_isSlot_14
  replace h := ite_f h c2
  refine lv_iconst (v := (1 : Int32)) hx hb dX10_isSlot_9 (by decide) ?_
  refine lv_goto (tgt := 14) hx hb dX10_isSlot_10 (by decide) ?_
  have e1 := h
  exact W.zret (v := (1 : Int32)) (ty := .boolean) hx hb hr (congrArg Value.int rfl) (fun t ht hW => ⟨_, rfl, ⟨e1, rfl⟩, ht⟩) (fun q hq => by cases hq) dX10_isSlot_14
abbrev rm_X2_putSlot : Room := { frames := 1, cells := 0, slots := 0, locals := 20 }
theorem in_X2_putSlot_X2 : ∀ w ∈ wsX20, w ∈ wsX2_putSlot := fun _ h => List.mem_cons_of_mem _ (List.mem_append_right _ h)
set_option maxHeartbeats 4000000 in
set_option maxRecDepth 100000 in
theorem cn_X2_putSlot (l : Launch) (dC : Nat → ClassId) (dI : Nat → Nat → Nat) (cI cJ cZ : ClassId) (q_t q_t_row q_t_slots : Nat) (sz : Nat) (v_t_acts : Int32) (f_t_slots : (Nat → Int64)) (p1 : Int32) (p2 : Int64) (r_f_t_slots : (Nat → Int64)) (h : X2_putSlot f_t_slots p1 p2 = some r_f_t_slots) : Met l yX2_putSlot wsX2_putSlot rm_X2_putSlot (pcW dC dI cI cJ cZ [(q_t, .inr (2, [.ref q_t_row, .ref q_t_slots, .int v_t_acts])), (q_t_slots, .inl (cJ, 2, .inr (.inl f_t_slots)))] sz [.ref q_t, .int p1, .long p2]) (va_Qv (fun (_ : Unit) => True) (bW dC dI (va_A [(q_t, .inr (2, [.ref q_t_row, .ref q_t_slots, .int v_t_acts])), (q_t_slots, .inl (cJ, 2, .inr (.inl f_t_slots)))] sz) [(q_t, .inr (2, [.ref q_t_row, .ref q_t_slots, .int v_t_acts])), (q_t_slots, .inl (cJ, 2, .inr (.inl r_f_t_slots)))]) (va_A [(q_t, .inr (2, [.ref q_t_row, .ref q_t_slots, .int v_t_acts])), (q_t_slots, .inl (cJ, 2, .inr (.inl f_t_slots)))] sz)) 0 0 (va_A [(q_t, .inr (2, [.ref q_t_row, .ref q_t_slots, .int v_t_acts])), (q_t_slots, .inl (cJ, 2, .inr (.inl f_t_slots)))] sz) := by
  refine Met.ofW (cc := cX2_putSlot) (maxL := 4) (ret := none) (by decide) rfl ?_
  intro p e s m args below meth c s₁ B hml hv
  obtain ⟨rfl, hsz, hP, hKK, hD0⟩ := hv
  have hx := B.exec
  have hb := B.bytes
  have hr := B.returns
  have hts := atoms_spec (ws := wsX2_putSlot) B.pre
  have hown : s.vm.findClass RX2 = some m.cls := findClass_of_methodNamed B.named
  have hlocks := B.notSynchronized
  have hK := hKK.1
  subst hsz
  have hD := hD0.self (sz := s.heap.size)
  generalize hAe : va_A [(q_t, .inr (2, [.ref q_t_row, .ref q_t_slots, .int v_t_acts])), (q_t_slots, .inl (cJ, 2, .inr (.inl f_t_slots)))] s.heap.size = A at hD ⊢
  have hA : ∀ q : Nat, s.heap.size ≤ q → A q := fun q h => by rw [← hAe]; exact Or.inr h
  have hS : va_S A s.heap s.heap [] := va_S.rf
  have hl := lv_entry ([.ref q_t, .int p1, .long p2]) (n := 4) (Nat.le_of_ble_eq_true rfl)
  rw [lg_entry_eq]
  generalize (lg_sl ([.ref q_t, .int p1, .long p2]) ++ List.replicate (4 - (lg_sl ([.ref q_t, .int p1, .long p2])).length) Slot.unset).toArray = ls at hl ⊢
  have hl : lv_has ls 4 [(0, .ref q_t), (1, .int p1), (2, .long p2)] := hl
  unfold X2_putSlot at h
  obtain ⟨H, hHe⟩ : ∃ H, H = s.heap := ⟨_, rfl⟩
  obtain ⟨locs, hLe⟩ : ∃ x : List Loc, x = [] := ⟨_, rfl⟩
  rw [← hHe] at hP
  have hS : va_S A s.heap H locs := by rw [hHe, hLe]; exact hS
  suffices hW : W p l e (headSpec wsX2_putSlot rm_X2_putSlot).room s m ([.ref q_t, .int p1, .long p2] : List Value).toArray below meth c H locs 0 0 (MQ below (va_Qv (fun (_ : Unit) => True) (bW dC dI A [(q_t, .inr (2, [.ref q_t_row, .ref q_t_slots, .int v_t_acts])), (q_t_slots, .inl (cJ, 2, .inr (.inl r_f_t_slots)))]) A) ([.ref q_t, .int p1, .long p2] : List Value).toArray s 0 0 A) (F0 m 0 ls []) by rw [hHe, hLe] at hW; exact hW
  refine lv_iload_n hx hb dX2_putSlot_0 rfl (lv_at hl 1 rfl) ?_
  refine kRz (res := (X10_isSlot p1)) (va_runSN (As := [.int p1]) (rest := []) ⟨hx, hb, hml, hown, hts⟩ (cn_X10_isSlot l dC dI cI cJ cZ    p1 (X10_isSlot p1) rfl) ⟨va_cnB 1 hts gX2_putSlot_X10_isSlot_n30 rfl rfl rfl (hKK.nw 23 rfl) (hts (.initialized RX10) (List.mem_of_getElem? (i := 3) rfl)) (by decide +kernel) ⟨Nat.le_of_ble_eq_true rfl, Nat.le_of_ble_eq_true rfl⟩, hts (.static yX10_isSlot) (List.mem_of_getElem? (i := 2) rfl), trivial⟩ (preRS hKK (hP.sub (ws' := []) [] rfl)) rfl rfl hl.1 rfl (lv_room (Nat.le_of_ble_eq_true rfl)) dX2_putSlot_1 ⟨Nat.zero_le _, Nat.zero_le _⟩) (fun hz1 => ?_)
  refine lv_if_eq (tgt := 14) hx hb dX2_putSlot_4 (by decide) (fun c2 => ?_) (fun c2 => ?_)
  · replace h := ite_t h c2
    replace h := Option.some.inj h
    have e1 := h
    exact W.vret hx hb hr (fun t ht hW => ⟨⟨(), rfl, trivial, (by rw [ht, ← e1]; exact hP), (by rw [← e1]; exact hD)⟩, hS.F ht⟩) hS.2.2 dX2_putSlot_14
  replace h := ite_f h c2
  refine lv_aload_n hx hb dX2_putSlot_7 rfl (lv_at hl 0 rfl) ?_
  refine va_get (D := (dC, dI)) (ci := 2) (v := .ref q_t_slots) (C := RX2) (T := TX2) (N := 3) hx hb hts in_X2_putSlot_X2 hown hK hP 0 rfl rfl 1 (by decide) (hts (.fieldLink RX2 17 "RightIfAsMany$Memory" "slots" "[J") (List.mem_of_getElem? (i := 1) rfl)) (fun _ h9 => h9) rfl dX2_putSlot_8 ?_
  refine lv_iload_n hx hb dX2_putSlot_11 rfl (lv_at hl 1 rfl) ?_
  refine lv_lload_n hx hb dX2_putSlot_12 rfl (lv_at hl 2 rfl) ?_
  obtain ⟨hg3, h⟩ := grd_s h
  refine va_last hx hb hK hP hD hS 1 1 rfl rfl hg3 dX2_putSlot_13 (fun H locs hP hD hS => ?_)
  have hP : va_P (dC, dI) vwCl [(q_t, .inr (2, [.ref q_t_row, .ref q_t_slots, .int v_t_acts])), (q_t_slots, .inl (cJ, 2, .inr (.inl (vp_updL f_t_slots p1.toNatClampNeg p2))))] H := hP
  have hD : va_D A [(q_t, .inr (2, [.ref q_t_row, .ref q_t_slots, .int v_t_acts])), (q_t_slots, .inl (cJ, 2, .inr (.inl (vp_updL f_t_slots p1.toNatClampNeg p2))))] := hD
  replace h := Option.some.inj h
  have e1 := h
  exact W.vret hx hb hr (fun t ht hW => ⟨⟨(), rfl, trivial, (by rw [ht, ← e1]; exact hP), (by rw [← e1]; exact hD)⟩, hS.F ht⟩) hS.2.2 dX2_putSlot_14
abbrev rm_X10_keep : Room := { frames := 2, cells := 0, slots := 0, locals := 43 }
theorem in_X10_keep_X2 : ∀ w ∈ wsX20, w ∈ wsX10_keep := fun _ h => List.mem_cons_of_mem _ (List.mem_append_right _ h)
theorem in_X10_keep_X5 : ∀ w ∈ wsX50, w ∈ wsX10_keep := fun _ h => List.mem_cons_of_mem _ (List.mem_append_left _ (List.mem_append_right _ h))
theorem in_X10_keep_X10 : ∀ w ∈ wsX100, w ∈ wsX10_keep := fun _ h => List.mem_cons_of_mem _ (List.mem_append_left _ (List.mem_append_left _ (List.mem_append_right _ h)))
set_option maxHeartbeats 4000000 in
set_option maxRecDepth 100000 in
theorem cn_X10_keep (l : Launch) (dC : Nat → ClassId) (dI : Nat → Nat → Nat) (cI cJ cZ : ClassId) (q_t q_t_text q_t_reader q_t_rules q_t_people q_t_memory q_t_rows q_t_chances q_t_moves q_t_payments q_t_evenings q_t_people_numbers q_t_people_counts q_t_memory_row q_t_memory_slots : Nat) (sz : Nat) (v_t_people_size : Int32) (f_t_people_numbers : (Nat → Int32)) (v_t_memory_acts : Int32) (f_t_memory_slots : (Nat → Int64)) (p1 : Int32) (res : Int32) (r_f_t_memory_slots : (Nat → Int64)) (h : X10_keep v_t_people_size f_t_people_numbers f_t_memory_slots p1 = some (res, r_f_t_memory_slots)) : Met l yX10_keep wsX10_keep rm_X10_keep (pcW dC dI cI cJ cZ [(q_t, .inr (10, [.ref q_t_text, .ref q_t_reader, .ref q_t_rules, .ref q_t_people, .ref q_t_memory, .ref q_t_rows, .ref q_t_chances, .ref q_t_moves, .ref q_t_payments, .ref q_t_evenings])), (q_t_people, .inr (5, [.ref q_t_people_numbers, .ref q_t_people_counts, .int v_t_people_size])), (q_t_people_numbers, .inl (cI, 9, .inl f_t_people_numbers)), (q_t_memory, .inr (2, [.ref q_t_memory_row, .ref q_t_memory_slots, .int v_t_memory_acts])), (q_t_memory_slots, .inl (cJ, 2, .inr (.inl f_t_memory_slots)))] sz [.ref q_t, .int p1]) (va_Qi (fun (r : Int32) (_ : Unit) => r = res) (bW dC dI (va_A [(q_t, .inr (10, [.ref q_t_text, .ref q_t_reader, .ref q_t_rules, .ref q_t_people, .ref q_t_memory, .ref q_t_rows, .ref q_t_chances, .ref q_t_moves, .ref q_t_payments, .ref q_t_evenings])), (q_t_people, .inr (5, [.ref q_t_people_numbers, .ref q_t_people_counts, .int v_t_people_size])), (q_t_people_numbers, .inl (cI, 9, .inl f_t_people_numbers)), (q_t_memory, .inr (2, [.ref q_t_memory_row, .ref q_t_memory_slots, .int v_t_memory_acts])), (q_t_memory_slots, .inl (cJ, 2, .inr (.inl f_t_memory_slots)))] sz) [(q_t, .inr (10, [.ref q_t_text, .ref q_t_reader, .ref q_t_rules, .ref q_t_people, .ref q_t_memory, .ref q_t_rows, .ref q_t_chances, .ref q_t_moves, .ref q_t_payments, .ref q_t_evenings])), (q_t_people, .inr (5, [.ref q_t_people_numbers, .ref q_t_people_counts, .int v_t_people_size])), (q_t_people_numbers, .inl (cI, 9, .inl f_t_people_numbers)), (q_t_memory, .inr (2, [.ref q_t_memory_row, .ref q_t_memory_slots, .int v_t_memory_acts])), (q_t_memory_slots, .inl (cJ, 2, .inr (.inl r_f_t_memory_slots)))]) (va_A [(q_t, .inr (10, [.ref q_t_text, .ref q_t_reader, .ref q_t_rules, .ref q_t_people, .ref q_t_memory, .ref q_t_rows, .ref q_t_chances, .ref q_t_moves, .ref q_t_payments, .ref q_t_evenings])), (q_t_people, .inr (5, [.ref q_t_people_numbers, .ref q_t_people_counts, .int v_t_people_size])), (q_t_people_numbers, .inl (cI, 9, .inl f_t_people_numbers)), (q_t_memory, .inr (2, [.ref q_t_memory_row, .ref q_t_memory_slots, .int v_t_memory_acts])), (q_t_memory_slots, .inl (cJ, 2, .inr (.inl f_t_memory_slots)))] sz)) 0 0 (va_A [(q_t, .inr (10, [.ref q_t_text, .ref q_t_reader, .ref q_t_rules, .ref q_t_people, .ref q_t_memory, .ref q_t_rows, .ref q_t_chances, .ref q_t_moves, .ref q_t_payments, .ref q_t_evenings])), (q_t_people, .inr (5, [.ref q_t_people_numbers, .ref q_t_people_counts, .int v_t_people_size])), (q_t_people_numbers, .inl (cI, 9, .inl f_t_people_numbers)), (q_t_memory, .inr (2, [.ref q_t_memory_row, .ref q_t_memory_slots, .int v_t_memory_acts])), (q_t_memory_slots, .inl (cJ, 2, .inr (.inl f_t_memory_slots)))] sz) := by
  refine Met.ofW (cc := cX10_keep) (maxL := 2) (ret := (some .int)) (by decide) rfl ?_
  intro p e s m args below meth c s₁ B hml hv
  obtain ⟨rfl, hsz, hP, hKK, hD0⟩ := hv
  have hx := B.exec
  have hb := B.bytes
  have hr := B.returns
  have hts := atoms_spec (ws := wsX10_keep) B.pre
  have hown : s.vm.findClass RX10 = some m.cls := findClass_of_methodNamed B.named
  have hlocks := B.notSynchronized
  have hK := hKK.1
  subst hsz
  have hD := hD0.self (sz := s.heap.size)
  generalize hAe : va_A [(q_t, .inr (10, [.ref q_t_text, .ref q_t_reader, .ref q_t_rules, .ref q_t_people, .ref q_t_memory, .ref q_t_rows, .ref q_t_chances, .ref q_t_moves, .ref q_t_payments, .ref q_t_evenings])), (q_t_people, .inr (5, [.ref q_t_people_numbers, .ref q_t_people_counts, .int v_t_people_size])), (q_t_people_numbers, .inl (cI, 9, .inl f_t_people_numbers)), (q_t_memory, .inr (2, [.ref q_t_memory_row, .ref q_t_memory_slots, .int v_t_memory_acts])), (q_t_memory_slots, .inl (cJ, 2, .inr (.inl f_t_memory_slots)))] s.heap.size = A at hD ⊢
  have hA : ∀ q : Nat, s.heap.size ≤ q → A q := fun q h => by rw [← hAe]; exact Or.inr h
  have hS : va_S A s.heap s.heap [] := va_S.rf
  have hl := lv_entry ([.ref q_t, .int p1]) (n := 2) (Nat.le_of_ble_eq_true rfl)
  rw [lg_entry_eq]
  generalize (lg_sl ([.ref q_t, .int p1]) ++ List.replicate (2 - (lg_sl ([.ref q_t, .int p1])).length) Slot.unset).toArray = ls at hl ⊢
  have hl : lv_has ls 2 [(0, .ref q_t), (1, .int p1)] := hl
  unfold X10_keep at h
  obtain ⟨H, hHe⟩ : ∃ H, H = s.heap := ⟨_, rfl⟩
  obtain ⟨locs, hLe⟩ : ∃ x : List Loc, x = [] := ⟨_, rfl⟩
  rw [← hHe] at hP
  have hS : va_S A s.heap H locs := by rw [hHe, hLe]; exact hS
  suffices hW : W p l e (headSpec wsX10_keep rm_X10_keep).room s m ([.ref q_t, .int p1] : List Value).toArray below meth c H locs 0 0 (MQ below (va_Qi (fun (r : Int32) (_ : Unit) => r = res) (bW dC dI A [(q_t, .inr (10, [.ref q_t_text, .ref q_t_reader, .ref q_t_rules, .ref q_t_people, .ref q_t_memory, .ref q_t_rows, .ref q_t_chances, .ref q_t_moves, .ref q_t_payments, .ref q_t_evenings])), (q_t_people, .inr (5, [.ref q_t_people_numbers, .ref q_t_people_counts, .int v_t_people_size])), (q_t_people_numbers, .inl (cI, 9, .inl f_t_people_numbers)), (q_t_memory, .inr (2, [.ref q_t_memory_row, .ref q_t_memory_slots, .int v_t_memory_acts])), (q_t_memory_slots, .inl (cJ, 2, .inr (.inl r_f_t_memory_slots)))]) A) ([.ref q_t, .int p1] : List Value).toArray s 0 0 A) (F0 m 0 ls []) by rw [hHe, hLe] at hW; exact hW
  refine lv_iload_n hx hb dX10_keep_0 rfl (lv_at hl 1 rfl) ?_
  refine kRz (res := (X10_isSlot p1)) (va_runS (As := [.int p1]) (rest := []) ⟨hx, hb, hml, hown, hts⟩ (cn_X10_isSlot l dC dI cI cJ cZ    p1 (X10_isSlot p1) rfl) (va_cwS 1 hts gX10_keep_X10_isSlot rfl rfl rfl (by decide +kernel) ⟨Nat.le_of_ble_eq_true rfl, Nat.le_of_ble_eq_true rfl⟩) (preRS hKK (hP.sub (ws' := []) [] rfl)) rfl rfl hl.1 rfl (lv_room (Nat.le_of_ble_eq_true rfl)) dX10_keep_1 ⟨Nat.zero_le _, Nat.zero_le _⟩) (fun hz1 => ?_)
  refine lv_if_ne (tgt := 9) hx hb dX10_keep_4 (by decide) (fun c2 => ?_) (fun c2 => ?_)
  · replace h := ite_f h c2
    refine lv_aload_n hx hb dX10_keep_9 rfl (lv_at hl 0 rfl) ?_
    refine va_get (D := (dC, dI)) (ci := 10) (v := .ref q_t_memory) (C := RX10) (T := TX10) (N := 10) hx hb hts in_X10_keep_X10 hown hK hP 0 rfl rfl 4 (by decide) (hts (.fieldLink RX10 40 "RightIfAsMany" "memory" "LRightIfAsMany$Memory;") (List.mem_of_getElem? (i := 1) rfl)) (fun _ h9 => h9) rfl dX10_keep_10 ?_
    refine lv_iload_n hx hb dX10_keep_13 rfl (lv_at hl 1 rfl) ?_
    refine lv_aload_n hx hb dX10_keep_14 rfl (lv_at hl 0 rfl) ?_
    refine va_get (D := (dC, dI)) (ci := 10) (v := .ref q_t_people) (C := RX10) (T := TX10) (N := 10) hx hb hts in_X10_keep_X10 hown hK hP 0 rfl rfl 3 (by decide) (hts (.fieldLink RX10 33 "RightIfAsMany" "people" "LRightIfAsMany$People;") (List.mem_of_getElem? (i := 2) rfl)) (fun _ h9 => h9) rfl dX10_keep_15 ?_
    obtain ⟨r3, hc3, h⟩ := bnd1_s h
    refine kRl (res := r3) (va_runV (As := []) (rest := [.int p1, .ref q_t_memory]) ⟨hx, hb, hml, hown, hts⟩ (cn_X5_pack l dC dI cI cJ cZ q_t_people q_t_people_numbers q_t_people_counts  v_t_people_size f_t_people_numbers  r3 hc3) (cwV 0 hts gX10_keep_X5_pack rfl rfl rfl (by decide +kernel) ⟨Nat.le_of_ble_eq_true rfl, Nat.le_of_ble_eq_true rfl⟩) (preR hKK (hP.sub (ws' := [(q_t_people, .inr (5, [.ref q_t_people_numbers, .ref q_t_people_counts, .int v_t_people_size])), (q_t_people_numbers, .inl (cI, 9, .inl f_t_people_numbers))]) [1, 2] rfl) (ci := 5) (q0 := 0) rfl rfl) rfl rfl hl.1 rfl (lv_room (Nat.le_of_ble_eq_true rfl)) dX10_keep_18 ⟨Nat.zero_le _, Nat.zero_le _⟩) ?_
    obtain ⟨w4_0, hc4, h⟩ := bnd1_s h
    refine kWv (wc := [(q_t_memory, .inr (2, [.ref q_t_memory_row, .ref q_t_memory_slots, .int v_t_memory_acts])), (q_t_memory_slots, .inl (cJ, 2, .inr (.inl f_t_memory_slots)))]) (wr := [(q_t, .inr (10, [.ref q_t_text, .ref q_t_reader, .ref q_t_rules, .ref q_t_people, .ref q_t_memory, .ref q_t_rows, .ref q_t_chances, .ref q_t_moves, .ref q_t_payments, .ref q_t_evenings])), (q_t_people, .inr (5, [.ref q_t_people_numbers, .ref q_t_people_counts, .int v_t_people_size])), (q_t_people_numbers, .inl (cI, 9, .inl f_t_people_numbers))]) (w1 := [(q_t_memory, .inr (2, [.ref q_t_memory_row, .ref q_t_memory_slots, .int v_t_memory_acts])), (q_t_memory_slots, .inl (cJ, 2, .inr (.inl w4_0)))]) (wn := [(q_t, .inr (10, [.ref q_t_text, .ref q_t_reader, .ref q_t_rules, .ref q_t_people, .ref q_t_memory, .ref q_t_rows, .ref q_t_chances, .ref q_t_moves, .ref q_t_payments, .ref q_t_evenings])), (q_t_people, .inr (5, [.ref q_t_people_numbers, .ref q_t_people_counts, .int v_t_people_size])), (q_t_people_numbers, .inl (cI, 9, .inl f_t_people_numbers)), (q_t_memory, .inr (2, [.ref q_t_memory_row, .ref q_t_memory_slots, .int v_t_memory_acts])), (q_t_memory_slots, .inl (cJ, 2, .inr (.inl w4_0)))]) hP hD hS hA [3, 4] [0, 1, 2] [0, 1, 2, 3, 4] rfl rfl (by decide) (by decide) rfl (by decide) (va_runV (As := [.int p1, .long r3]) (rest := []) ⟨hx, hb, hml, hown, hts⟩ (cn_X2_putSlot l dC dI cI cJ cZ q_t_memory q_t_memory_row q_t_memory_slots H.size v_t_memory_acts f_t_memory_slots p1 r3 w4_0 hc4) (cwV 2 hts gX10_keep_X2_putSlot rfl rfl rfl (by decide +kernel) ⟨Nat.le_of_ble_eq_true rfl, Nat.le_of_ble_eq_true rfl⟩) (preW hKK (hP.sub (ws' := [(q_t_memory, .inr (2, [.ref q_t_memory_row, .ref q_t_memory_slots, .int v_t_memory_acts])), (q_t_memory_slots, .inl (cJ, 2, .inr (.inl f_t_memory_slots)))]) [3, 4] rfl) (hD.sub (ws' := [(q_t_memory, .inr (2, [.ref q_t_memory_row, .ref q_t_memory_slots, .int v_t_memory_acts])), (q_t_memory_slots, .inl (cJ, 2, .inr (.inl f_t_memory_slots)))]) [3, 4] (by decide) rfl) (ci := 2) (q0 := 0) rfl rfl) rfl rfl hl.1 rfl (lv_room (Nat.le_of_ble_eq_true rfl)) dX10_keep_21 ⟨Nat.zero_le _, Nat.zero_le _⟩) (fun H locs hP hD hS => ?_)
    refine lv_aload_n hx hb dX10_keep_24 rfl (lv_at hl 0 rfl) ?_
    refine va_get (D := (dC, dI)) (ci := 10) (v := .ref q_t_people) (C := RX10) (T := TX10) (N := 10) hx hb hts in_X10_keep_X10 hown hK hP 0 rfl rfl 3 (by decide) (hts (.fieldLink RX10 33 "RightIfAsMany" "people" "LRightIfAsMany$People;") (List.mem_of_getElem? (i := 2) rfl)) (fun _ h9 => h9) rfl dX10_keep_25 ?_
    refine kRi (res := (X5_size v_t_people_size)) (va_runV (As := []) (rest := []) ⟨hx, hb, hml, hown, hts⟩ (cn_X5_size l dC dI cI cJ cZ q_t_people q_t_people_numbers q_t_people_counts  v_t_people_size  (X5_size v_t_people_size) rfl) (cwV 0 hts gX10_keep_X5_size rfl rfl rfl (by decide +kernel) ⟨Nat.le_of_ble_eq_true rfl, Nat.le_of_ble_eq_true rfl⟩) (preR hKK (hP.sub (ws' := [(q_t_people, .inr (5, [.ref q_t_people_numbers, .ref q_t_people_counts, .int v_t_people_size]))]) [1] rfl) (ci := 5) (q0 := 0) rfl rfl) rfl rfl hl.1 rfl (lv_room (Nat.le_of_ble_eq_true rfl)) dX10_keep_28 ⟨Nat.zero_le _, Nat.zero_le _⟩) ?_
    replace h := Option.some.inj h
    obtain ⟨e1, e2⟩ := pr2 h
    exact W.iret (v := (X5_size v_t_people_size)) hx hb hr (fun t ht hW => ⟨⟨_, (), rfl, e1, (by rw [ht, ← e2]; exact hP), (by rw [← e2]; exact hD)⟩, hS.F ht⟩) hS.2.2 dX10_keep_31
  replace h := ite_t h c2
  refine lv_iconst (v := (-1 : Int32)) hx hb dX10_keep_7 (by decide) ?_
  replace h := Option.some.inj h
  obtain ⟨e1, e2⟩ := pr2 h
  exact W.iret (v := (-1 : Int32)) hx hb hr (fun t ht hW => ⟨⟨_, (), rfl, e1, (by rw [ht, ← e2]; exact hP), (by rw [← e2]; exact hD)⟩, hS.F ht⟩) hS.2.2 dX10_keep_8
abbrev rm_X2_slot : Room := { frames := 1, cells := 0, slots := 0, locals := 20 }
theorem in_X2_slot_X2 : ∀ w ∈ wsX20, w ∈ wsX2_slot := fun _ h => List.mem_cons_of_mem _ (List.mem_append_right _ h)
set_option maxHeartbeats 4000000 in
set_option maxRecDepth 100000 in
theorem cn_X2_slot (l : Launch) (dC : Nat → ClassId) (dI : Nat → Nat → Nat) (cI cJ cZ : ClassId) (q_t q_t_row q_t_slots : Nat) (v_t_acts : Int32) (f_t_slots : (Nat → Int64)) (p1 : Int32) (res : Int64) (h : X2_slot f_t_slots p1 = some res) : Met l yX2_slot wsX2_slot rm_X2_slot (pcR dC dI cI cJ cZ [(q_t, .inr (2, [.ref q_t_row, .ref q_t_slots, .int v_t_acts])), (q_t_slots, .inl (cJ, 2, .inr (.inl f_t_slots)))] [.ref q_t, .int p1]) (vp_Sl (fun r => r = res)) 0 0 (fun _ => False) := by
  refine Met.ofW (cc := cX2_slot) (maxL := 2) (ret := (some .long)) (by decide) rfl ?_
  intro p e s m args below meth c s₁ B hml hv
  obtain ⟨rfl, hP, hKK⟩ := hv
  have hx := B.exec
  have hb := B.bytes
  have hr := B.returns
  have hts := atoms_spec (ws := wsX2_slot) B.pre
  have hown : s.vm.findClass RX2 = some m.cls := findClass_of_methodNamed B.named
  have hlocks := B.notSynchronized
  have hK := hKK.1
  have hl := lv_entry ([.ref q_t, .int p1]) (n := 2) (Nat.le_of_ble_eq_true rfl)
  rw [lg_entry_eq]
  generalize (lg_sl ([.ref q_t, .int p1]) ++ List.replicate (2 - (lg_sl ([.ref q_t, .int p1])).length) Slot.unset).toArray = ls at hl ⊢
  have hl : lv_has ls 2 [(0, .ref q_t), (1, .int p1)] := hl
  unfold X2_slot at h
  refine lv_iload_n hx hb dX2_slot_0 rfl (lv_at hl 1 rfl) ?_
  refine kRz (res := (X10_isSlot p1)) (va_runSN (As := [.int p1]) (rest := []) ⟨hx, hb, hml, hown, hts⟩ (cn_X10_isSlot l dC dI cI cJ cZ    p1 (X10_isSlot p1) rfl) ⟨va_cnB 1 hts gX2_slot_X10_isSlot_n30 rfl rfl rfl (hKK.nw 23 rfl) (hts (.initialized RX10) (List.mem_of_getElem? (i := 4) rfl)) (by decide +kernel) ⟨Nat.le_of_ble_eq_true rfl, Nat.le_of_ble_eq_true rfl⟩, hts (.static yX10_isSlot) (List.mem_of_getElem? (i := 3) rfl), trivial⟩ (preRS hKK (hP.sub (ws' := []) [] rfl)) rfl rfl hl.1 rfl (lv_room (Nat.le_of_ble_eq_true rfl)) dX2_slot_1 ⟨Nat.zero_le _, Nat.zero_le _⟩) (fun hz1 => ?_)
  refine lv_if_eq (tgt := 16) hx hb dX2_slot_4 (by decide) (fun c2 => ?_) (fun c2 => ?_)
  · replace h := ite_t h c2
    refine lv_ldc2 (v := (-1 : Int64)) hx hb hown (hts (.constantLong RX2 15 (-1)) (List.mem_of_getElem? (i := 2) rfl)) dX2_slot_16 ?_
    have e1 := Option.some.inj h
    exact W.lret (v := (-1 : Int64)) hx hb hr (fun t ht hW => ⟨_, rfl, e1, ht⟩) (fun q hq => by cases hq) dX2_slot_19
  replace h := ite_f h c2
  refine lv_aload_n hx hb dX2_slot_7 rfl (lv_at hl 0 rfl) ?_
  refine va_get (D := (dC, dI)) (ci := 2) (v := .ref q_t_slots) (C := RX2) (T := TX2) (N := 3) hx hb hts in_X2_slot_X2 hown hK hP 0 rfl rfl 1 (by decide) (hts (.fieldLink RX2 17 "RightIfAsMany$Memory" "slots" "[J") (List.mem_of_getElem? (i := 1) rfl)) (fun _ h9 => h9) rfl dX2_slot_8 ?_
  refine lv_iload_n hx hb dX2_slot_11 rfl (lv_at hl 1 rfl) ?_
  obtain ⟨hg3, h⟩ := grd_s h
  refine va_lald hx hb hK hP 1 1 rfl rfl hg3 dX2_slot_12 ?_
  refine lv_goto (tgt := 19) hx hb dX2_slot_13 (by decide) ?_
  have e1 := Option.some.inj h
  exact W.lret (v := (f_t_slots p1.toNatClampNeg)) hx hb hr (fun t ht hW => ⟨_, rfl, e1, ht⟩) (fun q hq => by cases hq) dX2_slot_19
abbrev rm_X10_again : Room := { frames := 3, cells := 0, slots := 0, locals := 67 }
theorem in_X10_again_X5 : ∀ w ∈ wsX50, w ∈ wsX10_again := fun _ h => List.mem_cons_of_mem _ (List.mem_append_right _ h)
theorem in_X10_again_X2 : ∀ w ∈ wsX20, w ∈ wsX10_again := fun _ h => List.mem_cons_of_mem _ (List.mem_append_left _ (List.mem_append_right _ h))
theorem in_X10_again_X10 : ∀ w ∈ wsX100, w ∈ wsX10_again := fun _ h => List.mem_cons_of_mem _ (List.mem_append_left _ (List.mem_append_left _ (List.mem_append_right _ h)))
set_option maxHeartbeats 4000000 in
set_option maxRecDepth 100000 in
theorem cn_X10_again (l : Launch) (dC : Nat → ClassId) (dI : Nat → Nat → Nat) (cI cJ cZ : ClassId) (q_t q_t_text q_t_reader q_t_rules q_t_people q_t_memory q_t_rows q_t_chances q_t_moves q_t_payments q_t_evenings q_t_people_numbers q_t_people_counts q_t_memory_row q_t_memory_slots : Nat) (sz : Nat) (v_t_people_size : Int32) (f_t_people_numbers : (Nat → Int32)) (f_t_people_counts : (Nat → Int32)) (v_t_memory_acts : Int32) (f_t_memory_slots : (Nat → Int64)) (p1 : Int32) (res : Int32) (r_v_t_people_size : Int32) (r_f_t_people_numbers : (Nat → Int32)) (r_f_t_people_counts : (Nat → Int32)) (r_v_t_memory_acts : Int32) (h : X10_again v_t_people_size f_t_people_numbers f_t_people_counts v_t_memory_acts f_t_memory_slots p1 = some (res, r_v_t_people_size, r_f_t_people_numbers, r_f_t_people_counts, r_v_t_memory_acts)) : Met l yX10_again wsX10_again rm_X10_again (pcW dC dI cI cJ cZ [(q_t, .inr (10, [.ref q_t_text, .ref q_t_reader, .ref q_t_rules, .ref q_t_people, .ref q_t_memory, .ref q_t_rows, .ref q_t_chances, .ref q_t_moves, .ref q_t_payments, .ref q_t_evenings])), (q_t_people, .inr (5, [.ref q_t_people_numbers, .ref q_t_people_counts, .int v_t_people_size])), (q_t_people_numbers, .inl (cI, 9, .inl f_t_people_numbers)), (q_t_people_counts, .inl (cI, 10, .inl f_t_people_counts)), (q_t_memory, .inr (2, [.ref q_t_memory_row, .ref q_t_memory_slots, .int v_t_memory_acts])), (q_t_memory_slots, .inl (cJ, 2, .inr (.inl f_t_memory_slots)))] sz [.ref q_t, .int p1]) (va_Qi (fun (r : Int32) (_ : Unit) => r = res) (bW dC dI (va_A [(q_t, .inr (10, [.ref q_t_text, .ref q_t_reader, .ref q_t_rules, .ref q_t_people, .ref q_t_memory, .ref q_t_rows, .ref q_t_chances, .ref q_t_moves, .ref q_t_payments, .ref q_t_evenings])), (q_t_people, .inr (5, [.ref q_t_people_numbers, .ref q_t_people_counts, .int v_t_people_size])), (q_t_people_numbers, .inl (cI, 9, .inl f_t_people_numbers)), (q_t_people_counts, .inl (cI, 10, .inl f_t_people_counts)), (q_t_memory, .inr (2, [.ref q_t_memory_row, .ref q_t_memory_slots, .int v_t_memory_acts])), (q_t_memory_slots, .inl (cJ, 2, .inr (.inl f_t_memory_slots)))] sz) [(q_t, .inr (10, [.ref q_t_text, .ref q_t_reader, .ref q_t_rules, .ref q_t_people, .ref q_t_memory, .ref q_t_rows, .ref q_t_chances, .ref q_t_moves, .ref q_t_payments, .ref q_t_evenings])), (q_t_people, .inr (5, [.ref q_t_people_numbers, .ref q_t_people_counts, .int r_v_t_people_size])), (q_t_people_numbers, .inl (cI, 9, .inl r_f_t_people_numbers)), (q_t_people_counts, .inl (cI, 10, .inl r_f_t_people_counts)), (q_t_memory, .inr (2, [.ref q_t_memory_row, .ref q_t_memory_slots, .int r_v_t_memory_acts])), (q_t_memory_slots, .inl (cJ, 2, .inr (.inl f_t_memory_slots)))]) (va_A [(q_t, .inr (10, [.ref q_t_text, .ref q_t_reader, .ref q_t_rules, .ref q_t_people, .ref q_t_memory, .ref q_t_rows, .ref q_t_chances, .ref q_t_moves, .ref q_t_payments, .ref q_t_evenings])), (q_t_people, .inr (5, [.ref q_t_people_numbers, .ref q_t_people_counts, .int v_t_people_size])), (q_t_people_numbers, .inl (cI, 9, .inl f_t_people_numbers)), (q_t_people_counts, .inl (cI, 10, .inl f_t_people_counts)), (q_t_memory, .inr (2, [.ref q_t_memory_row, .ref q_t_memory_slots, .int v_t_memory_acts])), (q_t_memory_slots, .inl (cJ, 2, .inr (.inl f_t_memory_slots)))] sz)) 0 0 (va_A [(q_t, .inr (10, [.ref q_t_text, .ref q_t_reader, .ref q_t_rules, .ref q_t_people, .ref q_t_memory, .ref q_t_rows, .ref q_t_chances, .ref q_t_moves, .ref q_t_payments, .ref q_t_evenings])), (q_t_people, .inr (5, [.ref q_t_people_numbers, .ref q_t_people_counts, .int v_t_people_size])), (q_t_people_numbers, .inl (cI, 9, .inl f_t_people_numbers)), (q_t_people_counts, .inl (cI, 10, .inl f_t_people_counts)), (q_t_memory, .inr (2, [.ref q_t_memory_row, .ref q_t_memory_slots, .int v_t_memory_acts])), (q_t_memory_slots, .inl (cJ, 2, .inr (.inl f_t_memory_slots)))] sz) := by
  refine Met.ofW (cc := cX10_again) (maxL := 2) (ret := (some .int)) (by decide) rfl ?_
  intro p e s m args below meth c s₁ B hml hv
  obtain ⟨rfl, hsz, hP, hKK, hD0⟩ := hv
  have hx := B.exec
  have hb := B.bytes
  have hr := B.returns
  have hts := atoms_spec (ws := wsX10_again) B.pre
  have hown : s.vm.findClass RX10 = some m.cls := findClass_of_methodNamed B.named
  have hlocks := B.notSynchronized
  have hK := hKK.1
  subst hsz
  have hD := hD0.self (sz := s.heap.size)
  generalize hAe : va_A [(q_t, .inr (10, [.ref q_t_text, .ref q_t_reader, .ref q_t_rules, .ref q_t_people, .ref q_t_memory, .ref q_t_rows, .ref q_t_chances, .ref q_t_moves, .ref q_t_payments, .ref q_t_evenings])), (q_t_people, .inr (5, [.ref q_t_people_numbers, .ref q_t_people_counts, .int v_t_people_size])), (q_t_people_numbers, .inl (cI, 9, .inl f_t_people_numbers)), (q_t_people_counts, .inl (cI, 10, .inl f_t_people_counts)), (q_t_memory, .inr (2, [.ref q_t_memory_row, .ref q_t_memory_slots, .int v_t_memory_acts])), (q_t_memory_slots, .inl (cJ, 2, .inr (.inl f_t_memory_slots)))] s.heap.size = A at hD ⊢
  have hA : ∀ q : Nat, s.heap.size ≤ q → A q := fun q h => by rw [← hAe]; exact Or.inr h
  have hS : va_S A s.heap s.heap [] := va_S.rf
  have hl := lv_entry ([.ref q_t, .int p1]) (n := 2) (Nat.le_of_ble_eq_true rfl)
  rw [lg_entry_eq]
  generalize (lg_sl ([.ref q_t, .int p1]) ++ List.replicate (2 - (lg_sl ([.ref q_t, .int p1])).length) Slot.unset).toArray = ls at hl ⊢
  have hl : lv_has ls 2 [(0, .ref q_t), (1, .int p1)] := hl
  unfold X10_again at h
  obtain ⟨H, hHe⟩ : ∃ H, H = s.heap := ⟨_, rfl⟩
  obtain ⟨locs, hLe⟩ : ∃ x : List Loc, x = [] := ⟨_, rfl⟩
  rw [← hHe] at hP
  have hS : va_S A s.heap H locs := by rw [hHe, hLe]; exact hS
  suffices hW : W p l e (headSpec wsX10_again rm_X10_again).room s m ([.ref q_t, .int p1] : List Value).toArray below meth c H locs 0 0 (MQ below (va_Qi (fun (r : Int32) (_ : Unit) => r = res) (bW dC dI A [(q_t, .inr (10, [.ref q_t_text, .ref q_t_reader, .ref q_t_rules, .ref q_t_people, .ref q_t_memory, .ref q_t_rows, .ref q_t_chances, .ref q_t_moves, .ref q_t_payments, .ref q_t_evenings])), (q_t_people, .inr (5, [.ref q_t_people_numbers, .ref q_t_people_counts, .int r_v_t_people_size])), (q_t_people_numbers, .inl (cI, 9, .inl r_f_t_people_numbers)), (q_t_people_counts, .inl (cI, 10, .inl r_f_t_people_counts)), (q_t_memory, .inr (2, [.ref q_t_memory_row, .ref q_t_memory_slots, .int r_v_t_memory_acts])), (q_t_memory_slots, .inl (cJ, 2, .inr (.inl f_t_memory_slots)))]) A) ([.ref q_t, .int p1] : List Value).toArray s 0 0 A) (F0 m 0 ls []) by rw [hHe, hLe] at hW; exact hW
  refine lv_iload_n hx hb dX10_again_0 rfl (lv_at hl 1 rfl) ?_
  refine kRz (res := (X10_isSlot p1)) (va_runS (As := [.int p1]) (rest := []) ⟨hx, hb, hml, hown, hts⟩ (cn_X10_isSlot l dC dI cI cJ cZ    p1 (X10_isSlot p1) rfl) (va_cwS 1 hts gX10_again_X10_isSlot rfl rfl rfl (by decide +kernel) ⟨Nat.le_of_ble_eq_true rfl, Nat.le_of_ble_eq_true rfl⟩) (preRS hKK (hP.sub (ws' := []) [] rfl)) rfl rfl hl.1 rfl (lv_room (Nat.le_of_ble_eq_true rfl)) dX10_again_1 ⟨Nat.zero_le _, Nat.zero_le _⟩) (fun hz1 => ?_)
  refine lv_if_ne (tgt := 9) hx hb dX10_again_4 (by decide) (fun c2 => ?_) (fun c2 => ?_)
  · replace h := ite_f h c2
    refine lv_aload_n hx hb dX10_again_9 rfl (lv_at hl 0 rfl) ?_
    refine va_get (D := (dC, dI)) (ci := 10) (v := .ref q_t_memory) (C := RX10) (T := TX10) (N := 10) hx hb hts in_X10_again_X10 hown hK hP 0 rfl rfl 4 (by decide) (hts (.fieldLink RX10 40 "RightIfAsMany" "memory" "LRightIfAsMany$Memory;") (List.mem_of_getElem? (i := 1) rfl)) (fun _ h9 => h9) rfl dX10_again_10 ?_
    refine lv_iload_n hx hb dX10_again_13 rfl (lv_at hl 1 rfl) ?_
    obtain ⟨r3, hc3, h⟩ := bnd1_s h
    refine kRl (res := r3) (va_runV (As := [.int p1]) (rest := []) ⟨hx, hb, hml, hown, hts⟩ (cn_X2_slot l dC dI cI cJ cZ q_t_memory q_t_memory_row q_t_memory_slots  v_t_memory_acts f_t_memory_slots p1 r3 hc3) (cwV 1 hts gX10_again_X2_slot rfl rfl rfl (by decide +kernel) ⟨Nat.le_of_ble_eq_true rfl, Nat.le_of_ble_eq_true rfl⟩) (preR hKK (hP.sub (ws' := [(q_t_memory, .inr (2, [.ref q_t_memory_row, .ref q_t_memory_slots, .int v_t_memory_acts])), (q_t_memory_slots, .inl (cJ, 2, .inr (.inl f_t_memory_slots)))]) [4, 5] rfl) (ci := 2) (q0 := 0) rfl rfl) rfl rfl hl.1 rfl (lv_room (Nat.le_of_ble_eq_true rfl)) dX10_again_14 ⟨Nat.zero_le _, Nat.zero_le _⟩) ?_
    refine lv_ldc2 (v := (-1 : Int64)) hx hb hown (hts (.constantLong RX10 228 (-1)) (List.mem_of_getElem? (i := 2) rfl)) dX10_again_17 ?_
    refine W.lcmp hx hb dX10_again_20 ?_
    refine lv_if_ne (tgt := 27) hx hb dX10_again_21 (by decide) (fun c4 => ?_) (fun c4 => ?_)
    · replace h := ite_f h c4
      refine lv_aload_n hx hb dX10_again_27 rfl (lv_at hl 0 rfl) ?_
      refine va_get (D := (dC, dI)) (ci := 10) (v := .ref q_t_people) (C := RX10) (T := TX10) (N := 10) hx hb hts in_X10_again_X10 hown hK hP 0 rfl rfl 3 (by decide) (hts (.fieldLink RX10 33 "RightIfAsMany" "people" "LRightIfAsMany$People;") (List.mem_of_getElem? (i := 3) rfl)) (fun _ h9 => h9) rfl dX10_again_28 ?_
      refine lv_aload_n hx hb dX10_again_31 rfl (lv_at hl 0 rfl) ?_
      refine va_get (D := (dC, dI)) (ci := 10) (v := .ref q_t_memory) (C := RX10) (T := TX10) (N := 10) hx hb hts in_X10_again_X10 hown hK hP 0 rfl rfl 4 (by decide) (hts (.fieldLink RX10 40 "RightIfAsMany" "memory" "LRightIfAsMany$Memory;") (List.mem_of_getElem? (i := 1) rfl)) (fun _ h9 => h9) rfl dX10_again_32 ?_
      refine lv_iload_n hx hb dX10_again_35 rfl (lv_at hl 1 rfl) ?_
      obtain ⟨r5, hc5, h⟩ := bnd1_s h
      refine kRl (res := r5) (va_runV (As := [.int p1]) (rest := [.ref q_t_people]) ⟨hx, hb, hml, hown, hts⟩ (cn_X2_slot l dC dI cI cJ cZ q_t_memory q_t_memory_row q_t_memory_slots  v_t_memory_acts f_t_memory_slots p1 r5 hc5) (cwV 1 hts gX10_again_X2_slot rfl rfl rfl (by decide +kernel) ⟨Nat.le_of_ble_eq_true rfl, Nat.le_of_ble_eq_true rfl⟩) (preR hKK (hP.sub (ws' := [(q_t_memory, .inr (2, [.ref q_t_memory_row, .ref q_t_memory_slots, .int v_t_memory_acts])), (q_t_memory_slots, .inl (cJ, 2, .inr (.inl f_t_memory_slots)))]) [4, 5] rfl) (ci := 2) (q0 := 0) rfl rfl) rfl rfl hl.1 rfl (lv_room (Nat.le_of_ble_eq_true rfl)) dX10_again_36 ⟨Nat.zero_le _, Nat.zero_le _⟩) ?_
      obtain ⟨w6_0, w6_1, w6_2, hc6, h⟩ := bnd3_s h
      refine kWv (wc := [(q_t_people, .inr (5, [.ref q_t_people_numbers, .ref q_t_people_counts, .int v_t_people_size])), (q_t_people_numbers, .inl (cI, 9, .inl f_t_people_numbers)), (q_t_people_counts, .inl (cI, 10, .inl f_t_people_counts))]) (wr := [(q_t, .inr (10, [.ref q_t_text, .ref q_t_reader, .ref q_t_rules, .ref q_t_people, .ref q_t_memory, .ref q_t_rows, .ref q_t_chances, .ref q_t_moves, .ref q_t_payments, .ref q_t_evenings])), (q_t_memory, .inr (2, [.ref q_t_memory_row, .ref q_t_memory_slots, .int v_t_memory_acts])), (q_t_memory_slots, .inl (cJ, 2, .inr (.inl f_t_memory_slots)))]) (w1 := [(q_t_people, .inr (5, [.ref q_t_people_numbers, .ref q_t_people_counts, .int w6_0])), (q_t_people_numbers, .inl (cI, 9, .inl w6_1)), (q_t_people_counts, .inl (cI, 10, .inl w6_2))]) (wn := [(q_t, .inr (10, [.ref q_t_text, .ref q_t_reader, .ref q_t_rules, .ref q_t_people, .ref q_t_memory, .ref q_t_rows, .ref q_t_chances, .ref q_t_moves, .ref q_t_payments, .ref q_t_evenings])), (q_t_people, .inr (5, [.ref q_t_people_numbers, .ref q_t_people_counts, .int w6_0])), (q_t_people_numbers, .inl (cI, 9, .inl w6_1)), (q_t_people_counts, .inl (cI, 10, .inl w6_2)), (q_t_memory, .inr (2, [.ref q_t_memory_row, .ref q_t_memory_slots, .int v_t_memory_acts])), (q_t_memory_slots, .inl (cJ, 2, .inr (.inl f_t_memory_slots)))]) hP hD hS hA [1, 2, 3] [0, 4, 5] [0, 3, 4, 5, 1, 2] rfl rfl (by decide) (by decide) rfl (by decide) (va_runV (As := [.long r5]) (rest := []) ⟨hx, hb, hml, hown, hts⟩ (cn_X5_unpack l dC dI cI cJ cZ q_t_people q_t_people_numbers q_t_people_counts H.size v_t_people_size f_t_people_numbers f_t_people_counts r5 w6_0 w6_1 w6_2 hc6) (cwV 1 hts gX10_again_X5_unpack rfl rfl rfl (by decide +kernel) ⟨Nat.le_of_ble_eq_true rfl, Nat.le_of_ble_eq_true rfl⟩) (preW hKK (hP.sub (ws' := [(q_t_people, .inr (5, [.ref q_t_people_numbers, .ref q_t_people_counts, .int v_t_people_size])), (q_t_people_numbers, .inl (cI, 9, .inl f_t_people_numbers)), (q_t_people_counts, .inl (cI, 10, .inl f_t_people_counts))]) [1, 2, 3] rfl) (hD.sub (ws' := [(q_t_people, .inr (5, [.ref q_t_people_numbers, .ref q_t_people_counts, .int v_t_people_size])), (q_t_people_numbers, .inl (cI, 9, .inl f_t_people_numbers)), (q_t_people_counts, .inl (cI, 10, .inl f_t_people_counts))]) [1, 2, 3] (by decide) rfl) (ci := 5) (q0 := 0) rfl rfl) rfl rfl hl.1 rfl (lv_room (Nat.le_of_ble_eq_true rfl)) dX10_again_39 ⟨Nat.zero_le _, Nat.zero_le _⟩) (fun H locs hP hD hS => ?_)
      refine lv_aload_n hx hb dX10_again_42 rfl (lv_at hl 0 rfl) ?_
      refine va_get (D := (dC, dI)) (ci := 10) (v := .ref q_t_memory) (C := RX10) (T := TX10) (N := 10) hx hb hts in_X10_again_X10 hown hK hP 0 rfl rfl 4 (by decide) (hts (.fieldLink RX10 40 "RightIfAsMany" "memory" "LRightIfAsMany$Memory;") (List.mem_of_getElem? (i := 1) rfl)) (fun _ h9 => h9) rfl dX10_again_43 ?_
      obtain ⟨w7_0, hc7, h⟩ := bnd1_s h
      refine kWv (wc := [(q_t_memory, .inr (2, [.ref q_t_memory_row, .ref q_t_memory_slots, .int v_t_memory_acts]))]) (wr := [(q_t, .inr (10, [.ref q_t_text, .ref q_t_reader, .ref q_t_rules, .ref q_t_people, .ref q_t_memory, .ref q_t_rows, .ref q_t_chances, .ref q_t_moves, .ref q_t_payments, .ref q_t_evenings])), (q_t_people, .inr (5, [.ref q_t_people_numbers, .ref q_t_people_counts, .int w6_0])), (q_t_people_numbers, .inl (cI, 9, .inl w6_1)), (q_t_people_counts, .inl (cI, 10, .inl w6_2)), (q_t_memory_slots, .inl (cJ, 2, .inr (.inl f_t_memory_slots)))]) (w1 := [(q_t_memory, .inr (2, [.ref q_t_memory_row, .ref q_t_memory_slots, .int w7_0]))]) (wn := [(q_t, .inr (10, [.ref q_t_text, .ref q_t_reader, .ref q_t_rules, .ref q_t_people, .ref q_t_memory, .ref q_t_rows, .ref q_t_chances, .ref q_t_moves, .ref q_t_payments, .ref q_t_evenings])), (q_t_people, .inr (5, [.ref q_t_people_numbers, .ref q_t_people_counts, .int w6_0])), (q_t_people_numbers, .inl (cI, 9, .inl w6_1)), (q_t_people_counts, .inl (cI, 10, .inl w6_2)), (q_t_memory, .inr (2, [.ref q_t_memory_row, .ref q_t_memory_slots, .int w7_0])), (q_t_memory_slots, .inl (cJ, 2, .inr (.inl f_t_memory_slots)))]) hP hD hS hA [4] [0, 1, 2, 3, 5] [0, 1, 2, 3, 5, 4] rfl rfl (by decide) (by decide) rfl (by decide) (va_runV (As := []) (rest := []) ⟨hx, hb, hml, hown, hts⟩ (cn_X2_dropActs l dC dI cI cJ cZ q_t_memory q_t_memory_row q_t_memory_slots H.size v_t_memory_acts  w7_0 hc7) (cwV 0 hts gX10_again_X2_dropActs rfl rfl rfl (by decide +kernel) ⟨Nat.le_of_ble_eq_true rfl, Nat.le_of_ble_eq_true rfl⟩) (preW hKK (hP.sub (ws' := [(q_t_memory, .inr (2, [.ref q_t_memory_row, .ref q_t_memory_slots, .int v_t_memory_acts]))]) [4] rfl) (hD.sub (ws' := [(q_t_memory, .inr (2, [.ref q_t_memory_row, .ref q_t_memory_slots, .int v_t_memory_acts]))]) [4] (by decide) rfl) (ci := 2) (q0 := 0) rfl rfl) rfl rfl hl.1 rfl (lv_room (Nat.le_of_ble_eq_true rfl)) dX10_again_46 ⟨Nat.zero_le _, Nat.zero_le _⟩) (fun H locs hP hD hS => ?_)
      refine lv_aload_n hx hb dX10_again_49 rfl (lv_at hl 0 rfl) ?_
      refine va_get (D := (dC, dI)) (ci := 10) (v := .ref q_t_people) (C := RX10) (T := TX10) (N := 10) hx hb hts in_X10_again_X10 hown hK hP 0 rfl rfl 3 (by decide) (hts (.fieldLink RX10 33 "RightIfAsMany" "people" "LRightIfAsMany$People;") (List.mem_of_getElem? (i := 3) rfl)) (fun _ h9 => h9) rfl dX10_again_50 ?_
      refine kRi (res := (X5_size w6_0)) (va_runV (As := []) (rest := []) ⟨hx, hb, hml, hown, hts⟩ (cn_X5_size l dC dI cI cJ cZ q_t_people q_t_people_numbers q_t_people_counts  w6_0  (X5_size w6_0) rfl) (cwV 0 hts gX10_again_X5_size rfl rfl rfl (by decide +kernel) ⟨Nat.le_of_ble_eq_true rfl, Nat.le_of_ble_eq_true rfl⟩) (preR hKK (hP.sub (ws' := [(q_t_people, .inr (5, [.ref q_t_people_numbers, .ref q_t_people_counts, .int w6_0]))]) [1] rfl) (ci := 5) (q0 := 0) rfl rfl) rfl rfl hl.1 rfl (lv_room (Nat.le_of_ble_eq_true rfl)) dX10_again_53 ⟨Nat.zero_le _, Nat.zero_le _⟩) ?_
      replace h := Option.some.inj h
      obtain ⟨e1, e2, e3, e4, e5⟩ := pr5 h
      exact W.iret (v := (X5_size w6_0)) hx hb hr (fun t ht hW => ⟨⟨_, (), rfl, e1, (by rw [ht, ← e2, ← e3, ← e4, ← e5]; exact hP), (by rw [← e2, ← e3, ← e4, ← e5]; exact hD)⟩, hS.F ht⟩) hS.2.2 dX10_again_56
    replace h := ite_t h c4
    refine lv_bipush (v := (-3 : Int32)) hx hb dX10_again_24 (by decide) ?_
    replace h := Option.some.inj h
    obtain ⟨e1, e2, e3, e4, e5⟩ := pr5 h
    exact W.iret (v := (-3 : Int32)) hx hb hr (fun t ht hW => ⟨⟨_, (), rfl, e1, (by rw [ht, ← e2, ← e3, ← e4, ← e5]; exact hP), (by rw [← e2, ← e3, ← e4, ← e5]; exact hD)⟩, hS.F ht⟩) hS.2.2 dX10_again_26
  replace h := ite_t h c2
  refine lv_iconst (v := (-1 : Int32)) hx hb dX10_again_7 (by decide) ?_
  replace h := Option.some.inj h
  obtain ⟨e1, e2, e3, e4, e5⟩ := pr5 h
  exact W.iret (v := (-1 : Int32)) hx hb hr (fun t ht hW => ⟨⟨_, (), rfl, e1, (by rw [ht, ← e2, ← e3, ← e4, ← e5]; exact hP), (by rw [← e2, ← e3, ← e4, ← e5]; exact hD)⟩, hS.F ht⟩) hS.2.2 dX10_again_8
abbrev rm_X10_rightBits : Room := { frames := 2, cells := 0, slots := 0, locals := 42 }
theorem in_X10_rightBits_X8 : ∀ w ∈ wsX80, w ∈ wsX10_rightBits := fun _ h => List.mem_cons_of_mem _ (List.mem_append_right _ h)
theorem in_X10_rightBits_X5 : ∀ w ∈ wsX50, w ∈ wsX10_rightBits := fun _ h => List.mem_cons_of_mem _ (List.mem_append_left _ (List.mem_append_right _ h))
theorem in_X10_rightBits_X10 : ∀ w ∈ wsX100, w ∈ wsX10_rightBits := fun _ h => List.mem_cons_of_mem _ (List.mem_append_left _ (List.mem_append_left _ (List.mem_append_right _ h)))
set_option maxHeartbeats 4000000 in
set_option maxRecDepth 100000 in
theorem cn_X10_rightBits (l : Launch) (dC : Nat → ClassId) (dI : Nat → Nat → Nat) (cI cJ cZ : ClassId) (q_t q_t_text q_t_reader q_t_rules q_t_people q_t_memory q_t_rows q_t_chances q_t_moves q_t_payments q_t_evenings q_t_people_numbers q_t_people_counts : Nat) (v_t_rules_law : Int32) (v_t_rules_share : Int32) (v_t_rules_pot : Int32) (v_t_rules_barred : Int32) (v_t_people_size : Int32) (f_t_people_numbers : (Nat → Int32)) (f_t_people_counts : (Nat → Int32)) (res : Int32) (h : X10_rightBits v_t_rules_law v_t_people_size f_t_people_numbers f_t_people_counts = some res) : Met l yX10_rightBits wsX10_rightBits rm_X10_rightBits (pcR dC dI cI cJ cZ [(q_t, .inr (10, [.ref q_t_text, .ref q_t_reader, .ref q_t_rules, .ref q_t_people, .ref q_t_memory, .ref q_t_rows, .ref q_t_chances, .ref q_t_moves, .ref q_t_payments, .ref q_t_evenings])), (q_t_rules, .inr (8, [.int v_t_rules_law, .int v_t_rules_share, .int v_t_rules_pot, .int v_t_rules_barred])), (q_t_people, .inr (5, [.ref q_t_people_numbers, .ref q_t_people_counts, .int v_t_people_size])), (q_t_people_numbers, .inl (cI, 9, .inl f_t_people_numbers)), (q_t_people_counts, .inl (cI, 10, .inl f_t_people_counts))] [.ref q_t]) (vp_Si (fun r => r = res)) 0 0 (fun _ => False) := by
  refine Met.ofW (cc := cX10_rightBits) (maxL := 4) (ret := (some .int)) (by decide) rfl ?_
  intro p e s m args below meth c s₁ B hml hv
  obtain ⟨rfl, hP, hKK⟩ := hv
  have hx := B.exec
  have hb := B.bytes
  have hr := B.returns
  have hts := atoms_spec (ws := wsX10_rightBits) B.pre
  have hown : s.vm.findClass RX10 = some m.cls := findClass_of_methodNamed B.named
  have hlocks := B.notSynchronized
  have hK := hKK.1
  have hl := lv_entry ([.ref q_t]) (n := 4) (Nat.le_of_ble_eq_true rfl)
  rw [lg_entry_eq]
  generalize (lg_sl ([.ref q_t]) ++ List.replicate (4 - (lg_sl ([.ref q_t])).length) Slot.unset).toArray = ls at hl ⊢
  have hl : lv_has ls 4 [(0, .ref q_t)] := hl
  have L_4 : ∀ (n4 : Nat) , ∀  (x1 : Int32) (x2 : Int32), X10_rightBits_b4 n4 v_t_rules_law v_t_people_size f_t_people_numbers f_t_people_counts x1 x2 = some res → ∀ (ls : Array Slot), lv_has ls 4 [(0, .ref q_t), (1, .int x1), (2, .int x2)] → W p l e (headSpec wsX10_rightBits rm_X10_rightBits).room s m ([.ref q_t] : List Value).toArray below meth c s.heap [] 0 0 (MQ below (vp_Si (fun r => r = res)) ([.ref q_t] : List Value).toArray s 0 0 (fun _ => False)) (F0 m 4 ls []) := by
    intro n4
    induction n4 with
    | zero => intro x1 x2 h ls hl; exact absurd h (fun h => by cases h)
    | succ n4 ih_4 =>
      have B_49 : ∀  (x1 : Int32) (x2 : Int32), X10_rightBits_b49 (X10_rightBits_b4 n4) v_t_rules_law v_t_people_size f_t_people_numbers f_t_people_counts x1 x2 = some res → ∀ (ls : Array Slot), lv_has ls 4 [(0, .ref q_t), (1, .int x1), (2, .int x2)] → W p l e (headSpec wsX10_rightBits rm_X10_rightBits).room s m ([.ref q_t] : List Value).toArray below meth c s.heap [] 0 0 (MQ below (vp_Si (fun r => r = res)) ([.ref q_t] : List Value).toArray s 0 0 (fun _ => False)) (F0 m 49 ls []) := by
        intro x1 x2 h ls hl
        unfold X10_rightBits_b49 at h
        refine lv_iinc (v := (x2 + (1 : Int32))) (lv' := [(2, .int (x2 + (1 : Int32))), (0, .ref q_t), (1, .int x1)]) hx hb dX10_rightBits_49 hl (k := 2) rfl rfl (by decide) rfl (fun ls hl => ?_)
        refine lv_goto (tgt := 4) hx hb dX10_rightBits_52 (by decide) ?_
        exact ih_4 x1 (x2 + (1 : Int32)) h ls (lv_sub hl [1, 2, 0] rfl)
      intro x1 x2 h ls hl
      replace h : X10_rightBits_b4_s (X10_rightBits_b4 n4) v_t_rules_law v_t_people_size f_t_people_numbers f_t_people_counts x1 x2 = some res := h
      unfold X10_rightBits_b4_s at h
      refine lv_iload_n hx hb dX10_rightBits_4 rfl (lv_at hl 2 rfl) ?_
      refine lv_aload_n hx hb dX10_rightBits_5 rfl (lv_at hl 0 rfl) ?_
      refine va_get (D := (dC, dI)) (ci := 10) (v := .ref q_t_people) (C := RX10) (T := TX10) (N := 10) hx hb hts in_X10_rightBits_X10 hown hK hP 0 rfl rfl 3 (by decide) (hts (.fieldLink RX10 33 "RightIfAsMany" "people" "LRightIfAsMany$People;") (List.mem_of_getElem? (i := 1) rfl)) (fun _ h9 => h9) rfl dX10_rightBits_6 ?_
      refine kRi (res := (X5_size v_t_people_size)) (va_runV (As := []) (rest := [.int x2]) ⟨hx, hb, hml, hown, hts⟩ (cn_X5_size l dC dI cI cJ cZ q_t_people q_t_people_numbers q_t_people_counts  v_t_people_size  (X5_size v_t_people_size) rfl) (cwV 0 hts gX10_rightBits_X5_size rfl rfl rfl (by decide +kernel) ⟨Nat.le_of_ble_eq_true rfl, Nat.le_of_ble_eq_true rfl⟩) (preR hKK (hP.sub (ws' := [(q_t_people, .inr (5, [.ref q_t_people_numbers, .ref q_t_people_counts, .int v_t_people_size]))]) [2] rfl) (ci := 5) (q0 := 0) rfl rfl) rfl rfl hl.1 rfl (lv_room (Nat.le_of_ble_eq_true rfl)) dX10_rightBits_9 ⟨Nat.zero_le _, Nat.zero_le _⟩) ?_
      refine lv_icmp_ge (tgt := 55) hx hb dX10_rightBits_12 (by decide) (fun c1 => ?_) (fun c1 => ?_)
      · replace h := ite_t h c1
        refine lv_iload_n hx hb dX10_rightBits_55 rfl (lv_at hl 1 rfl) ?_
        have e1 := Option.some.inj h
        exact W.iret (v := x1) hx hb hr (fun t ht hW => ⟨_, rfl, e1, ht⟩) (fun q hq => by cases hq) dX10_rightBits_56
      replace h := ite_f h c1
      refine lv_aload_n hx hb dX10_rightBits_15 rfl (lv_at hl 0 rfl) ?_
      refine va_get (D := (dC, dI)) (ci := 10) (v := .ref q_t_people) (C := RX10) (T := TX10) (N := 10) hx hb hts in_X10_rightBits_X10 hown hK hP 0 rfl rfl 3 (by decide) (hts (.fieldLink RX10 33 "RightIfAsMany" "people" "LRightIfAsMany$People;") (List.mem_of_getElem? (i := 1) rfl)) (fun _ h9 => h9) rfl dX10_rightBits_16 ?_
      refine lv_iload_n hx hb dX10_rightBits_19 rfl (lv_at hl 2 rfl) ?_
      obtain ⟨r2, hc2, h⟩ := bnd1_s h
      refine kRi (res := r2) (va_runV (As := [.int x2]) (rest := []) ⟨hx, hb, hml, hown, hts⟩ (cn_X5_numberOf l dC dI cI cJ cZ q_t_people q_t_people_numbers q_t_people_counts  v_t_people_size f_t_people_numbers x2 r2 hc2) (cwV 1 hts gX10_rightBits_X5_numberOf rfl rfl rfl (by decide +kernel) ⟨Nat.le_of_ble_eq_true rfl, Nat.le_of_ble_eq_true rfl⟩) (preR hKK (hP.sub (ws' := [(q_t_people, .inr (5, [.ref q_t_people_numbers, .ref q_t_people_counts, .int v_t_people_size])), (q_t_people_numbers, .inl (cI, 9, .inl f_t_people_numbers))]) [2, 3] rfl) (ci := 5) (q0 := 0) rfl rfl) rfl rfl hl.1 rfl (lv_room (Nat.le_of_ble_eq_true rfl)) dX10_rightBits_20 ⟨Nat.zero_le _, Nat.zero_le _⟩) ?_
      refine lv_istore_n (lv' := [(3, .int r2), (0, .ref q_t), (1, .int x1), (2, .int x2)]) hx hb dX10_rightBits_23 rfl hl (by decide) rfl (fun ls hl => ?_)
      refine lv_aload_n hx hb dX10_rightBits_24 rfl (lv_at hl 1 rfl) ?_
      refine va_get (D := (dC, dI)) (ci := 10) (v := .ref q_t_rules) (C := RX10) (T := TX10) (N := 10) hx hb hts in_X10_rightBits_X10 hown hK hP 0 rfl rfl 2 (by decide) (hts (.fieldLink RX10 26 "RightIfAsMany" "rules" "LRightIfAsMany$Rules;") (List.mem_of_getElem? (i := 2) rfl)) (fun _ h9 => h9) rfl dX10_rightBits_25 ?_
      refine lv_iload_n hx hb dX10_rightBits_28 rfl (lv_at hl 0 rfl) ?_
      refine lv_aload_n hx hb dX10_rightBits_29 rfl (lv_at hl 1 rfl) ?_
      refine va_get (D := (dC, dI)) (ci := 10) (v := .ref q_t_people) (C := RX10) (T := TX10) (N := 10) hx hb hts in_X10_rightBits_X10 hown hK hP 0 rfl rfl 3 (by decide) (hts (.fieldLink RX10 33 "RightIfAsMany" "people" "LRightIfAsMany$People;") (List.mem_of_getElem? (i := 1) rfl)) (fun _ h9 => h9) rfl dX10_rightBits_30 ?_
      refine lv_iload_n hx hb dX10_rightBits_33 rfl (lv_at hl 0 rfl) ?_
      obtain ⟨r3, hc3, h⟩ := bnd1_s h
      refine kRi (res := r3) (va_runV (As := [.int r2]) (rest := [.int r2, .ref q_t_rules]) ⟨hx, hb, hml, hown, hts⟩ (cn_X5_many l dC dI cI cJ cZ q_t_people q_t_people_numbers q_t_people_counts  v_t_people_size f_t_people_counts r2 r3 hc3) (cwV 1 hts gX10_rightBits_X5_many rfl rfl rfl (by decide +kernel) ⟨Nat.le_of_ble_eq_true rfl, Nat.le_of_ble_eq_true rfl⟩) (preR hKK (hP.sub (ws' := [(q_t_people, .inr (5, [.ref q_t_people_numbers, .ref q_t_people_counts, .int v_t_people_size])), (q_t_people_counts, .inl (cI, 10, .inl f_t_people_counts))]) [2, 4] rfl) (ci := 5) (q0 := 0) rfl rfl) rfl rfl hl.1 rfl (lv_room (Nat.le_of_ble_eq_true rfl)) dX10_rightBits_34 ⟨Nat.zero_le _, Nat.zero_le _⟩) ?_
      refine kRz (res := (X8_suits v_t_rules_law r2 r3)) (va_runV (As := [.int r2, .int r3]) (rest := []) ⟨hx, hb, hml, hown, hts⟩ (cn_X8_suits l dC dI cI cJ cZ q_t_rules  v_t_rules_law v_t_rules_share v_t_rules_pot v_t_rules_barred r2 r3 (X8_suits v_t_rules_law r2 r3) rfl) (cwV 2 hts gX10_rightBits_X8_suits rfl rfl rfl (by decide +kernel) ⟨Nat.le_of_ble_eq_true rfl, Nat.le_of_ble_eq_true rfl⟩) (preR hKK (hP.sub (ws' := [(q_t_rules, .inr (8, [.int v_t_rules_law, .int v_t_rules_share, .int v_t_rules_pot, .int v_t_rules_barred]))]) [1] rfl) (ci := 8) (q0 := 0) rfl rfl) rfl rfl hl.1 rfl (lv_room (Nat.le_of_ble_eq_true rfl)) dX10_rightBits_37 ⟨Nat.zero_le _, Nat.zero_le _⟩) (fun hz4 => ?_)
      refine lv_if_eq (tgt := 49) hx hb dX10_rightBits_40 (by decide) (fun c5 => ?_) (fun c5 => ?_)
      · replace h := ite_t h c5
        exact B_49 x1 x2 h ls (lv_sub hl [1, 2, 3] rfl)
      replace h := ite_f h c5
      refine lv_iload_n hx hb dX10_rightBits_43 rfl (lv_at hl 2 rfl) ?_
      refine lv_iconst (v := (1 : Int32)) hx hb dX10_rightBits_44 (by decide) ?_
      refine lv_iload_n hx hb dX10_rightBits_45 rfl (lv_at hl 3 rfl) ?_
      refine lv_ishl hx hb dX10_rightBits_46 ?_
      refine lv_ior hx hb dX10_rightBits_47 ?_
      refine lv_istore_n (lv' := [(1, .int (x1 ||| ((1 : Int32) <<< (x2 &&& 31)))), (3, .int r2), (0, .ref q_t), (2, .int x2)]) hx hb dX10_rightBits_48 rfl hl (by decide) rfl (fun ls hl => ?_)
      exact B_49 (x1 ||| ((1 : Int32) <<< (x2 &&& 31))) x2 h ls (lv_sub hl [2, 0, 3] rfl)
  unfold X10_rightBits at h
  refine lv_iconst (v := (0 : Int32)) hx hb dX10_rightBits_0 (by decide) ?_
  refine lv_istore_n (lv' := [(1, .int (0 : Int32)), (0, .ref q_t)]) hx hb dX10_rightBits_1 rfl hl (by decide) rfl (fun ls hl => ?_)
  refine lv_iconst (v := (0 : Int32)) hx hb dX10_rightBits_2 (by decide) ?_
  refine lv_istore_n (lv' := [(2, .int (0 : Int32)), (1, .int (0 : Int32)), (0, .ref q_t)]) hx hb dX10_rightBits_3 rfl hl (by decide) rfl (fun ls hl => ?_)
  exact L_4 fU (0 : Int32) (0 : Int32) h ls (lv_sub hl [2, 1, 0] rfl)
abbrev rm_X8_barredBits : Room := { frames := 0, cells := 0, slots := 0, locals := 0 }
theorem in_X8_barredBits_X8 : ∀ w ∈ wsX80, w ∈ wsX8_barredBits := fun _ h => List.mem_cons_of_mem _ (List.mem_append_right _ h)
set_option maxHeartbeats 4000000 in
set_option maxRecDepth 100000 in
theorem cn_X8_barredBits (l : Launch) (dC : Nat → ClassId) (dI : Nat → Nat → Nat) (cI cJ cZ : ClassId) (q_t : Nat) (v_t_law : Int32) (v_t_share : Int32) (v_t_pot : Int32) (v_t_barred : Int32) (res : Int32) (h : X8_barredBits v_t_barred = res) : Met l yX8_barredBits wsX8_barredBits rm_X8_barredBits (pcR dC dI cI cJ cZ [(q_t, .inr (8, [.int v_t_law, .int v_t_share, .int v_t_pot, .int v_t_barred]))] [.ref q_t]) (vp_Si (fun r => r = res)) 0 0 (fun _ => False) := by
  refine Met.ofW (cc := cX8_barredBits) (maxL := 1) (ret := (some .int)) (by decide) rfl ?_
  intro p e s m args below meth c s₁ B hml hv
  obtain ⟨rfl, hP, hKK⟩ := hv
  have hx := B.exec
  have hb := B.bytes
  have hr := B.returns
  have hts := atoms_spec (ws := wsX8_barredBits) B.pre
  have hown : s.vm.findClass RX8 = some m.cls := findClass_of_methodNamed B.named
  have hlocks := B.notSynchronized
  have hK := hKK.1
  have hl := lv_entry ([.ref q_t]) (n := 1) (Nat.le_of_ble_eq_true rfl)
  rw [lg_entry_eq]
  generalize (lg_sl ([.ref q_t]) ++ List.replicate (1 - (lg_sl ([.ref q_t])).length) Slot.unset).toArray = ls at hl ⊢
  have hl : lv_has ls 1 [(0, .ref q_t)] := hl
  unfold X8_barredBits at h
  refine lv_aload_n hx hb dX8_barredBits_0 rfl (lv_at hl 0 rfl) ?_
  refine va_get (D := (dC, dI)) (ci := 8) (v := .int v_t_barred) (C := RX8) (T := TX8) (N := 4) hx hb hts in_X8_barredBits_X8 hown hK hP 0 rfl rfl 3 (by decide) (hts (.fieldLink RX8 21 "RightIfAsMany$Rules" "barred" "I") (List.mem_of_getElem? (i := 1) rfl)) (fun _ h9 => h9) rfl dX8_barredBits_1 ?_
  have e1 := h
  exact W.iret (v := v_t_barred) hx hb hr (fun t ht hW => ⟨_, rfl, e1, ht⟩) (fun q hq => by cases hq) dX8_barredBits_4
abbrev rm_X8_potWhole : Room := { frames := 0, cells := 0, slots := 0, locals := 0 }
theorem in_X8_potWhole_X8 : ∀ w ∈ wsX80, w ∈ wsX8_potWhole := fun _ h => List.mem_cons_of_mem _ (List.mem_append_right _ h)
set_option maxHeartbeats 4000000 in
set_option maxRecDepth 100000 in
theorem cn_X8_potWhole (l : Launch) (dC : Nat → ClassId) (dI : Nat → Nat → Nat) (cI cJ cZ : ClassId) (q_t : Nat) (v_t_law : Int32) (v_t_share : Int32) (v_t_pot : Int32) (v_t_barred : Int32) (res : Int32) (h : X8_potWhole v_t_pot = res) : Met l yX8_potWhole wsX8_potWhole rm_X8_potWhole (pcR dC dI cI cJ cZ [(q_t, .inr (8, [.int v_t_law, .int v_t_share, .int v_t_pot, .int v_t_barred]))] [.ref q_t]) (vp_Si (fun r => r = res)) 0 0 (fun _ => False) := by
  refine Met.ofW (cc := cX8_potWhole) (maxL := 1) (ret := (some .int)) (by decide) rfl ?_
  intro p e s m args below meth c s₁ B hml hv
  obtain ⟨rfl, hP, hKK⟩ := hv
  have hx := B.exec
  have hb := B.bytes
  have hr := B.returns
  have hts := atoms_spec (ws := wsX8_potWhole) B.pre
  have hown : s.vm.findClass RX8 = some m.cls := findClass_of_methodNamed B.named
  have hlocks := B.notSynchronized
  have hK := hKK.1
  have hl := lv_entry ([.ref q_t]) (n := 1) (Nat.le_of_ble_eq_true rfl)
  rw [lg_entry_eq]
  generalize (lg_sl ([.ref q_t]) ++ List.replicate (1 - (lg_sl ([.ref q_t])).length) Slot.unset).toArray = ls at hl ⊢
  have hl : lv_has ls 1 [(0, .ref q_t)] := hl
  unfold X8_potWhole at h
  refine lv_aload_n hx hb dX8_potWhole_0 rfl (lv_at hl 0 rfl) ?_
  refine va_get (D := (dC, dI)) (ci := 8) (v := .int v_t_pot) (C := RX8) (T := TX8) (N := 4) hx hb hts in_X8_potWhole_X8 hown hK hP 0 rfl rfl 2 (by decide) (hts (.fieldLink RX8 18 "RightIfAsMany$Rules" "pot" "I") (List.mem_of_getElem? (i := 1) rfl)) (fun _ h9 => h9) rfl dX8_potWhole_1 ?_
  have e1 := h
  exact W.iret (v := v_t_pot) hx hb hr (fun t ht hW => ⟨_, rfl, e1, ht⟩) (fun q hq => by cases hq) dX8_potWhole_4
abbrev rm_X8_lawKind : Room := { frames := 0, cells := 0, slots := 0, locals := 0 }
theorem in_X8_lawKind_X8 : ∀ w ∈ wsX80, w ∈ wsX8_lawKind := fun _ h => List.mem_cons_of_mem _ (List.mem_append_right _ h)
set_option maxHeartbeats 4000000 in
set_option maxRecDepth 100000 in
theorem cn_X8_lawKind (l : Launch) (dC : Nat → ClassId) (dI : Nat → Nat → Nat) (cI cJ cZ : ClassId) (q_t : Nat) (v_t_law : Int32) (v_t_share : Int32) (v_t_pot : Int32) (v_t_barred : Int32) (res : Int32) (h : X8_lawKind v_t_law = res) : Met l yX8_lawKind wsX8_lawKind rm_X8_lawKind (pcR dC dI cI cJ cZ [(q_t, .inr (8, [.int v_t_law, .int v_t_share, .int v_t_pot, .int v_t_barred]))] [.ref q_t]) (vp_Si (fun r => r = res)) 0 0 (fun _ => False) := by
  refine Met.ofW (cc := cX8_lawKind) (maxL := 1) (ret := (some .int)) (by decide) rfl ?_
  intro p e s m args below meth c s₁ B hml hv
  obtain ⟨rfl, hP, hKK⟩ := hv
  have hx := B.exec
  have hb := B.bytes
  have hr := B.returns
  have hts := atoms_spec (ws := wsX8_lawKind) B.pre
  have hown : s.vm.findClass RX8 = some m.cls := findClass_of_methodNamed B.named
  have hlocks := B.notSynchronized
  have hK := hKK.1
  have hl := lv_entry ([.ref q_t]) (n := 1) (Nat.le_of_ble_eq_true rfl)
  rw [lg_entry_eq]
  generalize (lg_sl ([.ref q_t]) ++ List.replicate (1 - (lg_sl ([.ref q_t])).length) Slot.unset).toArray = ls at hl ⊢
  have hl : lv_has ls 1 [(0, .ref q_t)] := hl
  unfold X8_lawKind at h
  refine lv_aload_n hx hb dX8_lawKind_0 rfl (lv_at hl 0 rfl) ?_
  refine va_get (D := (dC, dI)) (ci := 8) (v := .int v_t_law) (C := RX8) (T := TX8) (N := 4) hx hb hts in_X8_lawKind_X8 hown hK hP 0 rfl rfl 0 (by decide) (hts (.fieldLink RX8 9 "RightIfAsMany$Rules" "law" "I") (List.mem_of_getElem? (i := 1) rfl)) (fun _ h9 => h9) rfl dX8_lawKind_1 ?_
  have e1 := h
  exact W.iret (v := v_t_law) hx hb hr (fun t ht hW => ⟨_, rfl, e1, ht⟩) (fun q hq => by cases hq) dX8_lawKind_4
abbrev rm_X8_shareKind : Room := { frames := 0, cells := 0, slots := 0, locals := 0 }
theorem in_X8_shareKind_X8 : ∀ w ∈ wsX80, w ∈ wsX8_shareKind := fun _ h => List.mem_cons_of_mem _ (List.mem_append_right _ h)
set_option maxHeartbeats 4000000 in
set_option maxRecDepth 100000 in
theorem cn_X8_shareKind (l : Launch) (dC : Nat → ClassId) (dI : Nat → Nat → Nat) (cI cJ cZ : ClassId) (q_t : Nat) (v_t_law : Int32) (v_t_share : Int32) (v_t_pot : Int32) (v_t_barred : Int32) (res : Int32) (h : X8_shareKind v_t_share = res) : Met l yX8_shareKind wsX8_shareKind rm_X8_shareKind (pcR dC dI cI cJ cZ [(q_t, .inr (8, [.int v_t_law, .int v_t_share, .int v_t_pot, .int v_t_barred]))] [.ref q_t]) (vp_Si (fun r => r = res)) 0 0 (fun _ => False) := by
  refine Met.ofW (cc := cX8_shareKind) (maxL := 1) (ret := (some .int)) (by decide) rfl ?_
  intro p e s m args below meth c s₁ B hml hv
  obtain ⟨rfl, hP, hKK⟩ := hv
  have hx := B.exec
  have hb := B.bytes
  have hr := B.returns
  have hts := atoms_spec (ws := wsX8_shareKind) B.pre
  have hown : s.vm.findClass RX8 = some m.cls := findClass_of_methodNamed B.named
  have hlocks := B.notSynchronized
  have hK := hKK.1
  have hl := lv_entry ([.ref q_t]) (n := 1) (Nat.le_of_ble_eq_true rfl)
  rw [lg_entry_eq]
  generalize (lg_sl ([.ref q_t]) ++ List.replicate (1 - (lg_sl ([.ref q_t])).length) Slot.unset).toArray = ls at hl ⊢
  have hl : lv_has ls 1 [(0, .ref q_t)] := hl
  unfold X8_shareKind at h
  refine lv_aload_n hx hb dX8_shareKind_0 rfl (lv_at hl 0 rfl) ?_
  refine va_get (D := (dC, dI)) (ci := 8) (v := .int v_t_share) (C := RX8) (T := TX8) (N := 4) hx hb hts in_X8_shareKind_X8 hown hK hP 0 rfl rfl 1 (by decide) (hts (.fieldLink RX8 15 "RightIfAsMany$Rules" "share" "I") (List.mem_of_getElem? (i := 1) rfl)) (fun _ h9 => h9) rfl dX8_shareKind_1 ?_
  have e1 := h
  exact W.iret (v := v_t_share) hx hb hr (fun t ht hW => ⟨_, rfl, e1, ht⟩) (fun q hq => by cases hq) dX8_shareKind_4
