/-! walks, by program: X5_clear X9_at X5_size X5_many X6_canBeBarred X6_someCanBeBarred X6_takesLetter X8_takeLaw X8_takeShare X8_takePotFigure X6_takesHead X5_add X8_bar -/
abbrev rm_X5_clear : Room := { frames := 1, cells := 0, slots := 0, locals := 23 }
theorem in_X5_clear_X5 : ∀ w ∈ wsX50, w ∈ wsX5_clear := fun _ h => List.mem_cons_of_mem _ (List.mem_append_right _ h)
set_option maxHeartbeats 4000000 in
set_option maxRecDepth 100000 in
theorem cn_X5_clear (l : Launch) (dC : Nat → ClassId) (dI : Nat → Nat → Nat) (cI cJ cZ : ClassId) (q_t q_t_numbers q_t_counts : Nat) (sz : Nat) (v_t_size : Int32) (f_t_counts : (Nat → Int32)) (r_v_t_size : Int32) (r_f_t_counts : (Nat → Int32)) (h : X5_clear v_t_size f_t_counts = some (r_v_t_size, r_f_t_counts)) : Met l yX5_clear wsX5_clear rm_X5_clear (pcW dC dI cI cJ cZ [(q_t, .inr (5, [.ref q_t_numbers, .ref q_t_counts, .int v_t_size])), (q_t_counts, .inl (cI, 10, .inl f_t_counts))] sz [.ref q_t]) (va_Qv (fun (_ : Unit) => True) (bW dC dI (va_A [(q_t, .inr (5, [.ref q_t_numbers, .ref q_t_counts, .int v_t_size])), (q_t_counts, .inl (cI, 10, .inl f_t_counts))] sz) [(q_t, .inr (5, [.ref q_t_numbers, .ref q_t_counts, .int r_v_t_size])), (q_t_counts, .inl (cI, 10, .inl r_f_t_counts))]) (va_A [(q_t, .inr (5, [.ref q_t_numbers, .ref q_t_counts, .int v_t_size])), (q_t_counts, .inl (cI, 10, .inl f_t_counts))] sz)) 0 0 (va_A [(q_t, .inr (5, [.ref q_t_numbers, .ref q_t_counts, .int v_t_size])), (q_t_counts, .inl (cI, 10, .inl f_t_counts))] sz) := by
  refine Met.ofW (cc := cX5_clear) (maxL := 1) (ret := none) (by decide) rfl ?_
  intro p e s m args below meth c s₁ B hml hv
  obtain ⟨rfl, hsz, hP, hKK, hD0⟩ := hv
  have hx := B.exec
  have hb := B.bytes
  have hr := B.returns
  have hts := atoms_spec (ws := wsX5_clear) B.pre
  have hown : s.vm.findClass RX5 = some m.cls := findClass_of_methodNamed B.named
  have hlocks := B.notSynchronized
  have hK := hKK.1
  subst hsz
  have hD := hD0.self (sz := s.heap.size)
  generalize hAe : va_A [(q_t, .inr (5, [.ref q_t_numbers, .ref q_t_counts, .int v_t_size])), (q_t_counts, .inl (cI, 10, .inl f_t_counts))] s.heap.size = A at hD ⊢
  have hA : ∀ q : Nat, s.heap.size ≤ q → A q := fun q h => by rw [← hAe]; exact Or.inr h
  have hS : va_S A s.heap s.heap [] := va_S.rf
  have hl := lv_entry ([.ref q_t]) (n := 1) (Nat.le_of_ble_eq_true rfl)
  rw [lg_entry_eq]
  generalize (lg_sl ([.ref q_t]) ++ List.replicate (1 - (lg_sl ([.ref q_t])).length) Slot.unset).toArray = ls at hl ⊢
  have hl : lv_has ls 1 [(0, .ref q_t)] := hl
  unfold X5_clear at h
  obtain ⟨H, hHe⟩ : ∃ H, H = s.heap := ⟨_, rfl⟩
  obtain ⟨locs, hLe⟩ : ∃ x : List Loc, x = [] := ⟨_, rfl⟩
  rw [← hHe] at hP
  have hS : va_S A s.heap H locs := by rw [hHe, hLe]; exact hS
  suffices hW : W p l e (headSpec wsX5_clear rm_X5_clear).room s m ([.ref q_t] : List Value).toArray below meth c H locs 0 0 (MQ below (va_Qv (fun (_ : Unit) => True) (bW dC dI A [(q_t, .inr (5, [.ref q_t_numbers, .ref q_t_counts, .int r_v_t_size])), (q_t_counts, .inl (cI, 10, .inl r_f_t_counts))]) A) ([.ref q_t] : List Value).toArray s 0 0 A) (F0 m 0 ls []) by rw [hHe, hLe] at hW; exact hW
  refine lv_aload_n hx hb dX5_clear_0 rfl (lv_at hl 0 rfl) ?_
  refine lv_iconst (v := (0 : Int32)) hx hb dX5_clear_1 (by decide) ?_
  refine va_put (D := (dC, dI)) (ci := 5) (v := .int (0 : Int32)) (ty := .int) (C := RX5) (T := TX5) (N := 3) hx hb hts in_X5_clear_X5 tyX5 tyX5_ok nmX5 hown hK hP hD hS 0 rfl rfl 2 (by decide) (hts (.fieldLink RX5 18 "RightIfAsMany$People" "size" "I") (List.mem_of_getElem? (i := 1) rfl)) (fun _ h9 => h9) rfl (by decide +kernel) rfl rfl (Nat.le_of_ble_eq_true rfl) dX5_clear_2 (fun H locs hP hD hS => ?_)
  have hP : va_P (dC, dI) vwCl [(q_t, .inr (5, [.ref q_t_numbers, .ref q_t_counts, .int (0 : Int32)])), (q_t_counts, .inl (cI, 10, .inl f_t_counts))] H := hP
  have hD : va_D A [(q_t, .inr (5, [.ref q_t_numbers, .ref q_t_counts, .int (0 : Int32)])), (q_t_counts, .inl (cI, 10, .inl f_t_counts))] := hD
  refine lv_aload_n hx hb dX5_clear_5 rfl (lv_at hl 0 rfl) ?_
  refine va_get (D := (dC, dI)) (ci := 5) (v := .ref q_t_counts) (C := RX5) (T := TX5) (N := 3) hx hb hts in_X5_clear_X5 hown hK hP 0 rfl rfl 1 (by decide) (hts (.fieldLink RX5 15 "RightIfAsMany$People" "counts" "[I") (List.mem_of_getElem? (i := 2) rfl)) (fun _ h9 => h9) rfl dX5_clear_6 ?_
  refine lv_iconst (v := (0 : Int32)) hx hb dX5_clear_9 (by decide) ?_
  refine kWv (wc := [(q_t_counts, .inl (cI, 10, .inl f_t_counts))]) (wr := [(q_t, .inr (5, [.ref q_t_numbers, .ref q_t_counts, .int (0 : Int32)]))]) (w1 := [(q_t_counts, .inl (cI, 10, .inl (fillI 10 f_t_counts (0 : Int32))))]) (wn := [(q_t, .inr (5, [.ref q_t_numbers, .ref q_t_counts, .int (0 : Int32)])), (q_t_counts, .inl (cI, 10, .inl (fillI 10 f_t_counts (0 : Int32))))]) hP hD hS hA [1] [0] [0, 1] rfl rfl (by decide) (by decide) rfl (by decide) (va_runS (As := [.ref q_t_counts, .int (0 : Int32)]) (rest := []) ⟨hx, hb, hml, hown, hts⟩ (cn_J7_fill_53178 l dC dI cI cJ cZ q_t_counts 10 H.size f_t_counts (0 : Int32) (by decide)) (va_cwS 2 hts gX5_clear_J7_fill_53178 rfl rfl rfl (by decide +kernel) ⟨Nat.le_of_ble_eq_true rfl, Nat.le_of_ble_eq_true rfl⟩) (preWS hKK (hP.sub (ws' := [(q_t_counts, .inl (cI, 10, .inl f_t_counts))]) [1] rfl) (hD.sub (ws' := [(q_t_counts, .inl (cI, 10, .inl f_t_counts))]) [1] (by decide) rfl)) rfl rfl hl.1 rfl (lv_room (Nat.le_of_ble_eq_true rfl)) dX5_clear_10 ⟨Nat.zero_le _, Nat.zero_le _⟩) (fun H locs hP hD hS => ?_)
  replace h := Option.some.inj h
  obtain ⟨e1, e2⟩ := pr2 h
  exact W.vret hx hb hr (fun t ht hW => ⟨⟨(), rfl, trivial, (by rw [ht, ← e1, ← e2]; exact hP), (by rw [← e1, ← e2]; exact hD)⟩, hS.F ht⟩) hS.2.2 dX5_clear_13
abbrev rm_X9_at : Room := { frames := 0, cells := 0, slots := 0, locals := 0 }
theorem in_X9_at_X9 : ∀ w ∈ wsX90, w ∈ wsX9_at := fun _ h => List.mem_cons_of_mem _ (List.mem_append_right _ h)
set_option maxHeartbeats 4000000 in
set_option maxRecDepth 100000 in
theorem cn_X9_at (l : Launch) (dC : Nat → ClassId) (dI : Nat → Nat → Nat) (cI cJ cZ : ClassId) (q_t q_t_bytes : Nat) (v_t_length : Int32) (f_t_bytes : (Nat → Int32)) (p1 : Int32) (res : Int32) (h : X9_at v_t_length f_t_bytes p1 = some res) : Met l yX9_at wsX9_at rm_X9_at (pcR dC dI cI cJ cZ [(q_t, .inr (9, [.ref q_t_bytes, .int v_t_length])), (q_t_bytes, .inl (cI, 40, .inl f_t_bytes))] [.ref q_t, .int p1]) (vp_Si (fun r => r = res)) 0 0 (fun _ => False) := by
  refine Met.ofW (cc := cX9_at) (maxL := 2) (ret := (some .int)) (by decide) rfl ?_
  intro p e s m args below meth c s₁ B hml hv
  obtain ⟨rfl, hP, hKK⟩ := hv
  have hx := B.exec
  have hb := B.bytes
  have hr := B.returns
  have hts := atoms_spec (ws := wsX9_at) B.pre
  have hown : s.vm.findClass RX9 = some m.cls := findClass_of_methodNamed B.named
  have hlocks := B.notSynchronized
  have hK := hKK.1
  have hl := lv_entry ([.ref q_t, .int p1]) (n := 2) (Nat.le_of_ble_eq_true rfl)
  rw [lg_entry_eq]
  generalize (lg_sl ([.ref q_t, .int p1]) ++ List.replicate (2 - (lg_sl ([.ref q_t, .int p1])).length) Slot.unset).toArray = ls at hl ⊢
  have hl : lv_has ls 2 [(0, .ref q_t), (1, .int p1)] := hl
  unfold X9_at at h
  refine lv_iload_n hx hb dX9_at_0 rfl (lv_at hl 1 rfl) ?_
  refine lv_if_lt (tgt := 21) hx hb dX9_at_1 (by decide) (fun c1 => ?_) (fun c1 => ?_)
  · replace h := ite_t h c1
    refine lv_bipush (v := (-9 : Int32)) hx hb dX9_at_21 (by decide) ?_
    have e1 := Option.some.inj h
    exact W.iret (v := (-9 : Int32)) hx hb hr (fun t ht hW => ⟨_, rfl, e1, ht⟩) (fun q hq => by cases hq) dX9_at_23
  replace h := ite_f h c1
  refine lv_iload_n hx hb dX9_at_4 rfl (lv_at hl 1 rfl) ?_
  refine lv_aload_n hx hb dX9_at_5 rfl (lv_at hl 0 rfl) ?_
  refine va_get (D := (dC, dI)) (ci := 9) (v := .int v_t_length) (C := RX9) (T := TX9) (N := 2) hx hb hts in_X9_at_X9 hown hK hP 0 rfl rfl 1 (by decide) (hts (.fieldLink RX9 15 "RightIfAsMany$Text" "length" "I") (List.mem_of_getElem? (i := 1) rfl)) (fun _ h9 => h9) rfl dX9_at_6 ?_
  refine lv_icmp_ge (tgt := 21) hx hb dX9_at_9 (by decide) (fun c2 => ?_) (fun c2 => ?_)
  · replace h := ite_t h c2
    refine lv_bipush (v := (-9 : Int32)) hx hb dX9_at_21 (by decide) ?_
    have e1 := Option.some.inj h
    exact W.iret (v := (-9 : Int32)) hx hb hr (fun t ht hW => ⟨_, rfl, e1, ht⟩) (fun q hq => by cases hq) dX9_at_23
  replace h := ite_f h c2
  refine lv_aload_n hx hb dX9_at_12 rfl (lv_at hl 0 rfl) ?_
  refine va_get (D := (dC, dI)) (ci := 9) (v := .ref q_t_bytes) (C := RX9) (T := TX9) (N := 2) hx hb hts in_X9_at_X9 hown hK hP 0 rfl rfl 0 (by decide) (hts (.fieldLink RX9 9 "RightIfAsMany$Text" "bytes" "[I") (List.mem_of_getElem? (i := 2) rfl)) (fun _ h9 => h9) rfl dX9_at_13 ?_
  refine lv_iload_n hx hb dX9_at_16 rfl (lv_at hl 1 rfl) ?_
  obtain ⟨hg3, h⟩ := grd_s h
  refine va_iald hx hb hK hP 1 0 rfl rfl hg3 dX9_at_17 ?_
  refine lv_goto (tgt := 23) hx hb dX9_at_18 (by decide) ?_
  have e1 := Option.some.inj h
  exact W.iret (v := (f_t_bytes p1.toNatClampNeg)) hx hb hr (fun t ht hW => ⟨_, rfl, e1, ht⟩) (fun q hq => by cases hq) dX9_at_23
abbrev rm_X5_size : Room := { frames := 0, cells := 0, slots := 0, locals := 0 }
theorem in_X5_size_X5 : ∀ w ∈ wsX50, w ∈ wsX5_size := fun _ h => List.mem_cons_of_mem _ (List.mem_append_right _ h)
set_option maxHeartbeats 4000000 in
set_option maxRecDepth 100000 in
theorem cn_X5_size (l : Launch) (dC : Nat → ClassId) (dI : Nat → Nat → Nat) (cI cJ cZ : ClassId) (q_t q_t_numbers q_t_counts : Nat) (v_t_size : Int32) (res : Int32) (h : X5_size v_t_size = res) : Met l yX5_size wsX5_size rm_X5_size (pcR dC dI cI cJ cZ [(q_t, .inr (5, [.ref q_t_numbers, .ref q_t_counts, .int v_t_size]))] [.ref q_t]) (vp_Si (fun r => r = res)) 0 0 (fun _ => False) := by
  refine Met.ofW (cc := cX5_size) (maxL := 1) (ret := (some .int)) (by decide) rfl ?_
  intro p e s m args below meth c s₁ B hml hv
  obtain ⟨rfl, hP, hKK⟩ := hv
  have hx := B.exec
  have hb := B.bytes
  have hr := B.returns
  have hts := atoms_spec (ws := wsX5_size) B.pre
  have hown : s.vm.findClass RX5 = some m.cls := findClass_of_methodNamed B.named
  have hlocks := B.notSynchronized
  have hK := hKK.1
  have hl := lv_entry ([.ref q_t]) (n := 1) (Nat.le_of_ble_eq_true rfl)
  rw [lg_entry_eq]
  generalize (lg_sl ([.ref q_t]) ++ List.replicate (1 - (lg_sl ([.ref q_t])).length) Slot.unset).toArray = ls at hl ⊢
  have hl : lv_has ls 1 [(0, .ref q_t)] := hl
  unfold X5_size at h
  refine lv_aload_n hx hb dX5_size_0 rfl (lv_at hl 0 rfl) ?_
  refine va_get (D := (dC, dI)) (ci := 5) (v := .int v_t_size) (C := RX5) (T := TX5) (N := 3) hx hb hts in_X5_size_X5 hown hK hP 0 rfl rfl 2 (by decide) (hts (.fieldLink RX5 18 "RightIfAsMany$People" "size" "I") (List.mem_of_getElem? (i := 1) rfl)) (fun _ h9 => h9) rfl dX5_size_1 ?_
  have e1 := h
  exact W.iret (v := v_t_size) hx hb hr (fun t ht hW => ⟨_, rfl, e1, ht⟩) (fun q hq => by cases hq) dX5_size_4
abbrev rm_X5_many : Room := { frames := 1, cells := 0, slots := 0, locals := 20 }
theorem in_X5_many_X5 : ∀ w ∈ wsX50, w ∈ wsX5_many := fun _ h => List.mem_cons_of_mem _ (List.mem_append_right _ h)
set_option maxHeartbeats 4000000 in
set_option maxRecDepth 100000 in
theorem cn_X5_many (l : Launch) (dC : Nat → ClassId) (dI : Nat → Nat → Nat) (cI cJ cZ : ClassId) (q_t q_t_numbers q_t_counts : Nat) (v_t_size : Int32) (f_t_counts : (Nat → Int32)) (p1 : Int32) (res : Int32) (h : X5_many f_t_counts p1 = some res) : Met l yX5_many wsX5_many rm_X5_many (pcR dC dI cI cJ cZ [(q_t, .inr (5, [.ref q_t_numbers, .ref q_t_counts, .int v_t_size])), (q_t_counts, .inl (cI, 10, .inl f_t_counts))] [.ref q_t, .int p1]) (vp_Si (fun r => r = res)) 0 0 (fun _ => False) := by
  refine Met.ofW (cc := cX5_many) (maxL := 2) (ret := (some .int)) (by decide) rfl ?_
  intro p e s m args below meth c s₁ B hml hv
  obtain ⟨rfl, hP, hKK⟩ := hv
  have hx := B.exec
  have hb := B.bytes
  have hr := B.returns
  have hts := atoms_spec (ws := wsX5_many) B.pre
  have hown : s.vm.findClass RX5 = some m.cls := findClass_of_methodNamed B.named
  have hlocks := B.notSynchronized
  have hK := hKK.1
  have hl := lv_entry ([.ref q_t, .int p1]) (n := 2) (Nat.le_of_ble_eq_true rfl)
  rw [lg_entry_eq]
  generalize (lg_sl ([.ref q_t, .int p1]) ++ List.replicate (2 - (lg_sl ([.ref q_t, .int p1])).length) Slot.unset).toArray = ls at hl ⊢
  have hl : lv_has ls 2 [(0, .ref q_t), (1, .int p1)] := hl
  unfold X5_many at h
  refine lv_iload_n hx hb dX5_many_0 rfl (lv_at hl 1 rfl) ?_
  refine kRz (res := (X10_isNumber p1)) (va_runSN (As := [.int p1]) (rest := []) ⟨hx, hb, hml, hown, hts⟩ (cn_X10_isNumber l dC dI cI cJ cZ    p1 (X10_isNumber p1) rfl) ⟨va_cnB 1 hts gX5_many_X10_isNumber_n26 rfl rfl rfl (hKK.nw 13 rfl) (hts (.initialized RX10) (List.mem_of_getElem? (i := 3) rfl)) (by decide +kernel) ⟨Nat.le_of_ble_eq_true rfl, Nat.le_of_ble_eq_true rfl⟩, hts (.static yX10_isNumber) (List.mem_of_getElem? (i := 2) rfl), trivial⟩ (preRS hKK (hP.sub (ws' := []) [] rfl)) rfl rfl hl.1 rfl (lv_room (Nat.le_of_ble_eq_true rfl)) dX5_many_1 ⟨Nat.zero_le _, Nat.zero_le _⟩) (fun hz1 => ?_)
  refine lv_if_eq (tgt := 16) hx hb dX5_many_4 (by decide) (fun c2 => ?_) (fun c2 => ?_)
  · replace h := ite_t h c2
    refine lv_iconst (v := (0 : Int32)) hx hb dX5_many_16 (by decide) ?_
    have e1 := Option.some.inj h
    exact W.iret (v := (0 : Int32)) hx hb hr (fun t ht hW => ⟨_, rfl, e1, ht⟩) (fun q hq => by cases hq) dX5_many_17
  replace h := ite_f h c2
  refine lv_aload_n hx hb dX5_many_7 rfl (lv_at hl 0 rfl) ?_
  refine va_get (D := (dC, dI)) (ci := 5) (v := .ref q_t_counts) (C := RX5) (T := TX5) (N := 3) hx hb hts in_X5_many_X5 hown hK hP 0 rfl rfl 1 (by decide) (hts (.fieldLink RX5 15 "RightIfAsMany$People" "counts" "[I") (List.mem_of_getElem? (i := 1) rfl)) (fun _ h9 => h9) rfl dX5_many_8 ?_
  refine lv_iload_n hx hb dX5_many_11 rfl (lv_at hl 1 rfl) ?_
  obtain ⟨hg3, h⟩ := grd_s h
  refine va_iald hx hb hK hP 1 0 rfl rfl hg3 dX5_many_12 ?_
  refine lv_goto (tgt := 17) hx hb dX5_many_13 (by decide) ?_
  have e1 := Option.some.inj h
  exact W.iret (v := (f_t_counts p1.toNatClampNeg)) hx hb hr (fun t ht hW => ⟨_, rfl, e1, ht⟩) (fun q hq => by cases hq) dX5_many_17
abbrev rm_X6_canBeBarred : Room := { frames := 2, cells := 0, slots := 0, locals := 41 }
theorem in_X6_canBeBarred_X5 : ∀ w ∈ wsX50, w ∈ wsX6_canBeBarred := fun _ h => List.mem_cons_of_mem _ (List.mem_append_right _ h)
theorem in_X6_canBeBarred_X8 : ∀ w ∈ wsX80, w ∈ wsX6_canBeBarred := fun _ h => List.mem_cons_of_mem _ (List.mem_append_left _ (List.mem_append_right _ h))
theorem in_X6_canBeBarred_X6 : ∀ w ∈ wsX60, w ∈ wsX6_canBeBarred := fun _ h => List.mem_cons_of_mem _ (List.mem_append_left _ (List.mem_append_left _ (List.mem_append_right _ h)))
set_option maxHeartbeats 4000000 in
set_option maxRecDepth 100000 in
theorem cn_X6_canBeBarred (l : Launch) (dC : Nat → ClassId) (dI : Nat → Nat → Nat) (cI cJ cZ : ClassId) (q_t q_t_rules q_t_people q_t_people_numbers q_t_people_counts : Nat) (v_t_letter : Int32) (v_t_rules_law : Int32) (v_t_rules_share : Int32) (v_t_rules_pot : Int32) (v_t_rules_barred : Int32) (v_t_people_size : Int32) (f_t_people_counts : (Nat → Int32)) (p1 : Int32) (res : Int32) (h : X6_canBeBarred v_t_rules_barred f_t_people_counts p1 = some res) : Met l yX6_canBeBarred wsX6_canBeBarred rm_X6_canBeBarred (pcR dC dI cI cJ cZ [(q_t, .inr (6, [.ref q_t_rules, .ref q_t_people, .int v_t_letter])), (q_t_rules, .inr (8, [.int v_t_rules_law, .int v_t_rules_share, .int v_t_rules_pot, .int v_t_rules_barred])), (q_t_people, .inr (5, [.ref q_t_people_numbers, .ref q_t_people_counts, .int v_t_people_size])), (q_t_people_counts, .inl (cI, 10, .inl f_t_people_counts))] [.ref q_t, .int p1]) (vp_Si (fun r => r = res ∧ r &&& 1 = r)) 0 0 (fun _ => False) := by
  refine Met.ofW (cc := cX6_canBeBarred) (maxL := 2) (ret := (some .boolean)) (by decide) rfl ?_
  intro p e s m args below meth c s₁ B hml hv
  obtain ⟨rfl, hP, hKK⟩ := hv
  have hx := B.exec
  have hb := B.bytes
  have hr := B.returns
  have hts := atoms_spec (ws := wsX6_canBeBarred) B.pre
  have hown : s.vm.findClass RX6 = some m.cls := findClass_of_methodNamed B.named
  have hlocks := B.notSynchronized
  have hK := hKK.1
  have hl := lv_entry ([.ref q_t, .int p1]) (n := 2) (Nat.le_of_ble_eq_true rfl)
  rw [lg_entry_eq]
  generalize (lg_sl ([.ref q_t, .int p1]) ++ List.replicate (2 - (lg_sl ([.ref q_t, .int p1])).length) Slot.unset).toArray = ls at hl ⊢
  have hl : lv_has ls 2 [(0, .ref q_t), (1, .int p1)] := hl
  unfold X6_canBeBarred at h
  refine lv_aload_n hx hb dX6_canBeBarred_0 rfl (lv_at hl 0 rfl) ?_
  refine va_get (D := (dC, dI)) (ci := 6) (v := .ref q_t_rules) (C := RX6) (T := TX6) (N := 3) hx hb hts in_X6_canBeBarred_X6 hown hK hP 0 rfl rfl 0 (by decide) (hts (.fieldLink RX6 12 "RightIfAsMany$Reader" "rules" "LRightIfAsMany$Rules;") (List.mem_of_getElem? (i := 1) rfl)) (fun _ h9 => h9) rfl dX6_canBeBarred_1 ?_
  refine lv_iload_n hx hb dX6_canBeBarred_4 rfl (lv_at hl 1 rfl) ?_
  refine kRz (res := (X8_isOpen v_t_rules_barred p1)) (va_runV (As := [.int p1]) (rest := []) ⟨hx, hb, hml, hown, hts⟩ (cn_X8_isOpen l dC dI cI cJ cZ q_t_rules  v_t_rules_law v_t_rules_share v_t_rules_pot v_t_rules_barred p1 (X8_isOpen v_t_rules_barred p1) rfl) (cwV 1 hts gX6_canBeBarred_X8_isOpen rfl rfl rfl (by decide +kernel) ⟨Nat.le_of_ble_eq_true rfl, Nat.le_of_ble_eq_true rfl⟩) (preR hKK (hP.sub (ws' := [(q_t_rules, .inr (8, [.int v_t_rules_law, .int v_t_rules_share, .int v_t_rules_pot, .int v_t_rules_barred]))]) [1] rfl) (ci := 8) (q0 := 0) rfl rfl) rfl rfl hl.1 rfl (lv_room (Nat.le_of_ble_eq_true rfl)) dX6_canBeBarred_5 ⟨Nat.zero_le _, Nat.zero_le _⟩) (fun hz1 => ?_)
  refine lv_if_eq (tgt := 26) hx hb dX6_canBeBarred_8 (by decide) (fun c2 => ?_) (fun c2 => ?_)
  · replace h := ite_t h c2
    refine lv_iconst (v := (0 : Int32)) hx hb dX6_canBeBarred_26 (by decide) ?_
    have e1 := Option.some.inj h
    exact W.zret (v := (0 : Int32)) (ty := .boolean) hx hb hr (congrArg Value.int rfl) (fun t ht hW => ⟨_, rfl, ⟨e1, rfl⟩, ht⟩) (fun q hq => by cases hq) dX6_canBeBarred_27
  replace h := ite_f h c2
  refine lv_aload_n hx hb dX6_canBeBarred_11 rfl (lv_at hl 0 rfl) ?_
  refine va_get (D := (dC, dI)) (ci := 6) (v := .ref q_t_people) (C := RX6) (T := TX6) (N := 3) hx hb hts in_X6_canBeBarred_X6 hown hK hP 0 rfl rfl 1 (by decide) (hts (.fieldLink RX6 21 "RightIfAsMany$Reader" "people" "LRightIfAsMany$People;") (List.mem_of_getElem? (i := 2) rfl)) (fun _ h9 => h9) rfl dX6_canBeBarred_12 ?_
  refine lv_iload_n hx hb dX6_canBeBarred_15 rfl (lv_at hl 1 rfl) ?_
  obtain ⟨r3, hc3, h⟩ := bnd1_s h
  refine kRi (res := r3) (va_runV (As := [.int p1]) (rest := []) ⟨hx, hb, hml, hown, hts⟩ (cn_X5_many l dC dI cI cJ cZ q_t_people q_t_people_numbers q_t_people_counts  v_t_people_size f_t_people_counts p1 r3 hc3) (cwV 1 hts gX6_canBeBarred_X5_many rfl rfl rfl (by decide +kernel) ⟨Nat.le_of_ble_eq_true rfl, Nat.le_of_ble_eq_true rfl⟩) (preR hKK (hP.sub (ws' := [(q_t_people, .inr (5, [.ref q_t_people_numbers, .ref q_t_people_counts, .int v_t_people_size])), (q_t_people_counts, .inl (cI, 10, .inl f_t_people_counts))]) [2, 3] rfl) (ci := 5) (q0 := 0) rfl rfl) rfl rfl hl.1 rfl (lv_room (Nat.le_of_ble_eq_true rfl)) dX6_canBeBarred_16 ⟨Nat.zero_le _, Nat.zero_le _⟩) ?_
  refine lv_if_ne (tgt := 26) hx hb dX6_canBeBarred_19 (by decide) (fun c4 => ?_) (fun c4 => ?_)
  · replace h := ite_f h c4
    refine lv_iconst (v := (0 : Int32)) hx hb dX6_canBeBarred_26 (by decide) ?_
    have e1 := Option.some.inj h
    exact W.zret (v := (0 : Int32)) (ty := .boolean) hx hb hr (congrArg Value.int rfl) (fun t ht hW => ⟨_, rfl, ⟨e1, rfl⟩, ht⟩) (fun q hq => by cases hq) dX6_canBeBarred_27
  replace h := ite_t h c4
  refine lv_iconst (v := (1 : Int32)) hx hb dX6_canBeBarred_22 (by decide) ?_
  refine lv_goto (tgt := 27) hx hb dX6_canBeBarred_23 (by decide) ?_
  have e1 := Option.some.inj h
  exact W.zret (v := (1 : Int32)) (ty := .boolean) hx hb hr (congrArg Value.int rfl) (fun t ht hW => ⟨_, rfl, ⟨e1, rfl⟩, ht⟩) (fun q hq => by cases hq) dX6_canBeBarred_27
abbrev rm_X6_someCanBeBarred : Room := { frames := 3, cells := 0, slots := 0, locals := 62 }
theorem in_X6_someCanBeBarred_X5 : ∀ w ∈ wsX50, w ∈ wsX6_someCanBeBarred := fun _ h => List.mem_cons_of_mem _ (List.mem_append_right _ h)
theorem in_X6_someCanBeBarred_X8 : ∀ w ∈ wsX80, w ∈ wsX6_someCanBeBarred := fun _ h => List.mem_cons_of_mem _ (List.mem_append_left _ (List.mem_append_right _ h))
theorem in_X6_someCanBeBarred_X6 : ∀ w ∈ wsX60, w ∈ wsX6_someCanBeBarred := fun _ h => List.mem_cons_of_mem _ (List.mem_append_left _ (List.mem_append_left _ (List.mem_append_right _ h)))
set_option maxHeartbeats 4000000 in
set_option maxRecDepth 100000 in
theorem cn_X6_someCanBeBarred (l : Launch) (dC : Nat → ClassId) (dI : Nat → Nat → Nat) (cI cJ cZ : ClassId) (q_t q_t_rules q_t_people q_t_people_numbers q_t_people_counts : Nat) (v_t_letter : Int32) (v_t_rules_law : Int32) (v_t_rules_share : Int32) (v_t_rules_pot : Int32) (v_t_rules_barred : Int32) (v_t_people_size : Int32) (f_t_people_counts : (Nat → Int32)) (res : Int32) (h : X6_someCanBeBarred v_t_rules_barred f_t_people_counts = some res) : Met l yX6_someCanBeBarred wsX6_someCanBeBarred rm_X6_someCanBeBarred (pcR dC dI cI cJ cZ [(q_t, .inr (6, [.ref q_t_rules, .ref q_t_people, .int v_t_letter])), (q_t_rules, .inr (8, [.int v_t_rules_law, .int v_t_rules_share, .int v_t_rules_pot, .int v_t_rules_barred])), (q_t_people, .inr (5, [.ref q_t_people_numbers, .ref q_t_people_counts, .int v_t_people_size])), (q_t_people_counts, .inl (cI, 10, .inl f_t_people_counts))] [.ref q_t]) (vp_Si (fun r => r = res ∧ r &&& 1 = r)) 0 0 (fun _ => False) := by
  refine Met.ofW (cc := cX6_someCanBeBarred) (maxL := 2) (ret := (some .boolean)) (by decide) rfl ?_
  intro p e s m args below meth c s₁ B hml hv
  obtain ⟨rfl, hP, hKK⟩ := hv
  have hx := B.exec
  have hb := B.bytes
  have hr := B.returns
  have hts := atoms_spec (ws := wsX6_someCanBeBarred) B.pre
  have hown : s.vm.findClass RX6 = some m.cls := findClass_of_methodNamed B.named
  have hlocks := B.notSynchronized
  have hK := hKK.1
  have hl := lv_entry ([.ref q_t]) (n := 2) (Nat.le_of_ble_eq_true rfl)
  rw [lg_entry_eq]
  generalize (lg_sl ([.ref q_t]) ++ List.replicate (2 - (lg_sl ([.ref q_t])).length) Slot.unset).toArray = ls at hl ⊢
  have hl : lv_has ls 2 [(0, .ref q_t)] := hl
  have L_2 : ∀ (n2 : Nat) , ∀  (x1 : Int32), X6_someCanBeBarred_b2 n2 v_t_rules_barred f_t_people_counts x1 = some res → ∀ (ls : Array Slot), lv_has ls 2 [(0, .ref q_t), (1, .int x1)] → W p l e (headSpec wsX6_someCanBeBarred rm_X6_someCanBeBarred).room s m ([.ref q_t] : List Value).toArray below meth c s.heap [] 0 0 (MQ below (vp_Si (fun r => r = res ∧ r &&& 1 = r)) ([.ref q_t] : List Value).toArray s 0 0 (fun _ => False)) (F0 m 2 ls []) := by
    intro n2
    induction n2 with
    | zero => intro x1 h ls hl; exact absurd h (fun h => by cases h)
    | succ n2 ih_2 =>
      intro x1 h ls hl
      replace h : X6_someCanBeBarred_b2_s (X6_someCanBeBarred_b2 n2) v_t_rules_barred f_t_people_counts x1 = some res := h
      unfold X6_someCanBeBarred_b2_s at h
      refine lv_iload_n hx hb dX6_someCanBeBarred_2 rfl (lv_at hl 1 rfl) ?_
      refine lv_bipush (v := (10 : Int32)) hx hb dX6_someCanBeBarred_3 (by decide) ?_
      refine lv_icmp_ge (tgt := 24) hx hb dX6_someCanBeBarred_5 (by decide) (fun c1 => ?_) (fun c1 => ?_)
      · replace h := ite_t h c1
        refine lv_iconst (v := (0 : Int32)) hx hb dX6_someCanBeBarred_24 (by decide) ?_
        have e1 := Option.some.inj h
        exact W.zret (v := (0 : Int32)) (ty := .boolean) hx hb hr (congrArg Value.int rfl) (fun t ht hW => ⟨_, rfl, ⟨e1, rfl⟩, ht⟩) (fun q hq => by cases hq) dX6_someCanBeBarred_25
      replace h := ite_f h c1
      refine lv_aload_n hx hb dX6_someCanBeBarred_8 rfl (lv_at hl 0 rfl) ?_
      refine lv_iload_n hx hb dX6_someCanBeBarred_9 rfl (lv_at hl 1 rfl) ?_
      obtain ⟨r2, hc2, h⟩ := bnd1_s h
      refine kRz (res := r2) (va_runV (As := [.int x1]) (rest := []) ⟨hx, hb, hml, hown, hts⟩ (cn_X6_canBeBarred l dC dI cI cJ cZ q_t q_t_rules q_t_people q_t_people_numbers q_t_people_counts  v_t_letter v_t_rules_law v_t_rules_share v_t_rules_pot v_t_rules_barred v_t_people_size f_t_people_counts x1 r2 hc2) (cwV 1 hts gX6_someCanBeBarred_X6_canBeBarred rfl rfl rfl (by decide +kernel) ⟨Nat.le_of_ble_eq_true rfl, Nat.le_of_ble_eq_true rfl⟩) (preR hKK (hP.sub (ws' := [(q_t, .inr (6, [.ref q_t_rules, .ref q_t_people, .int v_t_letter])), (q_t_rules, .inr (8, [.int v_t_rules_law, .int v_t_rules_share, .int v_t_rules_pot, .int v_t_rules_barred])), (q_t_people, .inr (5, [.ref q_t_people_numbers, .ref q_t_people_counts, .int v_t_people_size])), (q_t_people_counts, .inl (cI, 10, .inl f_t_people_counts))]) [0, 1, 2, 3] rfl) (ci := 6) (q0 := 0) rfl rfl) rfl rfl hl.1 rfl (lv_room (Nat.le_of_ble_eq_true rfl)) dX6_someCanBeBarred_10 ⟨Nat.zero_le _, Nat.zero_le _⟩) (fun hz3 => ?_)
      refine lv_if_eq (tgt := 18) hx hb dX6_someCanBeBarred_13 (by decide) (fun c4 => ?_) (fun c4 => ?_)
      · replace h := ite_t h c4
        refine lv_iinc (v := (x1 + (1 : Int32))) (lv' := [(1, .int (x1 + (1 : Int32))), (0, .ref q_t)]) hx hb dX6_someCanBeBarred_18 hl (k := 1) rfl rfl (by decide) rfl (fun ls hl => ?_)
        refine lv_goto (tgt := 2) hx hb dX6_someCanBeBarred_21 (by decide) ?_
        exact ih_2 (x1 + (1 : Int32)) h ls (lv_sub hl [1, 0] rfl)
      replace h := ite_f h c4
      refine lv_iconst (v := (1 : Int32)) hx hb dX6_someCanBeBarred_16 (by decide) ?_
      have e1 := Option.some.inj h
      exact W.zret (v := (1 : Int32)) (ty := .boolean) hx hb hr (congrArg Value.int rfl) (fun t ht hW => ⟨_, rfl, ⟨e1, rfl⟩, ht⟩) (fun q hq => by cases hq) dX6_someCanBeBarred_17
  unfold X6_someCanBeBarred at h
  refine lv_iconst (v := (0 : Int32)) hx hb dX6_someCanBeBarred_0 (by decide) ?_
  refine lv_istore_n (lv' := [(1, .int (0 : Int32)), (0, .ref q_t)]) hx hb dX6_someCanBeBarred_1 rfl hl (by decide) rfl (fun ls hl => ?_)
  exact L_2 fU (0 : Int32) h ls (lv_sub hl [1, 0] rfl)
abbrev rm_X6_takesLetter : Room := { frames := 4, cells := 0, slots := 0, locals := 83 }
theorem in_X6_takesLetter_X8 : ∀ w ∈ wsX80, w ∈ wsX6_takesLetter := fun _ h => List.mem_cons_of_mem _ (List.mem_append_right _ h)
theorem in_X6_takesLetter_X5 : ∀ w ∈ wsX50, w ∈ wsX6_takesLetter := fun _ h => List.mem_cons_of_mem _ (List.mem_append_left _ (List.mem_append_right _ h))
theorem in_X6_takesLetter_X6 : ∀ w ∈ wsX60, w ∈ wsX6_takesLetter := fun _ h => List.mem_cons_of_mem _ (List.mem_append_left _ (List.mem_append_left _ (List.mem_append_right _ h)))
set_option maxHeartbeats 4000000 in
set_option maxRecDepth 100000 in
theorem cn_X6_takesLetter (l : Launch) (dC : Nat → ClassId) (dI : Nat → Nat → Nat) (cI cJ cZ : ClassId) (q_t q_t_rules q_t_people q_t_people_numbers q_t_people_counts : Nat) (sz : Nat) (v_t_letter : Int32) (v_t_rules_law : Int32) (v_t_rules_share : Int32) (v_t_rules_pot : Int32) (v_t_rules_barred : Int32) (v_t_people_size : Int32) (f_t_people_counts : (Nat → Int32)) (p1 : Int32) (res : Int32) (r_v_t_letter : Int32) (h : X6_takesLetter v_t_letter v_t_rules_barred v_t_people_size f_t_people_counts p1 = some (res, r_v_t_letter)) : Met l yX6_takesLetter wsX6_takesLetter rm_X6_takesLetter (pcW dC dI cI cJ cZ [(q_t, .inr (6, [.ref q_t_rules, .ref q_t_people, .int v_t_letter])), (q_t_rules, .inr (8, [.int v_t_rules_law, .int v_t_rules_share, .int v_t_rules_pot, .int v_t_rules_barred])), (q_t_people, .inr (5, [.ref q_t_people_numbers, .ref q_t_people_counts, .int v_t_people_size])), (q_t_people_counts, .inl (cI, 10, .inl f_t_people_counts))] sz [.ref q_t, .int p1]) (va_Qi (fun (r : Int32) (_ : Unit) => r = res ∧ r &&& 1 = r) (bW dC dI (va_A [(q_t, .inr (6, [.ref q_t_rules, .ref q_t_people, .int v_t_letter])), (q_t_rules, .inr (8, [.int v_t_rules_law, .int v_t_rules_share, .int v_t_rules_pot, .int v_t_rules_barred])), (q_t_people, .inr (5, [.ref q_t_people_numbers, .ref q_t_people_counts, .int v_t_people_size])), (q_t_people_counts, .inl (cI, 10, .inl f_t_people_counts))] sz) [(q_t, .inr (6, [.ref q_t_rules, .ref q_t_people, .int r_v_t_letter])), (q_t_rules, .inr (8, [.int v_t_rules_law, .int v_t_rules_share, .int v_t_rules_pot, .int v_t_rules_barred])), (q_t_people, .inr (5, [.ref q_t_people_numbers, .ref q_t_people_counts, .int v_t_people_size])), (q_t_people_counts, .inl (cI, 10, .inl f_t_people_counts))]) (va_A [(q_t, .inr (6, [.ref q_t_rules, .ref q_t_people, .int v_t_letter])), (q_t_rules, .inr (8, [.int v_t_rules_law, .int v_t_rules_share, .int v_t_rules_pot, .int v_t_rules_barred])), (q_t_people, .inr (5, [.ref q_t_people_numbers, .ref q_t_people_counts, .int v_t_people_size])), (q_t_people_counts, .inl (cI, 10, .inl f_t_people_counts))] sz)) 0 0 (va_A [(q_t, .inr (6, [.ref q_t_rules, .ref q_t_people, .int v_t_letter])), (q_t_rules, .inr (8, [.int v_t_rules_law, .int v_t_rules_share, .int v_t_rules_pot, .int v_t_rules_barred])), (q_t_people, .inr (5, [.ref q_t_people_numbers, .ref q_t_people_counts, .int v_t_people_size])), (q_t_people_counts, .inl (cI, 10, .inl f_t_people_counts))] sz) := by
  refine Met.ofW (cc := cX6_takesLetter) (maxL := 2) (ret := (some .boolean)) (by decide) rfl ?_
  intro p e s m args below meth c s₁ B hml hv
  obtain ⟨rfl, hsz, hP, hKK, hD0⟩ := hv
  have hx := B.exec
  have hb := B.bytes
  have hr := B.returns
  have hts := atoms_spec (ws := wsX6_takesLetter) B.pre
  have hown : s.vm.findClass RX6 = some m.cls := findClass_of_methodNamed B.named
  have hlocks := B.notSynchronized
  have hK := hKK.1
  subst hsz
  have hD := hD0.self (sz := s.heap.size)
  generalize hAe : va_A [(q_t, .inr (6, [.ref q_t_rules, .ref q_t_people, .int v_t_letter])), (q_t_rules, .inr (8, [.int v_t_rules_law, .int v_t_rules_share, .int v_t_rules_pot, .int v_t_rules_barred])), (q_t_people, .inr (5, [.ref q_t_people_numbers, .ref q_t_people_counts, .int v_t_people_size])), (q_t_people_counts, .inl (cI, 10, .inl f_t_people_counts))] s.heap.size = A at hD ⊢
  have hA : ∀ q : Nat, s.heap.size ≤ q → A q := fun q h => by rw [← hAe]; exact Or.inr h
  have hS : va_S A s.heap s.heap [] := va_S.rf
  have hl := lv_entry ([.ref q_t, .int p1]) (n := 2) (Nat.le_of_ble_eq_true rfl)
  rw [lg_entry_eq]
  generalize (lg_sl ([.ref q_t, .int p1]) ++ List.replicate (2 - (lg_sl ([.ref q_t, .int p1])).length) Slot.unset).toArray = ls at hl ⊢
  have hl : lv_has ls 2 [(0, .ref q_t), (1, .int p1)] := hl
  unfold X6_takesLetter at h
  obtain ⟨H, hHe⟩ : ∃ H, H = s.heap := ⟨_, rfl⟩
  obtain ⟨locs, hLe⟩ : ∃ x : List Loc, x = [] := ⟨_, rfl⟩
  rw [← hHe] at hP
  have hS : va_S A s.heap H locs := by rw [hHe, hLe]; exact hS
  suffices hW : W p l e (headSpec wsX6_takesLetter rm_X6_takesLetter).room s m ([.ref q_t, .int p1] : List Value).toArray below meth c H locs 0 0 (MQ below (va_Qi (fun (r : Int32) (_ : Unit) => r = res ∧ r &&& 1 = r) (bW dC dI A [(q_t, .inr (6, [.ref q_t_rules, .ref q_t_people, .int r_v_t_letter])), (q_t_rules, .inr (8, [.int v_t_rules_law, .int v_t_rules_share, .int v_t_rules_pot, .int v_t_rules_barred])), (q_t_people, .inr (5, [.ref q_t_people_numbers, .ref q_t_people_counts, .int v_t_people_size])), (q_t_people_counts, .inl (cI, 10, .inl f_t_people_counts))]) A) ([.ref q_t, .int p1] : List Value).toArray s 0 0 A) (F0 m 0 ls []) by rw [hHe, hLe] at hW; exact hW
  refine lv_aload_n hx hb dX6_takesLetter_0 rfl (lv_at hl 0 rfl) ?_
  refine lv_iload_n hx hb dX6_takesLetter_1 rfl (lv_at hl 1 rfl) ?_
  refine va_put (D := (dC, dI)) (ci := 6) (v := .int p1) (ty := .int) (C := RX6) (T := TX6) (N := 3) hx hb hts in_X6_takesLetter_X6 tyX6 tyX6_ok nmX6 hown hK hP hD hS 0 rfl rfl 2 (by decide) (hts (.fieldLink RX6 66 "RightIfAsMany$Reader" "letter" "I") (List.mem_of_getElem? (i := 1) rfl)) (fun _ h9 => h9) rfl (by decide +kernel) rfl rfl (Nat.le_of_ble_eq_true rfl) dX6_takesLetter_2 (fun H locs hP hD hS => ?_)
  have hP : va_P (dC, dI) vwCl [(q_t, .inr (6, [.ref q_t_rules, .ref q_t_people, .int p1])), (q_t_rules, .inr (8, [.int v_t_rules_law, .int v_t_rules_share, .int v_t_rules_pot, .int v_t_rules_barred])), (q_t_people, .inr (5, [.ref q_t_people_numbers, .ref q_t_people_counts, .int v_t_people_size])), (q_t_people_counts, .inl (cI, 10, .inl f_t_people_counts))] H := hP
  have hD : va_D A [(q_t, .inr (6, [.ref q_t_rules, .ref q_t_people, .int p1])), (q_t_rules, .inr (8, [.int v_t_rules_law, .int v_t_rules_share, .int v_t_rules_pot, .int v_t_rules_barred])), (q_t_people, .inr (5, [.ref q_t_people_numbers, .ref q_t_people_counts, .int v_t_people_size])), (q_t_people_counts, .inl (cI, 10, .inl f_t_people_counts))] := hD
  refine lv_iload_n hx hb dX6_takesLetter_5 rfl (lv_at hl 1 rfl) ?_
  refine lv_bipush (v := (80 : Int32)) hx hb dX6_takesLetter_6 (by decide) ?_
  refine lv_icmp_ne (tgt := 29) hx hb dX6_takesLetter_8 (by decide) (fun c1 => ?_) (fun c1 => ?_)
  · replace h := ite_f h c1
    refine lv_iload_n hx hb dX6_takesLetter_29 rfl (lv_at hl 1 rfl) ?_
    refine lv_bipush (v := (78 : Int32)) hx hb dX6_takesLetter_30 (by decide) ?_
    refine lv_icmp_ne (tgt := 58) hx hb dX6_takesLetter_32 (by decide) (fun c2 => ?_) (fun c2 => ?_)
    · replace h := ite_f h c2
      refine lv_iconst (v := (0 : Int32)) hx hb dX6_takesLetter_58 (by decide) ?_
      replace h := Option.some.inj h
      obtain ⟨e1, e2⟩ := pr2 h
      exact W.zret (v := (0 : Int32)) (ty := .boolean) hx hb hr (congrArg Value.int rfl) (fun t ht hW => ⟨⟨_, (), rfl, ⟨e1, rfl⟩, (by rw [ht, ← e2]; exact hP), (by rw [← e2]; exact hD)⟩, hS.F ht⟩) hS.2.2 dX6_takesLetter_59
    replace h := ite_t h c2
    refine lv_aload_n hx hb dX6_takesLetter_35 rfl (lv_at hl 0 rfl) ?_
    refine va_get (D := (dC, dI)) (ci := 6) (v := .ref q_t_rules) (C := RX6) (T := TX6) (N := 3) hx hb hts in_X6_takesLetter_X6 hown hK hP 0 rfl rfl 0 (by decide) (hts (.fieldLink RX6 12 "RightIfAsMany$Reader" "rules" "LRightIfAsMany$Rules;") (List.mem_of_getElem? (i := 3) rfl)) (fun _ h9 => h9) rfl dX6_takesLetter_36 ?_
    refine kRi (res := (X8_barredMany v_t_rules_barred)) (va_runV (As := []) (rest := []) ⟨hx, hb, hml, hown, hts⟩ (cn_X8_barredMany l dC dI cI cJ cZ q_t_rules  v_t_rules_law v_t_rules_share v_t_rules_pot v_t_rules_barred  (X8_barredMany v_t_rules_barred) rfl) (cwV 0 hts gX6_takesLetter_X8_barredMany rfl rfl rfl (by decide +kernel) ⟨Nat.le_of_ble_eq_true rfl, Nat.le_of_ble_eq_true rfl⟩) (preR hKK (hP.sub (ws' := [(q_t_rules, .inr (8, [.int v_t_rules_law, .int v_t_rules_share, .int v_t_rules_pot, .int v_t_rules_barred]))]) [1] rfl) (ci := 8) (q0 := 0) rfl rfl) rfl rfl hl.1 rfl (lv_room (Nat.le_of_ble_eq_true rfl)) dX6_takesLetter_39 ⟨Nat.zero_le _, Nat.zero_le _⟩) ?_
    refine lv_bipush (v := (9 : Int32)) hx hb dX6_takesLetter_42 (by decide) ?_
    refine lv_icmp_ge (tgt := 58) hx hb dX6_takesLetter_44 (by decide) (fun c3 => ?_) (fun c3 => ?_)
    · replace h := ite_t h c3
      refine lv_iconst (v := (0 : Int32)) hx hb dX6_takesLetter_58 (by decide) ?_
      replace h := Option.some.inj h
      obtain ⟨e1, e2⟩ := pr2 h
      exact W.zret (v := (0 : Int32)) (ty := .boolean) hx hb hr (congrArg Value.int rfl) (fun t ht hW => ⟨⟨_, (), rfl, ⟨e1, rfl⟩, (by rw [ht, ← e2]; exact hP), (by rw [← e2]; exact hD)⟩, hS.F ht⟩) hS.2.2 dX6_takesLetter_59
    replace h := ite_f h c3
    refine lv_aload_n hx hb dX6_takesLetter_47 rfl (lv_at hl 0 rfl) ?_
    obtain ⟨r4, hc4, h⟩ := bnd1_s h
    refine kRz (res := r4) (va_runV (As := []) (rest := []) ⟨hx, hb, hml, hown, hts⟩ (cn_X6_someCanBeBarred l dC dI cI cJ cZ q_t q_t_rules q_t_people q_t_people_numbers q_t_people_counts  p1 v_t_rules_law v_t_rules_share v_t_rules_pot v_t_rules_barred v_t_people_size f_t_people_counts  r4 hc4) (cwV 0 hts gX6_takesLetter_X6_someCanBeBarred rfl rfl rfl (by decide +kernel) ⟨Nat.le_of_ble_eq_true rfl, Nat.le_of_ble_eq_true rfl⟩) (preR hKK (hP.sub (ws' := [(q_t, .inr (6, [.ref q_t_rules, .ref q_t_people, .int p1])), (q_t_rules, .inr (8, [.int v_t_rules_law, .int v_t_rules_share, .int v_t_rules_pot, .int v_t_rules_barred])), (q_t_people, .inr (5, [.ref q_t_people_numbers, .ref q_t_people_counts, .int v_t_people_size])), (q_t_people_counts, .inl (cI, 10, .inl f_t_people_counts))]) [0, 1, 2, 3] rfl) (ci := 6) (q0 := 0) rfl rfl) rfl rfl hl.1 rfl (lv_room (Nat.le_of_ble_eq_true rfl)) dX6_takesLetter_48 ⟨Nat.zero_le _, Nat.zero_le _⟩) (fun hz5 => ?_)
    refine lv_if_eq (tgt := 58) hx hb dX6_takesLetter_51 (by decide) (fun c6 => ?_) (fun c6 => ?_)
    · replace h := ite_t h c6
      refine lv_iconst (v := (0 : Int32)) hx hb dX6_takesLetter_58 (by decide) ?_
      replace h := Option.some.inj h
      obtain ⟨e1, e2⟩ := pr2 h
      exact W.zret (v := (0 : Int32)) (ty := .boolean) hx hb hr (congrArg Value.int rfl) (fun t ht hW => ⟨⟨_, (), rfl, ⟨e1, rfl⟩, (by rw [ht, ← e2]; exact hP), (by rw [← e2]; exact hD)⟩, hS.F ht⟩) hS.2.2 dX6_takesLetter_59
    replace h := ite_f h c6
    refine lv_iconst (v := (1 : Int32)) hx hb dX6_takesLetter_54 (by decide) ?_
    refine lv_goto (tgt := 59) hx hb dX6_takesLetter_55 (by decide) ?_
    replace h := Option.some.inj h
    obtain ⟨e1, e2⟩ := pr2 h
    exact W.zret (v := (1 : Int32)) (ty := .boolean) hx hb hr (congrArg Value.int rfl) (fun t ht hW => ⟨⟨_, (), rfl, ⟨e1, rfl⟩, (by rw [ht, ← e2]; exact hP), (by rw [← e2]; exact hD)⟩, hS.F ht⟩) hS.2.2 dX6_takesLetter_59
  replace h := ite_t h c1
  refine lv_aload_n hx hb dX6_takesLetter_11 rfl (lv_at hl 0 rfl) ?_
  refine va_get (D := (dC, dI)) (ci := 6) (v := .ref q_t_people) (C := RX6) (T := TX6) (N := 3) hx hb hts in_X6_takesLetter_X6 hown hK hP 0 rfl rfl 1 (by decide) (hts (.fieldLink RX6 21 "RightIfAsMany$Reader" "people" "LRightIfAsMany$People;") (List.mem_of_getElem? (i := 2) rfl)) (fun _ h9 => h9) rfl dX6_takesLetter_12 ?_
  refine kRi (res := (X5_size v_t_people_size)) (va_runV (As := []) (rest := []) ⟨hx, hb, hml, hown, hts⟩ (cn_X5_size l dC dI cI cJ cZ q_t_people q_t_people_numbers q_t_people_counts  v_t_people_size  (X5_size v_t_people_size) rfl) (cwV 0 hts gX6_takesLetter_X5_size rfl rfl rfl (by decide +kernel) ⟨Nat.le_of_ble_eq_true rfl, Nat.le_of_ble_eq_true rfl⟩) (preR hKK (hP.sub (ws' := [(q_t_people, .inr (5, [.ref q_t_people_numbers, .ref q_t_people_counts, .int v_t_people_size]))]) [2] rfl) (ci := 5) (q0 := 0) rfl rfl) rfl rfl hl.1 rfl (lv_room (Nat.le_of_ble_eq_true rfl)) dX6_takesLetter_15 ⟨Nat.zero_le _, Nat.zero_le _⟩) ?_
  refine lv_bipush (v := (9 : Int32)) hx hb dX6_takesLetter_18 (by decide) ?_
  refine lv_icmp_ge (tgt := 27) hx hb dX6_takesLetter_20 (by decide) (fun c7 => ?_) (fun c7 => ?_)
  · replace h := ite_t h c7
    refine lv_iconst (v := (0 : Int32)) hx hb dX6_takesLetter_27 (by decide) ?_
    replace h := Option.some.inj h
    obtain ⟨e1, e2⟩ := pr2 h
    exact W.zret (v := (0 : Int32)) (ty := .boolean) hx hb hr (congrArg Value.int rfl) (fun t ht hW => ⟨⟨_, (), rfl, ⟨e1, rfl⟩, (by rw [ht, ← e2]; exact hP), (by rw [← e2]; exact hD)⟩, hS.F ht⟩) hS.2.2 dX6_takesLetter_28
  replace h := ite_f h c7
  refine lv_iconst (v := (1 : Int32)) hx hb dX6_takesLetter_23 (by decide) ?_
  refine lv_goto (tgt := 28) hx hb dX6_takesLetter_24 (by decide) ?_
  replace h := Option.some.inj h
  obtain ⟨e1, e2⟩ := pr2 h
  exact W.zret (v := (1 : Int32)) (ty := .boolean) hx hb hr (congrArg Value.int rfl) (fun t ht hW => ⟨⟨_, (), rfl, ⟨e1, rfl⟩, (by rw [ht, ← e2]; exact hP), (by rw [← e2]; exact hD)⟩, hS.F ht⟩) hS.2.2 dX6_takesLetter_28
abbrev rm_X8_takeLaw : Room := { frames := 0, cells := 0, slots := 0, locals := 0 }
theorem in_X8_takeLaw_X8 : ∀ w ∈ wsX80, w ∈ wsX8_takeLaw := fun _ h => List.mem_cons_of_mem _ (List.mem_append_right _ h)
set_option maxHeartbeats 4000000 in
set_option maxRecDepth 100000 in
theorem cn_X8_takeLaw (l : Launch) (dC : Nat → ClassId) (dI : Nat → Nat → Nat) (cI cJ cZ : ClassId) (q_t : Nat) (sz : Nat) (v_t_law : Int32) (v_t_share : Int32) (v_t_pot : Int32) (v_t_barred : Int32) (p1 : Int32) (res : Int32) (r_v_t_law : Int32) (h : X8_takeLaw v_t_law p1 = some (res, r_v_t_law)) : Met l yX8_takeLaw wsX8_takeLaw rm_X8_takeLaw (pcW dC dI cI cJ cZ [(q_t, .inr (8, [.int v_t_law, .int v_t_share, .int v_t_pot, .int v_t_barred]))] sz [.ref q_t, .int p1]) (va_Qi (fun (r : Int32) (_ : Unit) => r = res ∧ r &&& 1 = r) (bW dC dI (va_A [(q_t, .inr (8, [.int v_t_law, .int v_t_share, .int v_t_pot, .int v_t_barred]))] sz) [(q_t, .inr (8, [.int r_v_t_law, .int v_t_share, .int v_t_pot, .int v_t_barred]))]) (va_A [(q_t, .inr (8, [.int v_t_law, .int v_t_share, .int v_t_pot, .int v_t_barred]))] sz)) 0 0 (va_A [(q_t, .inr (8, [.int v_t_law, .int v_t_share, .int v_t_pot, .int v_t_barred]))] sz) := by
  refine Met.ofW (cc := cX8_takeLaw) (maxL := 2) (ret := (some .boolean)) (by decide) rfl ?_
  intro p e s m args below meth c s₁ B hml hv
  obtain ⟨rfl, hsz, hP, hKK, hD0⟩ := hv
  have hx := B.exec
  have hb := B.bytes
  have hr := B.returns
  have hts := atoms_spec (ws := wsX8_takeLaw) B.pre
  have hown : s.vm.findClass RX8 = some m.cls := findClass_of_methodNamed B.named
  have hlocks := B.notSynchronized
  have hK := hKK.1
  subst hsz
  have hD := hD0.self (sz := s.heap.size)
  generalize hAe : va_A [(q_t, .inr (8, [.int v_t_law, .int v_t_share, .int v_t_pot, .int v_t_barred]))] s.heap.size = A at hD ⊢
  have hA : ∀ q : Nat, s.heap.size ≤ q → A q := fun q h => by rw [← hAe]; exact Or.inr h
  have hS : va_S A s.heap s.heap [] := va_S.rf
  have hl := lv_entry ([.ref q_t, .int p1]) (n := 2) (Nat.le_of_ble_eq_true rfl)
  rw [lg_entry_eq]
  generalize (lg_sl ([.ref q_t, .int p1]) ++ List.replicate (2 - (lg_sl ([.ref q_t, .int p1])).length) Slot.unset).toArray = ls at hl ⊢
  have hl : lv_has ls 2 [(0, .ref q_t), (1, .int p1)] := hl
  unfold X8_takeLaw at h
  obtain ⟨H, hHe⟩ : ∃ H, H = s.heap := ⟨_, rfl⟩
  obtain ⟨locs, hLe⟩ : ∃ x : List Loc, x = [] := ⟨_, rfl⟩
  rw [← hHe] at hP
  have hS : va_S A s.heap H locs := by rw [hHe, hLe]; exact hS
  suffices hW : W p l e (headSpec wsX8_takeLaw rm_X8_takeLaw).room s m ([.ref q_t, .int p1] : List Value).toArray below meth c H locs 0 0 (MQ below (va_Qi (fun (r : Int32) (_ : Unit) => r = res ∧ r &&& 1 = r) (bW dC dI A [(q_t, .inr (8, [.int r_v_t_law, .int v_t_share, .int v_t_pot, .int v_t_barred]))]) A) ([.ref q_t, .int p1] : List Value).toArray s 0 0 A) (F0 m 0 ls []) by rw [hHe, hLe] at hW; exact hW
  refine lv_aload_n hx hb dX8_takeLaw_0 rfl (lv_at hl 0 rfl) ?_
  refine lv_iload_n hx hb dX8_takeLaw_1 rfl (lv_at hl 1 rfl) ?_
  refine va_put (D := (dC, dI)) (ci := 8) (v := .int p1) (ty := .int) (C := RX8) (T := TX8) (N := 4) hx hb hts in_X8_takeLaw_X8 tyX8 tyX8_ok nmX8 hown hK hP hD hS 0 rfl rfl 0 (by decide) (hts (.fieldLink RX8 9 "RightIfAsMany$Rules" "law" "I") (List.mem_of_getElem? (i := 1) rfl)) (fun _ h9 => h9) rfl (by decide +kernel) rfl rfl (Nat.le_of_ble_eq_true rfl) dX8_takeLaw_2 (fun H locs hP hD hS => ?_)
  have hP : va_P (dC, dI) vwCl [(q_t, .inr (8, [.int p1, .int v_t_share, .int v_t_pot, .int v_t_barred]))] H := hP
  have hD : va_D A [(q_t, .inr (8, [.int p1, .int v_t_share, .int v_t_pot, .int v_t_barred]))] := hD
  refine lv_iload_n hx hb dX8_takeLaw_5 rfl (lv_at hl 1 rfl) ?_
  refine lv_if_lt (tgt := 18) hx hb dX8_takeLaw_6 (by decide) (fun c1 => ?_) (fun c1 => ?_)
  · replace h := ite_t h c1
    refine lv_iconst (v := (0 : Int32)) hx hb dX8_takeLaw_18 (by decide) ?_
    replace h := Option.some.inj h
    obtain ⟨e1, e2⟩ := pr2 h
    exact W.zret (v := (0 : Int32)) (ty := .boolean) hx hb hr (congrArg Value.int rfl) (fun t ht hW => ⟨⟨_, (), rfl, ⟨e1, rfl⟩, (by rw [ht, ← e2]; exact hP), (by rw [← e2]; exact hD)⟩, hS.F ht⟩) hS.2.2 dX8_takeLaw_19
  replace h := ite_f h c1
  refine lv_iload_n hx hb dX8_takeLaw_9 rfl (lv_at hl 1 rfl) ?_
  refine lv_iconst (v := (2 : Int32)) hx hb dX8_takeLaw_10 (by decide) ?_
  refine lv_icmp_gt (tgt := 18) hx hb dX8_takeLaw_11 (by decide) (fun c2 => ?_) (fun c2 => ?_)
  · replace h := ite_t h c2
    refine lv_iconst (v := (0 : Int32)) hx hb dX8_takeLaw_18 (by decide) ?_
    replace h := Option.some.inj h
    obtain ⟨e1, e2⟩ := pr2 h
    exact W.zret (v := (0 : Int32)) (ty := .boolean) hx hb hr (congrArg Value.int rfl) (fun t ht hW => ⟨⟨_, (), rfl, ⟨e1, rfl⟩, (by rw [ht, ← e2]; exact hP), (by rw [← e2]; exact hD)⟩, hS.F ht⟩) hS.2.2 dX8_takeLaw_19
  replace h := ite_f h c2
  refine lv_iconst (v := (1 : Int32)) hx hb dX8_takeLaw_14 (by decide) ?_
  refine lv_goto (tgt := 19) hx hb dX8_takeLaw_15 (by decide) ?_
  replace h := Option.some.inj h
  obtain ⟨e1, e2⟩ := pr2 h
  exact W.zret (v := (1 : Int32)) (ty := .boolean) hx hb hr (congrArg Value.int rfl) (fun t ht hW => ⟨⟨_, (), rfl, ⟨e1, rfl⟩, (by rw [ht, ← e2]; exact hP), (by rw [← e2]; exact hD)⟩, hS.F ht⟩) hS.2.2 dX8_takeLaw_19
abbrev rm_X8_takeShare : Room := { frames := 0, cells := 0, slots := 0, locals := 0 }
theorem in_X8_takeShare_X8 : ∀ w ∈ wsX80, w ∈ wsX8_takeShare := fun _ h => List.mem_cons_of_mem _ (List.mem_append_right _ h)
set_option maxHeartbeats 4000000 in
set_option maxRecDepth 100000 in
theorem cn_X8_takeShare (l : Launch) (dC : Nat → ClassId) (dI : Nat → Nat → Nat) (cI cJ cZ : ClassId) (q_t : Nat) (sz : Nat) (v_t_law : Int32) (v_t_share : Int32) (v_t_pot : Int32) (v_t_barred : Int32) (p1 : Int32) (res : Int32) (r_v_t_share : Int32) (h : X8_takeShare v_t_share p1 = some (res, r_v_t_share)) : Met l yX8_takeShare wsX8_takeShare rm_X8_takeShare (pcW dC dI cI cJ cZ [(q_t, .inr (8, [.int v_t_law, .int v_t_share, .int v_t_pot, .int v_t_barred]))] sz [.ref q_t, .int p1]) (va_Qi (fun (r : Int32) (_ : Unit) => r = res ∧ r &&& 1 = r) (bW dC dI (va_A [(q_t, .inr (8, [.int v_t_law, .int v_t_share, .int v_t_pot, .int v_t_barred]))] sz) [(q_t, .inr (8, [.int v_t_law, .int r_v_t_share, .int v_t_pot, .int v_t_barred]))]) (va_A [(q_t, .inr (8, [.int v_t_law, .int v_t_share, .int v_t_pot, .int v_t_barred]))] sz)) 0 0 (va_A [(q_t, .inr (8, [.int v_t_law, .int v_t_share, .int v_t_pot, .int v_t_barred]))] sz) := by
  refine Met.ofW (cc := cX8_takeShare) (maxL := 2) (ret := (some .boolean)) (by decide) rfl ?_
  intro p e s m args below meth c s₁ B hml hv
  obtain ⟨rfl, hsz, hP, hKK, hD0⟩ := hv
  have hx := B.exec
  have hb := B.bytes
  have hr := B.returns
  have hts := atoms_spec (ws := wsX8_takeShare) B.pre
  have hown : s.vm.findClass RX8 = some m.cls := findClass_of_methodNamed B.named
  have hlocks := B.notSynchronized
  have hK := hKK.1
  subst hsz
  have hD := hD0.self (sz := s.heap.size)
  generalize hAe : va_A [(q_t, .inr (8, [.int v_t_law, .int v_t_share, .int v_t_pot, .int v_t_barred]))] s.heap.size = A at hD ⊢
  have hA : ∀ q : Nat, s.heap.size ≤ q → A q := fun q h => by rw [← hAe]; exact Or.inr h
  have hS : va_S A s.heap s.heap [] := va_S.rf
  have hl := lv_entry ([.ref q_t, .int p1]) (n := 2) (Nat.le_of_ble_eq_true rfl)
  rw [lg_entry_eq]
  generalize (lg_sl ([.ref q_t, .int p1]) ++ List.replicate (2 - (lg_sl ([.ref q_t, .int p1])).length) Slot.unset).toArray = ls at hl ⊢
  have hl : lv_has ls 2 [(0, .ref q_t), (1, .int p1)] := hl
  unfold X8_takeShare at h
  obtain ⟨H, hHe⟩ : ∃ H, H = s.heap := ⟨_, rfl⟩
  obtain ⟨locs, hLe⟩ : ∃ x : List Loc, x = [] := ⟨_, rfl⟩
  rw [← hHe] at hP
  have hS : va_S A s.heap H locs := by rw [hHe, hLe]; exact hS
  suffices hW : W p l e (headSpec wsX8_takeShare rm_X8_takeShare).room s m ([.ref q_t, .int p1] : List Value).toArray below meth c H locs 0 0 (MQ below (va_Qi (fun (r : Int32) (_ : Unit) => r = res ∧ r &&& 1 = r) (bW dC dI A [(q_t, .inr (8, [.int v_t_law, .int r_v_t_share, .int v_t_pot, .int v_t_barred]))]) A) ([.ref q_t, .int p1] : List Value).toArray s 0 0 A) (F0 m 0 ls []) by rw [hHe, hLe] at hW; exact hW
  refine lv_aload_n hx hb dX8_takeShare_0 rfl (lv_at hl 0 rfl) ?_
  refine lv_iload_n hx hb dX8_takeShare_1 rfl (lv_at hl 1 rfl) ?_
  refine va_put (D := (dC, dI)) (ci := 8) (v := .int p1) (ty := .int) (C := RX8) (T := TX8) (N := 4) hx hb hts in_X8_takeShare_X8 tyX8 tyX8_ok nmX8 hown hK hP hD hS 0 rfl rfl 1 (by decide) (hts (.fieldLink RX8 15 "RightIfAsMany$Rules" "share" "I") (List.mem_of_getElem? (i := 1) rfl)) (fun _ h9 => h9) rfl (by decide +kernel) rfl rfl (Nat.le_of_ble_eq_true rfl) dX8_takeShare_2 (fun H locs hP hD hS => ?_)
  have hP : va_P (dC, dI) vwCl [(q_t, .inr (8, [.int v_t_law, .int p1, .int v_t_pot, .int v_t_barred]))] H := hP
  have hD : va_D A [(q_t, .inr (8, [.int v_t_law, .int p1, .int v_t_pot, .int v_t_barred]))] := hD
  refine lv_iload_n hx hb dX8_takeShare_5 rfl (lv_at hl 1 rfl) ?_
  refine lv_if_lt (tgt := 18) hx hb dX8_takeShare_6 (by decide) (fun c1 => ?_) (fun c1 => ?_)
  · replace h := ite_t h c1
    refine lv_iconst (v := (0 : Int32)) hx hb dX8_takeShare_18 (by decide) ?_
    replace h := Option.some.inj h
    obtain ⟨e1, e2⟩ := pr2 h
    exact W.zret (v := (0 : Int32)) (ty := .boolean) hx hb hr (congrArg Value.int rfl) (fun t ht hW => ⟨⟨_, (), rfl, ⟨e1, rfl⟩, (by rw [ht, ← e2]; exact hP), (by rw [← e2]; exact hD)⟩, hS.F ht⟩) hS.2.2 dX8_takeShare_19
  replace h := ite_f h c1
  refine lv_iload_n hx hb dX8_takeShare_9 rfl (lv_at hl 1 rfl) ?_
  refine lv_iconst (v := (1 : Int32)) hx hb dX8_takeShare_10 (by decide) ?_
  refine lv_icmp_gt (tgt := 18) hx hb dX8_takeShare_11 (by decide) (fun c2 => ?_) (fun c2 => ?_)
  · replace h := ite_t h c2
    refine lv_iconst (v := (0 : Int32)) hx hb dX8_takeShare_18 (by decide) ?_
    replace h := Option.some.inj h
    obtain ⟨e1, e2⟩ := pr2 h
    exact W.zret (v := (0 : Int32)) (ty := .boolean) hx hb hr (congrArg Value.int rfl) (fun t ht hW => ⟨⟨_, (), rfl, ⟨e1, rfl⟩, (by rw [ht, ← e2]; exact hP), (by rw [← e2]; exact hD)⟩, hS.F ht⟩) hS.2.2 dX8_takeShare_19
  replace h := ite_f h c2
  refine lv_iconst (v := (1 : Int32)) hx hb dX8_takeShare_14 (by decide) ?_
  refine lv_goto (tgt := 19) hx hb dX8_takeShare_15 (by decide) ?_
  replace h := Option.some.inj h
  obtain ⟨e1, e2⟩ := pr2 h
  exact W.zret (v := (1 : Int32)) (ty := .boolean) hx hb hr (congrArg Value.int rfl) (fun t ht hW => ⟨⟨_, (), rfl, ⟨e1, rfl⟩, (by rw [ht, ← e2]; exact hP), (by rw [← e2]; exact hD)⟩, hS.F ht⟩) hS.2.2 dX8_takeShare_19
abbrev rm_X8_takePotFigure : Room := { frames := 0, cells := 0, slots := 0, locals := 0 }
theorem in_X8_takePotFigure_X8 : ∀ w ∈ wsX80, w ∈ wsX8_takePotFigure := fun _ h => List.mem_cons_of_mem _ (List.mem_append_right _ h)
set_option maxHeartbeats 4000000 in
set_option maxRecDepth 100000 in
theorem cn_X8_takePotFigure (l : Launch) (dC : Nat → ClassId) (dI : Nat → Nat → Nat) (cI cJ cZ : ClassId) (q_t : Nat) (sz : Nat) (v_t_law : Int32) (v_t_share : Int32) (v_t_pot : Int32) (v_t_barred : Int32) (p1 : Int32) (r_v_t_pot : Int32) (h : X8_takePotFigure v_t_pot p1 = some r_v_t_pot) : Met l yX8_takePotFigure wsX8_takePotFigure rm_X8_takePotFigure (pcW dC dI cI cJ cZ [(q_t, .inr (8, [.int v_t_law, .int v_t_share, .int v_t_pot, .int v_t_barred]))] sz [.ref q_t, .int p1]) (va_Qv (fun (_ : Unit) => True) (bW dC dI (va_A [(q_t, .inr (8, [.int v_t_law, .int v_t_share, .int v_t_pot, .int v_t_barred]))] sz) [(q_t, .inr (8, [.int v_t_law, .int v_t_share, .int r_v_t_pot, .int v_t_barred]))]) (va_A [(q_t, .inr (8, [.int v_t_law, .int v_t_share, .int v_t_pot, .int v_t_barred]))] sz)) 0 0 (va_A [(q_t, .inr (8, [.int v_t_law, .int v_t_share, .int v_t_pot, .int v_t_barred]))] sz) := by
  refine Met.ofW (cc := cX8_takePotFigure) (maxL := 2) (ret := none) (by decide) rfl ?_
  intro p e s m args below meth c s₁ B hml hv
  obtain ⟨rfl, hsz, hP, hKK, hD0⟩ := hv
  have hx := B.exec
  have hb := B.bytes
  have hr := B.returns
  have hts := atoms_spec (ws := wsX8_takePotFigure) B.pre
  have hown : s.vm.findClass RX8 = some m.cls := findClass_of_methodNamed B.named
  have hlocks := B.notSynchronized
  have hK := hKK.1
  subst hsz
  have hD := hD0.self (sz := s.heap.size)
  generalize hAe : va_A [(q_t, .inr (8, [.int v_t_law, .int v_t_share, .int v_t_pot, .int v_t_barred]))] s.heap.size = A at hD ⊢
  have hA : ∀ q : Nat, s.heap.size ≤ q → A q := fun q h => by rw [← hAe]; exact Or.inr h
  have hS : va_S A s.heap s.heap [] := va_S.rf
  have hl := lv_entry ([.ref q_t, .int p1]) (n := 2) (Nat.le_of_ble_eq_true rfl)
  rw [lg_entry_eq]
  generalize (lg_sl ([.ref q_t, .int p1]) ++ List.replicate (2 - (lg_sl ([.ref q_t, .int p1])).length) Slot.unset).toArray = ls at hl ⊢
  have hl : lv_has ls 2 [(0, .ref q_t), (1, .int p1)] := hl
  unfold X8_takePotFigure at h
  obtain ⟨H, hHe⟩ : ∃ H, H = s.heap := ⟨_, rfl⟩
  obtain ⟨locs, hLe⟩ : ∃ x : List Loc, x = [] := ⟨_, rfl⟩
  rw [← hHe] at hP
  have hS : va_S A s.heap H locs := by rw [hHe, hLe]; exact hS
  suffices hW : W p l e (headSpec wsX8_takePotFigure rm_X8_takePotFigure).room s m ([.ref q_t, .int p1] : List Value).toArray below meth c H locs 0 0 (MQ below (va_Qv (fun (_ : Unit) => True) (bW dC dI A [(q_t, .inr (8, [.int v_t_law, .int v_t_share, .int r_v_t_pot, .int v_t_barred]))]) A) ([.ref q_t, .int p1] : List Value).toArray s 0 0 A) (F0 m 0 ls []) by rw [hHe, hLe] at hW; exact hW
  refine lv_aload_n hx hb dX8_takePotFigure_0 rfl (lv_at hl 0 rfl) ?_
  refine lv_aload_n hx hb dX8_takePotFigure_1 rfl (lv_at hl 0 rfl) ?_
  refine va_get (D := (dC, dI)) (ci := 8) (v := .int v_t_pot) (C := RX8) (T := TX8) (N := 4) hx hb hts in_X8_takePotFigure_X8 hown hK hP 0 rfl rfl 2 (by decide) (hts (.fieldLink RX8 18 "RightIfAsMany$Rules" "pot" "I") (List.mem_of_getElem? (i := 1) rfl)) (fun _ h9 => h9) rfl dX8_takePotFigure_2 ?_
  refine lv_bipush (v := (10 : Int32)) hx hb dX8_takePotFigure_5 (by decide) ?_
  refine lv_imul hx hb dX8_takePotFigure_7 ?_
  refine lv_iload_n hx hb dX8_takePotFigure_8 rfl (lv_at hl 1 rfl) ?_
  refine lv_iadd hx hb dX8_takePotFigure_9 ?_
  refine va_put (D := (dC, dI)) (ci := 8) (v := .int ((v_t_pot * (10 : Int32)) + p1)) (ty := .int) (C := RX8) (T := TX8) (N := 4) hx hb hts in_X8_takePotFigure_X8 tyX8 tyX8_ok nmX8 hown hK hP hD hS 0 rfl rfl 2 (by decide) (hts (.fieldLink RX8 18 "RightIfAsMany$Rules" "pot" "I") (List.mem_of_getElem? (i := 1) rfl)) (fun _ h9 => h9) rfl (by decide +kernel) rfl rfl (Nat.le_of_ble_eq_true rfl) dX8_takePotFigure_10 (fun H locs hP hD hS => ?_)
  have hP : va_P (dC, dI) vwCl [(q_t, .inr (8, [.int v_t_law, .int v_t_share, .int ((v_t_pot * (10 : Int32)) + p1), .int v_t_barred]))] H := hP
  have hD : va_D A [(q_t, .inr (8, [.int v_t_law, .int v_t_share, .int ((v_t_pot * (10 : Int32)) + p1), .int v_t_barred]))] := hD
  replace h := Option.some.inj h
  have e1 := h
  exact W.vret hx hb hr (fun t ht hW => ⟨⟨(), rfl, trivial, (by rw [ht, ← e1]; exact hP), (by rw [← e1]; exact hD)⟩, hS.F ht⟩) hS.2.2 dX8_takePotFigure_13
abbrev rm_X6_takesHead : Room := { frames := 1, cells := 0, slots := 0, locals := 21 }
theorem in_X6_takesHead_X8 : ∀ w ∈ wsX80, w ∈ wsX6_takesHead := fun _ h => List.mem_cons_of_mem _ (List.mem_append_right _ h)
theorem in_X6_takesHead_X6 : ∀ w ∈ wsX60, w ∈ wsX6_takesHead := fun _ h => List.mem_cons_of_mem _ (List.mem_append_left _ (List.mem_append_right _ h))
set_option maxHeartbeats 4000000 in
set_option maxRecDepth 100000 in
theorem cn_X6_takesHead (l : Launch) (dC : Nat → ClassId) (dI : Nat → Nat → Nat) (cI cJ cZ : ClassId) (q_t q_t_rules q_t_people : Nat) (sz : Nat) (v_t_letter : Int32) (v_t_rules_law : Int32) (v_t_rules_share : Int32) (v_t_rules_pot : Int32) (v_t_rules_barred : Int32) (p1 : Int32) (p2 : Int32) (res : Int32) (r_v_t_rules_law : Int32) (r_v_t_rules_share : Int32) (r_v_t_rules_pot : Int32) (h : X6_takesHead v_t_rules_law v_t_rules_share v_t_rules_pot p1 p2 = some (res, r_v_t_rules_law, r_v_t_rules_share, r_v_t_rules_pot)) : Met l yX6_takesHead wsX6_takesHead rm_X6_takesHead (pcW dC dI cI cJ cZ [(q_t, .inr (6, [.ref q_t_rules, .ref q_t_people, .int v_t_letter])), (q_t_rules, .inr (8, [.int v_t_rules_law, .int v_t_rules_share, .int v_t_rules_pot, .int v_t_rules_barred]))] sz [.ref q_t, .int p1, .int p2]) (va_Qi (fun (r : Int32) (_ : Unit) => r = res ∧ r &&& 1 = r) (bW dC dI (va_A [(q_t, .inr (6, [.ref q_t_rules, .ref q_t_people, .int v_t_letter])), (q_t_rules, .inr (8, [.int v_t_rules_law, .int v_t_rules_share, .int v_t_rules_pot, .int v_t_rules_barred]))] sz) [(q_t, .inr (6, [.ref q_t_rules, .ref q_t_people, .int v_t_letter])), (q_t_rules, .inr (8, [.int r_v_t_rules_law, .int r_v_t_rules_share, .int r_v_t_rules_pot, .int v_t_rules_barred]))]) (va_A [(q_t, .inr (6, [.ref q_t_rules, .ref q_t_people, .int v_t_letter])), (q_t_rules, .inr (8, [.int v_t_rules_law, .int v_t_rules_share, .int v_t_rules_pot, .int v_t_rules_barred]))] sz)) 0 0 (va_A [(q_t, .inr (6, [.ref q_t_rules, .ref q_t_people, .int v_t_letter])), (q_t_rules, .inr (8, [.int v_t_rules_law, .int v_t_rules_share, .int v_t_rules_pot, .int v_t_rules_barred]))] sz) := by
  refine Met.ofW (cc := cX6_takesHead) (maxL := 3) (ret := (some .boolean)) (by decide) rfl ?_
  intro p e s m args below meth c s₁ B hml hv
  obtain ⟨rfl, hsz, hP, hKK, hD0⟩ := hv
  have hx := B.exec
  have hb := B.bytes
  have hr := B.returns
  have hts := atoms_spec (ws := wsX6_takesHead) B.pre
  have hown : s.vm.findClass RX6 = some m.cls := findClass_of_methodNamed B.named
  have hlocks := B.notSynchronized
  have hK := hKK.1
  subst hsz
  have hD := hD0.self (sz := s.heap.size)
  generalize hAe : va_A [(q_t, .inr (6, [.ref q_t_rules, .ref q_t_people, .int v_t_letter])), (q_t_rules, .inr (8, [.int v_t_rules_law, .int v_t_rules_share, .int v_t_rules_pot, .int v_t_rules_barred]))] s.heap.size = A at hD ⊢
  have hA : ∀ q : Nat, s.heap.size ≤ q → A q := fun q h => by rw [← hAe]; exact Or.inr h
  have hS : va_S A s.heap s.heap [] := va_S.rf
  have hl := lv_entry ([.ref q_t, .int p1, .int p2]) (n := 3) (Nat.le_of_ble_eq_true rfl)
  rw [lg_entry_eq]
  generalize (lg_sl ([.ref q_t, .int p1, .int p2]) ++ List.replicate (3 - (lg_sl ([.ref q_t, .int p1, .int p2])).length) Slot.unset).toArray = ls at hl ⊢
  have hl : lv_has ls 3 [(0, .ref q_t), (1, .int p1), (2, .int p2)] := hl
  unfold X6_takesHead at h
  obtain ⟨H, hHe⟩ : ∃ H, H = s.heap := ⟨_, rfl⟩
  obtain ⟨locs, hLe⟩ : ∃ x : List Loc, x = [] := ⟨_, rfl⟩
  rw [← hHe] at hP
  have hS : va_S A s.heap H locs := by rw [hHe, hLe]; exact hS
  suffices hW : W p l e (headSpec wsX6_takesHead rm_X6_takesHead).room s m ([.ref q_t, .int p1, .int p2] : List Value).toArray below meth c H locs 0 0 (MQ below (va_Qi (fun (r : Int32) (_ : Unit) => r = res ∧ r &&& 1 = r) (bW dC dI A [(q_t, .inr (6, [.ref q_t_rules, .ref q_t_people, .int v_t_letter])), (q_t_rules, .inr (8, [.int r_v_t_rules_law, .int r_v_t_rules_share, .int r_v_t_rules_pot, .int v_t_rules_barred]))]) A) ([.ref q_t, .int p1, .int p2] : List Value).toArray s 0 0 A) (F0 m 0 ls []) by rw [hHe, hLe] at hW; exact hW
  refine lv_iload_n hx hb dX6_takesHead_0 rfl (lv_at hl 1 rfl) ?_
  refine lv_iconst (v := (1 : Int32)) hx hb dX6_takesHead_1 (by decide) ?_
  refine lv_icmp_ne (tgt := 14) hx hb dX6_takesHead_2 (by decide) (fun c1 => ?_) (fun c1 => ?_)
  · replace h := ite_f h c1
    refine lv_iload_n hx hb dX6_takesHead_14 rfl (lv_at hl 1 rfl) ?_
    refine lv_iconst (v := (2 : Int32)) hx hb dX6_takesHead_15 (by decide) ?_
    refine lv_icmp_ne (tgt := 28) hx hb dX6_takesHead_16 (by decide) (fun c2 => ?_) (fun c2 => ?_)
    · replace h := ite_f h c2
      refine lv_aload_n hx hb dX6_takesHead_28 rfl (lv_at hl 0 rfl) ?_
      refine va_get (D := (dC, dI)) (ci := 6) (v := .ref q_t_rules) (C := RX6) (T := TX6) (N := 3) hx hb hts in_X6_takesHead_X6 hown hK hP 0 rfl rfl 0 (by decide) (hts (.fieldLink RX6 12 "RightIfAsMany$Reader" "rules" "LRightIfAsMany$Rules;") (List.mem_of_getElem? (i := 1) rfl)) (fun _ h9 => h9) rfl dX6_takesHead_29 ?_
      refine lv_iload_n hx hb dX6_takesHead_32 rfl (lv_at hl 2 rfl) ?_
      obtain ⟨w3_0, hc3, h⟩ := bnd1_s h
      refine kWv (wc := [(q_t_rules, .inr (8, [.int v_t_rules_law, .int v_t_rules_share, .int v_t_rules_pot, .int v_t_rules_barred]))]) (wr := [(q_t, .inr (6, [.ref q_t_rules, .ref q_t_people, .int v_t_letter]))]) (w1 := [(q_t_rules, .inr (8, [.int v_t_rules_law, .int v_t_rules_share, .int w3_0, .int v_t_rules_barred]))]) (wn := [(q_t, .inr (6, [.ref q_t_rules, .ref q_t_people, .int v_t_letter])), (q_t_rules, .inr (8, [.int v_t_rules_law, .int v_t_rules_share, .int w3_0, .int v_t_rules_barred]))]) hP hD hS hA [1] [0] [0, 1] rfl rfl (by decide) (by decide) rfl (by decide) (va_runV (As := [.int p2]) (rest := []) ⟨hx, hb, hml, hown, hts⟩ (cn_X8_takePotFigure l dC dI cI cJ cZ q_t_rules H.size v_t_rules_law v_t_rules_share v_t_rules_pot v_t_rules_barred p2 w3_0 hc3) (cwV 1 hts gX6_takesHead_X8_takePotFigure rfl rfl rfl (by decide +kernel) ⟨Nat.le_of_ble_eq_true rfl, Nat.le_of_ble_eq_true rfl⟩) (preW hKK (hP.sub (ws' := [(q_t_rules, .inr (8, [.int v_t_rules_law, .int v_t_rules_share, .int v_t_rules_pot, .int v_t_rules_barred]))]) [1] rfl) (hD.sub (ws' := [(q_t_rules, .inr (8, [.int v_t_rules_law, .int v_t_rules_share, .int v_t_rules_pot, .int v_t_rules_barred]))]) [1] (by decide) rfl) (ci := 8) (q0 := 0) rfl rfl) rfl rfl hl.1 rfl (lv_room (Nat.le_of_ble_eq_true rfl)) dX6_takesHead_33 ⟨Nat.zero_le _, Nat.zero_le _⟩) (fun H locs hP hD hS => ?_)
      refine lv_iconst (v := (1 : Int32)) hx hb dX6_takesHead_36 (by decide) ?_
      replace h := Option.some.inj h
      obtain ⟨e1, e2, e3, e4⟩ := pr4 h
      exact W.zret (v := (1 : Int32)) (ty := .boolean) hx hb hr (congrArg Value.int rfl) (fun t ht hW => ⟨⟨_, (), rfl, ⟨e1, rfl⟩, (by rw [ht, ← e2, ← e3, ← e4]; exact hP), (by rw [← e2, ← e3, ← e4]; exact hD)⟩, hS.F ht⟩) hS.2.2 dX6_takesHead_37
    replace h := ite_t h c2
    refine lv_aload_n hx hb dX6_takesHead_19 rfl (lv_at hl 0 rfl) ?_
    refine va_get (D := (dC, dI)) (ci := 6) (v := .ref q_t_rules) (C := RX6) (T := TX6) (N := 3) hx hb hts in_X6_takesHead_X6 hown hK hP 0 rfl rfl 0 (by decide) (hts (.fieldLink RX6 12 "RightIfAsMany$Reader" "rules" "LRightIfAsMany$Rules;") (List.mem_of_getElem? (i := 1) rfl)) (fun _ h9 => h9) rfl dX6_takesHead_20 ?_
    refine lv_iload_n hx hb dX6_takesHead_23 rfl (lv_at hl 2 rfl) ?_
    obtain ⟨r4, w4_1, hc4, h⟩ := bnd2_s h
    refine kWz (res := r4) (wc := [(q_t_rules, .inr (8, [.int v_t_rules_law, .int v_t_rules_share, .int v_t_rules_pot, .int v_t_rules_barred]))]) (wr := [(q_t, .inr (6, [.ref q_t_rules, .ref q_t_people, .int v_t_letter]))]) (w1 := [(q_t_rules, .inr (8, [.int v_t_rules_law, .int w4_1, .int v_t_rules_pot, .int v_t_rules_barred]))]) (wn := [(q_t, .inr (6, [.ref q_t_rules, .ref q_t_people, .int v_t_letter])), (q_t_rules, .inr (8, [.int v_t_rules_law, .int w4_1, .int v_t_rules_pot, .int v_t_rules_barred]))]) hP hD hS hA [1] [0] [0, 1] rfl rfl (by decide) (by decide) rfl (by decide) (va_runV (As := [.int p2]) (rest := []) ⟨hx, hb, hml, hown, hts⟩ (cn_X8_takeShare l dC dI cI cJ cZ q_t_rules H.size v_t_rules_law v_t_rules_share v_t_rules_pot v_t_rules_barred p2 r4 w4_1 hc4) (cwV 1 hts gX6_takesHead_X8_takeShare rfl rfl rfl (by decide +kernel) ⟨Nat.le_of_ble_eq_true rfl, Nat.le_of_ble_eq_true rfl⟩) (preW hKK (hP.sub (ws' := [(q_t_rules, .inr (8, [.int v_t_rules_law, .int v_t_rules_share, .int v_t_rules_pot, .int v_t_rules_barred]))]) [1] rfl) (hD.sub (ws' := [(q_t_rules, .inr (8, [.int v_t_rules_law, .int v_t_rules_share, .int v_t_rules_pot, .int v_t_rules_barred]))]) [1] (by decide) rfl) (ci := 8) (q0 := 0) rfl rfl) rfl rfl hl.1 rfl (lv_room (Nat.le_of_ble_eq_true rfl)) dX6_takesHead_24 ⟨Nat.zero_le _, Nat.zero_le _⟩) (fun hz5 H locs hP hD hS => ?_)
    replace h := Option.some.inj h
    obtain ⟨e1, e2, e3, e4⟩ := pr4 h
    exact W.zret (v := r4) (ty := .boolean) hx hb hr (congrArg Value.int hz5) (fun t ht hW => ⟨⟨_, (), rfl, ⟨e1, hz5⟩, (by rw [ht, ← e2, ← e3, ← e4]; exact hP), (by rw [← e2, ← e3, ← e4]; exact hD)⟩, hS.F ht⟩) hS.2.2 dX6_takesHead_27
  replace h := ite_t h c1
  refine lv_aload_n hx hb dX6_takesHead_5 rfl (lv_at hl 0 rfl) ?_
  refine va_get (D := (dC, dI)) (ci := 6) (v := .ref q_t_rules) (C := RX6) (T := TX6) (N := 3) hx hb hts in_X6_takesHead_X6 hown hK hP 0 rfl rfl 0 (by decide) (hts (.fieldLink RX6 12 "RightIfAsMany$Reader" "rules" "LRightIfAsMany$Rules;") (List.mem_of_getElem? (i := 1) rfl)) (fun _ h9 => h9) rfl dX6_takesHead_6 ?_
  refine lv_iload_n hx hb dX6_takesHead_9 rfl (lv_at hl 2 rfl) ?_
  obtain ⟨r6, w6_1, hc6, h⟩ := bnd2_s h
  refine kWz (res := r6) (wc := [(q_t_rules, .inr (8, [.int v_t_rules_law, .int v_t_rules_share, .int v_t_rules_pot, .int v_t_rules_barred]))]) (wr := [(q_t, .inr (6, [.ref q_t_rules, .ref q_t_people, .int v_t_letter]))]) (w1 := [(q_t_rules, .inr (8, [.int w6_1, .int v_t_rules_share, .int v_t_rules_pot, .int v_t_rules_barred]))]) (wn := [(q_t, .inr (6, [.ref q_t_rules, .ref q_t_people, .int v_t_letter])), (q_t_rules, .inr (8, [.int w6_1, .int v_t_rules_share, .int v_t_rules_pot, .int v_t_rules_barred]))]) hP hD hS hA [1] [0] [0, 1] rfl rfl (by decide) (by decide) rfl (by decide) (va_runV (As := [.int p2]) (rest := []) ⟨hx, hb, hml, hown, hts⟩ (cn_X8_takeLaw l dC dI cI cJ cZ q_t_rules H.size v_t_rules_law v_t_rules_share v_t_rules_pot v_t_rules_barred p2 r6 w6_1 hc6) (cwV 1 hts gX6_takesHead_X8_takeLaw rfl rfl rfl (by decide +kernel) ⟨Nat.le_of_ble_eq_true rfl, Nat.le_of_ble_eq_true rfl⟩) (preW hKK (hP.sub (ws' := [(q_t_rules, .inr (8, [.int v_t_rules_law, .int v_t_rules_share, .int v_t_rules_pot, .int v_t_rules_barred]))]) [1] rfl) (hD.sub (ws' := [(q_t_rules, .inr (8, [.int v_t_rules_law, .int v_t_rules_share, .int v_t_rules_pot, .int v_t_rules_barred]))]) [1] (by decide) rfl) (ci := 8) (q0 := 0) rfl rfl) rfl rfl hl.1 rfl (lv_room (Nat.le_of_ble_eq_true rfl)) dX6_takesHead_10 ⟨Nat.zero_le _, Nat.zero_le _⟩) (fun hz7 H locs hP hD hS => ?_)
  replace h := Option.some.inj h
  obtain ⟨e1, e2, e3, e4⟩ := pr4 h
  exact W.zret (v := r6) (ty := .boolean) hx hb hr (congrArg Value.int hz7) (fun t ht hW => ⟨⟨_, (), rfl, ⟨e1, hz7⟩, (by rw [ht, ← e2, ← e3, ← e4]; exact hP), (by rw [← e2, ← e3, ← e4]; exact hD)⟩, hS.F ht⟩) hS.2.2 dX6_takesHead_13
abbrev rm_X5_add : Room := { frames := 1, cells := 0, slots := 0, locals := 20 }
theorem in_X5_add_X5 : ∀ w ∈ wsX50, w ∈ wsX5_add := fun _ h => List.mem_cons_of_mem _ (List.mem_append_right _ h)
set_option maxHeartbeats 4000000 in
set_option maxRecDepth 100000 in
theorem cn_X5_add (l : Launch) (dC : Nat → ClassId) (dI : Nat → Nat → Nat) (cI cJ cZ : ClassId) (q_t q_t_numbers q_t_counts : Nat) (sz : Nat) (v_t_size : Int32) (f_t_numbers : (Nat → Int32)) (f_t_counts : (Nat → Int32)) (p1 : Int32) (r_v_t_size : Int32) (r_f_t_numbers : (Nat → Int32)) (r_f_t_counts : (Nat → Int32)) (h : X5_add v_t_size f_t_numbers f_t_counts p1 = some (r_v_t_size, r_f_t_numbers, r_f_t_counts)) : Met l yX5_add wsX5_add rm_X5_add (pcW dC dI cI cJ cZ [(q_t, .inr (5, [.ref q_t_numbers, .ref q_t_counts, .int v_t_size])), (q_t_numbers, .inl (cI, 9, .inl f_t_numbers)), (q_t_counts, .inl (cI, 10, .inl f_t_counts))] sz [.ref q_t, .int p1]) (va_Qv (fun (_ : Unit) => True) (bW dC dI (va_A [(q_t, .inr (5, [.ref q_t_numbers, .ref q_t_counts, .int v_t_size])), (q_t_numbers, .inl (cI, 9, .inl f_t_numbers)), (q_t_counts, .inl (cI, 10, .inl f_t_counts))] sz) [(q_t, .inr (5, [.ref q_t_numbers, .ref q_t_counts, .int r_v_t_size])), (q_t_numbers, .inl (cI, 9, .inl r_f_t_numbers)), (q_t_counts, .inl (cI, 10, .inl r_f_t_counts))]) (va_A [(q_t, .inr (5, [.ref q_t_numbers, .ref q_t_counts, .int v_t_size])), (q_t_numbers, .inl (cI, 9, .inl f_t_numbers)), (q_t_counts, .inl (cI, 10, .inl f_t_counts))] sz)) 0 0 (va_A [(q_t, .inr (5, [.ref q_t_numbers, .ref q_t_counts, .int v_t_size])), (q_t_numbers, .inl (cI, 9, .inl f_t_numbers)), (q_t_counts, .inl (cI, 10, .inl f_t_counts))] sz) := by
  refine Met.ofW (cc := cX5_add) (maxL := 2) (ret := none) (by decide) rfl ?_
  intro p e s m args below meth c s₁ B hml hv
  obtain ⟨rfl, hsz, hP, hKK, hD0⟩ := hv
  have hx := B.exec
  have hb := B.bytes
  have hr := B.returns
  have hts := atoms_spec (ws := wsX5_add) B.pre
  have hown : s.vm.findClass RX5 = some m.cls := findClass_of_methodNamed B.named
  have hlocks := B.notSynchronized
  have hK := hKK.1
  subst hsz
  have hD := hD0.self (sz := s.heap.size)
  generalize hAe : va_A [(q_t, .inr (5, [.ref q_t_numbers, .ref q_t_counts, .int v_t_size])), (q_t_numbers, .inl (cI, 9, .inl f_t_numbers)), (q_t_counts, .inl (cI, 10, .inl f_t_counts))] s.heap.size = A at hD ⊢
  have hA : ∀ q : Nat, s.heap.size ≤ q → A q := fun q h => by rw [← hAe]; exact Or.inr h
  have hS : va_S A s.heap s.heap [] := va_S.rf
  have hl := lv_entry ([.ref q_t, .int p1]) (n := 2) (Nat.le_of_ble_eq_true rfl)
  rw [lg_entry_eq]
  generalize (lg_sl ([.ref q_t, .int p1]) ++ List.replicate (2 - (lg_sl ([.ref q_t, .int p1])).length) Slot.unset).toArray = ls at hl ⊢
  have hl : lv_has ls 2 [(0, .ref q_t), (1, .int p1)] := hl
  unfold X5_add at h
  obtain ⟨H, hHe⟩ : ∃ H, H = s.heap := ⟨_, rfl⟩
  obtain ⟨locs, hLe⟩ : ∃ x : List Loc, x = [] := ⟨_, rfl⟩
  rw [← hHe] at hP
  have hS : va_S A s.heap H locs := by rw [hHe, hLe]; exact hS
  suffices hW : W p l e (headSpec wsX5_add rm_X5_add).room s m ([.ref q_t, .int p1] : List Value).toArray below meth c H locs 0 0 (MQ below (va_Qv (fun (_ : Unit) => True) (bW dC dI A [(q_t, .inr (5, [.ref q_t_numbers, .ref q_t_counts, .int r_v_t_size])), (q_t_numbers, .inl (cI, 9, .inl r_f_t_numbers)), (q_t_counts, .inl (cI, 10, .inl r_f_t_counts))]) A) ([.ref q_t, .int p1] : List Value).toArray s 0 0 A) (F0 m 0 ls []) by rw [hHe, hLe] at hW; exact hW
  refine lv_aload_n hx hb dX5_add_0 rfl (lv_at hl 0 rfl) ?_
  refine va_get (D := (dC, dI)) (ci := 5) (v := .int v_t_size) (C := RX5) (T := TX5) (N := 3) hx hb hts in_X5_add_X5 hown hK hP 0 rfl rfl 2 (by decide) (hts (.fieldLink RX5 18 "RightIfAsMany$People" "size" "I") (List.mem_of_getElem? (i := 1) rfl)) (fun _ h9 => h9) rfl dX5_add_1 ?_
  refine lv_bipush (v := (9 : Int32)) hx hb dX5_add_4 (by decide) ?_
  refine lv_icmp_ge (tgt := 46) hx hb dX5_add_6 (by decide) (fun c1 => ?_) (fun c1 => ?_)
  · replace h := ite_t h c1
    replace h := Option.some.inj h
    obtain ⟨e1, e2, e3⟩ := pr3 h
    exact W.vret hx hb hr (fun t ht hW => ⟨⟨(), rfl, trivial, (by rw [ht, ← e1, ← e2, ← e3]; exact hP), (by rw [← e1, ← e2, ← e3]; exact hD)⟩, hS.F ht⟩) hS.2.2 dX5_add_46
  replace h := ite_f h c1
  refine lv_iload_n hx hb dX5_add_9 rfl (lv_at hl 1 rfl) ?_
  refine kRz (res := (X10_isNumber p1)) (va_runSN (As := [.int p1]) (rest := []) ⟨hx, hb, hml, hown, hts⟩ (cn_X10_isNumber l dC dI cI cJ cZ    p1 (X10_isNumber p1) rfl) ⟨va_cnB 1 hts gX5_add_X10_isNumber_n26 rfl rfl rfl (hKK.nw 13 rfl) (hts (.initialized RX10) (List.mem_of_getElem? (i := 5) rfl)) (by decide +kernel) ⟨Nat.le_of_ble_eq_true rfl, Nat.le_of_ble_eq_true rfl⟩, hts (.static yX10_isNumber) (List.mem_of_getElem? (i := 4) rfl), trivial⟩ (preRS hKK (hP.sub (ws' := []) [] rfl)) rfl rfl hl.1 rfl (lv_room (Nat.le_of_ble_eq_true rfl)) dX5_add_10 ⟨Nat.zero_le _, Nat.zero_le _⟩) (fun hz2 => ?_)
  refine lv_if_eq (tgt := 46) hx hb dX5_add_13 (by decide) (fun c3 => ?_) (fun c3 => ?_)
  · replace h := ite_t h c3
    replace h := Option.some.inj h
    obtain ⟨e1, e2, e3⟩ := pr3 h
    exact W.vret hx hb hr (fun t ht hW => ⟨⟨(), rfl, trivial, (by rw [ht, ← e1, ← e2, ← e3]; exact hP), (by rw [← e1, ← e2, ← e3]; exact hD)⟩, hS.F ht⟩) hS.2.2 dX5_add_46
  replace h := ite_f h c3
  refine lv_aload_n hx hb dX5_add_16 rfl (lv_at hl 0 rfl) ?_
  refine va_get (D := (dC, dI)) (ci := 5) (v := .ref q_t_numbers) (C := RX5) (T := TX5) (N := 3) hx hb hts in_X5_add_X5 hown hK hP 0 rfl rfl 0 (by decide) (hts (.fieldLink RX5 9 "RightIfAsMany$People" "numbers" "[I") (List.mem_of_getElem? (i := 2) rfl)) (fun _ h9 => h9) rfl dX5_add_17 ?_
  refine lv_aload_n hx hb dX5_add_20 rfl (lv_at hl 0 rfl) ?_
  refine va_get (D := (dC, dI)) (ci := 5) (v := .int v_t_size) (C := RX5) (T := TX5) (N := 3) hx hb hts in_X5_add_X5 hown hK hP 0 rfl rfl 2 (by decide) (hts (.fieldLink RX5 18 "RightIfAsMany$People" "size" "I") (List.mem_of_getElem? (i := 1) rfl)) (fun _ h9 => h9) rfl dX5_add_21 ?_
  refine lv_iload_n hx hb dX5_add_24 rfl (lv_at hl 1 rfl) ?_
  obtain ⟨hg4, h⟩ := grd_s h
  refine va_iast hx hb hK hP hD hS 1 0 rfl rfl hg4 dX5_add_25 (fun H locs hP hD hS => ?_)
  have hP : va_P (dC, dI) vwCl [(q_t, .inr (5, [.ref q_t_numbers, .ref q_t_counts, .int v_t_size])), (q_t_numbers, .inl (cI, 9, .inl (upd f_t_numbers v_t_size.toNatClampNeg p1))), (q_t_counts, .inl (cI, 10, .inl f_t_counts))] H := hP
  have hD : va_D A [(q_t, .inr (5, [.ref q_t_numbers, .ref q_t_counts, .int v_t_size])), (q_t_numbers, .inl (cI, 9, .inl (upd f_t_numbers v_t_size.toNatClampNeg p1))), (q_t_counts, .inl (cI, 10, .inl f_t_counts))] := hD
  refine lv_aload_n hx hb dX5_add_26 rfl (lv_at hl 0 rfl) ?_
  refine va_get (D := (dC, dI)) (ci := 5) (v := .ref q_t_counts) (C := RX5) (T := TX5) (N := 3) hx hb hts in_X5_add_X5 hown hK hP 0 rfl rfl 1 (by decide) (hts (.fieldLink RX5 15 "RightIfAsMany$People" "counts" "[I") (List.mem_of_getElem? (i := 3) rfl)) (fun _ h9 => h9) rfl dX5_add_27 ?_
  refine lv_iload_n hx hb dX5_add_30 rfl (lv_at hl 1 rfl) ?_
  refine lv_dup2_11 hx hb dX5_add_31 rfl rfl ?_
  obtain ⟨hg5, h⟩ := grd_s h
  refine va_iald hx hb hK hP 2 0 rfl rfl hg5 dX5_add_32 ?_
  refine lv_iconst (v := (1 : Int32)) hx hb dX5_add_33 (by decide) ?_
  refine lv_iadd hx hb dX5_add_34 ?_
  obtain ⟨hg6, h⟩ := grd_s h
  refine va_iast hx hb hK hP hD hS 2 0 rfl rfl hg6 dX5_add_35 (fun H locs hP hD hS => ?_)
  have hP : va_P (dC, dI) vwCl [(q_t, .inr (5, [.ref q_t_numbers, .ref q_t_counts, .int v_t_size])), (q_t_numbers, .inl (cI, 9, .inl (upd f_t_numbers v_t_size.toNatClampNeg p1))), (q_t_counts, .inl (cI, 10, .inl (upd f_t_counts p1.toNatClampNeg ((f_t_counts p1.toNatClampNeg) + (1 : Int32)))))] H := hP
  have hD : va_D A [(q_t, .inr (5, [.ref q_t_numbers, .ref q_t_counts, .int v_t_size])), (q_t_numbers, .inl (cI, 9, .inl (upd f_t_numbers v_t_size.toNatClampNeg p1))), (q_t_counts, .inl (cI, 10, .inl (upd f_t_counts p1.toNatClampNeg ((f_t_counts p1.toNatClampNeg) + (1 : Int32)))))] := hD
  refine lv_aload_n hx hb dX5_add_36 rfl (lv_at hl 0 rfl) ?_
  refine lv_dup hx hb dX5_add_37 rfl ?_
  refine va_get (D := (dC, dI)) (ci := 5) (v := .int v_t_size) (C := RX5) (T := TX5) (N := 3) hx hb hts in_X5_add_X5 hown hK hP 0 rfl rfl 2 (by decide) (hts (.fieldLink RX5 18 "RightIfAsMany$People" "size" "I") (List.mem_of_getElem? (i := 1) rfl)) (fun _ h9 => h9) rfl dX5_add_38 ?_
  refine lv_iconst (v := (1 : Int32)) hx hb dX5_add_41 (by decide) ?_
  refine lv_iadd hx hb dX5_add_42 ?_
  refine va_put (D := (dC, dI)) (ci := 5) (v := .int (v_t_size + (1 : Int32))) (ty := .int) (C := RX5) (T := TX5) (N := 3) hx hb hts in_X5_add_X5 tyX5 tyX5_ok nmX5 hown hK hP hD hS 0 rfl rfl 2 (by decide) (hts (.fieldLink RX5 18 "RightIfAsMany$People" "size" "I") (List.mem_of_getElem? (i := 1) rfl)) (fun _ h9 => h9) rfl (by decide +kernel) rfl rfl (Nat.le_of_ble_eq_true rfl) dX5_add_43 (fun H locs hP hD hS => ?_)
  have hP : va_P (dC, dI) vwCl [(q_t, .inr (5, [.ref q_t_numbers, .ref q_t_counts, .int (v_t_size + (1 : Int32))])), (q_t_numbers, .inl (cI, 9, .inl (upd f_t_numbers v_t_size.toNatClampNeg p1))), (q_t_counts, .inl (cI, 10, .inl (upd f_t_counts p1.toNatClampNeg ((f_t_counts p1.toNatClampNeg) + (1 : Int32)))))] H := hP
  have hD : va_D A [(q_t, .inr (5, [.ref q_t_numbers, .ref q_t_counts, .int (v_t_size + (1 : Int32))])), (q_t_numbers, .inl (cI, 9, .inl (upd f_t_numbers v_t_size.toNatClampNeg p1))), (q_t_counts, .inl (cI, 10, .inl (upd f_t_counts p1.toNatClampNeg ((f_t_counts p1.toNatClampNeg) + (1 : Int32)))))] := hD
  replace h := Option.some.inj h
  obtain ⟨e1, e2, e3⟩ := pr3 h
  exact W.vret hx hb hr (fun t ht hW => ⟨⟨(), rfl, trivial, (by rw [ht, ← e1, ← e2, ← e3]; exact hP), (by rw [← e1, ← e2, ← e3]; exact hD)⟩, hS.F ht⟩) hS.2.2 dX5_add_46
abbrev rm_X8_bar : Room := { frames := 0, cells := 0, slots := 0, locals := 0 }
theorem in_X8_bar_X8 : ∀ w ∈ wsX80, w ∈ wsX8_bar := fun _ h => List.mem_cons_of_mem _ (List.mem_append_right _ h)
set_option maxHeartbeats 4000000 in
set_option maxRecDepth 100000 in
theorem cn_X8_bar (l : Launch) (dC : Nat → ClassId) (dI : Nat → Nat → Nat) (cI cJ cZ : ClassId) (q_t : Nat) (sz : Nat) (v_t_law : Int32) (v_t_share : Int32) (v_t_pot : Int32) (v_t_barred : Int32) (p1 : Int32) (r_v_t_barred : Int32) (h : X8_bar v_t_barred p1 = some r_v_t_barred) : Met l yX8_bar wsX8_bar rm_X8_bar (pcW dC dI cI cJ cZ [(q_t, .inr (8, [.int v_t_law, .int v_t_share, .int v_t_pot, .int v_t_barred]))] sz [.ref q_t, .int p1]) (va_Qv (fun (_ : Unit) => True) (bW dC dI (va_A [(q_t, .inr (8, [.int v_t_law, .int v_t_share, .int v_t_pot, .int v_t_barred]))] sz) [(q_t, .inr (8, [.int v_t_law, .int v_t_share, .int v_t_pot, .int r_v_t_barred]))]) (va_A [(q_t, .inr (8, [.int v_t_law, .int v_t_share, .int v_t_pot, .int v_t_barred]))] sz)) 0 0 (va_A [(q_t, .inr (8, [.int v_t_law, .int v_t_share, .int v_t_pot, .int v_t_barred]))] sz) := by
  refine Met.ofW (cc := cX8_bar) (maxL := 2) (ret := none) (by decide) rfl ?_
  intro p e s m args below meth c s₁ B hml hv
  obtain ⟨rfl, hsz, hP, hKK, hD0⟩ := hv
  have hx := B.exec
  have hb := B.bytes
  have hr := B.returns
  have hts := atoms_spec (ws := wsX8_bar) B.pre
  have hown : s.vm.findClass RX8 = some m.cls := findClass_of_methodNamed B.named
  have hlocks := B.notSynchronized
  have hK := hKK.1
  subst hsz
  have hD := hD0.self (sz := s.heap.size)
  generalize hAe : va_A [(q_t, .inr (8, [.int v_t_law, .int v_t_share, .int v_t_pot, .int v_t_barred]))] s.heap.size = A at hD ⊢
  have hA : ∀ q : Nat, s.heap.size ≤ q → A q := fun q h => by rw [← hAe]; exact Or.inr h
  have hS : va_S A s.heap s.heap [] := va_S.rf
  have hl := lv_entry ([.ref q_t, .int p1]) (n := 2) (Nat.le_of_ble_eq_true rfl)
  rw [lg_entry_eq]
  generalize (lg_sl ([.ref q_t, .int p1]) ++ List.replicate (2 - (lg_sl ([.ref q_t, .int p1])).length) Slot.unset).toArray = ls at hl ⊢
  have hl : lv_has ls 2 [(0, .ref q_t), (1, .int p1)] := hl
  unfold X8_bar at h
  obtain ⟨H, hHe⟩ : ∃ H, H = s.heap := ⟨_, rfl⟩
  obtain ⟨locs, hLe⟩ : ∃ x : List Loc, x = [] := ⟨_, rfl⟩
  rw [← hHe] at hP
  have hS : va_S A s.heap H locs := by rw [hHe, hLe]; exact hS
  suffices hW : W p l e (headSpec wsX8_bar rm_X8_bar).room s m ([.ref q_t, .int p1] : List Value).toArray below meth c H locs 0 0 (MQ below (va_Qv (fun (_ : Unit) => True) (bW dC dI A [(q_t, .inr (8, [.int v_t_law, .int v_t_share, .int v_t_pot, .int r_v_t_barred]))]) A) ([.ref q_t, .int p1] : List Value).toArray s 0 0 A) (F0 m 0 ls []) by rw [hHe, hLe] at hW; exact hW
  refine lv_aload_n hx hb dX8_bar_0 rfl (lv_at hl 0 rfl) ?_
  refine lv_dup hx hb dX8_bar_1 rfl ?_
  refine va_get (D := (dC, dI)) (ci := 8) (v := .int v_t_barred) (C := RX8) (T := TX8) (N := 4) hx hb hts in_X8_bar_X8 hown hK hP 0 rfl rfl 3 (by decide) (hts (.fieldLink RX8 21 "RightIfAsMany$Rules" "barred" "I") (List.mem_of_getElem? (i := 1) rfl)) (fun _ h9 => h9) rfl dX8_bar_2 ?_
  refine lv_iconst (v := (1 : Int32)) hx hb dX8_bar_5 (by decide) ?_
  refine lv_iload_n hx hb dX8_bar_6 rfl (lv_at hl 1 rfl) ?_
  refine lv_ishl hx hb dX8_bar_7 ?_
  refine lv_ior hx hb dX8_bar_8 ?_
  refine va_put (D := (dC, dI)) (ci := 8) (v := .int (v_t_barred ||| ((1 : Int32) <<< (p1 &&& 31)))) (ty := .int) (C := RX8) (T := TX8) (N := 4) hx hb hts in_X8_bar_X8 tyX8 tyX8_ok nmX8 hown hK hP hD hS 0 rfl rfl 3 (by decide) (hts (.fieldLink RX8 21 "RightIfAsMany$Rules" "barred" "I") (List.mem_of_getElem? (i := 1) rfl)) (fun _ h9 => h9) rfl (by decide +kernel) rfl rfl (Nat.le_of_ble_eq_true rfl) dX8_bar_9 (fun H locs hP hD hS => ?_)
  have hP : va_P (dC, dI) vwCl [(q_t, .inr (8, [.int v_t_law, .int v_t_share, .int v_t_pot, .int (v_t_barred ||| ((1 : Int32) <<< (p1 &&& 31)))]))] H := hP
  have hD : va_D A [(q_t, .inr (8, [.int v_t_law, .int v_t_share, .int v_t_pot, .int (v_t_barred ||| ((1 : Int32) <<< (p1 &&& 31)))]))] := hD
  replace h := Option.some.inj h
  have e1 := h
  exact W.vret hx hb hr (fun t ht hW => ⟨⟨(), rfl, trivial, (by rw [ht, ← e1]; exact hP), (by rw [← e1]; exact hD)⟩, hS.F ht⟩) hS.2.2 dX8_bar_12
