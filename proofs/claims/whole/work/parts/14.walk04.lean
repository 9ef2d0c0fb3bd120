/-! walks, by program: X8_become X6_readPeople X5_pack X5_unpack X2_dropActs X2_dropSlots X10_table X5_has X5_numberOf X5_counts -/
abbrev rm_X8_become : Room := { frames := 0, cells := 0, slots := 0, locals := 0 }
theorem in_X8_become_X8 : ∀ w ∈ wsX80, w ∈ wsX8_become := fun _ h => List.mem_cons_of_mem _ (List.mem_append_right _ h)
set_option maxHeartbeats 4000000 in
set_option maxRecDepth 100000 in
theorem cn_X8_become (l : Launch) (dC : Nat → ClassId) (dI : Nat → Nat → Nat) (cI cJ cZ : ClassId) (q_t q_p1 : Nat) (sz : Nat) (v_t_law : Int32) (v_t_share : Int32) (v_t_pot : Int32) (v_t_barred : Int32) (v_p1_law : Int32) (v_p1_share : Int32) (v_p1_pot : Int32) (v_p1_barred : Int32) (r_v_t_law : Int32) (r_v_t_share : Int32) (r_v_t_pot : Int32) (r_v_t_barred : Int32) (h : X8_become v_t_law v_t_share v_t_pot v_t_barred v_p1_law v_p1_share v_p1_pot v_p1_barred = some (r_v_t_law, r_v_t_share, r_v_t_pot, r_v_t_barred)) : Met l yX8_become wsX8_become rm_X8_become (pcW dC dI cI cJ cZ [(q_t, .inr (8, [.int v_t_law, .int v_t_share, .int v_t_pot, .int v_t_barred])), (q_p1, .inr (8, [.int v_p1_law, .int v_p1_share, .int v_p1_pot, .int v_p1_barred]))] sz [.ref q_t, .ref q_p1]) (va_Qv (fun (_ : Unit) => True) (bW dC dI (va_A [(q_t, .inr (8, [.int v_t_law, .int v_t_share, .int v_t_pot, .int v_t_barred])), (q_p1, .inr (8, [.int v_p1_law, .int v_p1_share, .int v_p1_pot, .int v_p1_barred]))] sz) [(q_t, .inr (8, [.int r_v_t_law, .int r_v_t_share, .int r_v_t_pot, .int r_v_t_barred])), (q_p1, .inr (8, [.int v_p1_law, .int v_p1_share, .int v_p1_pot, .int v_p1_barred]))]) (va_A [(q_t, .inr (8, [.int v_t_law, .int v_t_share, .int v_t_pot, .int v_t_barred])), (q_p1, .inr (8, [.int v_p1_law, .int v_p1_share, .int v_p1_pot, .int v_p1_barred]))] sz)) 0 0 (va_A [(q_t, .inr (8, [.int v_t_law, .int v_t_share, .int v_t_pot, .int v_t_barred])), (q_p1, .inr (8, [.int v_p1_law, .int v_p1_share, .int v_p1_pot, .int v_p1_barred]))] sz) := by
  refine Met.ofW (cc := cX8_become) (maxL := 2) (ret := none) (by decide) rfl ?_
  intro p e s m args below meth c s₁ B hml hv
  obtain ⟨rfl, hsz, hP, hKK, hD0⟩ := hv
  have hx := B.exec
  have hb := B.bytes
  have hr := B.returns
  have hts := atoms_spec (ws := wsX8_become) B.pre
  have hown : s.vm.findClass RX8 = some m.cls := findClass_of_methodNamed B.named
  have hlocks := B.notSynchronized
  have hK := hKK.1
  subst hsz
  have hD := hD0.self (sz := s.heap.size)
  generalize hAe : va_A [(q_t, .inr (8, [.int v_t_law, .int v_t_share, .int v_t_pot, .int v_t_barred])), (q_p1, .inr (8, [.int v_p1_law, .int v_p1_share, .int v_p1_pot, .int v_p1_barred]))] s.heap.size = A at hD ⊢
  have hA : ∀ q : Nat, s.heap.size ≤ q → A q := fun q h => by rw [← hAe]; exact Or.inr h
  have hS : va_S A s.heap s.heap [] := va_S.rf
  have hl := lv_entry ([.ref q_t, .ref q_p1]) (n := 2) (Nat.le_of_ble_eq_true rfl)
  rw [lg_entry_eq]
  generalize (lg_sl ([.ref q_t, .ref q_p1]) ++ List.replicate (2 - (lg_sl ([.ref q_t, .ref q_p1])).length) Slot.unset).toArray = ls at hl ⊢
  have hl : lv_has ls 2 [(0, .ref q_t), (1, .ref q_p1)] := hl
  unfold X8_become at h
  obtain ⟨H, hHe⟩ : ∃ H, H = s.heap := ⟨_, rfl⟩
  obtain ⟨locs, hLe⟩ : ∃ x : List Loc, x = [] := ⟨_, rfl⟩
  rw [← hHe] at hP
  have hS : va_S A s.heap H locs := by rw [hHe, hLe]; exact hS
  suffices hW : W p l e (headSpec wsX8_become rm_X8_become).room s m ([.ref q_t, .ref q_p1] : List Value).toArray below meth c H locs 0 0 (MQ below (va_Qv (fun (_ : Unit) => True) (bW dC dI A [(q_t, .inr (8, [.int r_v_t_law, .int r_v_t_share, .int r_v_t_pot, .int r_v_t_barred])), (q_p1, .inr (8, [.int v_p1_law, .int v_p1_share, .int v_p1_pot, .int v_p1_barred]))]) A) ([.ref q_t, .ref q_p1] : List Value).toArray s 0 0 A) (F0 m 0 ls []) by rw [hHe, hLe] at hW; exact hW
  refine lv_aload_n hx hb dX8_become_0 rfl (lv_at hl 0 rfl) ?_
  refine lv_aload_n hx hb dX8_become_1 rfl (lv_at hl 1 rfl) ?_
  refine va_get (D := (dC, dI)) (ci := 8) (v := .int v_p1_law) (C := RX8) (T := TX8) (N := 4) hx hb hts in_X8_become_X8 hown hK hP 1 rfl rfl 0 (by decide) (hts (.fieldLink RX8 9 "RightIfAsMany$Rules" "law" "I") (List.mem_of_getElem? (i := 1) rfl)) (fun _ h9 => h9) rfl dX8_become_2 ?_
  refine va_put (D := (dC, dI)) (ci := 8) (v := .int v_p1_law) (ty := .int) (C := RX8) (T := TX8) (N := 4) hx hb hts in_X8_become_X8 tyX8 tyX8_ok nmX8 hown hK hP hD hS 0 rfl rfl 0 (by decide) (hts (.fieldLink RX8 9 "RightIfAsMany$Rules" "law" "I") (List.mem_of_getElem? (i := 1) rfl)) (fun _ h9 => h9) rfl (by decide +kernel) rfl rfl (Nat.le_of_ble_eq_true rfl) dX8_become_5 (fun H locs hP hD hS => ?_)
  have hP : va_P (dC, dI) vwCl [(q_t, .inr (8, [.int v_p1_law, .int v_t_share, .int v_t_pot, .int v_t_barred])), (q_p1, .inr (8, [.int v_p1_law, .int v_p1_share, .int v_p1_pot, .int v_p1_barred]))] H := hP
  have hD : va_D A [(q_t, .inr (8, [.int v_p1_law, .int v_t_share, .int v_t_pot, .int v_t_barred])), (q_p1, .inr (8, [.int v_p1_law, .int v_p1_share, .int v_p1_pot, .int v_p1_barred]))] := hD
  refine lv_aload_n hx hb dX8_become_8 rfl (lv_at hl 0 rfl) ?_
  refine lv_aload_n hx hb dX8_become_9 rfl (lv_at hl 1 rfl) ?_
  refine va_get (D := (dC, dI)) (ci := 8) (v := .int v_p1_share) (C := RX8) (T := TX8) (N := 4) hx hb hts in_X8_become_X8 hown hK hP 1 rfl rfl 1 (by decide) (hts (.fieldLink RX8 15 "RightIfAsMany$Rules" "share" "I") (List.mem_of_getElem? (i := 2) rfl)) (fun _ h9 => h9) rfl dX8_become_10 ?_
  refine va_put (D := (dC, dI)) (ci := 8) (v := .int v_p1_share) (ty := .int) (C := RX8) (T := TX8) (N := 4) hx hb hts in_X8_become_X8 tyX8 tyX8_ok nmX8 hown hK hP hD hS 0 rfl rfl 1 (by decide) (hts (.fieldLink RX8 15 "RightIfAsMany$Rules" "share" "I") (List.mem_of_getElem? (i := 2) rfl)) (fun _ h9 => h9) rfl (by decide +kernel) rfl rfl (Nat.le_of_ble_eq_true rfl) dX8_become_13 (fun H locs hP hD hS => ?_)
  have hP : va_P (dC, dI) vwCl [(q_t, .inr (8, [.int v_p1_law, .int v_p1_share, .int v_t_pot, .int v_t_barred])), (q_p1, .inr (8, [.int v_p1_law, .int v_p1_share, .int v_p1_pot, .int v_p1_barred]))] H := hP
  have hD : va_D A [(q_t, .inr (8, [.int v_p1_law, .int v_p1_share, .int v_t_pot, .int v_t_barred])), (q_p1, .inr (8, [.int v_p1_law, .int v_p1_share, .int v_p1_pot, .int v_p1_barred]))] := hD
  refine lv_aload_n hx hb dX8_become_16 rfl (lv_at hl 0 rfl) ?_
  refine lv_aload_n hx hb dX8_become_17 rfl (lv_at hl 1 rfl) ?_
  refine va_get (D := (dC, dI)) (ci := 8) (v := .int v_p1_pot) (C := RX8) (T := TX8) (N := 4) hx hb hts in_X8_become_X8 hown hK hP 1 rfl rfl 2 (by decide) (hts (.fieldLink RX8 18 "RightIfAsMany$Rules" "pot" "I") (List.mem_of_getElem? (i := 3) rfl)) (fun _ h9 => h9) rfl dX8_become_18 ?_
  refine va_put (D := (dC, dI)) (ci := 8) (v := .int v_p1_pot) (ty := .int) (C := RX8) (T := TX8) (N := 4) hx hb hts in_X8_become_X8 tyX8 tyX8_ok nmX8 hown hK hP hD hS 0 rfl rfl 2 (by decide) (hts (.fieldLink RX8 18 "RightIfAsMany$Rules" "pot" "I") (List.mem_of_getElem? (i := 3) rfl)) (fun _ h9 => h9) rfl (by decide +kernel) rfl rfl (Nat.le_of_ble_eq_true rfl) dX8_become_21 (fun H locs hP hD hS => ?_)
  have hP : va_P (dC, dI) vwCl [(q_t, .inr (8, [.int v_p1_law, .int v_p1_share, .int v_p1_pot, .int v_t_barred])), (q_p1, .inr (8, [.int v_p1_law, .int v_p1_share, .int v_p1_pot, .int v_p1_barred]))] H := hP
  have hD : va_D A [(q_t, .inr (8, [.int v_p1_law, .int v_p1_share, .int v_p1_pot, .int v_t_barred])), (q_p1, .inr (8, [.int v_p1_law, .int v_p1_share, .int v_p1_pot, .int v_p1_barred]))] := hD
  refine lv_aload_n hx hb dX8_become_24 rfl (lv_at hl 0 rfl) ?_
  refine lv_aload_n hx hb dX8_become_25 rfl (lv_at hl 1 rfl) ?_
  refine va_get (D := (dC, dI)) (ci := 8) (v := .int v_p1_barred) (C := RX8) (T := TX8) (N := 4) hx hb hts in_X8_become_X8 hown hK hP 1 rfl rfl 3 (by decide) (hts (.fieldLink RX8 21 "RightIfAsMany$Rules" "barred" "I") (List.mem_of_getElem? (i := 4) rfl)) (fun _ h9 => h9) rfl dX8_become_26 ?_
  refine va_put (D := (dC, dI)) (ci := 8) (v := .int v_p1_barred) (ty := .int) (C := RX8) (T := TX8) (N := 4) hx hb hts in_X8_become_X8 tyX8 tyX8_ok nmX8 hown hK hP hD hS 0 rfl rfl 3 (by decide) (hts (.fieldLink RX8 21 "RightIfAsMany$Rules" "barred" "I") (List.mem_of_getElem? (i := 4) rfl)) (fun _ h9 => h9) rfl (by decide +kernel) rfl rfl (Nat.le_of_ble_eq_true rfl) dX8_become_29 (fun H locs hP hD hS => ?_)
  have hP : va_P (dC, dI) vwCl [(q_t, .inr (8, [.int v_p1_law, .int v_p1_share, .int v_p1_pot, .int v_p1_barred])), (q_p1, .inr (8, [.int v_p1_law, .int v_p1_share, .int v_p1_pot, .int v_p1_barred]))] H := hP
  have hD : va_D A [(q_t, .inr (8, [.int v_p1_law, .int v_p1_share, .int v_p1_pot, .int v_p1_barred])), (q_p1, .inr (8, [.int v_p1_law, .int v_p1_share, .int v_p1_pot, .int v_p1_barred]))] := hD
  replace h := Option.some.inj h
  obtain ⟨e1, e2, e3, e4⟩ := pr4 h
  exact W.vret hx hb hr (fun t ht hW => ⟨⟨(), rfl, trivial, (by rw [ht, ← e1, ← e2, ← e3, ← e4]; exact hP), (by rw [← e1, ← e2, ← e3, ← e4]; exact hD)⟩, hS.F ht⟩) hS.2.2 dX8_become_32
abbrev rm_X6_readPeople : Room := { frames := 0, cells := 0, slots := 0, locals := 0 }
theorem in_X6_readPeople_X6 : ∀ w ∈ wsX60, w ∈ wsX6_readPeople := fun _ h => List.mem_cons_of_mem _ (List.mem_append_right _ h)
set_option maxHeartbeats 4000000 in
set_option maxRecDepth 100000 in
theorem cn_X6_readPeople (l : Launch) (dC : Nat → ClassId) (dI : Nat → Nat → Nat) (cI cJ cZ : ClassId) (q_t q_t_rules q_t_people : Nat) (v_t_letter : Int32) : Met l yX6_readPeople wsX6_readPeople rm_X6_readPeople (pcR dC dI cI cJ cZ [(q_t, .inr (6, [.ref q_t_rules, .ref q_t_people, .int v_t_letter]))] [.ref q_t]) (va_Sr (fun k => k = q_t_people) (fun k => .ref k)) 0 0 (fun _ => False) := by
  refine Met.ofW (cc := cX6_readPeople) (maxL := 1) (ret := (some (.object "RightIfAsMany$People"))) (by decide) rfl ?_
  intro p e s m args below meth c s₁ B hml hv
  obtain ⟨rfl, hP, hKK⟩ := hv
  have hx := B.exec
  have hb := B.bytes
  have hr := B.returns
  have hts := atoms_spec (ws := wsX6_readPeople) B.pre
  have hown : s.vm.findClass RX6 = some m.cls := findClass_of_methodNamed B.named
  have hlocks := B.notSynchronized
  have hK := hKK.1
  have hl := lv_entry ([.ref q_t]) (n := 1) (Nat.le_of_ble_eq_true rfl)
  rw [lg_entry_eq]
  generalize (lg_sl ([.ref q_t]) ++ List.replicate (1 - (lg_sl ([.ref q_t])).length) Slot.unset).toArray = ls at hl ⊢
  have hl : lv_has ls 1 [(0, .ref q_t)] := hl
  refine lv_aload_n hx hb dX6_readPeople_0 rfl (lv_at hl 0 rfl) ?_
  refine va_get (D := (dC, dI)) (ci := 6) (v := .ref q_t_people) (C := RX6) (T := TX6) (N := 3) hx hb hts in_X6_readPeople_X6 hown hK hP 0 rfl rfl 1 (by decide) (hts (.fieldLink RX6 21 "RightIfAsMany$Reader" "people" "LRightIfAsMany$People;") (List.mem_of_getElem? (i := 1) rfl)) (fun _ h9 => h9) rfl dX6_readPeople_1 ?_
  exact W.aret (v := .ref q_t_people) hx hb hr (Or.inl ⟨_, rfl⟩) (Or.inr ⟨_, rfl⟩) (fun t ht hW => ⟨q_t_people, rfl, rfl, ht⟩) (fun q hq => by cases hq) dX6_readPeople_4
abbrev rm_X5_pack : Room := { frames := 0, cells := 0, slots := 0, locals := 0 }
theorem in_X5_pack_X5 : ∀ w ∈ wsX50, w ∈ wsX5_pack := fun _ h => List.mem_cons_of_mem _ (List.mem_append_right _ h)
set_option maxHeartbeats 4000000 in
set_option maxRecDepth 100000 in
theorem cn_X5_pack (l : Launch) (dC : Nat → ClassId) (dI : Nat → Nat → Nat) (cI cJ cZ : ClassId) (q_t q_t_numbers q_t_counts : Nat) (v_t_size : Int32) (f_t_numbers : (Nat → Int32)) (res : Int64) (h : X5_pack v_t_size f_t_numbers = some res) : Met l yX5_pack wsX5_pack rm_X5_pack (pcR dC dI cI cJ cZ [(q_t, .inr (5, [.ref q_t_numbers, .ref q_t_counts, .int v_t_size])), (q_t_numbers, .inl (cI, 9, .inl f_t_numbers))] [.ref q_t]) (vp_Sl (fun r => r = res)) 0 0 (fun _ => False) := by
  refine Met.ofW (cc := cX5_pack) (maxL := 4) (ret := (some .long)) (by decide) rfl ?_
  intro p e s m args below meth c s₁ B hml hv
  obtain ⟨rfl, hP, hKK⟩ := hv
  have hx := B.exec
  have hb := B.bytes
  have hr := B.returns
  have hts := atoms_spec (ws := wsX5_pack) B.pre
  have hown : s.vm.findClass RX5 = some m.cls := findClass_of_methodNamed B.named
  have hlocks := B.notSynchronized
  have hK := hKK.1
  have hl := lv_entry ([.ref q_t]) (n := 4) (Nat.le_of_ble_eq_true rfl)
  rw [lg_entry_eq]
  generalize (lg_sl ([.ref q_t]) ++ List.replicate (4 - (lg_sl ([.ref q_t])).length) Slot.unset).toArray = ls at hl ⊢
  have hl : lv_has ls 4 [(0, .ref q_t)] := hl
  have B_31 : ∀  (x1 : Int64), X5_pack_b31 v_t_size f_t_numbers x1 = some res → ∀ (ls : Array Slot), lv_has ls 4 [(0, .ref q_t), (1, .long x1)] → W p l e (headSpec wsX5_pack rm_X5_pack).room s m ([.ref q_t] : List Value).toArray below meth c s.heap [] 0 0 (MQ below (vp_Sl (fun r => r = res)) ([.ref q_t] : List Value).toArray s 0 0 (fun _ => False)) (F0 m 31 ls []) := by
    intro x1 h ls hl
    unfold X5_pack_b31 at h
    refine lv_lload_n hx hb dX5_pack_31 rfl (lv_at hl 1 rfl) ?_
    refine lv_iconst (v := (4 : Int32)) hx hb dX5_pack_32 (by decide) ?_
    refine lv_lshl hx hb dX5_pack_33 rfl ?_
    refine lv_aload_n hx hb dX5_pack_34 rfl (lv_at hl 0 rfl) ?_
    refine va_get (D := (dC, dI)) (ci := 5) (v := .int v_t_size) (C := RX5) (T := TX5) (N := 3) hx hb hts in_X5_pack_X5 hown hK hP 0 rfl rfl 2 (by decide) (hts (.fieldLink RX5 18 "RightIfAsMany$People" "size" "I") (List.mem_of_getElem? (i := 1) rfl)) (fun _ h9 => h9) rfl dX5_pack_35 ?_
    refine lv_i2l hx hb dX5_pack_38 rfl ?_
    refine lv_lor hx hb dX5_pack_39 ?_
    have e1 := Option.some.inj h
    exact W.lret (v := ((x1 <<< ((4 : Int32).toInt64 &&& 63)) ||| v_t_size.toInt64)) hx hb hr (fun t ht hW => ⟨_, rfl, e1, ht⟩) (fun q hq => by cases hq) dX5_pack_40
  have L_9 : ∀ (n9 : Nat) , ∀  (x1 : Int64) (x3 : Int32), X5_pack_b9 n9 v_t_size f_t_numbers x1 x3 = some res → ∀ (ls : Array Slot), lv_has ls 4 [(0, .ref q_t), (1, .long x1), (3, .int x3)] → W p l e (headSpec wsX5_pack rm_X5_pack).room s m ([.ref q_t] : List Value).toArray below meth c s.heap [] 0 0 (MQ below (vp_Sl (fun r => r = res)) ([.ref q_t] : List Value).toArray s 0 0 (fun _ => False)) (F0 m 9 ls []) := by
    intro n9
    induction n9 with
    | zero => intro x1 x3 h ls hl; exact absurd h (fun h => by cases h)
    | succ n9 ih_9 =>
      intro x1 x3 h ls hl
      replace h : X5_pack_b9_s (X5_pack_b9 n9) v_t_size f_t_numbers x1 x3 = some res := h
      unfold X5_pack_b9_s at h
      refine lv_iload_n hx hb dX5_pack_9 rfl (lv_at hl 2 rfl) ?_
      refine lv_if_lt (tgt := 31) hx hb dX5_pack_10 (by decide) (fun c1 => ?_) (fun c1 => ?_)
      · replace h := ite_t h c1
        exact B_31 x1 h ls (lv_sub hl [0, 1] rfl)
      replace h := ite_f h c1
      refine lv_lload_n hx hb dX5_pack_13 rfl (lv_at hl 1 rfl) ?_
      refine lv_iconst (v := (4 : Int32)) hx hb dX5_pack_14 (by decide) ?_
      refine lv_lshl hx hb dX5_pack_15 rfl ?_
      refine lv_aload_n hx hb dX5_pack_16 rfl (lv_at hl 0 rfl) ?_
      refine va_get (D := (dC, dI)) (ci := 5) (v := .ref q_t_numbers) (C := RX5) (T := TX5) (N := 3) hx hb hts in_X5_pack_X5 hown hK hP 0 rfl rfl 0 (by decide) (hts (.fieldLink RX5 9 "RightIfAsMany$People" "numbers" "[I") (List.mem_of_getElem? (i := 2) rfl)) (fun _ h9 => h9) rfl dX5_pack_17 ?_
      refine lv_iload_n hx hb dX5_pack_20 rfl (lv_at hl 2 rfl) ?_
      obtain ⟨hg2, h⟩ := grd_s h
      refine va_iald hx hb hK hP 1 0 rfl rfl hg2 dX5_pack_21 ?_
      refine lv_i2l hx hb dX5_pack_22 rfl ?_
      refine lv_lor hx hb dX5_pack_23 ?_
      refine lv_lstore_n (lv' := [(1, .long ((x1 <<< ((4 : Int32).toInt64 &&& 63)) ||| (f_t_numbers x3.toNatClampNeg).toInt64)), (0, .ref q_t), (3, .int x3)]) hx hb dX5_pack_24 rfl hl (by decide) rfl (fun ls hl => ?_)
      refine lv_iinc (v := (x3 + (-1 : Int32))) (lv' := [(3, .int (x3 + (-1 : Int32))), (1, .long ((x1 <<< ((4 : Int32).toInt64 &&& 63)) ||| (f_t_numbers x3.toNatClampNeg).toInt64)), (0, .ref q_t)]) hx hb dX5_pack_25 hl (k := 2) rfl rfl (by decide) rfl (fun ls hl => ?_)
      refine lv_goto (tgt := 9) hx hb dX5_pack_28 (by decide) ?_
      exact ih_9 ((x1 <<< ((4 : Int32).toInt64 &&& 63)) ||| (f_t_numbers x3.toNatClampNeg).toInt64) (x3 + (-1 : Int32)) h ls (lv_sub hl [2, 1, 0] rfl)
  unfold X5_pack at h
  refine lv_lconst (v := (0 : Int64)) hx hb dX5_pack_0 (by decide) ?_
  refine lv_lstore_n (lv' := [(1, .long (0 : Int64)), (0, .ref q_t)]) hx hb dX5_pack_1 rfl hl (by decide) rfl (fun ls hl => ?_)
  refine lv_aload_n hx hb dX5_pack_2 rfl (lv_at hl 1 rfl) ?_
  refine va_get (D := (dC, dI)) (ci := 5) (v := .int v_t_size) (C := RX5) (T := TX5) (N := 3) hx hb hts in_X5_pack_X5 hown hK hP 0 rfl rfl 2 (by decide) (hts (.fieldLink RX5 18 "RightIfAsMany$People" "size" "I") (List.mem_of_getElem? (i := 1) rfl)) (fun _ h9 => h9) rfl dX5_pack_3 ?_
  refine lv_iconst (v := (1 : Int32)) hx hb dX5_pack_6 (by decide) ?_
  refine lv_isub hx hb dX5_pack_7 ?_
  refine lv_istore_n (lv' := [(3, .int (v_t_size - (1 : Int32))), (1, .long (0 : Int64)), (0, .ref q_t)]) hx hb dX5_pack_8 rfl hl (by decide) rfl (fun ls hl => ?_)
  exact L_9 fU (0 : Int64) (v_t_size - (1 : Int32)) h ls (lv_sub hl [2, 1, 0] rfl)
abbrev rm_X5_unpack : Room := { frames := 2, cells := 0, slots := 0, locals := 43 }
theorem in_X5_unpack_X5 : ∀ w ∈ wsX50, w ∈ wsX5_unpack := fun _ h => List.mem_cons_of_mem _ (List.mem_append_right _ h)
set_option maxHeartbeats 4000000 in
set_option maxRecDepth 100000 in
theorem cn_X5_unpack (l : Launch) (dC : Nat → ClassId) (dI : Nat → Nat → Nat) (cI cJ cZ : ClassId) (q_t q_t_numbers q_t_counts : Nat) (sz : Nat) (v_t_size : Int32) (f_t_numbers : (Nat → Int32)) (f_t_counts : (Nat → Int32)) (p1 : Int64) (r_v_t_size : Int32) (r_f_t_numbers : (Nat → Int32)) (r_f_t_counts : (Nat → Int32)) (h : X5_unpack v_t_size f_t_numbers f_t_counts p1 = some (r_v_t_size, r_f_t_numbers, r_f_t_counts)) : Met l yX5_unpack wsX5_unpack rm_X5_unpack (pcW dC dI cI cJ cZ [(q_t, .inr (5, [.ref q_t_numbers, .ref q_t_counts, .int v_t_size])), (q_t_numbers, .inl (cI, 9, .inl f_t_numbers)), (q_t_counts, .inl (cI, 10, .inl f_t_counts))] sz [.ref q_t, .long p1]) (va_Qv (fun (_ : Unit) => True) (bW dC dI (va_A [(q_t, .inr (5, [.ref q_t_numbers, .ref q_t_counts, .int v_t_size])), (q_t_numbers, .inl (cI, 9, .inl f_t_numbers)), (q_t_counts, .inl (cI, 10, .inl f_t_counts))] sz) [(q_t, .inr (5, [.ref q_t_numbers, .ref q_t_counts, .int r_v_t_size])), (q_t_numbers, .inl (cI, 9, .inl r_f_t_numbers)), (q_t_counts, .inl (cI, 10, .inl r_f_t_counts))]) (va_A [(q_t, .inr (5, [.ref q_t_numbers, .ref q_t_counts, .int v_t_size])), (q_t_numbers, .inl (cI, 9, .inl f_t_numbers)), (q_t_counts, .inl (cI, 10, .inl f_t_counts))] sz)) 0 0 (va_A [(q_t, .inr (5, [.ref q_t_numbers, .ref q_t_counts, .int v_t_size])), (q_t_numbers, .inl (cI, 9, .inl f_t_numbers)), (q_t_counts, .inl (cI, 10, .inl f_t_counts))] sz) := by
  refine Met.ofW (cc := cX5_unpack) (maxL := 5) (ret := none) (by decide) rfl ?_
  intro p e s m args below meth c s₁ B hml hv
  obtain ⟨rfl, hsz, hP, hKK, hD0⟩ := hv
  have hx := B.exec
  have hb := B.bytes
  have hr := B.returns
  have hts := atoms_spec (ws := wsX5_unpack) B.pre
  have hown : s.vm.findClass RX5 = some m.cls := findClass_of_methodNamed B.named
  have hlocks := B.notSynchronized
  have hK := hKK.1
  subst hsz
  have hD := hD0.self (sz := s.heap.size)
  generalize hAe : va_A [(q_t, .inr (5, [.ref q_t_numbers, .ref q_t_counts, .int v_t_size])), (q_t_numbers, .inl (cI, 9, .inl f_t_numbers)), (q_t_counts, .inl (cI, 10, .inl f_t_counts))] s.heap.size = A at hD ⊢
  have hA : ∀ q : Nat, s.heap.size ≤ q → A q := fun q h => by rw [← hAe]; exact Or.inr h
  have hS : va_S A s.heap s.heap [] := va_S.rf
  have hl := lv_entry ([.ref q_t, .long p1]) (n := 5) (Nat.le_of_ble_eq_true rfl)
  rw [lg_entry_eq]
  generalize (lg_sl ([.ref q_t, .long p1]) ++ List.replicate (5 - (lg_sl ([.ref q_t, .long p1])).length) Slot.unset).toArray = ls at hl ⊢
  have hl : lv_has ls 5 [(0, .ref q_t), (1, .long p1)] := hl
  have L_14 : ∀ (n14 : Nat) , ∀ (v_t_size : Int32) (f_t_numbers : (Nat → Int32)) (f_t_counts : (Nat → Int32)) (x1 : Int64) (x3 : Int32) (x4 : Int32), X5_unpack_b14 n14 v_t_size f_t_numbers f_t_counts x1 x3 x4 = some (r_v_t_size, r_f_t_numbers, r_f_t_counts) → ∀ (H : Heap) (locs : List Loc) (ls : Array Slot), va_P (dC, dI) vwCl [(q_t, .inr (5, [.ref q_t_numbers, .ref q_t_counts, .int v_t_size])), (q_t_numbers, .inl (cI, 9, .inl f_t_numbers)), (q_t_counts, .inl (cI, 10, .inl f_t_counts))] H → va_D A [(q_t, .inr (5, [.ref q_t_numbers, .ref q_t_counts, .int v_t_size])), (q_t_numbers, .inl (cI, 9, .inl f_t_numbers)), (q_t_counts, .inl (cI, 10, .inl f_t_counts))] → va_S A s.heap H locs → lv_has ls 5 [(0, .ref q_t), (1, .long x1), (3, .int x3), (4, .int x4)] → W p l e (headSpec wsX5_unpack rm_X5_unpack).room s m ([.ref q_t, .long p1] : List Value).toArray below meth c H locs 0 0 (MQ below (va_Qv (fun (_ : Unit) => True) (bW dC dI A [(q_t, .inr (5, [.ref q_t_numbers, .ref q_t_counts, .int r_v_t_size])), (q_t_numbers, .inl (cI, 9, .inl r_f_t_numbers)), (q_t_counts, .inl (cI, 10, .inl r_f_t_counts))]) A) ([.ref q_t, .long p1] : List Value).toArray s 0 0 A) (F0 m 14 ls []) := by
    intro n14
    induction n14 with
    | zero => intro v_t_size f_t_numbers f_t_counts x1 x3 x4 h H locs ls hP hD hS hl; exact absurd h (fun h => by cases h)
    | succ n14 ih_14 =>
      intro v_t_size f_t_numbers f_t_counts x1 x3 x4 h H locs ls hP hD hS hl
      replace h : X5_unpack_b14_s (X5_unpack_b14 n14) v_t_size f_t_numbers f_t_counts x1 x3 x4 = some (r_v_t_size, r_f_t_numbers, r_f_t_counts) := h
      unfold X5_unpack_b14_s at h
      refine lv_iload hx hb dX5_unpack_14 (lv_at hl 3 rfl) ?_
      refine lv_iload_n hx hb dX5_unpack_16 rfl (lv_at hl 2 rfl) ?_
      refine lv_icmp_gt (tgt := 47) hx hb dX5_unpack_17 (by decide) (fun c1 => ?_) (fun c1 => ?_)
      · replace h := ite_t h c1
        replace h := Option.some.inj h
        obtain ⟨e1, e2, e3⟩ := pr3 h
        exact W.vret hx hb hr (fun t ht hW => ⟨⟨(), rfl, trivial, (by rw [ht, ← e1, ← e2, ← e3]; exact hP), (by rw [← e1, ← e2, ← e3]; exact hD)⟩, hS.F ht⟩) hS.2.2 dX5_unpack_47
      replace h := ite_f h c1
      refine lv_iload hx hb dX5_unpack_20 (lv_at hl 3 rfl) ?_
      refine lv_bipush (v := (9 : Int32)) hx hb dX5_unpack_22 (by decide) ?_
      refine lv_icmp_gt (tgt := 47) hx hb dX5_unpack_24 (by decide) (fun c2 => ?_) (fun c2 => ?_)
      · replace h := ite_t h c2
        replace h := Option.some.inj h
        obtain ⟨e1, e2, e3⟩ := pr3 h
        exact W.vret hx hb hr (fun t ht hW => ⟨⟨(), rfl, trivial, (by rw [ht, ← e1, ← e2, ← e3]; exact hP), (by rw [← e1, ← e2, ← e3]; exact hD)⟩, hS.F ht⟩) hS.2.2 dX5_unpack_47
      replace h := ite_f h c2
      refine lv_aload_n hx hb dX5_unpack_27 rfl (lv_at hl 0 rfl) ?_
      refine lv_lload_n hx hb dX5_unpack_28 rfl (lv_at hl 1 rfl) ?_
      refine lv_iconst (v := (4 : Int32)) hx hb dX5_unpack_29 (by decide) ?_
      refine lv_iload hx hb dX5_unpack_30 (lv_at hl 3 rfl) ?_
      refine lv_imul hx hb dX5_unpack_32 ?_
      refine lv_lushr hx hb dX5_unpack_33 rfl ?_
      refine lv_l2i hx hb dX5_unpack_34 rfl ?_
      refine lv_bipush (v := (15 : Int32)) hx hb dX5_unpack_35 (by decide) ?_
      refine lv_iand hx hb dX5_unpack_37 ?_
      obtain ⟨w3_0, w3_1, w3_2, hc3, h⟩ := bnd3_s h
      refine kWv (wc := [(q_t, .inr (5, [.ref q_t_numbers, .ref q_t_counts, .int v_t_size])), (q_t_numbers, .inl (cI, 9, .inl f_t_numbers)), (q_t_counts, .inl (cI, 10, .inl f_t_counts))]) (wr := []) (w1 := [(q_t, .inr (5, [.ref q_t_numbers, .ref q_t_counts, .int w3_0])), (q_t_numbers, .inl (cI, 9, .inl w3_1)), (q_t_counts, .inl (cI, 10, .inl w3_2))]) (wn := [(q_t, .inr (5, [.ref q_t_numbers, .ref q_t_counts, .int w3_0])), (q_t_numbers, .inl (cI, 9, .inl w3_1)), (q_t_counts, .inl (cI, 10, .inl w3_2))]) hP hD hS hA [0, 1, 2] [] [0, 1, 2] rfl rfl (by decide) (by decide) rfl (by decide) (va_runV (As := [.int ((x1.toUInt64 >>> (((4 : Int32) * x4).toInt64.toUInt64 &&& Int64.toUInt64 63)).toInt64.toInt32 &&& (15 : Int32))]) (rest := []) ⟨hx, hb, hml, hown, hts⟩ (cn_X5_add l dC dI cI cJ cZ q_t q_t_numbers q_t_counts H.size v_t_size f_t_numbers f_t_counts ((x1.toUInt64 >>> (((4 : Int32) * x4).toInt64.toUInt64 &&& Int64.toUInt64 63)).toInt64.toInt32 &&& (15 : Int32)) w3_0 w3_1 w3_2 hc3) (cwV 1 hts gX5_unpack_X5_add rfl rfl rfl (by decide +kernel) ⟨Nat.le_of_ble_eq_true rfl, Nat.le_of_ble_eq_true rfl⟩) (preW hKK (hP.sub (ws' := [(q_t, .inr (5, [.ref q_t_numbers, .ref q_t_counts, .int v_t_size])), (q_t_numbers, .inl (cI, 9, .inl f_t_numbers)), (q_t_counts, .inl (cI, 10, .inl f_t_counts))]) [0, 1, 2] rfl) (hD.sub (ws' := [(q_t, .inr (5, [.ref q_t_numbers, .ref q_t_counts, .int v_t_size])), (q_t_numbers, .inl (cI, 9, .inl f_t_numbers)), (q_t_counts, .inl (cI, 10, .inl f_t_counts))]) [0, 1, 2] (by decide) rfl) (ci := 5) (q0 := 0) rfl rfl) rfl rfl hl.1 rfl (lv_room (Nat.le_of_ble_eq_true rfl)) dX5_unpack_38 ⟨Nat.zero_le _, Nat.zero_le _⟩) (fun H locs hP hD hS => ?_)
      refine lv_iinc (v := (x4 + (1 : Int32))) (lv' := [(4, .int (x4 + (1 : Int32))), (0, .ref q_t), (1, .long x1), (3, .int x3)]) hx hb dX5_unpack_41 hl (k := 3) rfl rfl (by decide) rfl (fun ls hl => ?_)
      refine lv_goto (tgt := 14) hx hb dX5_unpack_44 (by decide) ?_
      exact ih_14 w3_0 w3_1 w3_2 x1 x3 (x4 + (1 : Int32)) h H locs ls hP hD hS (lv_sub hl [1, 2, 3, 0] rfl)
  unfold X5_unpack at h
  obtain ⟨H, hHe⟩ : ∃ H, H = s.heap := ⟨_, rfl⟩
  obtain ⟨locs, hLe⟩ : ∃ x : List Loc, x = [] := ⟨_, rfl⟩
  rw [← hHe] at hP
  have hS : va_S A s.heap H locs := by rw [hHe, hLe]; exact hS
  suffices hW : W p l e (headSpec wsX5_unpack rm_X5_unpack).room s m ([.ref q_t, .long p1] : List Value).toArray below meth c H locs 0 0 (MQ below (va_Qv (fun (_ : Unit) => True) (bW dC dI A [(q_t, .inr (5, [.ref q_t_numbers, .ref q_t_counts, .int r_v_t_size])), (q_t_numbers, .inl (cI, 9, .inl r_f_t_numbers)), (q_t_counts, .inl (cI, 10, .inl r_f_t_counts))]) A) ([.ref q_t, .long p1] : List Value).toArray s 0 0 A) (F0 m 0 ls []) by rw [hHe, hLe] at hW; exact hW
  refine lv_aload_n hx hb dX5_unpack_0 rfl (lv_at hl 0 rfl) ?_
  obtain ⟨w4_0, w4_1, hc4, h⟩ := bnd2_s h
  refine kWv (wc := [(q_t, .inr (5, [.ref q_t_numbers, .ref q_t_counts, .int v_t_size])), (q_t_counts, .inl (cI, 10, .inl f_t_counts))]) (wr := [(q_t_numbers, .inl (cI, 9, .inl f_t_numbers))]) (w1 := [(q_t, .inr (5, [.ref q_t_numbers, .ref q_t_counts, .int w4_0])), (q_t_counts, .inl (cI, 10, .inl w4_1))]) (wn := [(q_t, .inr (5, [.ref q_t_numbers, .ref q_t_counts, .int w4_0])), (q_t_numbers, .inl (cI, 9, .inl f_t_numbers)), (q_t_counts, .inl (cI, 10, .inl w4_1))]) hP hD hS hA [0, 2] [1] [1, 0, 2] rfl rfl (by decide) (by decide) rfl (by decide) (va_runV (As := []) (rest := []) ⟨hx, hb, hml, hown, hts⟩ (cn_X5_clear l dC dI cI cJ cZ q_t q_t_numbers q_t_counts H.size v_t_size f_t_counts  w4_0 w4_1 hc4) (cwV 0 hts gX5_unpack_X5_clear rfl rfl rfl (by decide +kernel) ⟨Nat.le_of_ble_eq_true rfl, Nat.le_of_ble_eq_true rfl⟩) (preW hKK (hP.sub (ws' := [(q_t, .inr (5, [.ref q_t_numbers, .ref q_t_counts, .int v_t_size])), (q_t_counts, .inl (cI, 10, .inl f_t_counts))]) [0, 2] rfl) (hD.sub (ws' := [(q_t, .inr (5, [.ref q_t_numbers, .ref q_t_counts, .int v_t_size])), (q_t_counts, .inl (cI, 10, .inl f_t_counts))]) [0, 2] (by decide) rfl) (ci := 5) (q0 := 0) rfl rfl) rfl rfl hl.1 rfl (lv_room (Nat.le_of_ble_eq_true rfl)) dX5_unpack_1 ⟨Nat.zero_le _, Nat.zero_le _⟩) (fun H locs hP hD hS => ?_)
  refine lv_lload_n hx hb dX5_unpack_4 rfl (lv_at hl 1 rfl) ?_
  refine lv_ldc2 (v := (15 : Int64)) hx hb hown (hts (.constantLong RX5 38 (15)) (List.mem_of_getElem? (i := 1) rfl)) dX5_unpack_5 ?_
  refine lv_land hx hb dX5_unpack_8 ?_
  refine lv_l2i hx hb dX5_unpack_9 rfl ?_
  refine lv_istore_n (lv' := [(3, .int (p1 &&& (15 : Int64)).toInt32), (0, .ref q_t), (1, .long p1)]) hx hb dX5_unpack_10 rfl hl (by decide) rfl (fun ls hl => ?_)
  refine lv_iconst (v := (1 : Int32)) hx hb dX5_unpack_11 (by decide) ?_
  refine lv_istore (lv' := [(4, .int (1 : Int32)), (3, .int (p1 &&& (15 : Int64)).toInt32), (0, .ref q_t), (1, .long p1)]) hx hb dX5_unpack_12 hl (by decide) rfl (fun ls hl => ?_)
  exact L_14 fU w4_0 f_t_numbers w4_1 p1 (p1 &&& (15 : Int64)).toInt32 (1 : Int32) h H locs ls hP hD hS (lv_sub hl [2, 3, 1, 0] rfl)
abbrev rm_X2_dropActs : Room := { frames := 0, cells := 0, slots := 0, locals := 0 }
theorem in_X2_dropActs_X2 : ∀ w ∈ wsX20, w ∈ wsX2_dropActs := fun _ h => List.mem_cons_of_mem _ (List.mem_append_right _ h)
set_option maxHeartbeats 4000000 in
set_option maxRecDepth 100000 in
theorem cn_X2_dropActs (l : Launch) (dC : Nat → ClassId) (dI : Nat → Nat → Nat) (cI cJ cZ : ClassId) (q_t q_t_row q_t_slots : Nat) (sz : Nat) (v_t_acts : Int32) (r_v_t_acts : Int32) (h : X2_dropActs v_t_acts = some r_v_t_acts) : Met l yX2_dropActs wsX2_dropActs rm_X2_dropActs (pcW dC dI cI cJ cZ [(q_t, .inr (2, [.ref q_t_row, .ref q_t_slots, .int v_t_acts]))] sz [.ref q_t]) (va_Qv (fun (_ : Unit) => True) (bW dC dI (va_A [(q_t, .inr (2, [.ref q_t_row, .ref q_t_slots, .int v_t_acts]))] sz) [(q_t, .inr (2, [.ref q_t_row, .ref q_t_slots, .int r_v_t_acts]))]) (va_A [(q_t, .inr (2, [.ref q_t_row, .ref q_t_slots, .int v_t_acts]))] sz)) 0 0 (va_A [(q_t, .inr (2, [.ref q_t_row, .ref q_t_slots, .int v_t_acts]))] sz) := by
  refine Met.ofW (cc := cX2_dropActs) (maxL := 1) (ret := none) (by decide) rfl ?_
  intro p e s m args below meth c s₁ B hml hv
  obtain ⟨rfl, hsz, hP, hKK, hD0⟩ := hv
  have hx := B.exec
  have hb := B.bytes
  have hr := B.returns
  have hts := atoms_spec (ws := wsX2_dropActs) B.pre
  have hown : s.vm.findClass RX2 = some m.cls := findClass_of_methodNamed B.named
  have hlocks := B.notSynchronized
  have hK := hKK.1
  subst hsz
  have hD := hD0.self (sz := s.heap.size)
  generalize hAe : va_A [(q_t, .inr (2, [.ref q_t_row, .ref q_t_slots, .int v_t_acts]))] s.heap.size = A at hD ⊢
  have hA : ∀ q : Nat, s.heap.size ≤ q → A q := fun q h => by rw [← hAe]; exact Or.inr h
  have hS : va_S A s.heap s.heap [] := va_S.rf
  have hl := lv_entry ([.ref q_t]) (n := 1) (Nat.le_of_ble_eq_true rfl)
  rw [lg_entry_eq]
  generalize (lg_sl ([.ref q_t]) ++ List.replicate (1 - (lg_sl ([.ref q_t])).length) Slot.unset).toArray = ls at hl ⊢
  have hl : lv_has ls 1 [(0, .ref q_t)] := hl
  unfold X2_dropActs at h
  obtain ⟨H, hHe⟩ : ∃ H, H = s.heap := ⟨_, rfl⟩
  obtain ⟨locs, hLe⟩ : ∃ x : List Loc, x = [] := ⟨_, rfl⟩
  rw [← hHe] at hP
  have hS : va_S A s.heap H locs := by rw [hHe, hLe]; exact hS
  suffices hW : W p l e (headSpec wsX2_dropActs rm_X2_dropActs).room s m ([.ref q_t] : List Value).toArray below meth c H locs 0 0 (MQ below (va_Qv (fun (_ : Unit) => True) (bW dC dI A [(q_t, .inr (2, [.ref q_t_row, .ref q_t_slots, .int r_v_t_acts]))]) A) ([.ref q_t] : List Value).toArray s 0 0 A) (F0 m 0 ls []) by rw [hHe, hLe] at hW; exact hW
  refine lv_aload_n hx hb dX2_dropActs_0 rfl (lv_at hl 0 rfl) ?_
  refine lv_iconst (v := (0 : Int32)) hx hb dX2_dropActs_1 (by decide) ?_
  refine va_put (D := (dC, dI)) (ci := 2) (v := .int (0 : Int32)) (ty := .int) (C := RX2) (T := TX2) (N := 3) hx hb hts in_X2_dropActs_X2 tyX2 tyX2_ok nmX2 hown hK hP hD hS 0 rfl rfl 2 (by decide) (hts (.fieldLink RX2 20 "RightIfAsMany$Memory" "acts" "I") (List.mem_of_getElem? (i := 1) rfl)) (fun _ h9 => h9) rfl (by decide +kernel) rfl rfl (Nat.le_of_ble_eq_true rfl) dX2_dropActs_2 (fun H locs hP hD hS => ?_)
  have hP : va_P (dC, dI) vwCl [(q_t, .inr (2, [.ref q_t_row, .ref q_t_slots, .int (0 : Int32)]))] H := hP
  have hD : va_D A [(q_t, .inr (2, [.ref q_t_row, .ref q_t_slots, .int (0 : Int32)]))] := hD
  replace h := Option.some.inj h
  have e1 := h
  exact W.vret hx hb hr (fun t ht hW => ⟨⟨(), rfl, trivial, (by rw [ht, ← e1]; exact hP), (by rw [← e1]; exact hD)⟩, hS.F ht⟩) hS.2.2 dX2_dropActs_5
abbrev rm_X2_dropSlots : Room := { frames := 1, cells := 0, slots := 0, locals := 24 }
theorem in_X2_dropSlots_X2 : ∀ w ∈ wsX20, w ∈ wsX2_dropSlots := fun _ h => List.mem_cons_of_mem _ (List.mem_append_right _ h)
set_option maxHeartbeats 4000000 in
set_option maxRecDepth 100000 in
theorem cn_X2_dropSlots (l : Launch) (dC : Nat → ClassId) (dI : Nat → Nat → Nat) (cI cJ cZ : ClassId) (q_t q_t_row q_t_slots : Nat) (sz : Nat) (v_t_acts : Int32) (f_t_slots : (Nat → Int64)) (r_f_t_slots : (Nat → Int64)) (h : X2_dropSlots f_t_slots = some r_f_t_slots) : Met l yX2_dropSlots wsX2_dropSlots rm_X2_dropSlots (pcW dC dI cI cJ cZ [(q_t, .inr (2, [.ref q_t_row, .ref q_t_slots, .int v_t_acts])), (q_t_slots, .inl (cJ, 2, .inr (.inl f_t_slots)))] sz [.ref q_t]) (va_Qv (fun (_ : Unit) => True) (bW dC dI (va_A [(q_t, .inr (2, [.ref q_t_row, .ref q_t_slots, .int v_t_acts])), (q_t_slots, .inl (cJ, 2, .inr (.inl f_t_slots)))] sz) [(q_t, .inr (2, [.ref q_t_row, .ref q_t_slots, .int v_t_acts])), (q_t_slots, .inl (cJ, 2, .inr (.inl r_f_t_slots)))]) (va_A [(q_t, .inr (2, [.ref q_t_row, .ref q_t_slots, .int v_t_acts])), (q_t_slots, .inl (cJ, 2, .inr (.inl f_t_slots)))] sz)) 0 0 (va_A [(q_t, .inr (2, [.ref q_t_row, .ref q_t_slots, .int v_t_acts])), (q_t_slots, .inl (cJ, 2, .inr (.inl f_t_slots)))] sz) := by
  refine Met.ofW (cc := cX2_dropSlots) (maxL := 1) (ret := none) (by decide) rfl ?_
  intro p e s m args below meth c s₁ B hml hv
  obtain ⟨rfl, hsz, hP, hKK, hD0⟩ := hv
  have hx := B.exec
  have hb := B.bytes
  have hr := B.returns
  have hts := atoms_spec (ws := wsX2_dropSlots) B.pre
  have hown : s.vm.findClass RX2 = some m.cls := findClass_of_methodNamed B.named
  have hlocks := B.notSynchronized
  have hK := hKK.1
  subst hsz
  have hD := hD0.self (sz := s.heap.size)
  generalize hAe : va_A [(q_t, .inr (2, [.ref q_t_row, .ref q_t_slots, .int v_t_acts])), (q_t_slots, .inl (cJ, 2, .inr (.inl f_t_slots)))] s.heap.size = A at hD ⊢
  have hA : ∀ q : Nat, s.heap.size ≤ q → A q := fun q h => by rw [← hAe]; exact Or.inr h
  have hS : va_S A s.heap s.heap [] := va_S.rf
  have hl := lv_entry ([.ref q_t]) (n := 1) (Nat.le_of_ble_eq_true rfl)
  rw [lg_entry_eq]
  generalize (lg_sl ([.ref q_t]) ++ List.replicate (1 - (lg_sl ([.ref q_t])).length) Slot.unset).toArray = ls at hl ⊢
  have hl : lv_has ls 1 [(0, .ref q_t)] := hl
  unfold X2_dropSlots at h
  obtain ⟨H, hHe⟩ : ∃ H, H = s.heap := ⟨_, rfl⟩
  obtain ⟨locs, hLe⟩ : ∃ x : List Loc, x = [] := ⟨_, rfl⟩
  rw [← hHe] at hP
  have hS : va_S A s.heap H locs := by rw [hHe, hLe]; exact hS
  suffices hW : W p l e (headSpec wsX2_dropSlots rm_X2_dropSlots).room s m ([.ref q_t] : List Value).toArray below meth c H locs 0 0 (MQ below (va_Qv (fun (_ : Unit) => True) (bW dC dI A [(q_t, .inr (2, [.ref q_t_row, .ref q_t_slots, .int v_t_acts])), (q_t_slots, .inl (cJ, 2, .inr (.inl r_f_t_slots)))]) A) ([.ref q_t] : List Value).toArray s 0 0 A) (F0 m 0 ls []) by rw [hHe, hLe] at hW; exact hW
  refine lv_aload_n hx hb dX2_dropSlots_0 rfl (lv_at hl 0 rfl) ?_
  refine va_get (D := (dC, dI)) (ci := 2) (v := .ref q_t_slots) (C := RX2) (T := TX2) (N := 3) hx hb hts in_X2_dropSlots_X2 hown hK hP 0 rfl rfl 1 (by decide) (hts (.fieldLink RX2 17 "RightIfAsMany$Memory" "slots" "[J") (List.mem_of_getElem? (i := 1) rfl)) (fun _ h9 => h9) rfl dX2_dropSlots_1 ?_
  refine lv_ldc2 (v := (-1 : Int64)) hx hb hown (hts (.constantLong RX2 15 (-1)) (List.mem_of_getElem? (i := 2) rfl)) dX2_dropSlots_4 ?_
  refine kWv (wc := [(q_t_slots, .inl (cJ, 2, .inr (.inl f_t_slots)))]) (wr := [(q_t, .inr (2, [.ref q_t_row, .ref q_t_slots, .int v_t_acts]))]) (w1 := [(q_t_slots, .inl (cJ, 2, .inr (.inl (fillJ 2 f_t_slots (-1 : Int64)))))]) (wn := [(q_t, .inr (2, [.ref q_t_row, .ref q_t_slots, .int v_t_acts])), (q_t_slots, .inl (cJ, 2, .inr (.inl (fillJ 2 f_t_slots (-1 : Int64)))))]) hP hD hS hA [1] [0] [0, 1] rfl rfl (by decide) (by decide) rfl (by decide) (va_runS (As := [.ref q_t_slots, .long (-1 : Int64)]) (rest := []) ⟨hx, hb, hml, hown, hts⟩ (cn_J7_fill_d0a16 l dC dI cI cJ cZ q_t_slots 2 H.size f_t_slots (-1 : Int64) (by decide)) (va_cwS 2 hts gX2_dropSlots_J7_fill_d0a16 rfl rfl rfl (by decide +kernel) ⟨Nat.le_of_ble_eq_true rfl, Nat.le_of_ble_eq_true rfl⟩) (preWS hKK (hP.sub (ws' := [(q_t_slots, .inl (cJ, 2, .inr (.inl f_t_slots)))]) [1] rfl) (hD.sub (ws' := [(q_t_slots, .inl (cJ, 2, .inr (.inl f_t_slots)))]) [1] (by decide) rfl)) rfl rfl hl.1 rfl (lv_room (Nat.le_of_ble_eq_true rfl)) dX2_dropSlots_7 ⟨Nat.zero_le _, Nat.zero_le _⟩) (fun H locs hP hD hS => ?_)
  replace h := Option.some.inj h
  have e1 := h
  exact W.vret hx hb hr (fun t ht hW => ⟨⟨(), rfl, trivial, (by rw [ht, ← e1]; exact hP), (by rw [← e1]; exact hD)⟩, hS.F ht⟩) hS.2.2 dX2_dropSlots_10
abbrev rm_X10_table : Room := { frames := 7, cells := 0, slots := 0, locals := 150 }
theorem in_X10_table_X2 : ∀ w ∈ wsX20, w ∈ wsX10_table := fun _ h => List.mem_cons_of_mem _ (List.mem_append_right _ h)
theorem in_X10_table_X9 : ∀ w ∈ wsX90, w ∈ wsX10_table := fun _ h => List.mem_cons_of_mem _ (List.mem_append_left _ (List.mem_append_right _ h))
theorem in_X10_table_X5 : ∀ w ∈ wsX50, w ∈ wsX10_table := fun _ h => List.mem_cons_of_mem _ (List.mem_append_left _ (List.mem_append_left _ (List.mem_append_right _ h)))
theorem in_X10_table_X8 : ∀ w ∈ wsX80, w ∈ wsX10_table := fun _ h => List.mem_cons_of_mem _ (List.mem_append_left _ (List.mem_append_left _ (List.mem_append_left _ (List.mem_append_right _ h))))
theorem in_X10_table_X6 : ∀ w ∈ wsX60, w ∈ wsX10_table := fun _ h => List.mem_cons_of_mem _ (List.mem_append_left _ (List.mem_append_left _ (List.mem_append_left _ (List.mem_append_left _ (List.mem_append_right _ h)))))
theorem in_X10_table_X10 : ∀ w ∈ wsX100, w ∈ wsX10_table := fun _ h => List.mem_cons_of_mem _ (List.mem_append_left _ (List.mem_append_left _ (List.mem_append_left _ (List.mem_append_left _ (List.mem_append_left _ (List.mem_append_right _ h))))))
set_option maxHeartbeats 4000000 in
set_option maxRecDepth 100000 in
theorem cn_X10_table (l : Launch) (dC : Nat → ClassId) (dI : Nat → Nat → Nat) (cI cJ cZ : ClassId) (q_t q_t_text q_t_reader q_t_rules q_t_people q_t_memory q_t_rows q_t_chances q_t_moves q_t_payments q_t_evenings q_t_text_bytes q_t_reader_rules q_t_reader_people q_t_reader_people_numbers q_t_reader_people_counts q_t_people_numbers q_t_people_counts q_t_memory_row q_t_memory_slots : Nat) (sz : Nat) (v_t_text_length : Int32) (f_t_text_bytes : (Nat → Int32)) (v_t_reader_letter : Int32) (v_t_reader_rules_law : Int32) (v_t_reader_rules_share : Int32) (v_t_reader_rules_pot : Int32) (v_t_reader_rules_barred : Int32) (v_t_reader_people_size : Int32) (f_t_reader_people_numbers : (Nat → Int32)) (f_t_reader_people_counts : (Nat → Int32)) (v_t_rules_law : Int32) (v_t_rules_share : Int32) (v_t_rules_pot : Int32) (v_t_rules_barred : Int32) (v_t_people_size : Int32) (f_t_people_numbers : (Nat → Int32)) (f_t_people_counts : (Nat → Int32)) (v_t_memory_acts : Int32) (f_t_memory_slots : (Nat → Int64)) (res : Int32) (r_v_t_reader_letter : Int32) (r_v_t_reader_rules_law : Int32) (r_v_t_reader_rules_share : Int32) (r_v_t_reader_rules_pot : Int32) (r_v_t_reader_rules_barred : Int32) (r_v_t_reader_people_size : Int32) (r_f_t_reader_people_numbers : (Nat → Int32)) (r_f_t_reader_people_counts : (Nat → Int32)) (r_v_t_rules_law : Int32) (r_v_t_rules_share : Int32) (r_v_t_rules_pot : Int32) (r_v_t_rules_barred : Int32) (r_v_t_people_size : Int32) (r_f_t_people_numbers : (Nat → Int32)) (r_f_t_people_counts : (Nat → Int32)) (r_v_t_memory_acts : Int32) (r_f_t_memory_slots : (Nat → Int64)) (h : X10_table v_t_text_length f_t_text_bytes v_t_reader_letter v_t_reader_rules_law v_t_reader_rules_share v_t_reader_rules_pot v_t_reader_rules_barred v_t_reader_people_size f_t_reader_people_numbers f_t_reader_people_counts v_t_rules_law v_t_rules_share v_t_rules_pot v_t_rules_barred v_t_people_size f_t_people_numbers f_t_people_counts v_t_memory_acts f_t_memory_slots = some (res, r_v_t_reader_letter, r_v_t_reader_rules_law, r_v_t_reader_rules_share, r_v_t_reader_rules_pot, r_v_t_reader_rules_barred, r_v_t_reader_people_size, r_f_t_reader_people_numbers, r_f_t_reader_people_counts, r_v_t_rules_law, r_v_t_rules_share, r_v_t_rules_pot, r_v_t_rules_barred, r_v_t_people_size, r_f_t_people_numbers, r_f_t_people_counts, r_v_t_memory_acts, r_f_t_memory_slots)) : Met l yX10_table wsX10_table rm_X10_table (pcW dC dI cI cJ cZ [(q_t, .inr (10, [.ref q_t_text, .ref q_t_reader, .ref q_t_rules, .ref q_t_people, .ref q_t_memory, .ref q_t_rows, .ref q_t_chances, .ref q_t_moves, .ref q_t_payments, .ref q_t_evenings])), (q_t_text, .inr (9, [.ref q_t_text_bytes, .int v_t_text_length])), (q_t_text_bytes, .inl (cI, 40, .inl f_t_text_bytes)), (q_t_reader, .inr (6, [.ref q_t_reader_rules, .ref q_t_reader_people, .int v_t_reader_letter])), (q_t_reader_rules, .inr (8, [.int v_t_reader_rules_law, .int v_t_reader_rules_share, .int v_t_reader_rules_pot, .int v_t_reader_rules_barred])), (q_t_reader_people, .inr (5, [.ref q_t_reader_people_numbers, .ref q_t_reader_people_counts, .int v_t_reader_people_size])), (q_t_reader_people_numbers, .inl (cI, 9, .inl f_t_reader_people_numbers)), (q_t_reader_people_counts, .inl (cI, 10, .inl f_t_reader_people_counts)), (q_t_rules, .inr (8, [.int v_t_rules_law, .int v_t_rules_share, .int v_t_rules_pot, .int v_t_rules_barred])), (q_t_people, .inr (5, [.ref q_t_people_numbers, .ref q_t_people_counts, .int v_t_people_size])), (q_t_people_numbers, .inl (cI, 9, .inl f_t_people_numbers)), (q_t_people_counts, .inl (cI, 10, .inl f_t_people_counts)), (q_t_memory, .inr (2, [.ref q_t_memory_row, .ref q_t_memory_slots, .int v_t_memory_acts])), (q_t_memory_slots, .inl (cJ, 2, .inr (.inl f_t_memory_slots)))] sz [.ref q_t]) (va_Qi (fun (r : Int32) (_ : Unit) => r = res) (bW dC dI (va_A [(q_t, .inr (10, [.ref q_t_text, .ref q_t_reader, .ref q_t_rules, .ref q_t_people, .ref q_t_memory, .ref q_t_rows, .ref q_t_chances, .ref q_t_moves, .ref q_t_payments, .ref q_t_evenings])), (q_t_text, .inr (9, [.ref q_t_text_bytes, .int v_t_text_length])), (q_t_text_bytes, .inl (cI, 40, .inl f_t_text_bytes)), (q_t_reader, .inr (6, [.ref q_t_reader_rules, .ref q_t_reader_people, .int v_t_reader_letter])), (q_t_reader_rules, .inr (8, [.int v_t_reader_rules_law, .int v_t_reader_rules_share, .int v_t_reader_rules_pot, .int v_t_reader_rules_barred])), (q_t_reader_people, .inr (5, [.ref q_t_reader_people_numbers, .ref q_t_reader_people_counts, .int v_t_reader_people_size])), (q_t_reader_people_numbers, .inl (cI, 9, .inl f_t_reader_people_numbers)), (q_t_reader_people_counts, .inl (cI, 10, .inl f_t_reader_people_counts)), (q_t_rules, .inr (8, [.int v_t_rules_law, .int v_t_rules_share, .int v_t_rules_pot, .int v_t_rules_barred])), (q_t_people, .inr (5, [.ref q_t_people_numbers, .ref q_t_people_counts, .int v_t_people_size])), (q_t_people_numbers, .inl (cI, 9, .inl f_t_people_numbers)), (q_t_people_counts, .inl (cI, 10, .inl f_t_people_counts)), (q_t_memory, .inr (2, [.ref q_t_memory_row, .ref q_t_memory_slots, .int v_t_memory_acts])), (q_t_memory_slots, .inl (cJ, 2, .inr (.inl f_t_memory_slots)))] sz) [(q_t, .inr (10, [.ref q_t_text, .ref q_t_reader, .ref q_t_rules, .ref q_t_people, .ref q_t_memory, .ref q_t_rows, .ref q_t_chances, .ref q_t_moves, .ref q_t_payments, .ref q_t_evenings])), (q_t_text, .inr (9, [.ref q_t_text_bytes, .int v_t_text_length])), (q_t_text_bytes, .inl (cI, 40, .inl f_t_text_bytes)), (q_t_reader, .inr (6, [.ref q_t_reader_rules, .ref q_t_reader_people, .int r_v_t_reader_letter])), (q_t_reader_rules, .inr (8, [.int r_v_t_reader_rules_law, .int r_v_t_reader_rules_share, .int r_v_t_reader_rules_pot, .int r_v_t_reader_rules_barred])), (q_t_reader_people, .inr (5, [.ref q_t_reader_people_numbers, .ref q_t_reader_people_counts, .int r_v_t_reader_people_size])), (q_t_reader_people_numbers, .inl (cI, 9, .inl r_f_t_reader_people_numbers)), (q_t_reader_people_counts, .inl (cI, 10, .inl r_f_t_reader_people_counts)), (q_t_rules, .inr (8, [.int r_v_t_rules_law, .int r_v_t_rules_share, .int r_v_t_rules_pot, .int r_v_t_rules_barred])), (q_t_people, .inr (5, [.ref q_t_people_numbers, .ref q_t_people_counts, .int r_v_t_people_size])), (q_t_people_numbers, .inl (cI, 9, .inl r_f_t_people_numbers)), (q_t_people_counts, .inl (cI, 10, .inl r_f_t_people_counts)), (q_t_memory, .inr (2, [.ref q_t_memory_row, .ref q_t_memory_slots, .int r_v_t_memory_acts])), (q_t_memory_slots, .inl (cJ, 2, .inr (.inl r_f_t_memory_slots)))]) (va_A [(q_t, .inr (10, [.ref q_t_text, .ref q_t_reader, .ref q_t_rules, .ref q_t_people, .ref q_t_memory, .ref q_t_rows, .ref q_t_chances, .ref q_t_moves, .ref q_t_payments, .ref q_t_evenings])), (q_t_text, .inr (9, [.ref q_t_text_bytes, .int v_t_text_length])), (q_t_text_bytes, .inl (cI, 40, .inl f_t_text_bytes)), (q_t_reader, .inr (6, [.ref q_t_reader_rules, .ref q_t_reader_people, .int v_t_reader_letter])), (q_t_reader_rules, .inr (8, [.int v_t_reader_rules_law, .int v_t_reader_rules_share, .int v_t_reader_rules_pot, .int v_t_reader_rules_barred])), (q_t_reader_people, .inr (5, [.ref q_t_reader_people_numbers, .ref q_t_reader_people_counts, .int v_t_reader_people_size])), (q_t_reader_people_numbers, .inl (cI, 9, .inl f_t_reader_people_numbers)), (q_t_reader_people_counts, .inl (cI, 10, .inl f_t_reader_people_counts)), (q_t_rules, .inr (8, [.int v_t_rules_law, .int v_t_rules_share, .int v_t_rules_pot, .int v_t_rules_barred])), (q_t_people, .inr (5, [.ref q_t_people_numbers, .ref q_t_people_counts, .int v_t_people_size])), (q_t_people_numbers, .inl (cI, 9, .inl f_t_people_numbers)), (q_t_people_counts, .inl (cI, 10, .inl f_t_people_counts)), (q_t_memory, .inr (2, [.ref q_t_memory_row, .ref q_t_memory_slots, .int v_t_memory_acts])), (q_t_memory_slots, .inl (cJ, 2, .inr (.inl f_t_memory_slots)))] sz)) 0 0 (va_A [(q_t, .inr (10, [.ref q_t_text, .ref q_t_reader, .ref q_t_rules, .ref q_t_people, .ref q_t_memory, .ref q_t_rows, .ref q_t_chances, .ref q_t_moves, .ref q_t_payments, .ref q_t_evenings])), (q_t_text, .inr (9, [.ref q_t_text_bytes, .int v_t_text_length])), (q_t_text_bytes, .inl (cI, 40, .inl f_t_text_bytes)), (q_t_reader, .inr (6, [.ref q_t_reader_rules, .ref q_t_reader_people, .int v_t_reader_letter])), (q_t_reader_rules, .inr (8, [.int v_t_reader_rules_law, .int v_t_reader_rules_share, .int v_t_reader_rules_pot, .int v_t_reader_rules_barred])), (q_t_reader_people, .inr (5, [.ref q_t_reader_people_numbers, .ref q_t_reader_people_counts, .int v_t_reader_people_size])), (q_t_reader_people_numbers, .inl (cI, 9, .inl f_t_reader_people_numbers)), (q_t_reader_people_counts, .inl (cI, 10, .inl f_t_reader_people_counts)), (q_t_rules, .inr (8, [.int v_t_rules_law, .int v_t_rules_share, .int v_t_rules_pot, .int v_t_rules_barred])), (q_t_people, .inr (5, [.ref q_t_people_numbers, .ref q_t_people_counts, .int v_t_people_size])), (q_t_people_numbers, .inl (cI, 9, .inl f_t_people_numbers)), (q_t_people_counts, .inl (cI, 10, .inl f_t_people_counts)), (q_t_memory, .inr (2, [.ref q_t_memory_row, .ref q_t_memory_slots, .int v_t_memory_acts])), (q_t_memory_slots, .inl (cJ, 2, .inr (.inl f_t_memory_slots)))] sz) := by
  refine Met.ofW (cc := cX10_table) (maxL := 1) (ret := (some .int)) (by decide) rfl ?_
  intro p e s m args below meth c s₁ B hml hv
  obtain ⟨rfl, hsz, hP, hKK, hD0⟩ := hv
  have hx := B.exec
  have hb := B.bytes
  have hr := B.returns
  have hts := atoms_spec (ws := wsX10_table) B.pre
  have hown : s.vm.findClass RX10 = some m.cls := findClass_of_methodNamed B.named
  have hlocks := B.notSynchronized
  have hK := hKK.1
  subst hsz
  have hD := hD0.self (sz := s.heap.size)
  generalize hAe : va_A [(q_t, .inr (10, [.ref q_t_text, .ref q_t_reader, .ref q_t_rules, .ref q_t_people, .ref q_t_memory, .ref q_t_rows, .ref q_t_chances, .ref q_t_moves, .ref q_t_payments, .ref q_t_evenings])), (q_t_text, .inr (9, [.ref q_t_text_bytes, .int v_t_text_length])), (q_t_text_bytes, .inl (cI, 40, .inl f_t_text_bytes)), (q_t_reader, .inr (6, [.ref q_t_reader_rules, .ref q_t_reader_people, .int v_t_reader_letter])), (q_t_reader_rules, .inr (8, [.int v_t_reader_rules_law, .int v_t_reader_rules_share, .int v_t_reader_rules_pot, .int v_t_reader_rules_barred])), (q_t_reader_people, .inr (5, [.ref q_t_reader_people_numbers, .ref q_t_reader_people_counts, .int v_t_reader_people_size])), (q_t_reader_people_numbers, .inl (cI, 9, .inl f_t_reader_people_numbers)), (q_t_reader_people_counts, .inl (cI, 10, .inl f_t_reader_people_counts)), (q_t_rules, .inr (8, [.int v_t_rules_law, .int v_t_rules_share, .int v_t_rules_pot, .int v_t_rules_barred])), (q_t_people, .inr (5, [.ref q_t_people_numbers, .ref q_t_people_counts, .int v_t_people_size])), (q_t_people_numbers, .inl (cI, 9, .inl f_t_people_numbers)), (q_t_people_counts, .inl (cI, 10, .inl f_t_people_counts)), (q_t_memory, .inr (2, [.ref q_t_memory_row, .ref q_t_memory_slots, .int v_t_memory_acts])), (q_t_memory_slots, .inl (cJ, 2, .inr (.inl f_t_memory_slots)))] s.heap.size = A at hD ⊢
  have hA : ∀ q : Nat, s.heap.size ≤ q → A q := fun q h => by rw [← hAe]; exact Or.inr h
  have hS : va_S A s.heap s.heap [] := va_S.rf
  have hl := lv_entry ([.ref q_t]) (n := 1) (Nat.le_of_ble_eq_true rfl)
  rw [lg_entry_eq]
  generalize (lg_sl ([.ref q_t]) ++ List.replicate (1 - (lg_sl ([.ref q_t])).length) Slot.unset).toArray = ls at hl ⊢
  have hl : lv_has ls 1 [(0, .ref q_t)] := hl
  unfold X10_table at h
  obtain ⟨H, hHe⟩ : ∃ H, H = s.heap := ⟨_, rfl⟩
  obtain ⟨locs, hLe⟩ : ∃ x : List Loc, x = [] := ⟨_, rfl⟩
  rw [← hHe] at hP
  have hS : va_S A s.heap H locs := by rw [hHe, hLe]; exact hS
  suffices hW : W p l e (headSpec wsX10_table rm_X10_table).room s m ([.ref q_t] : List Value).toArray below meth c H locs 0 0 (MQ below (va_Qi (fun (r : Int32) (_ : Unit) => r = res) (bW dC dI A [(q_t, .inr (10, [.ref q_t_text, .ref q_t_reader, .ref q_t_rules, .ref q_t_people, .ref q_t_memory, .ref q_t_rows, .ref q_t_chances, .ref q_t_moves, .ref q_t_payments, .ref q_t_evenings])), (q_t_text, .inr (9, [.ref q_t_text_bytes, .int v_t_text_length])), (q_t_text_bytes, .inl (cI, 40, .inl f_t_text_bytes)), (q_t_reader, .inr (6, [.ref q_t_reader_rules, .ref q_t_reader_people, .int r_v_t_reader_letter])), (q_t_reader_rules, .inr (8, [.int r_v_t_reader_rules_law, .int r_v_t_reader_rules_share, .int r_v_t_reader_rules_pot, .int r_v_t_reader_rules_barred])), (q_t_reader_people, .inr (5, [.ref q_t_reader_people_numbers, .ref q_t_reader_people_counts, .int r_v_t_reader_people_size])), (q_t_reader_people_numbers, .inl (cI, 9, .inl r_f_t_reader_people_numbers)), (q_t_reader_people_counts, .inl (cI, 10, .inl r_f_t_reader_people_counts)), (q_t_rules, .inr (8, [.int r_v_t_rules_law, .int r_v_t_rules_share, .int r_v_t_rules_pot, .int r_v_t_rules_barred])), (q_t_people, .inr (5, [.ref q_t_people_numbers, .ref q_t_people_counts, .int r_v_t_people_size])), (q_t_people_numbers, .inl (cI, 9, .inl r_f_t_people_numbers)), (q_t_people_counts, .inl (cI, 10, .inl r_f_t_people_counts)), (q_t_memory, .inr (2, [.ref q_t_memory_row, .ref q_t_memory_slots, .int r_v_t_memory_acts])), (q_t_memory_slots, .inl (cJ, 2, .inr (.inl r_f_t_memory_slots)))]) A) ([.ref q_t] : List Value).toArray s 0 0 A) (F0 m 0 ls []) by rw [hHe, hLe] at hW; exact hW
  refine lv_aload_n hx hb dX10_table_0 rfl (lv_at hl 0 rfl) ?_
  refine va_get (D := (dC, dI)) (ci := 10) (v := .ref q_t_reader) (C := RX10) (T := TX10) (N := 10) hx hb hts in_X10_table_X10 hown hK hP 0 rfl rfl 1 (by decide) (hts (.fieldLink RX10 19 "RightIfAsMany" "reader" "LRightIfAsMany$Reader;") (List.mem_of_getElem? (i := 1) rfl)) (fun _ h9 => h9) rfl dX10_table_1 ?_
  refine lv_aload_n hx hb dX10_table_4 rfl (lv_at hl 0 rfl) ?_
  refine va_get (D := (dC, dI)) (ci := 10) (v := .ref q_t_text) (C := RX10) (T := TX10) (N := 10) hx hb hts in_X10_table_X10 hown hK hP 0 rfl rfl 0 (by decide) (hts (.fieldLink RX10 10 "RightIfAsMany" "text" "LRightIfAsMany$Text;") (List.mem_of_getElem? (i := 2) rfl)) (fun _ h9 => h9) rfl dX10_table_5 ?_
  obtain ⟨r1, w1_1, w1_2, w1_3, w1_4, w1_5, w1_6, w1_7, w1_8, hc1, h⟩ := bnd9_s h
  refine kWi (res := r1) (wc := [(q_t_reader, .inr (6, [.ref q_t_reader_rules, .ref q_t_reader_people, .int v_t_reader_letter])), (q_t_reader_rules, .inr (8, [.int v_t_reader_rules_law, .int v_t_reader_rules_share, .int v_t_reader_rules_pot, .int v_t_reader_rules_barred])), (q_t_reader_people, .inr (5, [.ref q_t_reader_people_numbers, .ref q_t_reader_people_counts, .int v_t_reader_people_size])), (q_t_reader_people_numbers, .inl (cI, 9, .inl f_t_reader_people_numbers)), (q_t_reader_people_counts, .inl (cI, 10, .inl f_t_reader_people_counts)), (q_t_text, .inr (9, [.ref q_t_text_bytes, .int v_t_text_length])), (q_t_text_bytes, .inl (cI, 40, .inl f_t_text_bytes))]) (wr := [(q_t, .inr (10, [.ref q_t_text, .ref q_t_reader, .ref q_t_rules, .ref q_t_people, .ref q_t_memory, .ref q_t_rows, .ref q_t_chances, .ref q_t_moves, .ref q_t_payments, .ref q_t_evenings])), (q_t_rules, .inr (8, [.int v_t_rules_law, .int v_t_rules_share, .int v_t_rules_pot, .int v_t_rules_barred])), (q_t_people, .inr (5, [.ref q_t_people_numbers, .ref q_t_people_counts, .int v_t_people_size])), (q_t_people_numbers, .inl (cI, 9, .inl f_t_people_numbers)), (q_t_people_counts, .inl (cI, 10, .inl f_t_people_counts)), (q_t_memory, .inr (2, [.ref q_t_memory_row, .ref q_t_memory_slots, .int v_t_memory_acts])), (q_t_memory_slots, .inl (cJ, 2, .inr (.inl f_t_memory_slots)))]) (w1 := [(q_t_reader, .inr (6, [.ref q_t_reader_rules, .ref q_t_reader_people, .int w1_1])), (q_t_reader_rules, .inr (8, [.int w1_2, .int w1_3, .int w1_4, .int w1_5])), (q_t_reader_people, .inr (5, [.ref q_t_reader_people_numbers, .ref q_t_reader_people_counts, .int w1_6])), (q_t_reader_people_numbers, .inl (cI, 9, .inl w1_7)), (q_t_reader_people_counts, .inl (cI, 10, .inl w1_8)), (q_t_text, .inr (9, [.ref q_t_text_bytes, .int v_t_text_length])), (q_t_text_bytes, .inl (cI, 40, .inl f_t_text_bytes))]) (wn := [(q_t, .inr (10, [.ref q_t_text, .ref q_t_reader, .ref q_t_rules, .ref q_t_people, .ref q_t_memory, .ref q_t_rows, .ref q_t_chances, .ref q_t_moves, .ref q_t_payments, .ref q_t_evenings])), (q_t_text, .inr (9, [.ref q_t_text_bytes, .int v_t_text_length])), (q_t_text_bytes, .inl (cI, 40, .inl f_t_text_bytes)), (q_t_reader, .inr (6, [.ref q_t_reader_rules, .ref q_t_reader_people, .int w1_1])), (q_t_reader_rules, .inr (8, [.int w1_2, .int w1_3, .int w1_4, .int w1_5])), (q_t_reader_people, .inr (5, [.ref q_t_reader_people_numbers, .ref q_t_reader_people_counts, .int w1_6])), (q_t_reader_people_numbers, .inl (cI, 9, .inl w1_7)), (q_t_reader_people_counts, .inl (cI, 10, .inl w1_8)), (q_t_rules, .inr (8, [.int v_t_rules_law, .int v_t_rules_share, .int v_t_rules_pot, .int v_t_rules_barred])), (q_t_people, .inr (5, [.ref q_t_people_numbers, .ref q_t_people_counts, .int v_t_people_size])), (q_t_people_numbers, .inl (cI, 9, .inl f_t_people_numbers)), (q_t_people_counts, .inl (cI, 10, .inl f_t_people_counts)), (q_t_memory, .inr (2, [.ref q_t_memory_row, .ref q_t_memory_slots, .int v_t_memory_acts])), (q_t_memory_slots, .inl (cJ, 2, .inr (.inl f_t_memory_slots)))]) hP hD hS hA [3, 4, 5, 6, 7, 1, 2] [0, 8, 9, 10, 11, 12, 13] [0, 12, 13, 7, 8, 9, 10, 11, 1, 2, 3, 4, 5, 6] rfl rfl (by decide) (by decide) rfl (by decide) (va_runV (As := [.ref q_t_text]) (rest := []) ⟨hx, hb, hml, hown, hts⟩ (cn_X6_firstFault l dC dI cI cJ cZ q_t_reader q_t_text q_t_reader_rules q_t_reader_people q_t_reader_people_numbers q_t_reader_people_counts q_t_text_bytes H.size v_t_reader_letter v_t_reader_rules_law v_t_reader_rules_share v_t_reader_rules_pot v_t_reader_rules_barred v_t_reader_people_size f_t_reader_people_numbers f_t_reader_people_counts v_t_text_length f_t_text_bytes  r1 w1_1 w1_2 w1_3 w1_4 w1_5 w1_6 w1_7 w1_8 hc1) (cwV 1 hts gX10_table_X6_firstFault rfl rfl rfl (by decide +kernel) ⟨Nat.le_of_ble_eq_true rfl, Nat.le_of_ble_eq_true rfl⟩) (preW hKK (hP.sub (ws' := [(q_t_reader, .inr (6, [.ref q_t_reader_rules, .ref q_t_reader_people, .int v_t_reader_letter])), (q_t_reader_rules, .inr (8, [.int v_t_reader_rules_law, .int v_t_reader_rules_share, .int v_t_reader_rules_pot, .int v_t_reader_rules_barred])), (q_t_reader_people, .inr (5, [.ref q_t_reader_people_numbers, .ref q_t_reader_people_counts, .int v_t_reader_people_size])), (q_t_reader_people_numbers, .inl (cI, 9, .inl f_t_reader_people_numbers)), (q_t_reader_people_counts, .inl (cI, 10, .inl f_t_reader_people_counts)), (q_t_text, .inr (9, [.ref q_t_text_bytes, .int v_t_text_length])), (q_t_text_bytes, .inl (cI, 40, .inl f_t_text_bytes))]) [3, 4, 5, 6, 7, 1, 2] rfl) (hD.sub (ws' := [(q_t_reader, .inr (6, [.ref q_t_reader_rules, .ref q_t_reader_people, .int v_t_reader_letter])), (q_t_reader_rules, .inr (8, [.int v_t_reader_rules_law, .int v_t_reader_rules_share, .int v_t_reader_rules_pot, .int v_t_reader_rules_barred])), (q_t_reader_people, .inr (5, [.ref q_t_reader_people_numbers, .ref q_t_reader_people_counts, .int v_t_reader_people_size])), (q_t_reader_people_numbers, .inl (cI, 9, .inl f_t_reader_people_numbers)), (q_t_reader_people_counts, .inl (cI, 10, .inl f_t_reader_people_counts)), (q_t_text, .inr (9, [.ref q_t_text_bytes, .int v_t_text_length])), (q_t_text_bytes, .inl (cI, 40, .inl f_t_text_bytes))]) [3, 4, 5, 6, 7, 1, 2] (by decide) rfl) (ci := 6) (q0 := 0) rfl rfl) rfl rfl hl.1 rfl (lv_room (Nat.le_of_ble_eq_true rfl)) dX10_table_8 ⟨Nat.zero_le _, Nat.zero_le _⟩) (fun H locs hP hD hS => ?_)
  refine lv_bipush (v := (-9 : Int32)) hx hb dX10_table_11 (by decide) ?_
  refine lv_icmp_eq (tgt := 19) hx hb dX10_table_13 (by decide) (fun c2 => ?_) (fun c2 => ?_)
  · replace h := ite_t h c2
    refine lv_aload_n hx hb dX10_table_19 rfl (lv_at hl 0 rfl) ?_
    refine va_get (D := (dC, dI)) (ci := 10) (v := .ref q_t_rules) (C := RX10) (T := TX10) (N := 10) hx hb hts in_X10_table_X10 hown hK hP 0 rfl rfl 2 (by decide) (hts (.fieldLink RX10 26 "RightIfAsMany" "rules" "LRightIfAsMany$Rules;") (List.mem_of_getElem? (i := 3) rfl)) (fun _ h9 => h9) rfl dX10_table_20 ?_
    refine lv_aload_n hx hb dX10_table_23 rfl (lv_at hl 0 rfl) ?_
    refine va_get (D := (dC, dI)) (ci := 10) (v := .ref q_t_reader) (C := RX10) (T := TX10) (N := 10) hx hb hts in_X10_table_X10 hown hK hP 0 rfl rfl 1 (by decide) (hts (.fieldLink RX10 19 "RightIfAsMany" "reader" "LRightIfAsMany$Reader;") (List.mem_of_getElem? (i := 1) rfl)) (fun _ h9 => h9) rfl dX10_table_24 ?_
    refine kRr (res := q_t_reader_rules) (va_runV (As := []) (rest := [.ref q_t_rules]) ⟨hx, hb, hml, hown, hts⟩ (cn_X6_readRules l dC dI cI cJ cZ q_t_reader q_t_reader_rules q_t_reader_people  w1_1   ) (cwV 0 hts gX10_table_X6_readRules rfl rfl rfl (by decide +kernel) ⟨Nat.le_of_ble_eq_true rfl, Nat.le_of_ble_eq_true rfl⟩) (preR hKK (hP.sub (ws' := [(q_t_reader, .inr (6, [.ref q_t_reader_rules, .ref q_t_reader_people, .int w1_1]))]) [3] rfl) (ci := 6) (q0 := 0) rfl rfl) rfl rfl hl.1 rfl (lv_room (Nat.le_of_ble_eq_true rfl)) dX10_table_27 ⟨Nat.zero_le _, Nat.zero_le _⟩) ?_
    obtain ⟨w3_0, w3_1, w3_2, w3_3, hc3, h⟩ := bnd4_s h
    refine kWv (wc := [(q_t_rules, .inr (8, [.int v_t_rules_law, .int v_t_rules_share, .int v_t_rules_pot, .int v_t_rules_barred])), (q_t_reader_rules, .inr (8, [.int w1_2, .int w1_3, .int w1_4, .int w1_5]))]) (wr := [(q_t, .inr (10, [.ref q_t_text, .ref q_t_reader, .ref q_t_rules, .ref q_t_people, .ref q_t_memory, .ref q_t_rows, .ref q_t_chances, .ref q_t_moves, .ref q_t_payments, .ref q_t_evenings])), (q_t_text, .inr (9, [.ref q_t_text_bytes, .int v_t_text_length])), (q_t_text_bytes, .inl (cI, 40, .inl f_t_text_bytes)), (q_t_reader, .inr (6, [.ref q_t_reader_rules, .ref q_t_reader_people, .int w1_1])), (q_t_reader_people, .inr (5, [.ref q_t_reader_people_numbers, .ref q_t_reader_people_counts, .int w1_6])), (q_t_reader_people_numbers, .inl (cI, 9, .inl w1_7)), (q_t_reader_people_counts, .inl (cI, 10, .inl w1_8)), (q_t_people, .inr (5, [.ref q_t_people_numbers, .ref q_t_people_counts, .int v_t_people_size])), (q_t_people_numbers, .inl (cI, 9, .inl f_t_people_numbers)), (q_t_people_counts, .inl (cI, 10, .inl f_t_people_counts)), (q_t_memory, .inr (2, [.ref q_t_memory_row, .ref q_t_memory_slots, .int v_t_memory_acts])), (q_t_memory_slots, .inl (cJ, 2, .inr (.inl f_t_memory_slots)))]) (w1 := [(q_t_rules, .inr (8, [.int w3_0, .int w3_1, .int w3_2, .int w3_3])), (q_t_reader_rules, .inr (8, [.int w1_2, .int w1_3, .int w1_4, .int w1_5]))]) (wn := [(q_t, .inr (10, [.ref q_t_text, .ref q_t_reader, .ref q_t_rules, .ref q_t_people, .ref q_t_memory, .ref q_t_rows, .ref q_t_chances, .ref q_t_moves, .ref q_t_payments, .ref q_t_evenings])), (q_t_text, .inr (9, [.ref q_t_text_bytes, .int v_t_text_length])), (q_t_text_bytes, .inl (cI, 40, .inl f_t_text_bytes)), (q_t_reader, .inr (6, [.ref q_t_reader_rules, .ref q_t_reader_people, .int w1_1])), (q_t_reader_rules, .inr (8, [.int w1_2, .int w1_3, .int w1_4, .int w1_5])), (q_t_reader_people, .inr (5, [.ref q_t_reader_people_numbers, .ref q_t_reader_people_counts, .int w1_6])), (q_t_reader_people_numbers, .inl (cI, 9, .inl w1_7)), (q_t_reader_people_counts, .inl (cI, 10, .inl w1_8)), (q_t_rules, .inr (8, [.int w3_0, .int w3_1, .int w3_2, .int w3_3])), (q_t_people, .inr (5, [.ref q_t_people_numbers, .ref q_t_people_counts, .int v_t_people_size])), (q_t_people_numbers, .inl (cI, 9, .inl f_t_people_numbers)), (q_t_people_counts, .inl (cI, 10, .inl f_t_people_counts)), (q_t_memory, .inr (2, [.ref q_t_memory_row, .ref q_t_memory_slots, .int v_t_memory_acts])), (q_t_memory_slots, .inl (cJ, 2, .inr (.inl f_t_memory_slots)))]) hP hD hS hA [8, 4] [0, 1, 2, 3, 5, 6, 7, 9, 10, 11, 12, 13] [0, 1, 2, 3, 13, 4, 5, 6, 12, 7, 8, 9, 10, 11] rfl rfl (by decide) (by decide) rfl (by decide) (va_runV (As := [.ref q_t_reader_rules]) (rest := []) ⟨hx, hb, hml, hown, hts⟩ (cn_X8_become l dC dI cI cJ cZ q_t_rules q_t_reader_rules H.size v_t_rules_law v_t_rules_share v_t_rules_pot v_t_rules_barred w1_2 w1_3 w1_4 w1_5  w3_0 w3_1 w3_2 w3_3 hc3) (cwV 1 hts gX10_table_X8_become rfl rfl rfl (by decide +kernel) ⟨Nat.le_of_ble_eq_true rfl, Nat.le_of_ble_eq_true rfl⟩) (preW hKK (hP.sub (ws' := [(q_t_rules, .inr (8, [.int v_t_rules_law, .int v_t_rules_share, .int v_t_rules_pot, .int v_t_rules_barred])), (q_t_reader_rules, .inr (8, [.int w1_2, .int w1_3, .int w1_4, .int w1_5]))]) [8, 4] rfl) (hD.sub (ws' := [(q_t_rules, .inr (8, [.int v_t_rules_law, .int v_t_rules_share, .int v_t_rules_pot, .int v_t_rules_barred])), (q_t_reader_rules, .inr (8, [.int w1_2, .int w1_3, .int w1_4, .int w1_5]))]) [8, 4] (by decide) rfl) (ci := 8) (q0 := 0) rfl rfl) rfl rfl hl.1 rfl (lv_room (Nat.le_of_ble_eq_true rfl)) dX10_table_30 ⟨Nat.zero_le _, Nat.zero_le _⟩) (fun H locs hP hD hS => ?_)
    refine lv_aload_n hx hb dX10_table_33 rfl (lv_at hl 0 rfl) ?_
    refine va_get (D := (dC, dI)) (ci := 10) (v := .ref q_t_people) (C := RX10) (T := TX10) (N := 10) hx hb hts in_X10_table_X10 hown hK hP 0 rfl rfl 3 (by decide) (hts (.fieldLink RX10 33 "RightIfAsMany" "people" "LRightIfAsMany$People;") (List.mem_of_getElem? (i := 4) rfl)) (fun _ h9 => h9) rfl dX10_table_34 ?_
    refine lv_aload_n hx hb dX10_table_37 rfl (lv_at hl 0 rfl) ?_
    refine va_get (D := (dC, dI)) (ci := 10) (v := .ref q_t_reader) (C := RX10) (T := TX10) (N := 10) hx hb hts in_X10_table_X10 hown hK hP 0 rfl rfl 1 (by decide) (hts (.fieldLink RX10 19 "RightIfAsMany" "reader" "LRightIfAsMany$Reader;") (List.mem_of_getElem? (i := 1) rfl)) (fun _ h9 => h9) rfl dX10_table_38 ?_
    refine kRr (res := q_t_reader_people) (va_runV (As := []) (rest := [.ref q_t_people]) ⟨hx, hb, hml, hown, hts⟩ (cn_X6_readPeople l dC dI cI cJ cZ q_t_reader q_t_reader_rules q_t_reader_people  w1_1   ) (cwV 0 hts gX10_table_X6_readPeople rfl rfl rfl (by decide +kernel) ⟨Nat.le_of_ble_eq_true rfl, Nat.le_of_ble_eq_true rfl⟩) (preR hKK (hP.sub (ws' := [(q_t_reader, .inr (6, [.ref q_t_reader_rules, .ref q_t_reader_people, .int w1_1]))]) [3] rfl) (ci := 6) (q0 := 0) rfl rfl) rfl rfl hl.1 rfl (lv_room (Nat.le_of_ble_eq_true rfl)) dX10_table_41 ⟨Nat.zero_le _, Nat.zero_le _⟩) ?_
    obtain ⟨r4, hc4, h⟩ := bnd1_s h
    refine kRl (res := r4) (va_runV (As := []) (rest := [.ref q_t_people]) ⟨hx, hb, hml, hown, hts⟩ (cn_X5_pack l dC dI cI cJ cZ q_t_reader_people q_t_reader_people_numbers q_t_reader_people_counts  w1_6 w1_7  r4 hc4) (cwV 0 hts gX10_table_X5_pack rfl rfl rfl (by decide +kernel) ⟨Nat.le_of_ble_eq_true rfl, Nat.le_of_ble_eq_true rfl⟩) (preR hKK (hP.sub (ws' := [(q_t_reader_people, .inr (5, [.ref q_t_reader_people_numbers, .ref q_t_reader_people_counts, .int w1_6])), (q_t_reader_people_numbers, .inl (cI, 9, .inl w1_7))]) [5, 6] rfl) (ci := 5) (q0 := 0) rfl rfl) rfl rfl hl.1 rfl (lv_room (Nat.le_of_ble_eq_true rfl)) dX10_table_44 ⟨Nat.zero_le _, Nat.zero_le _⟩) ?_
    obtain ⟨w5_0, w5_1, w5_2, hc5, h⟩ := bnd3_s h
    refine kWv (wc := [(q_t_people, .inr (5, [.ref q_t_people_numbers, .ref q_t_people_counts, .int v_t_people_size])), (q_t_people_numbers, .inl (cI, 9, .inl f_t_people_numbers)), (q_t_people_counts, .inl (cI, 10, .inl f_t_people_counts))]) (wr := [(q_t, .inr (10, [.ref q_t_text, .ref q_t_reader, .ref q_t_rules, .ref q_t_people, .ref q_t_memory, .ref q_t_rows, .ref q_t_chances, .ref q_t_moves, .ref q_t_payments, .ref q_t_evenings])), (q_t_text, .inr (9, [.ref q_t_text_bytes, .int v_t_text_length])), (q_t_text_bytes, .inl (cI, 40, .inl f_t_text_bytes)), (q_t_reader, .inr (6, [.ref q_t_reader_rules, .ref q_t_reader_people, .int w1_1])), (q_t_reader_rules, .inr (8, [.int w1_2, .int w1_3, .int w1_4, .int w1_5])), (q_t_reader_people, .inr (5, [.ref q_t_reader_people_numbers, .ref q_t_reader_people_counts, .int w1_6])), (q_t_reader_people_numbers, .inl (cI, 9, .inl w1_7)), (q_t_reader_people_counts, .inl (cI, 10, .inl w1_8)), (q_t_rules, .inr (8, [.int w3_0, .int w3_1, .int w3_2, .int w3_3])), (q_t_memory, .inr (2, [.ref q_t_memory_row, .ref q_t_memory_slots, .int v_t_memory_acts])), (q_t_memory_slots, .inl (cJ, 2, .inr (.inl f_t_memory_slots)))]) (w1 := [(q_t_people, .inr (5, [.ref q_t_people_numbers, .ref q_t_people_counts, .int w5_0])), (q_t_people_numbers, .inl (cI, 9, .inl w5_1)), (q_t_people_counts, .inl (cI, 10, .inl w5_2))]) (wn := [(q_t, .inr (10, [.ref q_t_text, .ref q_t_reader, .ref q_t_rules, .ref q_t_people, .ref q_t_memory, .ref q_t_rows, .ref q_t_chances, .ref q_t_moves, .ref q_t_payments, .ref q_t_evenings])), (q_t_text, .inr (9, [.ref q_t_text_bytes, .int v_t_text_length])), (q_t_text_bytes, .inl (cI, 40, .inl f_t_text_bytes)), (q_t_reader, .inr (6, [.ref q_t_reader_rules, .ref q_t_reader_people, .int w1_1])), (q_t_reader_rules, .inr (8, [.int w1_2, .int w1_3, .int w1_4, .int w1_5])), (q_t_reader_people, .inr (5, [.ref q_t_reader_people_numbers, .ref q_t_reader_people_counts, .int w1_6])), (q_t_reader_people_numbers, .inl (cI, 9, .inl w1_7)), (q_t_reader_people_counts, .inl (cI, 10, .inl w1_8)), (q_t_rules, .inr (8, [.int w3_0, .int w3_1, .int w3_2, .int w3_3])), (q_t_people, .inr (5, [.ref q_t_people_numbers, .ref q_t_people_counts, .int w5_0])), (q_t_people_numbers, .inl (cI, 9, .inl w5_1)), (q_t_people_counts, .inl (cI, 10, .inl w5_2)), (q_t_memory, .inr (2, [.ref q_t_memory_row, .ref q_t_memory_slots, .int v_t_memory_acts])), (q_t_memory_slots, .inl (cJ, 2, .inr (.inl f_t_memory_slots)))]) hP hD hS hA [9, 10, 11] [0, 1, 2, 3, 4, 5, 6, 7, 8, 12, 13] [0, 1, 2, 3, 4, 5, 6, 7, 8, 11, 12, 13, 9, 10] rfl rfl (by decide) (by decide) rfl (by decide) (va_runV (As := [.long r4]) (rest := []) ⟨hx, hb, hml, hown, hts⟩ (cn_X5_unpack l dC dI cI cJ cZ q_t_people q_t_people_numbers q_t_people_counts H.size v_t_people_size f_t_people_numbers f_t_people_counts r4 w5_0 w5_1 w5_2 hc5) (cwV 1 hts gX10_table_X5_unpack rfl rfl rfl (by decide +kernel) ⟨Nat.le_of_ble_eq_true rfl, Nat.le_of_ble_eq_true rfl⟩) (preW hKK (hP.sub (ws' := [(q_t_people, .inr (5, [.ref q_t_people_numbers, .ref q_t_people_counts, .int v_t_people_size])), (q_t_people_numbers, .inl (cI, 9, .inl f_t_people_numbers)), (q_t_people_counts, .inl (cI, 10, .inl f_t_people_counts))]) [9, 10, 11] rfl) (hD.sub (ws' := [(q_t_people, .inr (5, [.ref q_t_people_numbers, .ref q_t_people_counts, .int v_t_people_size])), (q_t_people_numbers, .inl (cI, 9, .inl f_t_people_numbers)), (q_t_people_counts, .inl (cI, 10, .inl f_t_people_counts))]) [9, 10, 11] (by decide) rfl) (ci := 5) (q0 := 0) rfl rfl) rfl rfl hl.1 rfl (lv_room (Nat.le_of_ble_eq_true rfl)) dX10_table_47 ⟨Nat.zero_le _, Nat.zero_le _⟩) (fun H locs hP hD hS => ?_)
    refine lv_aload_n hx hb dX10_table_50 rfl (lv_at hl 0 rfl) ?_
    refine va_get (D := (dC, dI)) (ci := 10) (v := .ref q_t_memory) (C := RX10) (T := TX10) (N := 10) hx hb hts in_X10_table_X10 hown hK hP 0 rfl rfl 4 (by decide) (hts (.fieldLink RX10 40 "RightIfAsMany" "memory" "LRightIfAsMany$Memory;") (List.mem_of_getElem? (i := 5) rfl)) (fun _ h9 => h9) rfl dX10_table_51 ?_
    obtain ⟨w6_0, hc6, h⟩ := bnd1_s h
    refine kWv (wc := [(q_t_memory, .inr (2, [.ref q_t_memory_row, .ref q_t_memory_slots, .int v_t_memory_acts]))]) (wr := [(q_t, .inr (10, [.ref q_t_text, .ref q_t_reader, .ref q_t_rules, .ref q_t_people, .ref q_t_memory, .ref q_t_rows, .ref q_t_chances, .ref q_t_moves, .ref q_t_payments, .ref q_t_evenings])), (q_t_text, .inr (9, [.ref q_t_text_bytes, .int v_t_text_length])), (q_t_text_bytes, .inl (cI, 40, .inl f_t_text_bytes)), (q_t_reader, .inr (6, [.ref q_t_reader_rules, .ref q_t_reader_people, .int w1_1])), (q_t_reader_rules, .inr (8, [.int w1_2, .int w1_3, .int w1_4, .int w1_5])), (q_t_reader_people, .inr (5, [.ref q_t_reader_people_numbers, .ref q_t_reader_people_counts, .int w1_6])), (q_t_reader_people_numbers, .inl (cI, 9, .inl w1_7)), (q_t_reader_people_counts, .inl (cI, 10, .inl w1_8)), (q_t_rules, .inr (8, [.int w3_0, .int w3_1, .int w3_2, .int w3_3])), (q_t_people, .inr (5, [.ref q_t_people_numbers, .ref q_t_people_counts, .int w5_0])), (q_t_people_numbers, .inl (cI, 9, .inl w5_1)), (q_t_people_counts, .inl (cI, 10, .inl w5_2)), (q_t_memory_slots, .inl (cJ, 2, .inr (.inl f_t_memory_slots)))]) (w1 := [(q_t_memory, .inr (2, [.ref q_t_memory_row, .ref q_t_memory_slots, .int w6_0]))]) (wn := [(q_t, .inr (10, [.ref q_t_text, .ref q_t_reader, .ref q_t_rules, .ref q_t_people, .ref q_t_memory, .ref q_t_rows, .ref q_t_chances, .ref q_t_moves, .ref q_t_payments, .ref q_t_evenings])), (q_t_text, .inr (9, [.ref q_t_text_bytes, .int v_t_text_length])), (q_t_text_bytes, .inl (cI, 40, .inl f_t_text_bytes)), (q_t_reader, .inr (6, [.ref q_t_reader_rules, .ref q_t_reader_people, .int w1_1])), (q_t_reader_rules, .inr (8, [.int w1_2, .int w1_3, .int w1_4, .int w1_5])), (q_t_reader_people, .inr (5, [.ref q_t_reader_people_numbers, .ref q_t_reader_people_counts, .int w1_6])), (q_t_reader_people_numbers, .inl (cI, 9, .inl w1_7)), (q_t_reader_people_counts, .inl (cI, 10, .inl w1_8)), (q_t_rules, .inr (8, [.int w3_0, .int w3_1, .int w3_2, .int w3_3])), (q_t_people, .inr (5, [.ref q_t_people_numbers, .ref q_t_people_counts, .int w5_0])), (q_t_people_numbers, .inl (cI, 9, .inl w5_1)), (q_t_people_counts, .inl (cI, 10, .inl w5_2)), (q_t_memory, .inr (2, [.ref q_t_memory_row, .ref q_t_memory_slots, .int w6_0])), (q_t_memory_slots, .inl (cJ, 2, .inr (.inl f_t_memory_slots)))]) hP hD hS hA [12] [0, 1, 2, 3, 4, 5, 6, 7, 8, 9, 10, 11, 13] [0, 1, 2, 3, 4, 5, 6, 7, 8, 9, 10, 11, 13, 12] rfl rfl (by decide) (by decide) rfl (by decide) (va_runV (As := []) (rest := []) ⟨hx, hb, hml, hown, hts⟩ (cn_X2_dropActs l dC dI cI cJ cZ q_t_memory q_t_memory_row q_t_memory_slots H.size v_t_memory_acts  w6_0 hc6) (cwV 0 hts gX10_table_X2_dropActs rfl rfl rfl (by decide +kernel) ⟨Nat.le_of_ble_eq_true rfl, Nat.le_of_ble_eq_true rfl⟩) (preW hKK (hP.sub (ws' := [(q_t_memory, .inr (2, [.ref q_t_memory_row, .ref q_t_memory_slots, .int v_t_memory_acts]))]) [12] rfl) (hD.sub (ws' := [(q_t_memory, .inr (2, [.ref q_t_memory_row, .ref q_t_memory_slots, .int v_t_memory_acts]))]) [12] (by decide) rfl) (ci := 2) (q0 := 0) rfl rfl) rfl rfl hl.1 rfl (lv_room (Nat.le_of_ble_eq_true rfl)) dX10_table_54 ⟨Nat.zero_le _, Nat.zero_le _⟩) (fun H locs hP hD hS => ?_)
    refine lv_aload_n hx hb dX10_table_57 rfl (lv_at hl 0 rfl) ?_
    refine va_get (D := (dC, dI)) (ci := 10) (v := .ref q_t_memory) (C := RX10) (T := TX10) (N := 10) hx hb hts in_X10_table_X10 hown hK hP 0 rfl rfl 4 (by decide) (hts (.fieldLink RX10 40 "RightIfAsMany" "memory" "LRightIfAsMany$Memory;") (List.mem_of_getElem? (i := 5) rfl)) (fun _ h9 => h9) rfl dX10_table_58 ?_
    obtain ⟨w7_0, hc7, h⟩ := bnd1_s h
    refine kWv (wc := [(q_t_memory, .inr (2, [.ref q_t_memory_row, .ref q_t_memory_slots, .int w6_0])), (q_t_memory_slots, .inl (cJ, 2, .inr (.inl f_t_memory_slots)))]) (wr := [(q_t, .inr (10, [.ref q_t_text, .ref q_t_reader, .ref q_t_rules, .ref q_t_people, .ref q_t_memory, .ref q_t_rows, .ref q_t_chances, .ref q_t_moves, .ref q_t_payments, .ref q_t_evenings])), (q_t_text, .inr (9, [.ref q_t_text_bytes, .int v_t_text_length])), (q_t_text_bytes, .inl (cI, 40, .inl f_t_text_bytes)), (q_t_reader, .inr (6, [.ref q_t_reader_rules, .ref q_t_reader_people, .int w1_1])), (q_t_reader_rules, .inr (8, [.int w1_2, .int w1_3, .int w1_4, .int w1_5])), (q_t_reader_people, .inr (5, [.ref q_t_reader_people_numbers, .ref q_t_reader_people_counts, .int w1_6])), (q_t_reader_people_numbers, .inl (cI, 9, .inl w1_7)), (q_t_reader_people_counts, .inl (cI, 10, .inl w1_8)), (q_t_rules, .inr (8, [.int w3_0, .int w3_1, .int w3_2, .int w3_3])), (q_t_people, .inr (5, [.ref q_t_people_numbers, .ref q_t_people_counts, .int w5_0])), (q_t_people_numbers, .inl (cI, 9, .inl w5_1)), (q_t_people_counts, .inl (cI, 10, .inl w5_2))]) (w1 := [(q_t_memory, .inr (2, [.ref q_t_memory_row, .ref q_t_memory_slots, .int w6_0])), (q_t_memory_slots, .inl (cJ, 2, .inr (.inl w7_0)))]) (wn := [(q_t, .inr (10, [.ref q_t_text, .ref q_t_reader, .ref q_t_rules, .ref q_t_people, .ref q_t_memory, .ref q_t_rows, .ref q_t_chances, .ref q_t_moves, .ref q_t_payments, .ref q_t_evenings])), (q_t_text, .inr (9, [.ref q_t_text_bytes, .int v_t_text_length])), (q_t_text_bytes, .inl (cI, 40, .inl f_t_text_bytes)), (q_t_reader, .inr (6, [.ref q_t_reader_rules, .ref q_t_reader_people, .int w1_1])), (q_t_reader_rules, .inr (8, [.int w1_2, .int w1_3, .int w1_4, .int w1_5])), (q_t_reader_people, .inr (5, [.ref q_t_reader_people_numbers, .ref q_t_reader_people_counts, .int w1_6])), (q_t_reader_people_numbers, .inl (cI, 9, .inl w1_7)), (q_t_reader_people_counts, .inl (cI, 10, .inl w1_8)), (q_t_rules, .inr (8, [.int w3_0, .int w3_1, .int w3_2, .int w3_3])), (q_t_people, .inr (5, [.ref q_t_people_numbers, .ref q_t_people_counts, .int w5_0])), (q_t_people_numbers, .inl (cI, 9, .inl w5_1)), (q_t_people_counts, .inl (cI, 10, .inl w5_2)), (q_t_memory, .inr (2, [.ref q_t_memory_row, .ref q_t_memory_slots, .int w6_0])), (q_t_memory_slots, .inl (cJ, 2, .inr (.inl w7_0)))]) hP hD hS hA [12, 13] [0, 1, 2, 3, 4, 5, 6, 7, 8, 9, 10, 11] [0, 1, 2, 3, 4, 5, 6, 7, 8, 9, 10, 11, 12, 13] rfl rfl (by decide) (by decide) rfl (by decide) (va_runV (As := []) (rest := []) ⟨hx, hb, hml, hown, hts⟩ (cn_X2_dropSlots l dC dI cI cJ cZ q_t_memory q_t_memory_row q_t_memory_slots H.size w6_0 f_t_memory_slots  w7_0 hc7) (cwV 0 hts gX10_table_X2_dropSlots rfl rfl rfl (by decide +kernel) ⟨Nat.le_of_ble_eq_true rfl, Nat.le_of_ble_eq_true rfl⟩) (preW hKK (hP.sub (ws' := [(q_t_memory, .inr (2, [.ref q_t_memory_row, .ref q_t_memory_slots, .int w6_0])), (q_t_memory_slots, .inl (cJ, 2, .inr (.inl f_t_memory_slots)))]) [12, 13] rfl) (hD.sub (ws' := [(q_t_memory, .inr (2, [.ref q_t_memory_row, .ref q_t_memory_slots, .int w6_0])), (q_t_memory_slots, .inl (cJ, 2, .inr (.inl f_t_memory_slots)))]) [12, 13] (by decide) rfl) (ci := 2) (q0 := 0) rfl rfl) rfl rfl hl.1 rfl (lv_room (Nat.le_of_ble_eq_true rfl)) dX10_table_61 ⟨Nat.zero_le _, Nat.zero_le _⟩) (fun H locs hP hD hS => ?_)
    refine lv_aload_n hx hb dX10_table_64 rfl (lv_at hl 0 rfl) ?_
    refine va_get (D := (dC, dI)) (ci := 10) (v := .ref q_t_people) (C := RX10) (T := TX10) (N := 10) hx hb hts in_X10_table_X10 hown hK hP 0 rfl rfl 3 (by decide) (hts (.fieldLink RX10 33 "RightIfAsMany" "people" "LRightIfAsMany$People;") (List.mem_of_getElem? (i := 4) rfl)) (fun _ h9 => h9) rfl dX10_table_65 ?_
    refine kRi (res := (X5_size w5_0)) (va_runV (As := []) (rest := []) ⟨hx, hb, hml, hown, hts⟩ (cn_X5_size l dC dI cI cJ cZ q_t_people q_t_people_numbers q_t_people_counts  w5_0  (X5_size w5_0) rfl) (cwV 0 hts gX10_table_X5_size rfl rfl rfl (by decide +kernel) ⟨Nat.le_of_ble_eq_true rfl, Nat.le_of_ble_eq_true rfl⟩) (preR hKK (hP.sub (ws' := [(q_t_people, .inr (5, [.ref q_t_people_numbers, .ref q_t_people_counts, .int w5_0]))]) [9] rfl) (ci := 5) (q0 := 0) rfl rfl) rfl rfl hl.1 rfl (lv_room (Nat.le_of_ble_eq_true rfl)) dX10_table_68 ⟨Nat.zero_le _, Nat.zero_le _⟩) ?_
    replace h := Option.some.inj h
    obtain ⟨e1, e2, e3, e4, e5, e6, e7, e8, e9, e10, e11, e12, e13, e14, e15, e16, e17, e18⟩ := pr18 h
    exact W.iret (v := (X5_size w5_0)) hx hb hr (fun t ht hW => ⟨⟨_, (), rfl, e1, (by rw [ht, ← e2, ← e3, ← e4, ← e5, ← e6, ← e7, ← e8, ← e9, ← e10, ← e11, ← e12, ← e13, ← e14, ← e15, ← e16, ← e17, ← e18]; exact hP), (by rw [← e2, ← e3, ← e4, ← e5, ← e6, ← e7, ← e8, ← e9, ← e10, ← e11, ← e12, ← e13, ← e14, ← e15, ← e16, ← e17, ← e18]; exact hD)⟩, hS.F ht⟩) hS.2.2 dX10_table_71
  replace h := ite_f h c2
  refine lv_bipush (v := (-3 : Int32)) hx hb dX10_table_16 (by decide) ?_
  replace h := Option.some.inj h
  obtain ⟨e1, e2, e3, e4, e5, e6, e7, e8, e9, e10, e11, e12, e13, e14, e15, e16, e17, e18⟩ := pr18 h
  exact W.iret (v := (-3 : Int32)) hx hb hr (fun t ht hW => ⟨⟨_, (), rfl, e1, (by rw [ht, ← e2, ← e3, ← e4, ← e5, ← e6, ← e7, ← e8, ← e9, ← e10, ← e11, ← e12, ← e13, ← e14, ← e15, ← e16, ← e17, ← e18]; exact hP), (by rw [← e2, ← e3, ← e4, ← e5, ← e6, ← e7, ← e8, ← e9, ← e10, ← e11, ← e12, ← e13, ← e14, ← e15, ← e16, ← e17, ← e18]; exact hD)⟩, hS.F ht⟩) hS.2.2 dX10_table_18
abbrev rm_X5_has : Room := { frames := 0, cells := 0, slots := 0, locals := 0 }
theorem in_X5_has_X5 : ∀ w ∈ wsX50, w ∈ wsX5_has := fun _ h => List.mem_cons_of_mem _ (List.mem_append_right _ h)
set_option maxHeartbeats 4000000 in
set_option maxRecDepth 100000 in
theorem cn_X5_has (l : Launch) (dC : Nat → ClassId) (dI : Nat → Nat → Nat) (cI cJ cZ : ClassId) (q_t q_t_numbers q_t_counts : Nat) (v_t_size : Int32) (p1 : Int32) (res : Int32) (h : X5_has v_t_size p1 = res) : Met l yX5_has wsX5_has rm_X5_has (pcR dC dI cI cJ cZ [(q_t, .inr (5, [.ref q_t_numbers, .ref q_t_counts, .int v_t_size]))] [.ref q_t, .int p1]) (vp_Si (fun r => r = res ∧ r &&& 1 = r)) 0 0 (fun _ => False) := by
  refine Met.ofW (cc := cX5_has) (maxL := 2) (ret := (some .boolean)) (by decide) rfl ?_
  intro p e s m args below meth c s₁ B hml hv
  obtain ⟨rfl, hP, hKK⟩ := hv
  have hx := B.exec
  have hb := B.bytes
  have hr := B.returns
  have hts := atoms_spec (ws := wsX5_has) B.pre
  have hown : s.vm.findClass RX5 = some m.cls := findClass_of_methodNamed B.named
  have hlocks := B.notSynchronized
  have hK := hKK.1
  have hl := lv_entry ([.ref q_t, .int p1]) (n := 2) (Nat.le_of_ble_eq_true rfl)
  rw [lg_entry_eq]
  generalize (lg_sl ([.ref q_t, .int p1]) ++ List.replicate (2 - (lg_sl ([.ref q_t, .int p1])).length) Slot.unset).toArray = ls at hl ⊢
  have hl : lv_has ls 2 [(0, .ref q_t), (1, .int p1)] := hl
  unfold X5_has at h
  refine lv_iload_n hx hb dX5_has_0 rfl (lv_at hl 1 rfl) ?_
  refine lv_if_lt (tgt := 16) hx hb dX5_has_1 (by decide) (fun c1 => ?_) (fun c1 => ?_)
  · replace h := ite_t h c1
    refine lv_iconst (v := (0 : Int32)) hx hb dX5_has_16 (by decide) ?_
    have e1 := h
    exact W.zret (v := (0 : Int32)) (ty := .boolean) hx hb hr (congrArg Value.int rfl) (fun t ht hW => ⟨_, rfl, ⟨e1, rfl⟩, ht⟩) (fun q hq => by cases hq) dX5_has_17
  replace h := ite_f h c1
  refine lv_iload_n hx hb dX5_has_4 rfl (lv_at hl 1 rfl) ?_
  refine lv_aload_n hx hb dX5_has_5 rfl (lv_at hl 0 rfl) ?_
  refine va_get (D := (dC, dI)) (ci := 5) (v := .int v_t_size) (C := RX5) (T := TX5) (N := 3) hx hb hts in_X5_has_X5 hown hK hP 0 rfl rfl 2 (by decide) (hts (.fieldLink RX5 18 "RightIfAsMany$People" "size" "I") (List.mem_of_getElem? (i := 1) rfl)) (fun _ h9 => h9) rfl dX5_has_6 ?_
  refine lv_icmp_ge (tgt := 16) hx hb dX5_has_9 (by decide) (fun c2 => ?_) (fun c2 => ?_)
  · replace h := ite_t h c2
    refine lv_iconst (v := (0 : Int32)) hx hb dX5_has_16 (by decide) ?_
    have e1 := h
    exact W.zret (v := (0 : Int32)) (ty := .boolean) hx hb hr (congrArg Value.int rfl) (fun t ht hW => ⟨_, rfl, ⟨e1, rfl⟩, ht⟩) (fun q hq => by cases hq) dX5_has_17
  replace h := ite_f h c2
  refine lv_iconst (v := (1 : Int32)) hx hb dX5_has_12 (by decide) ?_
  refine lv_goto (tgt := 17) hx hb dX5_has_13 (by decide) ?_
  have e1 := h
  exact W.zret (v := (1 : Int32)) (ty := .boolean) hx hb hr (congrArg Value.int rfl) (fun t ht hW => ⟨_, rfl, ⟨e1, rfl⟩, ht⟩) (fun q hq => by cases hq) dX5_has_17
abbrev rm_X5_numberOf : Room := { frames := 1, cells := 0, slots := 0, locals := 21 }
theorem in_X5_numberOf_X5 : ∀ w ∈ wsX50, w ∈ wsX5_numberOf := fun _ h => List.mem_cons_of_mem _ (List.mem_append_right _ h)
set_option maxHeartbeats 4000000 in
set_option maxRecDepth 100000 in
theorem cn_X5_numberOf (l : Launch) (dC : Nat → ClassId) (dI : Nat → Nat → Nat) (cI cJ cZ : ClassId) (q_t q_t_numbers q_t_counts : Nat) (v_t_size : Int32) (f_t_numbers : (Nat → Int32)) (p1 : Int32) (res : Int32) (h : X5_numberOf v_t_size f_t_numbers p1 = some res) : Met l yX5_numberOf wsX5_numberOf rm_X5_numberOf (pcR dC dI cI cJ cZ [(q_t, .inr (5, [.ref q_t_numbers, .ref q_t_counts, .int v_t_size])), (q_t_numbers, .inl (cI, 9, .inl f_t_numbers))] [.ref q_t, .int p1]) (vp_Si (fun r => r = res)) 0 0 (fun _ => False) := by
  refine Met.ofW (cc := cX5_numberOf) (maxL := 2) (ret := (some .int)) (by decide) rfl ?_
  intro p e s m args below meth c s₁ B hml hv
  obtain ⟨rfl, hP, hKK⟩ := hv
  have hx := B.exec
  have hb := B.bytes
  have hr := B.returns
  have hts := atoms_spec (ws := wsX5_numberOf) B.pre
  have hown : s.vm.findClass RX5 = some m.cls := findClass_of_methodNamed B.named
  have hlocks := B.notSynchronized
  have hK := hKK.1
  have hl := lv_entry ([.ref q_t, .int p1]) (n := 2) (Nat.le_of_ble_eq_true rfl)
  rw [lg_entry_eq]
  generalize (lg_sl ([.ref q_t, .int p1]) ++ List.replicate (2 - (lg_sl ([.ref q_t, .int p1])).length) Slot.unset).toArray = ls at hl ⊢
  have hl : lv_has ls 2 [(0, .ref q_t), (1, .int p1)] := hl
  unfold X5_numberOf at h
  refine lv_aload_n hx hb dX5_numberOf_0 rfl (lv_at hl 0 rfl) ?_
  refine lv_iload_n hx hb dX5_numberOf_1 rfl (lv_at hl 1 rfl) ?_
  refine kRz (res := (X5_has v_t_size p1)) (va_runV (As := [.int p1]) (rest := []) ⟨hx, hb, hml, hown, hts⟩ (cn_X5_has l dC dI cI cJ cZ q_t q_t_numbers q_t_counts  v_t_size p1 (X5_has v_t_size p1) rfl) (cwV 1 hts gX5_numberOf_X5_has rfl rfl rfl (by decide +kernel) ⟨Nat.le_of_ble_eq_true rfl, Nat.le_of_ble_eq_true rfl⟩) (preR hKK (hP.sub (ws' := [(q_t, .inr (5, [.ref q_t_numbers, .ref q_t_counts, .int v_t_size]))]) [0] rfl) (ci := 5) (q0 := 0) rfl rfl) rfl rfl hl.1 rfl (lv_room (Nat.le_of_ble_eq_true rfl)) dX5_numberOf_2 ⟨Nat.zero_le _, Nat.zero_le _⟩) (fun hz1 => ?_)
  refine lv_if_eq (tgt := 17) hx hb dX5_numberOf_5 (by decide) (fun c2 => ?_) (fun c2 => ?_)
  · replace h := ite_t h c2
    refine lv_bipush (v := (-9 : Int32)) hx hb dX5_numberOf_17 (by decide) ?_
    have e1 := Option.some.inj h
    exact W.iret (v := (-9 : Int32)) hx hb hr (fun t ht hW => ⟨_, rfl, e1, ht⟩) (fun q hq => by cases hq) dX5_numberOf_19
  replace h := ite_f h c2
  refine lv_aload_n hx hb dX5_numberOf_8 rfl (lv_at hl 0 rfl) ?_
  refine va_get (D := (dC, dI)) (ci := 5) (v := .ref q_t_numbers) (C := RX5) (T := TX5) (N := 3) hx hb hts in_X5_numberOf_X5 hown hK hP 0 rfl rfl 0 (by decide) (hts (.fieldLink RX5 9 "RightIfAsMany$People" "numbers" "[I") (List.mem_of_getElem? (i := 1) rfl)) (fun _ h9 => h9) rfl dX5_numberOf_9 ?_
  refine lv_iload_n hx hb dX5_numberOf_12 rfl (lv_at hl 1 rfl) ?_
  obtain ⟨hg3, h⟩ := grd_s h
  refine va_iald hx hb hK hP 1 0 rfl rfl hg3 dX5_numberOf_13 ?_
  refine lv_goto (tgt := 19) hx hb dX5_numberOf_14 (by decide) ?_
  have e1 := Option.some.inj h
  exact W.iret (v := (f_t_numbers p1.toNatClampNeg)) hx hb hr (fun t ht hW => ⟨_, rfl, e1, ht⟩) (fun q hq => by cases hq) dX5_numberOf_19
abbrev rm_X5_counts : Room := { frames := 0, cells := 0, slots := 0, locals := 0 }
theorem in_X5_counts_X5 : ∀ w ∈ wsX50, w ∈ wsX5_counts := fun _ h => List.mem_cons_of_mem _ (List.mem_append_right _ h)
set_option maxHeartbeats 4000000 in
set_option maxRecDepth 100000 in
theorem cn_X5_counts (l : Launch) (dC : Nat → ClassId) (dI : Nat → Nat → Nat) (cI cJ cZ : ClassId) (q_t q_t_numbers q_t_counts : Nat) (v_t_size : Int32) : Met l yX5_counts wsX5_counts rm_X5_counts (pcR dC dI cI cJ cZ [(q_t, .inr (5, [.ref q_t_numbers, .ref q_t_counts, .int v_t_size]))] [.ref q_t]) (va_Sr (fun k => k = q_t_counts) (fun k => .ref k)) 0 0 (fun _ => False) := by
  refine Met.ofW (cc := cX5_counts) (maxL := 1) (ret := (some (.array .int))) (by decide) rfl ?_
  intro p e s m args below meth c s₁ B hml hv
  obtain ⟨rfl, hP, hKK⟩ := hv
  have hx := B.exec
  have hb := B.bytes
  have hr := B.returns
  have hts := atoms_spec (ws := wsX5_counts) B.pre
  have hown : s.vm.findClass RX5 = some m.cls := findClass_of_methodNamed B.named
  have hlocks := B.notSynchronized
  have hK := hKK.1
  have hl := lv_entry ([.ref q_t]) (n := 1) (Nat.le_of_ble_eq_true rfl)
  rw [lg_entry_eq]
  generalize (lg_sl ([.ref q_t]) ++ List.replicate (1 - (lg_sl ([.ref q_t])).length) Slot.unset).toArray = ls at hl ⊢
  have hl : lv_has ls 1 [(0, .ref q_t)] := hl
  refine lv_aload_n hx hb dX5_counts_0 rfl (lv_at hl 0 rfl) ?_
  refine va_get (D := (dC, dI)) (ci := 5) (v := .ref q_t_counts) (C := RX5) (T := TX5) (N := 3) hx hb hts in_X5_counts_X5 hown hK hP 0 rfl rfl 1 (by decide) (hts (.fieldLink RX5 15 "RightIfAsMany$People" "counts" "[I") (List.mem_of_getElem? (i := 1) rfl)) (fun _ h9 => h9) rfl dX5_counts_1 ?_
  exact W.aret (v := .ref q_t_counts) hx hb hr (Or.inr ⟨_, rfl⟩) (Or.inr ⟨_, rfl⟩) (fun t ht hW => ⟨q_t_counts, rfl, rfl, ht⟩) (fun q hq => by cases hq) dX5_counts_4
