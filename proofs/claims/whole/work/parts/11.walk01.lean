/-! walks, by program: X1_drawn X8_weight X8_claim X8_claims X8_gain X1_gain X9_length X9_add X10_write X9_clear X10_wipe X8_clear -/
abbrev rm_X1_drawn : Room := { frames := 3, cells := 0, slots := 0, locals := 64 }
theorem in_X1_drawn_X8 : ∀ w ∈ wsX80, w ∈ wsX1_drawn := fun _ h => List.mem_cons_of_mem _ (List.mem_append_right _ h)
theorem in_X1_drawn_X1 : ∀ w ∈ wsX10, w ∈ wsX1_drawn := fun _ h => List.mem_cons_of_mem _ (List.mem_append_left _ (List.mem_append_right _ h))
set_option maxHeartbeats 4000000 in
set_option maxRecDepth 100000 in
theorem cn_X1_drawn (l : Launch) (dC : Nat → ClassId) (dI : Nat → Nat → Nat) (cI cJ cZ : ClassId) (q_t q_p1 q_t_counts : Nat) (sz : Nat) (v_t_state : Int64) (v_p1_law : Int32) (v_p1_share : Int32) (v_p1_pot : Int32) (v_p1_barred : Int32) (res : Int32) (r_v_t_state : Int64) (h : X1_drawn v_t_state v_p1_barred = some (res, r_v_t_state)) : Met l yX1_drawn wsX1_drawn rm_X1_drawn (pcW dC dI cI cJ cZ [(q_t, .inr (1, [.ref q_t_counts, .long v_t_state])), (q_p1, .inr (8, [.int v_p1_law, .int v_p1_share, .int v_p1_pot, .int v_p1_barred]))] sz [.ref q_t, .ref q_p1]) (va_Qi (fun (r : Int32) (_ : Unit) => r = res) (bW dC dI (va_A [(q_t, .inr (1, [.ref q_t_counts, .long v_t_state])), (q_p1, .inr (8, [.int v_p1_law, .int v_p1_share, .int v_p1_pot, .int v_p1_barred]))] sz) [(q_t, .inr (1, [.ref q_t_counts, .long r_v_t_state])), (q_p1, .inr (8, [.int v_p1_law, .int v_p1_share, .int v_p1_pot, .int v_p1_barred]))]) (va_A [(q_t, .inr (1, [.ref q_t_counts, .long v_t_state])), (q_p1, .inr (8, [.int v_p1_law, .int v_p1_share, .int v_p1_pot, .int v_p1_barred]))] sz)) 0 0 (va_A [(q_t, .inr (1, [.ref q_t_counts, .long v_t_state])), (q_p1, .inr (8, [.int v_p1_law, .int v_p1_share, .int v_p1_pot, .int v_p1_barred]))] sz) := by
  refine Met.ofW (cc := cX1_drawn) (maxL := 3) (ret := (some .int)) (by decide) rfl ?_
  intro p e s m args below meth c s₁ B hml hv
  obtain ⟨rfl, hsz, hP, hKK, hD0⟩ := hv
  have hx := B.exec
  have hb := B.bytes
  have hr := B.returns
  have hts := atoms_spec (ws := wsX1_drawn) B.pre
  have hown : s.vm.findClass RX1 = some m.cls := findClass_of_methodNamed B.named
  have hlocks := B.notSynchronized
  have hK := hKK.1
  subst hsz
  have hD := hD0.self (sz := s.heap.size)
  generalize hAe : va_A [(q_t, .inr (1, [.ref q_t_counts, .long v_t_state])), (q_p1, .inr (8, [.int v_p1_law, .int v_p1_share, .int v_p1_pot, .int v_p1_barred]))] s.heap.size = A at hD ⊢
  have hA : ∀ q : Nat, s.heap.size ≤ q → A q := fun q h => by rw [← hAe]; exact Or.inr h
  have hS : va_S A s.heap s.heap [] := va_S.rf
  have hl := lv_entry ([.ref q_t, .ref q_p1]) (n := 3) (Nat.le_of_ble_eq_true rfl)
  rw [lg_entry_eq]
  generalize (lg_sl ([.ref q_t, .ref q_p1]) ++ List.replicate (3 - (lg_sl ([.ref q_t, .ref q_p1])).length) Slot.unset).toArray = ls at hl ⊢
  have hl : lv_has ls 3 [(0, .ref q_t), (1, .ref q_p1)] := hl
  unfold X1_drawn at h
  obtain ⟨H, hHe⟩ : ∃ H, H = s.heap := ⟨_, rfl⟩
  obtain ⟨locs, hLe⟩ : ∃ x : List Loc, x = [] := ⟨_, rfl⟩
  rw [← hHe] at hP
  have hS : va_S A s.heap H locs := by rw [hHe, hLe]; exact hS
  suffices hW : W p l e (headSpec wsX1_drawn rm_X1_drawn).room s m ([.ref q_t, .ref q_p1] : List Value).toArray below meth c H locs 0 0 (MQ below (va_Qi (fun (r : Int32) (_ : Unit) => r = res) (bW dC dI A [(q_t, .inr (1, [.ref q_t_counts, .long r_v_t_state])), (q_p1, .inr (8, [.int v_p1_law, .int v_p1_share, .int v_p1_pot, .int v_p1_barred]))]) A) ([.ref q_t, .ref q_p1] : List Value).toArray s 0 0 A) (F0 m 0 ls []) by rw [hHe, hLe] at hW; exact hW
  refine lv_aload_n hx hb dX1_drawn_0 rfl (lv_at hl 0 rfl) ?_
  refine lv_aload_n hx hb dX1_drawn_1 rfl (lv_at hl 0 rfl) ?_
  refine va_get (D := (dC, dI)) (ci := 1) (v := .long v_t_state) (C := RX1) (T := TX1) (N := 2) hx hb hts in_X1_drawn_X1 hown hK hP 0 rfl rfl 1 (by decide) (hts (.fieldLink RX1 15 "RightIfAsMany$Evenings" "state" "J") (List.mem_of_getElem? (i := 1) rfl)) (fun _ h9 => h9) rfl dX1_drawn_2 ?_
  refine lv_ldc2 (v := (6364136223846793005 : Int64)) hx hb hown (hts (.constantLong RX1 43 (6364136223846793005)) (List.mem_of_getElem? (i := 2) rfl)) dX1_drawn_5 ?_
  refine lv_lmul hx hb dX1_drawn_8 ?_
  refine lv_ldc2 (v := (1442695040888963407 : Int64)) hx hb hown (hts (.constantLong RX1 45 (1442695040888963407)) (List.mem_of_getElem? (i := 3) rfl)) dX1_drawn_9 ?_
  refine lv_ladd hx hb dX1_drawn_12 ?_
  refine va_put (D := (dC, dI)) (ci := 1) (v := .long ((v_t_state * (6364136223846793005 : Int64)) + (1442695040888963407 : Int64))) (ty := .long) (C := RX1) (T := TX1) (N := 2) hx hb hts in_X1_drawn_X1 tyX1 tyX1_ok nmX1 hown hK hP hD hS 0 rfl rfl 1 (by decide) (hts (.fieldLink RX1 15 "RightIfAsMany$Evenings" "state" "J") (List.mem_of_getElem? (i := 1) rfl)) (fun _ h9 => h9) rfl (by decide +kernel) rfl rfl (Nat.le_of_ble_eq_true rfl) dX1_drawn_13 (fun H locs hP hD hS => ?_)
  have hP : va_P (dC, dI) vwCl [(q_t, .inr (1, [.ref q_t_counts, .long ((v_t_state * (6364136223846793005 : Int64)) + (1442695040888963407 : Int64))])), (q_p1, .inr (8, [.int v_p1_law, .int v_p1_share, .int v_p1_pot, .int v_p1_barred]))] H := hP
  have hD : va_D A [(q_t, .inr (1, [.ref q_t_counts, .long ((v_t_state * (6364136223846793005 : Int64)) + (1442695040888963407 : Int64))])), (q_p1, .inr (8, [.int v_p1_law, .int v_p1_share, .int v_p1_pot, .int v_p1_barred]))] := hD
  refine lv_bipush (v := (10 : Int32)) hx hb dX1_drawn_16 (by decide) ?_
  refine lv_aload_n hx hb dX1_drawn_18 rfl (lv_at hl 1 rfl) ?_
  refine kRi (res := (X8_barredMany v_p1_barred)) (va_runV (As := []) (rest := [.int (10 : Int32)]) ⟨hx, hb, hml, hown, hts⟩ (cn_X8_barredMany l dC dI cI cJ cZ q_p1  v_p1_law v_p1_share v_p1_pot v_p1_barred  (X8_barredMany v_p1_barred) rfl) (cwV 0 hts gX1_drawn_X8_barredMany rfl rfl rfl (by decide +kernel) ⟨Nat.le_of_ble_eq_true rfl, Nat.le_of_ble_eq_true rfl⟩) (preR hKK (hP.sub (ws' := [(q_p1, .inr (8, [.int v_p1_law, .int v_p1_share, .int v_p1_pot, .int v_p1_barred]))]) [1] rfl) (ci := 8) (q0 := 0) rfl rfl) rfl rfl hl.1 rfl (lv_room (Nat.le_of_ble_eq_true rfl)) dX1_drawn_19 ⟨Nat.zero_le _, Nat.zero_le _⟩) ?_
  refine lv_isub hx hb dX1_drawn_22 ?_
  refine lv_istore_n (lv' := [(2, .int ((10 : Int32) - (X8_barredMany v_p1_barred))), (0, .ref q_t), (1, .ref q_p1)]) hx hb dX1_drawn_23 rfl hl (by decide) rfl (fun ls hl => ?_)
  refine lv_iload_n hx hb dX1_drawn_24 rfl (lv_at hl 0 rfl) ?_
  refine lv_if_le (tgt := 45) hx hb dX1_drawn_25 (by decide) (fun c1 => ?_) (fun c1 => ?_)
  · replace h := ite_t h c1
    refine lv_bipush (v := (-9 : Int32)) hx hb dX1_drawn_45 (by decide) ?_
    replace h := Option.some.inj h
    obtain ⟨e1, e2⟩ := pr2 h
    exact W.iret (v := (-9 : Int32)) hx hb hr (fun t ht hW => ⟨⟨_, (), rfl, e1, (by rw [ht, ← e2]; exact hP), (by rw [← e2]; exact hD)⟩, hS.F ht⟩) hS.2.2 dX1_drawn_47
  replace h := ite_f h c1
  refine lv_aload_n hx hb dX1_drawn_28 rfl (lv_at hl 2 rfl) ?_
  refine lv_aload_n hx hb dX1_drawn_29 rfl (lv_at hl 1 rfl) ?_
  refine va_get (D := (dC, dI)) (ci := 1) (v := .long ((v_t_state * (6364136223846793005 : Int64)) + (1442695040888963407 : Int64))) (C := RX1) (T := TX1) (N := 2) hx hb hts in_X1_drawn_X1 hown hK hP 0 rfl rfl 1 (by decide) (hts (.fieldLink RX1 15 "RightIfAsMany$Evenings" "state" "J") (List.mem_of_getElem? (i := 1) rfl)) (fun _ h9 => h9) rfl dX1_drawn_30 ?_
  refine lv_bipush (v := (33 : Int32)) hx hb dX1_drawn_33 (by decide) ?_
  refine lv_lushr hx hb dX1_drawn_35 rfl ?_
  refine lv_l2i hx hb dX1_drawn_36 rfl ?_
  refine lv_iload_n hx hb dX1_drawn_37 rfl (lv_at hl 0 rfl) ?_
  obtain ⟨hg2, h⟩ := grd_s h
  refine lv_irem hx hb dX1_drawn_38 hg2 ?_
  obtain ⟨r3, hc3, h⟩ := bnd1_s h
  refine kRi (res := r3) (va_runV (As := [.int ((((v_t_state * (6364136223846793005 : Int64)) + (1442695040888963407 : Int64)).toUInt64 >>> ((33 : Int32).toInt64.toUInt64 &&& Int64.toUInt64 63)).toInt64.toInt32 - (((v_t_state * (6364136223846793005 : Int64)) + (1442695040888963407 : Int64)).toUInt64 >>> ((33 : Int32).toInt64.toUInt64 &&& Int64.toUInt64 63)).toInt64.toInt32 / ((10 : Int32) - (X8_barredMany v_p1_barred)) * ((10 : Int32) - (X8_barredMany v_p1_barred)))]) (rest := []) ⟨hx, hb, hml, hown, hts⟩ (cn_X8_openAt l dC dI cI cJ cZ q_p1  v_p1_law v_p1_share v_p1_pot v_p1_barred ((((v_t_state * (6364136223846793005 : Int64)) + (1442695040888963407 : Int64)).toUInt64 >>> ((33 : Int32).toInt64.toUInt64 &&& Int64.toUInt64 63)).toInt64.toInt32 - (((v_t_state * (6364136223846793005 : Int64)) + (1442695040888963407 : Int64)).toUInt64 >>> ((33 : Int32).toInt64.toUInt64 &&& Int64.toUInt64 63)).toInt64.toInt32 / ((10 : Int32) - (X8_barredMany v_p1_barred)) * ((10 : Int32) - (X8_barredMany v_p1_barred))) r3 hc3) (cwV 1 hts gX1_drawn_X8_openAt rfl rfl rfl (by decide +kernel) ⟨Nat.le_of_ble_eq_true rfl, Nat.le_of_ble_eq_true rfl⟩) (preR hKK (hP.sub (ws' := [(q_p1, .inr (8, [.int v_p1_law, .int v_p1_share, .int v_p1_pot, .int v_p1_barred]))]) [1] rfl) (ci := 8) (q0 := 0) rfl rfl) rfl rfl hl.1 rfl (lv_room (Nat.le_of_ble_eq_true rfl)) dX1_drawn_39 ⟨Nat.zero_le _, Nat.zero_le _⟩) ?_
  refine lv_goto (tgt := 47) hx hb dX1_drawn_42 (by decide) ?_
  replace h := Option.some.inj h
  obtain ⟨e1, e2⟩ := pr2 h
  exact W.iret (v := r3) hx hb hr (fun t ht hW => ⟨⟨_, (), rfl, e1, (by rw [ht, ← e2]; exact hP), (by rw [← e2]; exact hD)⟩, hS.F ht⟩) hS.2.2 dX1_drawn_47
abbrev rm_X8_weight : Room := { frames := 0, cells := 0, slots := 0, locals := 0 }
theorem in_X8_weight_X8 : ∀ w ∈ wsX80, w ∈ wsX8_weight := fun _ h => List.mem_cons_of_mem _ (List.mem_append_right _ h)
set_option maxHeartbeats 4000000 in
set_option maxRecDepth 100000 in
theorem cn_X8_weight (l : Launch) (dC : Nat → ClassId) (dI : Nat → Nat → Nat) (cI cJ cZ : ClassId) (q_t : Nat) (v_t_law : Int32) (v_t_share : Int32) (v_t_pot : Int32) (v_t_barred : Int32) (p1 : Int32) (res : Int32) (h : X8_weight v_t_share p1 = res) : Met l yX8_weight wsX8_weight rm_X8_weight (pcR dC dI cI cJ cZ [(q_t, .inr (8, [.int v_t_law, .int v_t_share, .int v_t_pot, .int v_t_barred]))] [.ref q_t, .int p1]) (vp_Si (fun r => r = res)) 0 0 (fun _ => False) := by
  refine Met.ofW (cc := cX8_weight) (maxL := 2) (ret := (some .int)) (by decide) rfl ?_
  intro p e s m args below meth c s₁ B hml hv
  obtain ⟨rfl, hP, hKK⟩ := hv
  have hx := B.exec
  have hb := B.bytes
  have hr := B.returns
  have hts := atoms_spec (ws := wsX8_weight) B.pre
  have hown : s.vm.findClass RX8 = some m.cls := findClass_of_methodNamed B.named
  have hlocks := B.notSynchronized
  have hK := hKK.1
  have hl := lv_entry ([.ref q_t, .int p1]) (n := 2) (Nat.le_of_ble_eq_true rfl)
  rw [lg_entry_eq]
  generalize (lg_sl ([.ref q_t, .int p1]) ++ List.replicate (2 - (lg_sl ([.ref q_t, .int p1])).length) Slot.unset).toArray = ls at hl ⊢
  have hl : lv_has ls 2 [(0, .ref q_t), (1, .int p1)] := hl
  unfold X8_weight at h
  refine lv_aload_n hx hb dX8_weight_0 rfl (lv_at hl 0 rfl) ?_
  refine va_get (D := (dC, dI)) (ci := 8) (v := .int v_t_share) (C := RX8) (T := TX8) (N := 4) hx hb hts in_X8_weight_X8 hown hK hP 0 rfl rfl 1 (by decide) (hts (.fieldLink RX8 15 "RightIfAsMany$Rules" "share" "I") (List.mem_of_getElem? (i := 1) rfl)) (fun _ h9 => h9) rfl dX8_weight_1 ?_
  refine lv_if_ne (tgt := 11) hx hb dX8_weight_4 (by decide) (fun c1 => ?_) (fun c1 => ?_)
  · replace h := ite_f h c1
    refine lv_iload_n hx hb dX8_weight_11 rfl (lv_at hl 1 rfl) ?_
    have e1 := h
    exact W.iret (v := p1) hx hb hr (fun t ht hW => ⟨_, rfl, e1, ht⟩) (fun q hq => by cases hq) dX8_weight_12
  replace h := ite_t h c1
  refine lv_iconst (v := (1 : Int32)) hx hb dX8_weight_7 (by decide) ?_
  refine lv_goto (tgt := 12) hx hb dX8_weight_8 (by decide) ?_
  have e1 := h
  exact W.iret (v := (1 : Int32)) hx hb hr (fun t ht hW => ⟨_, rfl, e1, ht⟩) (fun q hq => by cases hq) dX8_weight_12
abbrev rm_X8_claim : Room := { frames := 1, cells := 0, slots := 0, locals := 22 }
theorem in_X8_claim_X8 : ∀ w ∈ wsX80, w ∈ wsX8_claim := fun _ h => List.mem_cons_of_mem _ (List.mem_append_right _ h)
set_option maxHeartbeats 4000000 in
set_option maxRecDepth 100000 in
theorem cn_X8_claim (l : Launch) (dC : Nat → ClassId) (dI : Nat → Nat → Nat) (cI cJ cZ : ClassId) (q_t : Nat) (v_t_law : Int32) (v_t_share : Int32) (v_t_pot : Int32) (v_t_barred : Int32) (p1 : Int32) (p2 : Int32) (res : Int32) (h : X8_claim v_t_law v_t_share p1 p2 = res) : Met l yX8_claim wsX8_claim rm_X8_claim (pcR dC dI cI cJ cZ [(q_t, .inr (8, [.int v_t_law, .int v_t_share, .int v_t_pot, .int v_t_barred]))] [.ref q_t, .int p1, .int p2]) (vp_Si (fun r => r = res)) 0 0 (fun _ => False) := by
  refine Met.ofW (cc := cX8_claim) (maxL := 3) (ret := (some .int)) (by decide) rfl ?_
  intro p e s m args below meth c s₁ B hml hv
  obtain ⟨rfl, hP, hKK⟩ := hv
  have hx := B.exec
  have hb := B.bytes
  have hr := B.returns
  have hts := atoms_spec (ws := wsX8_claim) B.pre
  have hown : s.vm.findClass RX8 = some m.cls := findClass_of_methodNamed B.named
  have hlocks := B.notSynchronized
  have hK := hKK.1
  have hl := lv_entry ([.ref q_t, .int p1, .int p2]) (n := 3) (Nat.le_of_ble_eq_true rfl)
  rw [lg_entry_eq]
  generalize (lg_sl ([.ref q_t, .int p1, .int p2]) ++ List.replicate (3 - (lg_sl ([.ref q_t, .int p1, .int p2])).length) Slot.unset).toArray = ls at hl ⊢
  have hl : lv_has ls 3 [(0, .ref q_t), (1, .int p1), (2, .int p2)] := hl
  unfold X8_claim at h
  refine lv_aload_n hx hb dX8_claim_0 rfl (lv_at hl 0 rfl) ?_
  refine lv_iload_n hx hb dX8_claim_1 rfl (lv_at hl 1 rfl) ?_
  refine lv_iload_n hx hb dX8_claim_2 rfl (lv_at hl 2 rfl) ?_
  refine kRz (res := (X8_suits v_t_law p1 p2)) (va_runV (As := [.int p1, .int p2]) (rest := []) ⟨hx, hb, hml, hown, hts⟩ (cn_X8_suits l dC dI cI cJ cZ q_t  v_t_law v_t_share v_t_pot v_t_barred p1 p2 (X8_suits v_t_law p1 p2) rfl) (cwV 2 hts gX8_claim_X8_suits rfl rfl rfl (by decide +kernel) ⟨Nat.le_of_ble_eq_true rfl, Nat.le_of_ble_eq_true rfl⟩) (preR hKK (hP.sub (ws' := [(q_t, .inr (8, [.int v_t_law, .int v_t_share, .int v_t_pot, .int v_t_barred]))]) [0] rfl) (ci := 8) (q0 := 0) rfl rfl) rfl rfl hl.1 rfl (lv_room (Nat.le_of_ble_eq_true rfl)) dX8_claim_3 ⟨Nat.zero_le _, Nat.zero_le _⟩) (fun hz1 => ?_)
  refine lv_if_eq (tgt := 19) hx hb dX8_claim_6 (by decide) (fun c2 => ?_) (fun c2 => ?_)
  · replace h := ite_t h c2
    refine lv_iconst (v := (0 : Int32)) hx hb dX8_claim_19 (by decide) ?_
    have e1 := h
    exact W.iret (v := (0 : Int32)) hx hb hr (fun t ht hW => ⟨_, rfl, e1, ht⟩) (fun q hq => by cases hq) dX8_claim_20
  replace h := ite_f h c2
  refine lv_iload_n hx hb dX8_claim_9 rfl (lv_at hl 2 rfl) ?_
  refine lv_aload_n hx hb dX8_claim_10 rfl (lv_at hl 0 rfl) ?_
  refine lv_iload_n hx hb dX8_claim_11 rfl (lv_at hl 1 rfl) ?_
  refine kRi (res := (X8_weight v_t_share p1)) (va_runV (As := [.int p1]) (rest := [.int p2]) ⟨hx, hb, hml, hown, hts⟩ (cn_X8_weight l dC dI cI cJ cZ q_t  v_t_law v_t_share v_t_pot v_t_barred p1 (X8_weight v_t_share p1) rfl) (cwV 1 hts gX8_claim_X8_weight rfl rfl rfl (by decide +kernel) ⟨Nat.le_of_ble_eq_true rfl, Nat.le_of_ble_eq_true rfl⟩) (preR hKK (hP.sub (ws' := [(q_t, .inr (8, [.int v_t_law, .int v_t_share, .int v_t_pot, .int v_t_barred]))]) [0] rfl) (ci := 8) (q0 := 0) rfl rfl) rfl rfl hl.1 rfl (lv_room (Nat.le_of_ble_eq_true rfl)) dX8_claim_12 ⟨Nat.zero_le _, Nat.zero_le _⟩) ?_
  refine lv_imul hx hb dX8_claim_15 ?_
  refine lv_goto (tgt := 20) hx hb dX8_claim_16 (by decide) ?_
  have e1 := h
  exact W.iret (v := (p2 * (X8_weight v_t_share p1))) hx hb hr (fun t ht hW => ⟨_, rfl, e1, ht⟩) (fun q hq => by cases hq) dX8_claim_20
abbrev rm_X8_claims : Room := { frames := 2, cells := 0, slots := 0, locals := 44 }
theorem in_X8_claims_X8 : ∀ w ∈ wsX80, w ∈ wsX8_claims := fun _ h => List.mem_cons_of_mem _ (List.mem_append_right _ h)
set_option maxHeartbeats 4000000 in
set_option maxRecDepth 100000 in
theorem cn_X8_claims (l : Launch) (dC : Nat → ClassId) (dI : Nat → Nat → Nat) (cI cJ cZ : ClassId) (q_t q_p1 : Nat) (v_t_law : Int32) (v_t_share : Int32) (v_t_pot : Int32) (v_t_barred : Int32) (f_p1 : (Nat → Int32)) (res : Int32) (h : X8_claims v_t_law v_t_share f_p1 = some res) : Met l yX8_claims wsX8_claims rm_X8_claims (pcR dC dI cI cJ cZ [(q_t, .inr (8, [.int v_t_law, .int v_t_share, .int v_t_pot, .int v_t_barred])), (q_p1, .inl (cI, 10, .inl f_p1))] [.ref q_t, .ref q_p1]) (vp_Si (fun r => r = res)) 0 0 (fun _ => False) := by
  refine Met.ofW (cc := cX8_claims) (maxL := 4) (ret := (some .int)) (by decide) rfl ?_
  intro p e s m args below meth c s₁ B hml hv
  obtain ⟨rfl, hP, hKK⟩ := hv
  have hx := B.exec
  have hb := B.bytes
  have hr := B.returns
  have hts := atoms_spec (ws := wsX8_claims) B.pre
  have hown : s.vm.findClass RX8 = some m.cls := findClass_of_methodNamed B.named
  have hlocks := B.notSynchronized
  have hK := hKK.1
  have hl := lv_entry ([.ref q_t, .ref q_p1]) (n := 4) (Nat.le_of_ble_eq_true rfl)
  rw [lg_entry_eq]
  generalize (lg_sl ([.ref q_t, .ref q_p1]) ++ List.replicate (4 - (lg_sl ([.ref q_t, .ref q_p1])).length) Slot.unset).toArray = ls at hl ⊢
  have hl : lv_has ls 4 [(0, .ref q_t), (1, .ref q_p1)] := hl
  have L_4 : ∀ (n4 : Nat) , ∀  (x2 : Int32) (x3 : Int32), X8_claims_b4 n4 v_t_law v_t_share f_p1 x2 x3 = some res → ∀ (ls : Array Slot), lv_has ls 4 [(0, .ref q_t), (1, .ref q_p1), (2, .int x2), (3, .int x3)] → W p l e (headSpec wsX8_claims rm_X8_claims).room s m ([.ref q_t, .ref q_p1] : List Value).toArray below meth c s.heap [] 0 0 (MQ below (vp_Si (fun r => r = res)) ([.ref q_t, .ref q_p1] : List Value).toArray s 0 0 (fun _ => False)) (F0 m 4 ls []) := by
    intro n4
    induction n4 with
    | zero => intro x2 x3 h ls hl; exact absurd h (fun h => by cases h)
    | succ n4 ih_4 =>
      intro x2 x3 h ls hl
      replace h : X8_claims_b4_s (X8_claims_b4 n4) v_t_law v_t_share f_p1 x2 x3 = some res := h
      unfold X8_claims_b4_s at h
      refine lv_iload_n hx hb dX8_claims_4 rfl (lv_at hl 3 rfl) ?_
      refine lv_bipush (v := (10 : Int32)) hx hb dX8_claims_5 (by decide) ?_
      refine lv_icmp_ge (tgt := 33) hx hb dX8_claims_7 (by decide) (fun c1 => ?_) (fun c1 => ?_)
      · replace h := ite_t h c1
        refine lv_iload_n hx hb dX8_claims_33 rfl (lv_at hl 2 rfl) ?_
        have e1 := Option.some.inj h
        exact W.iret (v := x2) hx hb hr (fun t ht hW => ⟨_, rfl, e1, ht⟩) (fun q hq => by cases hq) dX8_claims_34
      replace h := ite_f h c1
      refine lv_iload_n hx hb dX8_claims_10 rfl (lv_at hl 3 rfl) ?_
      refine lv_aload_n hx hb dX8_claims_11 rfl (lv_at hl 1 rfl) ?_
      refine va_alen (v := (10 : Int32)) hx hb hK hP 1 0 rfl rfl (show Int32.ofNat 10 = 10 by decide) dX8_claims_12 ?_
      refine lv_icmp_ge (tgt := 33) hx hb dX8_claims_13 (by decide) (fun c2 => ?_) (fun c2 => ?_)
      · replace h := ite_t h c2
        refine lv_iload_n hx hb dX8_claims_33 rfl (lv_at hl 2 rfl) ?_
        have e1 := Option.some.inj h
        exact W.iret (v := x2) hx hb hr (fun t ht hW => ⟨_, rfl, e1, ht⟩) (fun q hq => by cases hq) dX8_claims_34
      replace h := ite_f h c2
      refine lv_iload_n hx hb dX8_claims_16 rfl (lv_at hl 2 rfl) ?_
      refine lv_aload_n hx hb dX8_claims_17 rfl (lv_at hl 0 rfl) ?_
      refine lv_iload_n hx hb dX8_claims_18 rfl (lv_at hl 3 rfl) ?_
      refine lv_aload_n hx hb dX8_claims_19 rfl (lv_at hl 1 rfl) ?_
      refine lv_iload_n hx hb dX8_claims_20 rfl (lv_at hl 3 rfl) ?_
      obtain ⟨hg3, h⟩ := grd_s h
      refine va_iald hx hb hK hP 1 0 rfl rfl hg3 dX8_claims_21 ?_
      refine kRi (res := (X8_claim v_t_law v_t_share x3 (f_p1 x3.toNatClampNeg))) (va_runV (As := [.int x3, .int (f_p1 x3.toNatClampNeg)]) (rest := [.int x2]) ⟨hx, hb, hml, hown, hts⟩ (cn_X8_claim l dC dI cI cJ cZ q_t  v_t_law v_t_share v_t_pot v_t_barred x3 (f_p1 x3.toNatClampNeg) (X8_claim v_t_law v_t_share x3 (f_p1 x3.toNatClampNeg)) rfl) (cwV 2 hts gX8_claims_X8_claim rfl rfl rfl (by decide +kernel) ⟨Nat.le_of_ble_eq_true rfl, Nat.le_of_ble_eq_true rfl⟩) (preR hKK (hP.sub (ws' := [(q_t, .inr (8, [.int v_t_law, .int v_t_share, .int v_t_pot, .int v_t_barred]))]) [0] rfl) (ci := 8) (q0 := 0) rfl rfl) rfl rfl hl.1 rfl (lv_room (Nat.le_of_ble_eq_true rfl)) dX8_claims_22 ⟨Nat.zero_le _, Nat.zero_le _⟩) ?_
      refine lv_iadd hx hb dX8_claims_25 ?_
      refine lv_istore_n (lv' := [(2, .int (x2 + (X8_claim v_t_law v_t_share x3 (f_p1 x3.toNatClampNeg)))), (0, .ref q_t), (1, .ref q_p1), (3, .int x3)]) hx hb dX8_claims_26 rfl hl (by decide) rfl (fun ls hl => ?_)
      refine lv_iinc (v := (x3 + (1 : Int32))) (lv' := [(3, .int (x3 + (1 : Int32))), (2, .int (x2 + (X8_claim v_t_law v_t_share x3 (f_p1 x3.toNatClampNeg)))), (0, .ref q_t), (1, .ref q_p1)]) hx hb dX8_claims_27 hl (k := 3) rfl rfl (by decide) rfl (fun ls hl => ?_)
      refine lv_goto (tgt := 4) hx hb dX8_claims_30 (by decide) ?_
      exact ih_4 (x2 + (X8_claim v_t_law v_t_share x3 (f_p1 x3.toNatClampNeg))) (x3 + (1 : Int32)) h ls (lv_sub hl [2, 3, 1, 0] rfl)
  unfold X8_claims at h
  refine lv_iconst (v := (0 : Int32)) hx hb dX8_claims_0 (by decide) ?_
  refine lv_istore_n (lv' := [(2, .int (0 : Int32)), (0, .ref q_t), (1, .ref q_p1)]) hx hb dX8_claims_1 rfl hl (by decide) rfl (fun ls hl => ?_)
  refine lv_iconst (v := (0 : Int32)) hx hb dX8_claims_2 (by decide) ?_
  refine lv_istore_n (lv' := [(3, .int (0 : Int32)), (2, .int (0 : Int32)), (0, .ref q_t), (1, .ref q_p1)]) hx hb dX8_claims_3 rfl hl (by decide) rfl (fun ls hl => ?_)
  exact L_4 fU (0 : Int32) (0 : Int32) h ls (lv_sub hl [2, 3, 1, 0] rfl)
abbrev rm_X8_gain : Room := { frames := 1, cells := 0, slots := 0, locals := 22 }
theorem in_X8_gain_X8 : ∀ w ∈ wsX80, w ∈ wsX8_gain := fun _ h => List.mem_cons_of_mem _ (List.mem_append_right _ h)
set_option maxHeartbeats 4000000 in
set_option maxRecDepth 100000 in
theorem cn_X8_gain (l : Launch) (dC : Nat → ClassId) (dI : Nat → Nat → Nat) (cI cJ cZ : ClassId) (q_t : Nat) (v_t_law : Int32) (v_t_share : Int32) (v_t_pot : Int32) (v_t_barred : Int32) (p1 : Int32) (p2 : Int32) (p3 : Int32) (res : Int32) (h : X8_gain v_t_law v_t_share v_t_pot p1 p2 p3 = some res) : Met l yX8_gain wsX8_gain rm_X8_gain (pcR dC dI cI cJ cZ [(q_t, .inr (8, [.int v_t_law, .int v_t_share, .int v_t_pot, .int v_t_barred]))] [.ref q_t, .int p1, .int p2, .int p3]) (vp_Si (fun r => r = res)) 0 0 (fun _ => False) := by
  refine Met.ofW (cc := cX8_gain) (maxL := 4) (ret := (some .int)) (by decide) rfl ?_
  intro p e s m args below meth c s₁ B hml hv
  obtain ⟨rfl, hP, hKK⟩ := hv
  have hx := B.exec
  have hb := B.bytes
  have hr := B.returns
  have hts := atoms_spec (ws := wsX8_gain) B.pre
  have hown : s.vm.findClass RX8 = some m.cls := findClass_of_methodNamed B.named
  have hlocks := B.notSynchronized
  have hK := hKK.1
  have hl := lv_entry ([.ref q_t, .int p1, .int p2, .int p3]) (n := 4) (Nat.le_of_ble_eq_true rfl)
  rw [lg_entry_eq]
  generalize (lg_sl ([.ref q_t, .int p1, .int p2, .int p3]) ++ List.replicate (4 - (lg_sl ([.ref q_t, .int p1, .int p2, .int p3])).length) Slot.unset).toArray = ls at hl ⊢
  have hl : lv_has ls 4 [(0, .ref q_t), (1, .int p1), (2, .int p2), (3, .int p3)] := hl
  unfold X8_gain at h
  refine lv_iload_n hx hb dX8_gain_0 rfl (lv_at hl 3 rfl) ?_
  refine lv_if_le (tgt := 28) hx hb dX8_gain_1 (by decide) (fun c1 => ?_) (fun c1 => ?_)
  · replace h := ite_t h c1
    refine lv_iconst (v := (0 : Int32)) hx hb dX8_gain_28 (by decide) ?_
    have e1 := Option.some.inj h
    exact W.iret (v := (0 : Int32)) hx hb hr (fun t ht hW => ⟨_, rfl, e1, ht⟩) (fun q hq => by cases hq) dX8_gain_29
  replace h := ite_f h c1
  refine lv_aload_n hx hb dX8_gain_4 rfl (lv_at hl 0 rfl) ?_
  refine lv_iload_n hx hb dX8_gain_5 rfl (lv_at hl 1 rfl) ?_
  refine lv_iload_n hx hb dX8_gain_6 rfl (lv_at hl 2 rfl) ?_
  refine kRz (res := (X8_suits v_t_law p1 p2)) (va_runV (As := [.int p1, .int p2]) (rest := []) ⟨hx, hb, hml, hown, hts⟩ (cn_X8_suits l dC dI cI cJ cZ q_t  v_t_law v_t_share v_t_pot v_t_barred p1 p2 (X8_suits v_t_law p1 p2) rfl) (cwV 2 hts gX8_gain_X8_suits rfl rfl rfl (by decide +kernel) ⟨Nat.le_of_ble_eq_true rfl, Nat.le_of_ble_eq_true rfl⟩) (preR hKK (hP.sub (ws' := [(q_t, .inr (8, [.int v_t_law, .int v_t_share, .int v_t_pot, .int v_t_barred]))]) [0] rfl) (ci := 8) (q0 := 0) rfl rfl) rfl rfl hl.1 rfl (lv_room (Nat.le_of_ble_eq_true rfl)) dX8_gain_7 ⟨Nat.zero_le _, Nat.zero_le _⟩) (fun hz2 => ?_)
  refine lv_if_eq (tgt := 28) hx hb dX8_gain_10 (by decide) (fun c3 => ?_) (fun c3 => ?_)
  · replace h := ite_t h c3
    refine lv_iconst (v := (0 : Int32)) hx hb dX8_gain_28 (by decide) ?_
    have e1 := Option.some.inj h
    exact W.iret (v := (0 : Int32)) hx hb hr (fun t ht hW => ⟨_, rfl, e1, ht⟩) (fun q hq => by cases hq) dX8_gain_29
  replace h := ite_f h c3
  refine lv_aload_n hx hb dX8_gain_13 rfl (lv_at hl 0 rfl) ?_
  refine va_get (D := (dC, dI)) (ci := 8) (v := .int v_t_pot) (C := RX8) (T := TX8) (N := 4) hx hb hts in_X8_gain_X8 hown hK hP 0 rfl rfl 2 (by decide) (hts (.fieldLink RX8 18 "RightIfAsMany$Rules" "pot" "I") (List.mem_of_getElem? (i := 1) rfl)) (fun _ h9 => h9) rfl dX8_gain_14 ?_
  refine lv_aload_n hx hb dX8_gain_17 rfl (lv_at hl 0 rfl) ?_
  refine lv_iload_n hx hb dX8_gain_18 rfl (lv_at hl 1 rfl) ?_
  refine kRi (res := (X8_weight v_t_share p1)) (va_runV (As := [.int p1]) (rest := [.int v_t_pot]) ⟨hx, hb, hml, hown, hts⟩ (cn_X8_weight l dC dI cI cJ cZ q_t  v_t_law v_t_share v_t_pot v_t_barred p1 (X8_weight v_t_share p1) rfl) (cwV 1 hts gX8_gain_X8_weight rfl rfl rfl (by decide +kernel) ⟨Nat.le_of_ble_eq_true rfl, Nat.le_of_ble_eq_true rfl⟩) (preR hKK (hP.sub (ws' := [(q_t, .inr (8, [.int v_t_law, .int v_t_share, .int v_t_pot, .int v_t_barred]))]) [0] rfl) (ci := 8) (q0 := 0) rfl rfl) rfl rfl hl.1 rfl (lv_room (Nat.le_of_ble_eq_true rfl)) dX8_gain_19 ⟨Nat.zero_le _, Nat.zero_le _⟩) ?_
  refine lv_imul hx hb dX8_gain_22 ?_
  refine lv_iload_n hx hb dX8_gain_23 rfl (lv_at hl 3 rfl) ?_
  obtain ⟨hg4, h⟩ := grd_s h
  refine lv_idiv hx hb dX8_gain_24 hg4 ?_
  refine lv_goto (tgt := 29) hx hb dX8_gain_25 (by decide) ?_
  have e1 := Option.some.inj h
  exact W.iret (v := ((v_t_pot * (X8_weight v_t_share p1)) / p3)) hx hb hr (fun t ht hW => ⟨_, rfl, e1, ht⟩) (fun q hq => by cases hq) dX8_gain_29
abbrev rm_X1_gain : Room := { frames := 4, cells := 0, slots := 0, locals := 86 }
theorem in_X1_gain_X8 : ∀ w ∈ wsX80, w ∈ wsX1_gain := fun _ h => List.mem_cons_of_mem _ (List.mem_append_right _ h)
theorem in_X1_gain_X1 : ∀ w ∈ wsX10, w ∈ wsX1_gain := fun _ h => List.mem_cons_of_mem _ (List.mem_append_left _ (List.mem_append_right _ h))
set_option maxHeartbeats 4000000 in
set_option maxRecDepth 100000 in
theorem cn_X1_gain (l : Launch) (dC : Nat → ClassId) (dI : Nat → Nat → Nat) (cI cJ cZ : ClassId) (q_t q_p1 q_t_counts : Nat) (sz : Nat) (v_t_state : Int64) (f_t_counts : (Nat → Int32)) (v_p1_law : Int32) (v_p1_share : Int32) (v_p1_pot : Int32) (v_p1_barred : Int32) (p2 : Int32) (p3 : Int32) (res : Int32) (r_v_t_state : Int64) (r_f_t_counts : (Nat → Int32)) (h : X1_gain v_t_state f_t_counts v_p1_law v_p1_share v_p1_pot v_p1_barred p2 p3 = some (res, r_v_t_state, r_f_t_counts)) : Met l yX1_gain wsX1_gain rm_X1_gain (pcW dC dI cI cJ cZ [(q_t, .inr (1, [.ref q_t_counts, .long v_t_state])), (q_t_counts, .inl (cI, 10, .inl f_t_counts)), (q_p1, .inr (8, [.int v_p1_law, .int v_p1_share, .int v_p1_pot, .int v_p1_barred]))] sz [.ref q_t, .ref q_p1, .int p2, .int p3]) (va_Qi (fun (r : Int32) (_ : Unit) => r = res) (bW dC dI (va_A [(q_t, .inr (1, [.ref q_t_counts, .long v_t_state])), (q_t_counts, .inl (cI, 10, .inl f_t_counts)), (q_p1, .inr (8, [.int v_p1_law, .int v_p1_share, .int v_p1_pot, .int v_p1_barred]))] sz) [(q_t, .inr (1, [.ref q_t_counts, .long r_v_t_state])), (q_t_counts, .inl (cI, 10, .inl r_f_t_counts)), (q_p1, .inr (8, [.int v_p1_law, .int v_p1_share, .int v_p1_pot, .int v_p1_barred]))]) (va_A [(q_t, .inr (1, [.ref q_t_counts, .long v_t_state])), (q_t_counts, .inl (cI, 10, .inl f_t_counts)), (q_p1, .inr (8, [.int v_p1_law, .int v_p1_share, .int v_p1_pot, .int v_p1_barred]))] sz)) 0 0 (va_A [(q_t, .inr (1, [.ref q_t_counts, .long v_t_state])), (q_t_counts, .inl (cI, 10, .inl f_t_counts)), (q_p1, .inr (8, [.int v_p1_law, .int v_p1_share, .int v_p1_pot, .int v_p1_barred]))] sz) := by
  refine Met.ofW (cc := cX1_gain) (maxL := 7) (ret := (some .int)) (by decide) rfl ?_
  intro p e s m args below meth c s₁ B hml hv
  obtain ⟨rfl, hsz, hP, hKK, hD0⟩ := hv
  have hx := B.exec
  have hb := B.bytes
  have hr := B.returns
  have hts := atoms_spec (ws := wsX1_gain) B.pre
  have hown : s.vm.findClass RX1 = some m.cls := findClass_of_methodNamed B.named
  have hlocks := B.notSynchronized
  have hK := hKK.1
  subst hsz
  have hD := hD0.self (sz := s.heap.size)
  generalize hAe : va_A [(q_t, .inr (1, [.ref q_t_counts, .long v_t_state])), (q_t_counts, .inl (cI, 10, .inl f_t_counts)), (q_p1, .inr (8, [.int v_p1_law, .int v_p1_share, .int v_p1_pot, .int v_p1_barred]))] s.heap.size = A at hD ⊢
  have hA : ∀ q : Nat, s.heap.size ≤ q → A q := fun q h => by rw [← hAe]; exact Or.inr h
  have hS : va_S A s.heap s.heap [] := va_S.rf
  have hl := lv_entry ([.ref q_t, .ref q_p1, .int p2, .int p3]) (n := 7) (Nat.le_of_ble_eq_true rfl)
  rw [lg_entry_eq]
  generalize (lg_sl ([.ref q_t, .ref q_p1, .int p2, .int p3]) ++ List.replicate (7 - (lg_sl ([.ref q_t, .ref q_p1, .int p2, .int p3])).length) Slot.unset).toArray = ls at hl ⊢
  have hl : lv_has ls 7 [(0, .ref q_t), (1, .ref q_p1), (2, .int p2), (3, .int p3)] := hl
  have B_63 : ∀ (v_t_state : Int64) (f_t_counts : (Nat → Int32)) (x4 : Int32), X1_gain_b63 v_t_state f_t_counts v_p1_law v_p1_share v_p1_pot v_p1_barred x4 = some (res, r_v_t_state, r_f_t_counts) → ∀ (H : Heap) (locs : List Loc) (ls : Array Slot), va_P (dC, dI) vwCl [(q_t, .inr (1, [.ref q_t_counts, .long v_t_state])), (q_t_counts, .inl (cI, 10, .inl f_t_counts)), (q_p1, .inr (8, [.int v_p1_law, .int v_p1_share, .int v_p1_pot, .int v_p1_barred]))] H → va_D A [(q_t, .inr (1, [.ref q_t_counts, .long v_t_state])), (q_t_counts, .inl (cI, 10, .inl f_t_counts)), (q_p1, .inr (8, [.int v_p1_law, .int v_p1_share, .int v_p1_pot, .int v_p1_barred]))] → va_S A s.heap H locs → lv_has ls 7 [(0, .ref q_t), (1, .ref q_p1), (4, .int x4)] → W p l e (headSpec wsX1_gain rm_X1_gain).room s m ([.ref q_t, .ref q_p1, .int p2, .int p3] : List Value).toArray below meth c H locs 0 0 (MQ below (va_Qi (fun (r : Int32) (_ : Unit) => r = res) (bW dC dI A [(q_t, .inr (1, [.ref q_t_counts, .long r_v_t_state])), (q_t_counts, .inl (cI, 10, .inl r_f_t_counts)), (q_p1, .inr (8, [.int v_p1_law, .int v_p1_share, .int v_p1_pot, .int v_p1_barred]))]) A) ([.ref q_t, .ref q_p1, .int p2, .int p3] : List Value).toArray s 0 0 A) (F0 m 63 ls []) := by
    intro v_t_state f_t_counts x4 h H locs ls hP hD hS hl
    unfold X1_gain_b63 at h
    refine lv_iload hx hb dX1_gain_63 (lv_at hl 2 rfl) ?_
    refine kRz (res := (X10_isNumber x4)) (va_runSN (As := [.int x4]) (rest := []) ⟨hx, hb, hml, hown, hts⟩ (cn_X10_isNumber l dC dI cI cJ cZ    x4 (X10_isNumber x4) rfl) ⟨va_cnB 1 hts gX1_gain_X10_isNumber_n29 rfl rfl rfl (hKK.nw 22 rfl) (hts (.initialized RX10) (List.mem_of_getElem? (i := 36) rfl)) (by decide +kernel) ⟨Nat.le_of_ble_eq_true rfl, Nat.le_of_ble_eq_true rfl⟩, hts (.static yX10_isNumber) (List.mem_of_getElem? (i := 35) rfl), trivial⟩ (preRS hKK (hP.sub (ws' := []) [] rfl)) rfl rfl hl.1 rfl (lv_room (Nat.le_of_ble_eq_true rfl)) dX1_gain_65 ⟨Nat.zero_le _, Nat.zero_le _⟩) (fun hz2 => ?_)
    refine lv_if_eq (tgt := 95) hx hb dX1_gain_68 (by decide) (fun c3 => ?_) (fun c3 => ?_)
    · replace h := ite_t h c3
      refine lv_iconst (v := (0 : Int32)) hx hb dX1_gain_95 (by decide) ?_
      replace h := Option.some.inj h
      obtain ⟨e1, e2, e3⟩ := pr3 h
      exact W.iret (v := (0 : Int32)) hx hb hr (fun t ht hW => ⟨⟨_, (), rfl, e1, (by rw [ht, ← e2, ← e3]; exact hP), (by rw [← e2, ← e3]; exact hD)⟩, hS.F ht⟩) hS.2.2 dX1_gain_96
    replace h := ite_f h c3
    refine lv_aload_n hx hb dX1_gain_71 rfl (lv_at hl 1 rfl) ?_
    refine lv_iload hx hb dX1_gain_72 (lv_at hl 2 rfl) ?_
    refine lv_aload_n hx hb dX1_gain_74 rfl (lv_at hl 0 rfl) ?_
    refine va_get (D := (dC, dI)) (ci := 1) (v := .ref q_t_counts) (C := RX1) (T := TX1) (N := 2) hx hb hts in_X1_gain_X1 hown hK hP 0 rfl rfl 0 (by decide) (hts (.fieldLink RX1 9 "RightIfAsMany$Evenings" "counts" "[I") (List.mem_of_getElem? (i := 1) rfl)) (fun _ h9 => h9) rfl dX1_gain_75 ?_
    refine lv_iload hx hb dX1_gain_78 (lv_at hl 2 rfl) ?_
    obtain ⟨hg4, h⟩ := grd_s h
    refine va_iald hx hb hK hP 1 0 rfl rfl hg4 dX1_gain_80 ?_
    refine lv_aload_n hx hb dX1_gain_81 rfl (lv_at hl 1 rfl) ?_
    refine lv_aload_n hx hb dX1_gain_82 rfl (lv_at hl 0 rfl) ?_
    refine va_get (D := (dC, dI)) (ci := 1) (v := .ref q_t_counts) (C := RX1) (T := TX1) (N := 2) hx hb hts in_X1_gain_X1 hown hK hP 0 rfl rfl 0 (by decide) (hts (.fieldLink RX1 9 "RightIfAsMany$Evenings" "counts" "[I") (List.mem_of_getElem? (i := 1) rfl)) (fun _ h9 => h9) rfl dX1_gain_83 ?_
    obtain ⟨r5, hc5, h⟩ := bnd1_s h
    refine kRi (res := r5) (va_runV (As := [.ref q_t_counts]) (rest := [.int (f_t_counts x4.toNatClampNeg), .int x4, .ref q_p1]) ⟨hx, hb, hml, hown, hts⟩ (cn_X8_claims l dC dI cI cJ cZ q_p1 q_t_counts  v_p1_law v_p1_share v_p1_pot v_p1_barred f_t_counts  r5 hc5) (cwV 1 hts gX1_gain_X8_claims rfl rfl rfl (by decide +kernel) ⟨Nat.le_of_ble_eq_true rfl, Nat.le_of_ble_eq_true rfl⟩) (preR hKK (hP.sub (ws' := [(q_p1, .inr (8, [.int v_p1_law, .int v_p1_share, .int v_p1_pot, .int v_p1_barred])), (q_t_counts, .inl (cI, 10, .inl f_t_counts))]) [2, 1] rfl) (ci := 8) (q0 := 0) rfl rfl) rfl rfl hl.1 rfl (lv_room (Nat.le_of_ble_eq_true rfl)) dX1_gain_86 ⟨Nat.zero_le _, Nat.zero_le _⟩) ?_
    obtain ⟨r6, hc6, h⟩ := bnd1_s h
    refine kRi (res := r6) (va_runV (As := [.int x4, .int (f_t_counts x4.toNatClampNeg), .int r5]) (rest := []) ⟨hx, hb, hml, hown, hts⟩ (cn_X8_gain l dC dI cI cJ cZ q_p1  v_p1_law v_p1_share v_p1_pot v_p1_barred x4 (f_t_counts x4.toNatClampNeg) r5 r6 hc6) (cwV 3 hts gX1_gain_X8_gain rfl rfl rfl (by decide +kernel) ⟨Nat.le_of_ble_eq_true rfl, Nat.le_of_ble_eq_true rfl⟩) (preR hKK (hP.sub (ws' := [(q_p1, .inr (8, [.int v_p1_law, .int v_p1_share, .int v_p1_pot, .int v_p1_barred]))]) [2] rfl) (ci := 8) (q0 := 0) rfl rfl) rfl rfl hl.1 rfl (lv_room (Nat.le_of_ble_eq_true rfl)) dX1_gain_89 ⟨Nat.zero_le _, Nat.zero_le _⟩) ?_
    refine lv_goto (tgt := 96) hx hb dX1_gain_92 (by decide) ?_
    replace h := Option.some.inj h
    obtain ⟨e1, e2, e3⟩ := pr3 h
    exact W.iret (v := r6) hx hb hr (fun t ht hW => ⟨⟨_, (), rfl, e1, (by rw [ht, ← e2, ← e3]; exact hP), (by rw [← e2, ← e3]; exact hD)⟩, hS.F ht⟩) hS.2.2 dX1_gain_96
  have L_15 : ∀ (n15 : Nat) , ∀ (v_t_state : Int64) (f_t_counts : (Nat → Int32)) (x2 : Int32) (x3 : Int32) (x4 : Int32) (x5 : Int32), X1_gain_b15 n15 v_t_state f_t_counts v_p1_law v_p1_share v_p1_pot v_p1_barred x2 x3 x4 x5 = some (res, r_v_t_state, r_f_t_counts) → ∀ (H : Heap) (locs : List Loc) (ls : Array Slot), va_P (dC, dI) vwCl [(q_t, .inr (1, [.ref q_t_counts, .long v_t_state])), (q_t_counts, .inl (cI, 10, .inl f_t_counts)), (q_p1, .inr (8, [.int v_p1_law, .int v_p1_share, .int v_p1_pot, .int v_p1_barred]))] H → va_D A [(q_t, .inr (1, [.ref q_t_counts, .long v_t_state])), (q_t_counts, .inl (cI, 10, .inl f_t_counts)), (q_p1, .inr (8, [.int v_p1_law, .int v_p1_share, .int v_p1_pot, .int v_p1_barred]))] → va_S A s.heap H locs → lv_has ls 7 [(0, .ref q_t), (1, .ref q_p1), (2, .int x2), (3, .int x3), (4, .int x4), (5, .int x5)] → W p l e (headSpec wsX1_gain rm_X1_gain).room s m ([.ref q_t, .ref q_p1, .int p2, .int p3] : List Value).toArray below meth c H locs 0 0 (MQ below (va_Qi (fun (r : Int32) (_ : Unit) => r = res) (bW dC dI A [(q_t, .inr (1, [.ref q_t_counts, .long r_v_t_state])), (q_t_counts, .inl (cI, 10, .inl r_f_t_counts)), (q_p1, .inr (8, [.int v_p1_law, .int v_p1_share, .int v_p1_pot, .int v_p1_barred]))]) A) ([.ref q_t, .ref q_p1, .int p2, .int p3] : List Value).toArray s 0 0 A) (F0 m 15 ls []) := by
    intro n15
    induction n15 with
    | zero => intro v_t_state f_t_counts x2 x3 x4 x5 h H locs ls hP hD hS hl; exact absurd h (fun h => by cases h)
    | succ n15 ih_15 =>
      have B_57 : ∀ (v_t_state : Int64) (f_t_counts : (Nat → Int32)) (x2 : Int32) (x3 : Int32) (x4 : Int32) (x5 : Int32), X1_gain_b57 (X1_gain_b15 n15) v_t_state f_t_counts v_p1_law v_p1_share v_p1_pot v_p1_barred x2 x3 x4 x5 = some (res, r_v_t_state, r_f_t_counts) → ∀ (H : Heap) (locs : List Loc) (ls : Array Slot), va_P (dC, dI) vwCl [(q_t, .inr (1, [.ref q_t_counts, .long v_t_state])), (q_t_counts, .inl (cI, 10, .inl f_t_counts)), (q_p1, .inr (8, [.int v_p1_law, .int v_p1_share, .int v_p1_pot, .int v_p1_barred]))] H → va_D A [(q_t, .inr (1, [.ref q_t_counts, .long v_t_state])), (q_t_counts, .inl (cI, 10, .inl f_t_counts)), (q_p1, .inr (8, [.int v_p1_law, .int v_p1_share, .int v_p1_pot, .int v_p1_barred]))] → va_S A s.heap H locs → lv_has ls 7 [(0, .ref q_t), (1, .ref q_p1), (2, .int x2), (3, .int x3), (4, .int x4), (5, .int x5)] → W p l e (headSpec wsX1_gain rm_X1_gain).room s m ([.ref q_t, .ref q_p1, .int p2, .int p3] : List Value).toArray below meth c H locs 0 0 (MQ below (va_Qi (fun (r : Int32) (_ : Unit) => r = res) (bW dC dI A [(q_t, .inr (1, [.ref q_t_counts, .long r_v_t_state])), (q_t_counts, .inl (cI, 10, .inl r_f_t_counts)), (q_p1, .inr (8, [.int v_p1_law, .int v_p1_share, .int v_p1_pot, .int v_p1_barred]))]) A) ([.ref q_t, .ref q_p1, .int p2, .int p3] : List Value).toArray s 0 0 A) (F0 m 57 ls []) := by
        intro v_t_state f_t_counts x2 x3 x4 x5 h H locs ls hP hD hS hl
        unfold X1_gain_b57 at h
        refine lv_iinc (v := (x5 + (1 : Int32))) (lv' := [(5, .int (x5 + (1 : Int32))), (0, .ref q_t), (1, .ref q_p1), (2, .int x2), (3, .int x3), (4, .int x4)]) hx hb dX1_gain_57 hl (k := 5) rfl rfl (by decide) rfl (fun ls hl => ?_)
        refine lv_goto (tgt := 15) hx hb dX1_gain_60 (by decide) ?_
        exact ih_15 v_t_state f_t_counts x2 x3 x4 (x5 + (1 : Int32)) h H locs ls hP hD hS (lv_sub hl [1, 2, 3, 4, 5, 0] rfl)
      have B_47 : ∀ (v_t_state : Int64) (f_t_counts : (Nat → Int32)) (x2 : Int32) (x3 : Int32) (x4 : Int32) (x5 : Int32) (x6 : Int32), X1_gain_b47 (X1_gain_b15 n15) v_t_state f_t_counts v_p1_law v_p1_share v_p1_pot v_p1_barred x2 x3 x4 x5 x6 = some (res, r_v_t_state, r_f_t_counts) → ∀ (H : Heap) (locs : List Loc) (ls : Array Slot), va_P (dC, dI) vwCl [(q_t, .inr (1, [.ref q_t_counts, .long v_t_state])), (q_t_counts, .inl (cI, 10, .inl f_t_counts)), (q_p1, .inr (8, [.int v_p1_law, .int v_p1_share, .int v_p1_pot, .int v_p1_barred]))] H → va_D A [(q_t, .inr (1, [.ref q_t_counts, .long v_t_state])), (q_t_counts, .inl (cI, 10, .inl f_t_counts)), (q_p1, .inr (8, [.int v_p1_law, .int v_p1_share, .int v_p1_pot, .int v_p1_barred]))] → va_S A s.heap H locs → lv_has ls 7 [(0, .ref q_t), (1, .ref q_p1), (2, .int x2), (3, .int x3), (4, .int x4), (5, .int x5), (6, .int x6)] → W p l e (headSpec wsX1_gain rm_X1_gain).room s m ([.ref q_t, .ref q_p1, .int p2, .int p3] : List Value).toArray below meth c H locs 0 0 (MQ below (va_Qi (fun (r : Int32) (_ : Unit) => r = res) (bW dC dI A [(q_t, .inr (1, [.ref q_t_counts, .long r_v_t_state])), (q_t_counts, .inl (cI, 10, .inl r_f_t_counts)), (q_p1, .inr (8, [.int v_p1_law, .int v_p1_share, .int v_p1_pot, .int v_p1_barred]))]) A) ([.ref q_t, .ref q_p1, .int p2, .int p3] : List Value).toArray s 0 0 A) (F0 m 47 ls []) := by
        intro v_t_state f_t_counts x2 x3 x4 x5 x6 h H locs ls hP hD hS hl
        unfold X1_gain_b47 at h
        refine lv_iload hx hb dX1_gain_47 (lv_at hl 5 rfl) ?_
        refine lv_iload_n hx hb dX1_gain_49 rfl (lv_at hl 2 rfl) ?_
        refine lv_icmp_ne (tgt := 57) hx hb dX1_gain_50 (by decide) (fun c1 => ?_) (fun c1 => ?_)
        · replace h := ite_f h c1
          exact B_57 v_t_state f_t_counts x2 x3 x4 x5 h H locs ls hP hD hS (lv_sub hl [0, 1, 2, 3, 4, 5] rfl)
        replace h := ite_t h c1
        refine lv_iload hx hb dX1_gain_53 (lv_at hl 6 rfl) ?_
        refine lv_istore (lv' := [(4, .int x6), (0, .ref q_t), (1, .ref q_p1), (2, .int x2), (3, .int x3), (5, .int x5), (6, .int x6)]) hx hb dX1_gain_55 hl (by decide) rfl (fun ls hl => ?_)
        exact B_57 v_t_state f_t_counts x2 x3 x6 x5 h H locs ls hP hD hS (lv_sub hl [1, 2, 3, 4, 0, 5] rfl)
      intro v_t_state f_t_counts x2 x3 x4 x5 h H locs ls hP hD hS hl
      replace h : X1_gain_b15_s (X1_gain_b15 n15) v_t_state f_t_counts v_p1_law v_p1_share v_p1_pot v_p1_barred x2 x3 x4 x5 = some (res, r_v_t_state, r_f_t_counts) := h
      unfold X1_gain_b15_s at h
      refine lv_iload hx hb dX1_gain_15 (lv_at hl 5 rfl) ?_
      refine lv_iload_n hx hb dX1_gain_17 rfl (lv_at hl 3 rfl) ?_
      refine lv_icmp_ge (tgt := 63) hx hb dX1_gain_18 (by decide) (fun c7 => ?_) (fun c7 => ?_)
      · replace h := ite_t h c7
        exact B_63 v_t_state f_t_counts x4 h H locs ls hP hD hS (lv_sub hl [0, 1, 4] rfl)
      replace h := ite_f h c7
      refine lv_aload_n hx hb dX1_gain_21 rfl (lv_at hl 0 rfl) ?_
      refine lv_aload_n hx hb dX1_gain_22 rfl (lv_at hl 1 rfl) ?_
      obtain ⟨r8, w8_1, hc8, h⟩ := bnd2_s h
      refine kWi (res := r8) (wc := [(q_t, .inr (1, [.ref q_t_counts, .long v_t_state])), (q_p1, .inr (8, [.int v_p1_law, .int v_p1_share, .int v_p1_pot, .int v_p1_barred]))]) (wr := [(q_t_counts, .inl (cI, 10, .inl f_t_counts))]) (w1 := [(q_t, .inr (1, [.ref q_t_counts, .long w8_1])), (q_p1, .inr (8, [.int v_p1_law, .int v_p1_share, .int v_p1_pot, .int v_p1_barred]))]) (wn := [(q_t, .inr (1, [.ref q_t_counts, .long w8_1])), (q_t_counts, .inl (cI, 10, .inl f_t_counts)), (q_p1, .inr (8, [.int v_p1_law, .int v_p1_share, .int v_p1_pot, .int v_p1_barred]))]) hP hD hS hA [0, 2] [1] [1, 0, 2] rfl rfl (by decide) (by decide) rfl (by decide) (va_runV (As := [.ref q_p1]) (rest := []) ⟨hx, hb, hml, hown, hts⟩ (cn_X1_drawn l dC dI cI cJ cZ q_t q_p1 q_t_counts H.size v_t_state v_p1_law v_p1_share v_p1_pot v_p1_barred  r8 w8_1 hc8) (cwV 1 hts gX1_gain_X1_drawn rfl rfl rfl (by decide +kernel) ⟨Nat.le_of_ble_eq_true rfl, Nat.le_of_ble_eq_true rfl⟩) (preW hKK (hP.sub (ws' := [(q_t, .inr (1, [.ref q_t_counts, .long v_t_state])), (q_p1, .inr (8, [.int v_p1_law, .int v_p1_share, .int v_p1_pot, .int v_p1_barred]))]) [0, 2] rfl) (hD.sub (ws' := [(q_t, .inr (1, [.ref q_t_counts, .long v_t_state])), (q_p1, .inr (8, [.int v_p1_law, .int v_p1_share, .int v_p1_pot, .int v_p1_barred]))]) [0, 2] (by decide) rfl) (ci := 1) (q0 := 0) rfl rfl) rfl rfl hl.1 rfl (lv_room (Nat.le_of_ble_eq_true rfl)) dX1_gain_23 ⟨Nat.zero_le _, Nat.zero_le _⟩) (fun H locs hP hD hS => ?_)
      refine lv_istore (lv' := [(6, .int r8), (0, .ref q_t), (1, .ref q_p1), (2, .int x2), (3, .int x3), (4, .int x4), (5, .int x5)]) hx hb dX1_gain_26 hl (by decide) rfl (fun ls hl => ?_)
      refine lv_iload hx hb dX1_gain_28 (lv_at hl 0 rfl) ?_
      refine kRz (res := (X10_isNumber r8)) (va_runSN (As := [.int r8]) (rest := []) ⟨hx, hb, hml, hown, hts⟩ (cn_X10_isNumber l dC dI cI cJ cZ    r8 (X10_isNumber r8) rfl) ⟨va_cnB 1 hts gX1_gain_X10_isNumber_n29 rfl rfl rfl (hKK.nw 22 rfl) (hts (.initialized RX10) (List.mem_of_getElem? (i := 36) rfl)) (by decide +kernel) ⟨Nat.le_of_ble_eq_true rfl, Nat.le_of_ble_eq_true rfl⟩, hts (.static yX10_isNumber) (List.mem_of_getElem? (i := 35) rfl), trivial⟩ (preRS hKK (hP.sub (ws' := []) [] rfl)) rfl rfl hl.1 rfl (lv_room (Nat.le_of_ble_eq_true rfl)) dX1_gain_30 ⟨Nat.zero_le _, Nat.zero_le _⟩) (fun hz9 => ?_)
      refine lv_if_eq (tgt := 47) hx hb dX1_gain_33 (by decide) (fun c10 => ?_) (fun c10 => ?_)
      · replace h := ite_t h c10
        exact B_47 w8_1 f_t_counts x2 x3 x4 x5 r8 h H locs ls hP hD hS (lv_sub hl [1, 2, 3, 4, 5, 6, 0] rfl)
      replace h := ite_f h c10
      refine lv_aload_n hx hb dX1_gain_36 rfl (lv_at hl 1 rfl) ?_
      refine va_get (D := (dC, dI)) (ci := 1) (v := .ref q_t_counts) (C := RX1) (T := TX1) (N := 2) hx hb hts in_X1_gain_X1 hown hK hP 0 rfl rfl 0 (by decide) (hts (.fieldLink RX1 9 "RightIfAsMany$Evenings" "counts" "[I") (List.mem_of_getElem? (i := 1) rfl)) (fun _ h9 => h9) rfl dX1_gain_37 ?_
      refine lv_iload hx hb dX1_gain_40 (lv_at hl 0 rfl) ?_
      refine lv_dup2_11 hx hb dX1_gain_42 rfl rfl ?_
      obtain ⟨hg11, h⟩ := grd_s h
      refine va_iald hx hb hK hP 1 0 rfl rfl hg11 dX1_gain_43 ?_
      refine lv_iconst (v := (1 : Int32)) hx hb dX1_gain_44 (by decide) ?_
      refine lv_iadd hx hb dX1_gain_45 ?_
      obtain ⟨hg12, h⟩ := grd_s h
      refine va_iast hx hb hK hP hD hS 1 0 rfl rfl hg12 dX1_gain_46 (fun H locs hP hD hS => ?_)
      have hP : va_P (dC, dI) vwCl [(q_t, .inr (1, [.ref q_t_counts, .long w8_1])), (q_t_counts, .inl (cI, 10, .inl (upd f_t_counts r8.toNatClampNeg ((f_t_counts r8.toNatClampNeg) + (1 : Int32))))), (q_p1, .inr (8, [.int v_p1_law, .int v_p1_share, .int v_p1_pot, .int v_p1_barred]))] H := hP
      have hD : va_D A [(q_t, .inr (1, [.ref q_t_counts, .long w8_1])), (q_t_counts, .inl (cI, 10, .inl (upd f_t_counts r8.toNatClampNeg ((f_t_counts r8.toNatClampNeg) + (1 : Int32))))), (q_p1, .inr (8, [.int v_p1_law, .int v_p1_share, .int v_p1_pot, .int v_p1_barred]))] := hD
      exact B_47 w8_1 (upd f_t_counts r8.toNatClampNeg ((f_t_counts r8.toNatClampNeg) + (1 : Int32))) x2 x3 x4 x5 r8 h H locs ls hP hD hS (lv_sub hl [1, 2, 3, 4, 5, 6, 0] rfl)
  unfold X1_gain at h
  obtain ⟨H, hHe⟩ : ∃ H, H = s.heap := ⟨_, rfl⟩
  obtain ⟨locs, hLe⟩ : ∃ x : List Loc, x = [] := ⟨_, rfl⟩
  rw [← hHe] at hP
  have hS : va_S A s.heap H locs := by rw [hHe, hLe]; exact hS
  suffices hW : W p l e (headSpec wsX1_gain rm_X1_gain).room s m ([.ref q_t, .ref q_p1, .int p2, .int p3] : List Value).toArray below meth c H locs 0 0 (MQ below (va_Qi (fun (r : Int32) (_ : Unit) => r = res) (bW dC dI A [(q_t, .inr (1, [.ref q_t_counts, .long r_v_t_state])), (q_t_counts, .inl (cI, 10, .inl r_f_t_counts)), (q_p1, .inr (8, [.int v_p1_law, .int v_p1_share, .int v_p1_pot, .int v_p1_barred]))]) A) ([.ref q_t, .ref q_p1, .int p2, .int p3] : List Value).toArray s 0 0 A) (F0 m 0 ls []) by rw [hHe, hLe] at hW; exact hW
  refine lv_aload_n hx hb dX1_gain_0 rfl (lv_at hl 0 rfl) ?_
  refine va_get (D := (dC, dI)) (ci := 1) (v := .ref q_t_counts) (C := RX1) (T := TX1) (N := 2) hx hb hts in_X1_gain_X1 hown hK hP 0 rfl rfl 0 (by decide) (hts (.fieldLink RX1 9 "RightIfAsMany$Evenings" "counts" "[I") (List.mem_of_getElem? (i := 1) rfl)) (fun _ h9 => h9) rfl dX1_gain_1 ?_
  refine lv_iconst (v := (0 : Int32)) hx hb dX1_gain_4 (by decide) ?_
  refine kWv (wc := [(q_t_counts, .inl (cI, 10, .inl f_t_counts))]) (wr := [(q_t, .inr (1, [.ref q_t_counts, .long v_t_state])), (q_p1, .inr (8, [.int v_p1_law, .int v_p1_share, .int v_p1_pot, .int v_p1_barred]))]) (w1 := [(q_t_counts, .inl (cI, 10, .inl (fillI 10 f_t_counts (0 : Int32))))]) (wn := [(q_t, .inr (1, [.ref q_t_counts, .long v_t_state])), (q_t_counts, .inl (cI, 10, .inl (fillI 10 f_t_counts (0 : Int32)))), (q_p1, .inr (8, [.int v_p1_law, .int v_p1_share, .int v_p1_pot, .int v_p1_barred]))]) hP hD hS hA [1] [0, 2] [0, 2, 1] rfl rfl (by decide) (by decide) rfl (by decide) (va_runS (As := [.ref q_t_counts, .int (0 : Int32)]) (rest := []) ⟨hx, hb, hml, hown, hts⟩ (cn_J7_fill_53178 l dC dI cI cJ cZ q_t_counts 10 H.size f_t_counts (0 : Int32) (by decide)) (va_cwS 2 hts gX1_gain_J7_fill_53178 rfl rfl rfl (by decide +kernel) ⟨Nat.le_of_ble_eq_true rfl, Nat.le_of_ble_eq_true rfl⟩) (preWS hKK (hP.sub (ws' := [(q_t_counts, .inl (cI, 10, .inl f_t_counts))]) [1] rfl) (hD.sub (ws' := [(q_t_counts, .inl (cI, 10, .inl f_t_counts))]) [1] (by decide) rfl)) rfl rfl hl.1 rfl (lv_room (Nat.le_of_ble_eq_true rfl)) dX1_gain_5 ⟨Nat.zero_le _, Nat.zero_le _⟩) (fun H locs hP hD hS => ?_)
  refine lv_bipush (v := (-9 : Int32)) hx hb dX1_gain_8 (by decide) ?_
  refine lv_istore (lv' := [(4, .int (-9 : Int32)), (0, .ref q_t), (1, .ref q_p1), (2, .int p2), (3, .int p3)]) hx hb dX1_gain_10 hl (by decide) rfl (fun ls hl => ?_)
  refine lv_iconst (v := (0 : Int32)) hx hb dX1_gain_12 (by decide) ?_
  refine lv_istore (lv' := [(5, .int (0 : Int32)), (4, .int (-9 : Int32)), (0, .ref q_t), (1, .ref q_p1), (2, .int p2), (3, .int p3)]) hx hb dX1_gain_13 hl (by decide) rfl (fun ls hl => ?_)
  exact L_15 fU v_t_state (fillI 10 f_t_counts (0 : Int32)) p2 p3 (-9 : Int32) (0 : Int32) h H locs ls hP hD hS (lv_sub hl [2, 3, 4, 5, 1, 0] rfl)
abbrev rm_X9_length : Room := { frames := 0, cells := 0, slots := 0, locals := 0 }
theorem in_X9_length_X9 : ∀ w ∈ wsX90, w ∈ wsX9_length := fun _ h => List.mem_cons_of_mem _ (List.mem_append_right _ h)
set_option maxHeartbeats 4000000 in
set_option maxRecDepth 100000 in
theorem cn_X9_length (l : Launch) (dC : Nat → ClassId) (dI : Nat → Nat → Nat) (cI cJ cZ : ClassId) (q_t q_t_bytes : Nat) (v_t_length : Int32) (res : Int32) (h : X9_length v_t_length = res) : Met l yX9_length wsX9_length rm_X9_length (pcR dC dI cI cJ cZ [(q_t, .inr (9, [.ref q_t_bytes, .int v_t_length]))] [.ref q_t]) (vp_Si (fun r => r = res)) 0 0 (fun _ => False) := by
  refine Met.ofW (cc := cX9_length) (maxL := 1) (ret := (some .int)) (by decide) rfl ?_
  intro p e s m args below meth c s₁ B hml hv
  obtain ⟨rfl, hP, hKK⟩ := hv
  have hx := B.exec
  have hb := B.bytes
  have hr := B.returns
  have hts := atoms_spec (ws := wsX9_length) B.pre
  have hown : s.vm.findClass RX9 = some m.cls := findClass_of_methodNamed B.named
  have hlocks := B.notSynchronized
  have hK := hKK.1
  have hl := lv_entry ([.ref q_t]) (n := 1) (Nat.le_of_ble_eq_true rfl)
  rw [lg_entry_eq]
  generalize (lg_sl ([.ref q_t]) ++ List.replicate (1 - (lg_sl ([.ref q_t])).length) Slot.unset).toArray = ls at hl ⊢
  have hl : lv_has ls 1 [(0, .ref q_t)] := hl
  unfold X9_length at h
  refine lv_aload_n hx hb dX9_length_0 rfl (lv_at hl 0 rfl) ?_
  refine va_get (D := (dC, dI)) (ci := 9) (v := .int v_t_length) (C := RX9) (T := TX9) (N := 2) hx hb hts in_X9_length_X9 hown hK hP 0 rfl rfl 1 (by decide) (hts (.fieldLink RX9 15 "RightIfAsMany$Text" "length" "I") (List.mem_of_getElem? (i := 1) rfl)) (fun _ h9 => h9) rfl dX9_length_1 ?_
  have e1 := h
  exact W.iret (v := v_t_length) hx hb hr (fun t ht hW => ⟨_, rfl, e1, ht⟩) (fun q hq => by cases hq) dX9_length_4
abbrev rm_X9_add : Room := { frames := 0, cells := 0, slots := 0, locals := 0 }
theorem in_X9_add_X9 : ∀ w ∈ wsX90, w ∈ wsX9_add := fun _ h => List.mem_cons_of_mem _ (List.mem_append_right _ h)
set_option maxHeartbeats 4000000 in
set_option maxRecDepth 100000 in
theorem cn_X9_add (l : Launch) (dC : Nat → ClassId) (dI : Nat → Nat → Nat) (cI cJ cZ : ClassId) (q_t q_t_bytes : Nat) (sz : Nat) (v_t_length : Int32) (f_t_bytes : (Nat → Int32)) (p1 : Int32) (p2 : Int64) (r_v_t_length : Int32) (r_f_t_bytes : (Nat → Int32)) (h : X9_add v_t_length f_t_bytes p1 p2 = some (r_v_t_length, r_f_t_bytes)) : Met l yX9_add wsX9_add rm_X9_add (pcW dC dI cI cJ cZ [(q_t, .inr (9, [.ref q_t_bytes, .int v_t_length])), (q_t_bytes, .inl (cI, 40, .inl f_t_bytes))] sz [.ref q_t, .int p1, .long p2]) (va_Qv (fun (_ : Unit) => True) (bW dC dI (va_A [(q_t, .inr (9, [.ref q_t_bytes, .int v_t_length])), (q_t_bytes, .inl (cI, 40, .inl f_t_bytes))] sz) [(q_t, .inr (9, [.ref q_t_bytes, .int r_v_t_length])), (q_t_bytes, .inl (cI, 40, .inl r_f_t_bytes))]) (va_A [(q_t, .inr (9, [.ref q_t_bytes, .int v_t_length])), (q_t_bytes, .inl (cI, 40, .inl f_t_bytes))] sz)) 0 0 (va_A [(q_t, .inr (9, [.ref q_t_bytes, .int v_t_length])), (q_t_bytes, .inl (cI, 40, .inl f_t_bytes))] sz) := by
  refine Met.ofW (cc := cX9_add) (maxL := 5) (ret := none) (by decide) rfl ?_
  intro p e s m args below meth c s₁ B hml hv
  obtain ⟨rfl, hsz, hP, hKK, hD0⟩ := hv
  have hx := B.exec
  have hb := B.bytes
  have hr := B.returns
  have hts := atoms_spec (ws := wsX9_add) B.pre
  have hown : s.vm.findClass RX9 = some m.cls := findClass_of_methodNamed B.named
  have hlocks := B.notSynchronized
  have hK := hKK.1
  subst hsz
  have hD := hD0.self (sz := s.heap.size)
  generalize hAe : va_A [(q_t, .inr (9, [.ref q_t_bytes, .int v_t_length])), (q_t_bytes, .inl (cI, 40, .inl f_t_bytes))] s.heap.size = A at hD ⊢
  have hA : ∀ q : Nat, s.heap.size ≤ q → A q := fun q h => by rw [← hAe]; exact Or.inr h
  have hS : va_S A s.heap s.heap [] := va_S.rf
  have hl := lv_entry ([.ref q_t, .int p1, .long p2]) (n := 5) (Nat.le_of_ble_eq_true rfl)
  rw [lg_entry_eq]
  generalize (lg_sl ([.ref q_t, .int p1, .long p2]) ++ List.replicate (5 - (lg_sl ([.ref q_t, .int p1, .long p2])).length) Slot.unset).toArray = ls at hl ⊢
  have hl : lv_has ls 5 [(0, .ref q_t), (1, .int p1), (2, .long p2)] := hl
  have L_5 : ∀ (n5 : Nat) , ∀ (v_t_length : Int32) (f_t_bytes : (Nat → Int32)) (x2 : Int64) (x4 : Int32), X9_add_b5 n5 v_t_length f_t_bytes x2 x4 = some (r_v_t_length, r_f_t_bytes) → ∀ (H : Heap) (locs : List Loc) (ls : Array Slot), va_P (dC, dI) vwCl [(q_t, .inr (9, [.ref q_t_bytes, .int v_t_length])), (q_t_bytes, .inl (cI, 40, .inl f_t_bytes))] H → va_D A [(q_t, .inr (9, [.ref q_t_bytes, .int v_t_length])), (q_t_bytes, .inl (cI, 40, .inl f_t_bytes))] → va_S A s.heap H locs → lv_has ls 5 [(0, .ref q_t), (2, .long x2), (4, .int x4)] → W p l e (headSpec wsX9_add rm_X9_add).room s m ([.ref q_t, .int p1, .long p2] : List Value).toArray below meth c H locs 0 0 (MQ below (va_Qv (fun (_ : Unit) => True) (bW dC dI A [(q_t, .inr (9, [.ref q_t_bytes, .int r_v_t_length])), (q_t_bytes, .inl (cI, 40, .inl r_f_t_bytes))]) A) ([.ref q_t, .int p1, .long p2] : List Value).toArray s 0 0 A) (F0 m 5 ls []) := by
    intro n5
    induction n5 with
    | zero => intro v_t_length f_t_bytes x2 x4 h H locs ls hP hD hS hl; exact absurd h (fun h => by cases h)
    | succ n5 ih_5 =>
      intro v_t_length f_t_bytes x2 x4 h H locs ls hP hD hS hl
      replace h : X9_add_b5_s (X9_add_b5 n5) v_t_length f_t_bytes x2 x4 = some (r_v_t_length, r_f_t_bytes) := h
      unfold X9_add_b5_s at h
      refine lv_iload hx hb dX9_add_5 (lv_at hl 2 rfl) ?_
      refine lv_if_lt (tgt := 56) hx hb dX9_add_7 (by decide) (fun c1 => ?_) (fun c1 => ?_)
      · replace h := ite_t h c1
        replace h := Option.some.inj h
        obtain ⟨e1, e2⟩ := pr2 h
        exact W.vret hx hb hr (fun t ht hW => ⟨⟨(), rfl, trivial, (by rw [ht, ← e1, ← e2]; exact hP), (by rw [← e1, ← e2]; exact hD)⟩, hS.F ht⟩) hS.2.2 dX9_add_56
      replace h := ite_f h c1
      refine lv_aload_n hx hb dX9_add_10 rfl (lv_at hl 0 rfl) ?_
      refine va_get (D := (dC, dI)) (ci := 9) (v := .int v_t_length) (C := RX9) (T := TX9) (N := 2) hx hb hts in_X9_add_X9 hown hK hP 0 rfl rfl 1 (by decide) (hts (.fieldLink RX9 15 "RightIfAsMany$Text" "length" "I") (List.mem_of_getElem? (i := 1) rfl)) (fun _ h9 => h9) rfl dX9_add_11 ?_
      refine lv_bipush (v := (40 : Int32)) hx hb dX9_add_14 (by decide) ?_
      refine lv_icmp_ge (tgt := 56) hx hb dX9_add_16 (by decide) (fun c2 => ?_) (fun c2 => ?_)
      · replace h := ite_t h c2
        replace h := Option.some.inj h
        obtain ⟨e1, e2⟩ := pr2 h
        exact W.vret hx hb hr (fun t ht hW => ⟨⟨(), rfl, trivial, (by rw [ht, ← e1, ← e2]; exact hP), (by rw [← e1, ← e2]; exact hD)⟩, hS.F ht⟩) hS.2.2 dX9_add_56
      replace h := ite_f h c2
      refine lv_aload_n hx hb dX9_add_19 rfl (lv_at hl 0 rfl) ?_
      refine va_get (D := (dC, dI)) (ci := 9) (v := .ref q_t_bytes) (C := RX9) (T := TX9) (N := 2) hx hb hts in_X9_add_X9 hown hK hP 0 rfl rfl 0 (by decide) (hts (.fieldLink RX9 9 "RightIfAsMany$Text" "bytes" "[I") (List.mem_of_getElem? (i := 2) rfl)) (fun _ h9 => h9) rfl dX9_add_20 ?_
      refine lv_aload_n hx hb dX9_add_23 rfl (lv_at hl 0 rfl) ?_
      refine va_get (D := (dC, dI)) (ci := 9) (v := .int v_t_length) (C := RX9) (T := TX9) (N := 2) hx hb hts in_X9_add_X9 hown hK hP 0 rfl rfl 1 (by decide) (hts (.fieldLink RX9 15 "RightIfAsMany$Text" "length" "I") (List.mem_of_getElem? (i := 1) rfl)) (fun _ h9 => h9) rfl dX9_add_24 ?_
      refine lv_lload_n hx hb dX9_add_27 rfl (lv_at hl 1 rfl) ?_
      refine lv_bipush (v := (8 : Int32)) hx hb dX9_add_28 (by decide) ?_
      refine lv_iload hx hb dX9_add_30 (lv_at hl 2 rfl) ?_
      refine lv_imul hx hb dX9_add_32 ?_
      refine lv_lushr hx hb dX9_add_33 rfl ?_
      refine lv_l2i hx hb dX9_add_34 rfl ?_
      refine lv_sipush (v := (255 : Int32)) hx hb dX9_add_35 (by decide) ?_
      refine lv_iand hx hb dX9_add_38 ?_
      obtain ⟨hg3, h⟩ := grd_s h
      refine va_iast hx hb hK hP hD hS 1 0 rfl rfl hg3 dX9_add_39 (fun H locs hP hD hS => ?_)
      have hP : va_P (dC, dI) vwCl [(q_t, .inr (9, [.ref q_t_bytes, .int v_t_length])), (q_t_bytes, .inl (cI, 40, .inl (upd f_t_bytes v_t_length.toNatClampNeg ((x2.toUInt64 >>> (((8 : Int32) * x4).toInt64.toUInt64 &&& Int64.toUInt64 63)).toInt64.toInt32 &&& (255 : Int32)))))] H := hP
      have hD : va_D A [(q_t, .inr (9, [.ref q_t_bytes, .int v_t_length])), (q_t_bytes, .inl (cI, 40, .inl (upd f_t_bytes v_t_length.toNatClampNeg ((x2.toUInt64 >>> (((8 : Int32) * x4).toInt64.toUInt64 &&& Int64.toUInt64 63)).toInt64.toInt32 &&& (255 : Int32)))))] := hD
      refine lv_aload_n hx hb dX9_add_40 rfl (lv_at hl 0 rfl) ?_
      refine lv_dup hx hb dX9_add_41 rfl ?_
      refine va_get (D := (dC, dI)) (ci := 9) (v := .int v_t_length) (C := RX9) (T := TX9) (N := 2) hx hb hts in_X9_add_X9 hown hK hP 0 rfl rfl 1 (by decide) (hts (.fieldLink RX9 15 "RightIfAsMany$Text" "length" "I") (List.mem_of_getElem? (i := 1) rfl)) (fun _ h9 => h9) rfl dX9_add_42 ?_
      refine lv_iconst (v := (1 : Int32)) hx hb dX9_add_45 (by decide) ?_
      refine lv_iadd hx hb dX9_add_46 ?_
      refine va_put (D := (dC, dI)) (ci := 9) (v := .int (v_t_length + (1 : Int32))) (ty := .int) (C := RX9) (T := TX9) (N := 2) hx hb hts in_X9_add_X9 tyX9 tyX9_ok nmX9 hown hK hP hD hS 0 rfl rfl 1 (by decide) (hts (.fieldLink RX9 15 "RightIfAsMany$Text" "length" "I") (List.mem_of_getElem? (i := 1) rfl)) (fun _ h9 => h9) rfl (by decide +kernel) rfl rfl (Nat.le_of_ble_eq_true rfl) dX9_add_47 (fun H locs hP hD hS => ?_)
      have hP : va_P (dC, dI) vwCl [(q_t, .inr (9, [.ref q_t_bytes, .int (v_t_length + (1 : Int32))])), (q_t_bytes, .inl (cI, 40, .inl (upd f_t_bytes v_t_length.toNatClampNeg ((x2.toUInt64 >>> (((8 : Int32) * x4).toInt64.toUInt64 &&& Int64.toUInt64 63)).toInt64.toInt32 &&& (255 : Int32)))))] H := hP
      have hD : va_D A [(q_t, .inr (9, [.ref q_t_bytes, .int (v_t_length + (1 : Int32))])), (q_t_bytes, .inl (cI, 40, .inl (upd f_t_bytes v_t_length.toNatClampNeg ((x2.toUInt64 >>> (((8 : Int32) * x4).toInt64.toUInt64 &&& Int64.toUInt64 63)).toInt64.toInt32 &&& (255 : Int32)))))] := hD
      refine lv_iinc (v := (x4 + (-1 : Int32))) (lv' := [(4, .int (x4 + (-1 : Int32))), (0, .ref q_t), (2, .long x2)]) hx hb dX9_add_50 hl (k := 2) rfl rfl (by decide) rfl (fun ls hl => ?_)
      refine lv_goto (tgt := 5) hx hb dX9_add_53 (by decide) ?_
      exact ih_5 (v_t_length + (1 : Int32)) (upd f_t_bytes v_t_length.toNatClampNeg ((x2.toUInt64 >>> (((8 : Int32) * x4).toInt64.toUInt64 &&& Int64.toUInt64 63)).toInt64.toInt32 &&& (255 : Int32))) x2 (x4 + (-1 : Int32)) h H locs ls hP hD hS (lv_sub hl [1, 2, 0] rfl)
  unfold X9_add at h
  obtain ⟨H, hHe⟩ : ∃ H, H = s.heap := ⟨_, rfl⟩
  obtain ⟨locs, hLe⟩ : ∃ x : List Loc, x = [] := ⟨_, rfl⟩
  rw [← hHe] at hP
  have hS : va_S A s.heap H locs := by rw [hHe, hLe]; exact hS
  suffices hW : W p l e (headSpec wsX9_add rm_X9_add).room s m ([.ref q_t, .int p1, .long p2] : List Value).toArray below meth c H locs 0 0 (MQ below (va_Qv (fun (_ : Unit) => True) (bW dC dI A [(q_t, .inr (9, [.ref q_t_bytes, .int r_v_t_length])), (q_t_bytes, .inl (cI, 40, .inl r_f_t_bytes))]) A) ([.ref q_t, .int p1, .long p2] : List Value).toArray s 0 0 A) (F0 m 0 ls []) by rw [hHe, hLe] at hW; exact hW
  refine lv_iload_n hx hb dX9_add_0 rfl (lv_at hl 1 rfl) ?_
  refine lv_iconst (v := (1 : Int32)) hx hb dX9_add_1 (by decide) ?_
  refine lv_isub hx hb dX9_add_2 ?_
  refine lv_istore (lv' := [(4, .int (p1 - (1 : Int32))), (0, .ref q_t), (1, .int p1), (2, .long p2)]) hx hb dX9_add_3 hl (by decide) rfl (fun ls hl => ?_)
  exact L_5 fU v_t_length f_t_bytes p2 (p1 - (1 : Int32)) h H locs ls hP hD hS (lv_sub hl [1, 3, 0] rfl)
abbrev rm_X10_write : Room := { frames := 1, cells := 0, slots := 0, locals := 24 }
theorem in_X10_write_X9 : ∀ w ∈ wsX90, w ∈ wsX10_write := fun _ h => List.mem_cons_of_mem _ (List.mem_append_right _ h)
theorem in_X10_write_X10 : ∀ w ∈ wsX100, w ∈ wsX10_write := fun _ h => List.mem_cons_of_mem _ (List.mem_append_left _ (List.mem_append_right _ h))
set_option maxHeartbeats 4000000 in
set_option maxRecDepth 100000 in
theorem cn_X10_write (l : Launch) (dC : Nat → ClassId) (dI : Nat → Nat → Nat) (cI cJ cZ : ClassId) (q_t q_t_text q_t_reader q_t_rules q_t_people q_t_memory q_t_rows q_t_chances q_t_moves q_t_payments q_t_evenings q_t_text_bytes : Nat) (sz : Nat) (v_t_text_length : Int32) (f_t_text_bytes : (Nat → Int32)) (p1 : Int32) (p2 : Int64) (res : Int32) (r_v_t_text_length : Int32) (r_f_t_text_bytes : (Nat → Int32)) (h : X10_write v_t_text_length f_t_text_bytes p1 p2 = some (res, r_v_t_text_length, r_f_t_text_bytes)) : Met l yX10_write wsX10_write rm_X10_write (pcW dC dI cI cJ cZ [(q_t, .inr (10, [.ref q_t_text, .ref q_t_reader, .ref q_t_rules, .ref q_t_people, .ref q_t_memory, .ref q_t_rows, .ref q_t_chances, .ref q_t_moves, .ref q_t_payments, .ref q_t_evenings])), (q_t_text, .inr (9, [.ref q_t_text_bytes, .int v_t_text_length])), (q_t_text_bytes, .inl (cI, 40, .inl f_t_text_bytes))] sz [.ref q_t, .int p1, .long p2]) (va_Qi (fun (r : Int32) (_ : Unit) => r = res) (bW dC dI (va_A [(q_t, .inr (10, [.ref q_t_text, .ref q_t_reader, .ref q_t_rules, .ref q_t_people, .ref q_t_memory, .ref q_t_rows, .ref q_t_chances, .ref q_t_moves, .ref q_t_payments, .ref q_t_evenings])), (q_t_text, .inr (9, [.ref q_t_text_bytes, .int v_t_text_length])), (q_t_text_bytes, .inl (cI, 40, .inl f_t_text_bytes))] sz) [(q_t, .inr (10, [.ref q_t_text, .ref q_t_reader, .ref q_t_rules, .ref q_t_people, .ref q_t_memory, .ref q_t_rows, .ref q_t_chances, .ref q_t_moves, .ref q_t_payments, .ref q_t_evenings])), (q_t_text, .inr (9, [.ref q_t_text_bytes, .int r_v_t_text_length])), (q_t_text_bytes, .inl (cI, 40, .inl r_f_t_text_bytes))]) (va_A [(q_t, .inr (10, [.ref q_t_text, .ref q_t_reader, .ref q_t_rules, .ref q_t_people, .ref q_t_memory, .ref q_t_rows, .ref q_t_chances, .ref q_t_moves, .ref q_t_payments, .ref q_t_evenings])), (q_t_text, .inr (9, [.ref q_t_text_bytes, .int v_t_text_length])), (q_t_text_bytes, .inl (cI, 40, .inl f_t_text_bytes))] sz)) 0 0 (va_A [(q_t, .inr (10, [.ref q_t_text, .ref q_t_reader, .ref q_t_rules, .ref q_t_people, .ref q_t_memory, .ref q_t_rows, .ref q_t_chances, .ref q_t_moves, .ref q_t_payments, .ref q_t_evenings])), (q_t_text, .inr (9, [.ref q_t_text_bytes, .int v_t_text_length])), (q_t_text_bytes, .inl (cI, 40, .inl f_t_text_bytes))] sz) := by
  refine Met.ofW (cc := cX10_write) (maxL := 4) (ret := (some .int)) (by decide) rfl ?_
  intro p e s m args below meth c s₁ B hml hv
  obtain ⟨rfl, hsz, hP, hKK, hD0⟩ := hv
  have hx := B.exec
  have hb := B.bytes
  have hr := B.returns
  have hts := atoms_spec (ws := wsX10_write) B.pre
  have hown : s.vm.findClass RX10 = some m.cls := findClass_of_methodNamed B.named
  have hlocks := B.notSynchronized
  have hK := hKK.1
  subst hsz
  have hD := hD0.self (sz := s.heap.size)
  generalize hAe : va_A [(q_t, .inr (10, [.ref q_t_text, .ref q_t_reader, .ref q_t_rules, .ref q_t_people, .ref q_t_memory, .ref q_t_rows, .ref q_t_chances, .ref q_t_moves, .ref q_t_payments, .ref q_t_evenings])), (q_t_text, .inr (9, [.ref q_t_text_bytes, .int v_t_text_length])), (q_t_text_bytes, .inl (cI, 40, .inl f_t_text_bytes))] s.heap.size = A at hD ⊢
  have hA : ∀ q : Nat, s.heap.size ≤ q → A q := fun q h => by rw [← hAe]; exact Or.inr h
  have hS : va_S A s.heap s.heap [] := va_S.rf
  have hl := lv_entry ([.ref q_t, .int p1, .long p2]) (n := 4) (Nat.le_of_ble_eq_true rfl)
  rw [lg_entry_eq]
  generalize (lg_sl ([.ref q_t, .int p1, .long p2]) ++ List.replicate (4 - (lg_sl ([.ref q_t, .int p1, .long p2])).length) Slot.unset).toArray = ls at hl ⊢
  have hl : lv_has ls 4 [(0, .ref q_t), (1, .int p1), (2, .long p2)] := hl
  unfold X10_write at h
  obtain ⟨H, hHe⟩ : ∃ H, H = s.heap := ⟨_, rfl⟩
  obtain ⟨locs, hLe⟩ : ∃ x : List Loc, x = [] := ⟨_, rfl⟩
  rw [← hHe] at hP
  have hS : va_S A s.heap H locs := by rw [hHe, hLe]; exact hS
  suffices hW : W p l e (headSpec wsX10_write rm_X10_write).room s m ([.ref q_t, .int p1, .long p2] : List Value).toArray below meth c H locs 0 0 (MQ below (va_Qi (fun (r : Int32) (_ : Unit) => r = res) (bW dC dI A [(q_t, .inr (10, [.ref q_t_text, .ref q_t_reader, .ref q_t_rules, .ref q_t_people, .ref q_t_memory, .ref q_t_rows, .ref q_t_chances, .ref q_t_moves, .ref q_t_payments, .ref q_t_evenings])), (q_t_text, .inr (9, [.ref q_t_text_bytes, .int r_v_t_text_length])), (q_t_text_bytes, .inl (cI, 40, .inl r_f_t_text_bytes))]) A) ([.ref q_t, .int p1, .long p2] : List Value).toArray s 0 0 A) (F0 m 0 ls []) by rw [hHe, hLe] at hW; exact hW
  refine lv_iload_n hx hb dX10_write_0 rfl (lv_at hl 1 rfl) ?_
  refine lv_iconst (v := (1 : Int32)) hx hb dX10_write_1 (by decide) ?_
  refine lv_icmp_lt (tgt := 11) hx hb dX10_write_2 (by decide) (fun c1 => ?_) (fun c1 => ?_)
  · replace h := ite_t h c1
    refine lv_bipush (v := (-2 : Int32)) hx hb dX10_write_11 (by decide) ?_
    replace h := Option.some.inj h
    obtain ⟨e1, e2, e3⟩ := pr3 h
    exact W.iret (v := (-2 : Int32)) hx hb hr (fun t ht hW => ⟨⟨_, (), rfl, e1, (by rw [ht, ← e2, ← e3]; exact hP), (by rw [← e2, ← e3]; exact hD)⟩, hS.F ht⟩) hS.2.2 dX10_write_13
  replace h := ite_f h c1
  refine lv_iload_n hx hb dX10_write_5 rfl (lv_at hl 1 rfl) ?_
  refine lv_bipush (v := (8 : Int32)) hx hb dX10_write_6 (by decide) ?_
  refine lv_icmp_le (tgt := 14) hx hb dX10_write_8 (by decide) (fun c2 => ?_) (fun c2 => ?_)
  · replace h := ite_t h c2
    refine lv_iload_n hx hb dX10_write_14 rfl (lv_at hl 1 rfl) ?_
    refine lv_bipush (v := (40 : Int32)) hx hb dX10_write_15 (by decide) ?_
    refine lv_aload_n hx hb dX10_write_17 rfl (lv_at hl 0 rfl) ?_
    refine va_get (D := (dC, dI)) (ci := 10) (v := .ref q_t_text) (C := RX10) (T := TX10) (N := 10) hx hb hts in_X10_write_X10 hown hK hP 0 rfl rfl 0 (by decide) (hts (.fieldLink RX10 10 "RightIfAsMany" "text" "LRightIfAsMany$Text;") (List.mem_of_getElem? (i := 1) rfl)) (fun _ h9 => h9) rfl dX10_write_18 ?_
    refine kRi (res := (X9_length v_t_text_length)) (va_runV (As := []) (rest := [.int (40 : Int32), .int p1]) ⟨hx, hb, hml, hown, hts⟩ (cn_X9_length l dC dI cI cJ cZ q_t_text q_t_text_bytes  v_t_text_length  (X9_length v_t_text_length) rfl) (cwV 0 hts gX10_write_X9_length rfl rfl rfl (by decide +kernel) ⟨Nat.le_of_ble_eq_true rfl, Nat.le_of_ble_eq_true rfl⟩) (preR hKK (hP.sub (ws' := [(q_t_text, .inr (9, [.ref q_t_text_bytes, .int v_t_text_length]))]) [1] rfl) (ci := 9) (q0 := 0) rfl rfl) rfl rfl hl.1 rfl (lv_room (Nat.le_of_ble_eq_true rfl)) dX10_write_21 ⟨Nat.zero_le _, Nat.zero_le _⟩) ?_
    refine lv_isub hx hb dX10_write_24 ?_
    refine lv_icmp_le (tgt := 31) hx hb dX10_write_25 (by decide) (fun c3 => ?_) (fun c3 => ?_)
    · replace h := ite_t h c3
      refine lv_aload_n hx hb dX10_write_31 rfl (lv_at hl 0 rfl) ?_
      refine va_get (D := (dC, dI)) (ci := 10) (v := .ref q_t_text) (C := RX10) (T := TX10) (N := 10) hx hb hts in_X10_write_X10 hown hK hP 0 rfl rfl 0 (by decide) (hts (.fieldLink RX10 10 "RightIfAsMany" "text" "LRightIfAsMany$Text;") (List.mem_of_getElem? (i := 1) rfl)) (fun _ h9 => h9) rfl dX10_write_32 ?_
      refine lv_iload_n hx hb dX10_write_35 rfl (lv_at hl 1 rfl) ?_
      refine lv_lload_n hx hb dX10_write_36 rfl (lv_at hl 2 rfl) ?_
      obtain ⟨w4_0, w4_1, hc4, h⟩ := bnd2_s h
      refine kWv (wc := [(q_t_text, .inr (9, [.ref q_t_text_bytes, .int v_t_text_length])), (q_t_text_bytes, .inl (cI, 40, .inl f_t_text_bytes))]) (wr := [(q_t, .inr (10, [.ref q_t_text, .ref q_t_reader, .ref q_t_rules, .ref q_t_people, .ref q_t_memory, .ref q_t_rows, .ref q_t_chances, .ref q_t_moves, .ref q_t_payments, .ref q_t_evenings]))]) (w1 := [(q_t_text, .inr (9, [.ref q_t_text_bytes, .int w4_0])), (q_t_text_bytes, .inl (cI, 40, .inl w4_1))]) (wn := [(q_t, .inr (10, [.ref q_t_text, .ref q_t_reader, .ref q_t_rules, .ref q_t_people, .ref q_t_memory, .ref q_t_rows, .ref q_t_chances, .ref q_t_moves, .ref q_t_payments, .ref q_t_evenings])), (q_t_text, .inr (9, [.ref q_t_text_bytes, .int w4_0])), (q_t_text_bytes, .inl (cI, 40, .inl w4_1))]) hP hD hS hA [1, 2] [0] [0, 1, 2] rfl rfl (by decide) (by decide) rfl (by decide) (va_runV (As := [.int p1, .long p2]) (rest := []) ⟨hx, hb, hml, hown, hts⟩ (cn_X9_add l dC dI cI cJ cZ q_t_text q_t_text_bytes H.size v_t_text_length f_t_text_bytes p1 p2 w4_0 w4_1 hc4) (cwV 2 hts gX10_write_X9_add rfl rfl rfl (by decide +kernel) ⟨Nat.le_of_ble_eq_true rfl, Nat.le_of_ble_eq_true rfl⟩) (preW hKK (hP.sub (ws' := [(q_t_text, .inr (9, [.ref q_t_text_bytes, .int v_t_text_length])), (q_t_text_bytes, .inl (cI, 40, .inl f_t_text_bytes))]) [1, 2] rfl) (hD.sub (ws' := [(q_t_text, .inr (9, [.ref q_t_text_bytes, .int v_t_text_length])), (q_t_text_bytes, .inl (cI, 40, .inl f_t_text_bytes))]) [1, 2] (by decide) rfl) (ci := 9) (q0 := 0) rfl rfl) rfl rfl hl.1 rfl (lv_room (Nat.le_of_ble_eq_true rfl)) dX10_write_37 ⟨Nat.zero_le _, Nat.zero_le _⟩) (fun H locs hP hD hS => ?_)
      refine lv_aload_n hx hb dX10_write_40 rfl (lv_at hl 0 rfl) ?_
      refine va_get (D := (dC, dI)) (ci := 10) (v := .ref q_t_text) (C := RX10) (T := TX10) (N := 10) hx hb hts in_X10_write_X10 hown hK hP 0 rfl rfl 0 (by decide) (hts (.fieldLink RX10 10 "RightIfAsMany" "text" "LRightIfAsMany$Text;") (List.mem_of_getElem? (i := 1) rfl)) (fun _ h9 => h9) rfl dX10_write_41 ?_
      refine kRi (res := (X9_length w4_0)) (va_runV (As := []) (rest := []) ⟨hx, hb, hml, hown, hts⟩ (cn_X9_length l dC dI cI cJ cZ q_t_text q_t_text_bytes  w4_0  (X9_length w4_0) rfl) (cwV 0 hts gX10_write_X9_length rfl rfl rfl (by decide +kernel) ⟨Nat.le_of_ble_eq_true rfl, Nat.le_of_ble_eq_true rfl⟩) (preR hKK (hP.sub (ws' := [(q_t_text, .inr (9, [.ref q_t_text_bytes, .int w4_0]))]) [1] rfl) (ci := 9) (q0 := 0) rfl rfl) rfl rfl hl.1 rfl (lv_room (Nat.le_of_ble_eq_true rfl)) dX10_write_44 ⟨Nat.zero_le _, Nat.zero_le _⟩) ?_
      replace h := Option.some.inj h
      obtain ⟨e1, e2, e3⟩ := pr3 h
      exact W.iret (v := (X9_length w4_0)) hx hb hr (fun t ht hW => ⟨⟨_, (), rfl, e1, (by rw [ht, ← e2, ← e3]; exact hP), (by rw [← e2, ← e3]; exact hD)⟩, hS.F ht⟩) hS.2.2 dX10_write_47
    replace h := ite_f h c3
    refine lv_bipush (v := (-4 : Int32)) hx hb dX10_write_28 (by decide) ?_
    replace h := Option.some.inj h
    obtain ⟨e1, e2, e3⟩ := pr3 h
    exact W.iret (v := (-4 : Int32)) hx hb hr (fun t ht hW => ⟨⟨_, (), rfl, e1, (by rw [ht, ← e2, ← e3]; exact hP), (by rw [← e2, ← e3]; exact hD)⟩, hS.F ht⟩) hS.2.2 dX10_write_30
  replace h := ite_f h c2
  refine lv_bipush (v := (-2 : Int32)) hx hb dX10_write_11 (by decide) ?_
  replace h := Option.some.inj h
  obtain ⟨e1, e2, e3⟩ := pr3 h
  exact W.iret (v := (-2 : Int32)) hx hb hr (fun t ht hW => ⟨⟨_, (), rfl, e1, (by rw [ht, ← e2, ← e3]; exact hP), (by rw [← e2, ← e3]; exact hD)⟩, hS.F ht⟩) hS.2.2 dX10_write_13
abbrev rm_X9_clear : Room := { frames := 0, cells := 0, slots := 0, locals := 0 }
theorem in_X9_clear_X9 : ∀ w ∈ wsX90, w ∈ wsX9_clear := fun _ h => List.mem_cons_of_mem _ (List.mem_append_right _ h)
set_option maxHeartbeats 4000000 in
set_option maxRecDepth 100000 in
theorem cn_X9_clear (l : Launch) (dC : Nat → ClassId) (dI : Nat → Nat → Nat) (cI cJ cZ : ClassId) (q_t q_t_bytes : Nat) (sz : Nat) (v_t_length : Int32) (r_v_t_length : Int32) (h : X9_clear v_t_length = some r_v_t_length) : Met l yX9_clear wsX9_clear rm_X9_clear (pcW dC dI cI cJ cZ [(q_t, .inr (9, [.ref q_t_bytes, .int v_t_length]))] sz [.ref q_t]) (va_Qv (fun (_ : Unit) => True) (bW dC dI (va_A [(q_t, .inr (9, [.ref q_t_bytes, .int v_t_length]))] sz) [(q_t, .inr (9, [.ref q_t_bytes, .int r_v_t_length]))]) (va_A [(q_t, .inr (9, [.ref q_t_bytes, .int v_t_length]))] sz)) 0 0 (va_A [(q_t, .inr (9, [.ref q_t_bytes, .int v_t_length]))] sz) := by
  refine Met.ofW (cc := cX9_clear) (maxL := 1) (ret := none) (by decide) rfl ?_
  intro p e s m args below meth c s₁ B hml hv
  obtain ⟨rfl, hsz, hP, hKK, hD0⟩ := hv
  have hx := B.exec
  have hb := B.bytes
  have hr := B.returns
  have hts := atoms_spec (ws := wsX9_clear) B.pre
  have hown : s.vm.findClass RX9 = some m.cls := findClass_of_methodNamed B.named
  have hlocks := B.notSynchronized
  have hK := hKK.1
  subst hsz
  have hD := hD0.self (sz := s.heap.size)
  generalize hAe : va_A [(q_t, .inr (9, [.ref q_t_bytes, .int v_t_length]))] s.heap.size = A at hD ⊢
  have hA : ∀ q : Nat, s.heap.size ≤ q → A q := fun q h => by rw [← hAe]; exact Or.inr h
  have hS : va_S A s.heap s.heap [] := va_S.rf
  have hl := lv_entry ([.ref q_t]) (n := 1) (Nat.le_of_ble_eq_true rfl)
  rw [lg_entry_eq]
  generalize (lg_sl ([.ref q_t]) ++ List.replicate (1 - (lg_sl ([.ref q_t])).length) Slot.unset).toArray = ls at hl ⊢
  have hl : lv_has ls 1 [(0, .ref q_t)] := hl
  unfold X9_clear at h
  obtain ⟨H, hHe⟩ : ∃ H, H = s.heap := ⟨_, rfl⟩
  obtain ⟨locs, hLe⟩ : ∃ x : List Loc, x = [] := ⟨_, rfl⟩
  rw [← hHe] at hP
  have hS : va_S A s.heap H locs := by rw [hHe, hLe]; exact hS
  suffices hW : W p l e (headSpec wsX9_clear rm_X9_clear).room s m ([.ref q_t] : List Value).toArray below meth c H locs 0 0 (MQ below (va_Qv (fun (_ : Unit) => True) (bW dC dI A [(q_t, .inr (9, [.ref q_t_bytes, .int r_v_t_length]))]) A) ([.ref q_t] : List Value).toArray s 0 0 A) (F0 m 0 ls []) by rw [hHe, hLe] at hW; exact hW
  refine lv_aload_n hx hb dX9_clear_0 rfl (lv_at hl 0 rfl) ?_
  refine lv_iconst (v := (0 : Int32)) hx hb dX9_clear_1 (by decide) ?_
  refine va_put (D := (dC, dI)) (ci := 9) (v := .int (0 : Int32)) (ty := .int) (C := RX9) (T := TX9) (N := 2) hx hb hts in_X9_clear_X9 tyX9 tyX9_ok nmX9 hown hK hP hD hS 0 rfl rfl 1 (by decide) (hts (.fieldLink RX9 15 "RightIfAsMany$Text" "length" "I") (List.mem_of_getElem? (i := 1) rfl)) (fun _ h9 => h9) rfl (by decide +kernel) rfl rfl (Nat.le_of_ble_eq_true rfl) dX9_clear_2 (fun H locs hP hD hS => ?_)
  have hP : va_P (dC, dI) vwCl [(q_t, .inr (9, [.ref q_t_bytes, .int (0 : Int32)]))] H := hP
  have hD : va_D A [(q_t, .inr (9, [.ref q_t_bytes, .int (0 : Int32)]))] := hD
  replace h := Option.some.inj h
  have e1 := h
  exact W.vret hx hb hr (fun t ht hW => ⟨⟨(), rfl, trivial, (by rw [ht, ← e1]; exact hP), (by rw [← e1]; exact hD)⟩, hS.F ht⟩) hS.2.2 dX9_clear_5
abbrev rm_X10_wipe : Room := { frames := 1, cells := 0, slots := 0, locals := 20 }
theorem in_X10_wipe_X9 : ∀ w ∈ wsX90, w ∈ wsX10_wipe := fun _ h => List.mem_cons_of_mem _ (List.mem_append_right _ h)
theorem in_X10_wipe_X10 : ∀ w ∈ wsX100, w ∈ wsX10_wipe := fun _ h => List.mem_cons_of_mem _ (List.mem_append_left _ (List.mem_append_right _ h))
set_option maxHeartbeats 4000000 in
set_option maxRecDepth 100000 in
theorem cn_X10_wipe (l : Launch) (dC : Nat → ClassId) (dI : Nat → Nat → Nat) (cI cJ cZ : ClassId) (q_t q_t_text q_t_reader q_t_rules q_t_people q_t_memory q_t_rows q_t_chances q_t_moves q_t_payments q_t_evenings q_t_text_bytes : Nat) (sz : Nat) (v_t_text_length : Int32) (res : Int32) (r_v_t_text_length : Int32) (h : X10_wipe v_t_text_length = some (res, r_v_t_text_length)) : Met l yX10_wipe wsX10_wipe rm_X10_wipe (pcW dC dI cI cJ cZ [(q_t, .inr (10, [.ref q_t_text, .ref q_t_reader, .ref q_t_rules, .ref q_t_people, .ref q_t_memory, .ref q_t_rows, .ref q_t_chances, .ref q_t_moves, .ref q_t_payments, .ref q_t_evenings])), (q_t_text, .inr (9, [.ref q_t_text_bytes, .int v_t_text_length]))] sz [.ref q_t]) (va_Qi (fun (r : Int32) (_ : Unit) => r = res) (bW dC dI (va_A [(q_t, .inr (10, [.ref q_t_text, .ref q_t_reader, .ref q_t_rules, .ref q_t_people, .ref q_t_memory, .ref q_t_rows, .ref q_t_chances, .ref q_t_moves, .ref q_t_payments, .ref q_t_evenings])), (q_t_text, .inr (9, [.ref q_t_text_bytes, .int v_t_text_length]))] sz) [(q_t, .inr (10, [.ref q_t_text, .ref q_t_reader, .ref q_t_rules, .ref q_t_people, .ref q_t_memory, .ref q_t_rows, .ref q_t_chances, .ref q_t_moves, .ref q_t_payments, .ref q_t_evenings])), (q_t_text, .inr (9, [.ref q_t_text_bytes, .int r_v_t_text_length]))]) (va_A [(q_t, .inr (10, [.ref q_t_text, .ref q_t_reader, .ref q_t_rules, .ref q_t_people, .ref q_t_memory, .ref q_t_rows, .ref q_t_chances, .ref q_t_moves, .ref q_t_payments, .ref q_t_evenings])), (q_t_text, .inr (9, [.ref q_t_text_bytes, .int v_t_text_length]))] sz)) 0 0 (va_A [(q_t, .inr (10, [.ref q_t_text, .ref q_t_reader, .ref q_t_rules, .ref q_t_people, .ref q_t_memory, .ref q_t_rows, .ref q_t_chances, .ref q_t_moves, .ref q_t_payments, .ref q_t_evenings])), (q_t_text, .inr (9, [.ref q_t_text_bytes, .int v_t_text_length]))] sz) := by
  refine Met.ofW (cc := cX10_wipe) (maxL := 2) (ret := (some .int)) (by decide) rfl ?_
  intro p e s m args below meth c s₁ B hml hv
  obtain ⟨rfl, hsz, hP, hKK, hD0⟩ := hv
  have hx := B.exec
  have hb := B.bytes
  have hr := B.returns
  have hts := atoms_spec (ws := wsX10_wipe) B.pre
  have hown : s.vm.findClass RX10 = some m.cls := findClass_of_methodNamed B.named
  have hlocks := B.notSynchronized
  have hK := hKK.1
  subst hsz
  have hD := hD0.self (sz := s.heap.size)
  generalize hAe : va_A [(q_t, .inr (10, [.ref q_t_text, .ref q_t_reader, .ref q_t_rules, .ref q_t_people, .ref q_t_memory, .ref q_t_rows, .ref q_t_chances, .ref q_t_moves, .ref q_t_payments, .ref q_t_evenings])), (q_t_text, .inr (9, [.ref q_t_text_bytes, .int v_t_text_length]))] s.heap.size = A at hD ⊢
  have hA : ∀ q : Nat, s.heap.size ≤ q → A q := fun q h => by rw [← hAe]; exact Or.inr h
  have hS : va_S A s.heap s.heap [] := va_S.rf
  have hl := lv_entry ([.ref q_t]) (n := 2) (Nat.le_of_ble_eq_true rfl)
  rw [lg_entry_eq]
  generalize (lg_sl ([.ref q_t]) ++ List.replicate (2 - (lg_sl ([.ref q_t])).length) Slot.unset).toArray = ls at hl ⊢
  have hl : lv_has ls 2 [(0, .ref q_t)] := hl
  unfold X10_wipe at h
  obtain ⟨H, hHe⟩ : ∃ H, H = s.heap := ⟨_, rfl⟩
  obtain ⟨locs, hLe⟩ : ∃ x : List Loc, x = [] := ⟨_, rfl⟩
  rw [← hHe] at hP
  have hS : va_S A s.heap H locs := by rw [hHe, hLe]; exact hS
  suffices hW : W p l e (headSpec wsX10_wipe rm_X10_wipe).room s m ([.ref q_t] : List Value).toArray below meth c H locs 0 0 (MQ below (va_Qi (fun (r : Int32) (_ : Unit) => r = res) (bW dC dI A [(q_t, .inr (10, [.ref q_t_text, .ref q_t_reader, .ref q_t_rules, .ref q_t_people, .ref q_t_memory, .ref q_t_rows, .ref q_t_chances, .ref q_t_moves, .ref q_t_payments, .ref q_t_evenings])), (q_t_text, .inr (9, [.ref q_t_text_bytes, .int r_v_t_text_length]))]) A) ([.ref q_t] : List Value).toArray s 0 0 A) (F0 m 0 ls []) by rw [hHe, hLe] at hW; exact hW
  refine lv_aload_n hx hb dX10_wipe_0 rfl (lv_at hl 0 rfl) ?_
  refine va_get (D := (dC, dI)) (ci := 10) (v := .ref q_t_text) (C := RX10) (T := TX10) (N := 10) hx hb hts in_X10_wipe_X10 hown hK hP 0 rfl rfl 0 (by decide) (hts (.fieldLink RX10 10 "RightIfAsMany" "text" "LRightIfAsMany$Text;") (List.mem_of_getElem? (i := 1) rfl)) (fun _ h9 => h9) rfl dX10_wipe_1 ?_
  refine kRi (res := (X9_length v_t_text_length)) (va_runV (As := []) (rest := []) ⟨hx, hb, hml, hown, hts⟩ (cn_X9_length l dC dI cI cJ cZ q_t_text q_t_text_bytes  v_t_text_length  (X9_length v_t_text_length) rfl) (cwV 0 hts gX10_wipe_X9_length rfl rfl rfl (by decide +kernel) ⟨Nat.le_of_ble_eq_true rfl, Nat.le_of_ble_eq_true rfl⟩) (preR hKK (hP.sub (ws' := [(q_t_text, .inr (9, [.ref q_t_text_bytes, .int v_t_text_length]))]) [1] rfl) (ci := 9) (q0 := 0) rfl rfl) rfl rfl hl.1 rfl (lv_room (Nat.le_of_ble_eq_true rfl)) dX10_wipe_4 ⟨Nat.zero_le _, Nat.zero_le _⟩) ?_
  refine lv_istore_n (lv' := [(1, .int (X9_length v_t_text_length)), (0, .ref q_t)]) hx hb dX10_wipe_7 rfl hl (by decide) rfl (fun ls hl => ?_)
  refine lv_aload_n hx hb dX10_wipe_8 rfl (lv_at hl 1 rfl) ?_
  refine va_get (D := (dC, dI)) (ci := 10) (v := .ref q_t_text) (C := RX10) (T := TX10) (N := 10) hx hb hts in_X10_wipe_X10 hown hK hP 0 rfl rfl 0 (by decide) (hts (.fieldLink RX10 10 "RightIfAsMany" "text" "LRightIfAsMany$Text;") (List.mem_of_getElem? (i := 1) rfl)) (fun _ h9 => h9) rfl dX10_wipe_9 ?_
  obtain ⟨w1_0, hc1, h⟩ := bnd1_s h
  refine kWv (wc := [(q_t_text, .inr (9, [.ref q_t_text_bytes, .int v_t_text_length]))]) (wr := [(q_t, .inr (10, [.ref q_t_text, .ref q_t_reader, .ref q_t_rules, .ref q_t_people, .ref q_t_memory, .ref q_t_rows, .ref q_t_chances, .ref q_t_moves, .ref q_t_payments, .ref q_t_evenings]))]) (w1 := [(q_t_text, .inr (9, [.ref q_t_text_bytes, .int w1_0]))]) (wn := [(q_t, .inr (10, [.ref q_t_text, .ref q_t_reader, .ref q_t_rules, .ref q_t_people, .ref q_t_memory, .ref q_t_rows, .ref q_t_chances, .ref q_t_moves, .ref q_t_payments, .ref q_t_evenings])), (q_t_text, .inr (9, [.ref q_t_text_bytes, .int w1_0]))]) hP hD hS hA [1] [0] [0, 1] rfl rfl (by decide) (by decide) rfl (by decide) (va_runV (As := []) (rest := []) ⟨hx, hb, hml, hown, hts⟩ (cn_X9_clear l dC dI cI cJ cZ q_t_text q_t_text_bytes H.size v_t_text_length  w1_0 hc1) (cwV 0 hts gX10_wipe_X9_clear rfl rfl rfl (by decide +kernel) ⟨Nat.le_of_ble_eq_true rfl, Nat.le_of_ble_eq_true rfl⟩) (preW hKK (hP.sub (ws' := [(q_t_text, .inr (9, [.ref q_t_text_bytes, .int v_t_text_length]))]) [1] rfl) (hD.sub (ws' := [(q_t_text, .inr (9, [.ref q_t_text_bytes, .int v_t_text_length]))]) [1] (by decide) rfl) (ci := 9) (q0 := 0) rfl rfl) rfl rfl hl.1 rfl (lv_room (Nat.le_of_ble_eq_true rfl)) dX10_wipe_12 ⟨Nat.zero_le _, Nat.zero_le _⟩) (fun H locs hP hD hS => ?_)
  refine lv_iload_n hx hb dX10_wipe_15 rfl (lv_at hl 0 rfl) ?_
  replace h := Option.some.inj h
  obtain ⟨e1, e2⟩ := pr2 h
  exact W.iret (v := (X9_length v_t_text_length)) hx hb hr (fun t ht hW => ⟨⟨_, (), rfl, e1, (by rw [ht, ← e2]; exact hP), (by rw [← e2]; exact hD)⟩, hS.F ht⟩) hS.2.2 dX10_wipe_16
abbrev rm_X8_clear : Room := { frames := 0, cells := 0, slots := 0, locals := 0 }
theorem in_X8_clear_X8 : ∀ w ∈ wsX80, w ∈ wsX8_clear := fun _ h => List.mem_cons_of_mem _ (List.mem_append_right _ h)
set_option maxHeartbeats 4000000 in
set_option maxRecDepth 100000 in
theorem cn_X8_clear (l : Launch) (dC : Nat → ClassId) (dI : Nat → Nat → Nat) (cI cJ cZ : ClassId) (q_t : Nat) (sz : Nat) (v_t_law : Int32) (v_t_share : Int32) (v_t_pot : Int32) (v_t_barred : Int32) (r_v_t_law : Int32) (r_v_t_share : Int32) (r_v_t_pot : Int32) (r_v_t_barred : Int32) (h : X8_clear v_t_law v_t_share v_t_pot v_t_barred = some (r_v_t_law, r_v_t_share, r_v_t_pot, r_v_t_barred)) : Met l yX8_clear wsX8_clear rm_X8_clear (pcW dC dI cI cJ cZ [(q_t, .inr (8, [.int v_t_law, .int v_t_share, .int v_t_pot, .int v_t_barred]))] sz [.ref q_t]) (va_Qv (fun (_ : Unit) => True) (bW dC dI (va_A [(q_t, .inr (8, [.int v_t_law, .int v_t_share, .int v_t_pot, .int v_t_barred]))] sz) [(q_t, .inr (8, [.int r_v_t_law, .int r_v_t_share, .int r_v_t_pot, .int r_v_t_barred]))]) (va_A [(q_t, .inr (8, [.int v_t_law, .int v_t_share, .int v_t_pot, .int v_t_barred]))] sz)) 0 0 (va_A [(q_t, .inr (8, [.int v_t_law, .int v_t_share, .int v_t_pot, .int v_t_barred]))] sz) := by
  refine Met.ofW (cc := cX8_clear) (maxL := 1) (ret := none) (by decide) rfl ?_
  intro p e s m args below meth c s₁ B hml hv
  obtain ⟨rfl, hsz, hP, hKK, hD0⟩ := hv
  have hx := B.exec
  have hb := B.bytes
  have hr := B.returns
  have hts := atoms_spec (ws := wsX8_clear) B.pre
  have hown : s.vm.findClass RX8 = some m.cls := findClass_of_methodNamed B.named
  have hlocks := B.notSynchronized
  have hK := hKK.1
  subst hsz
  have hD := hD0.self (sz := s.heap.size)
  generalize hAe : va_A [(q_t, .inr (8, [.int v_t_law, .int v_t_share, .int v_t_pot, .int v_t_barred]))] s.heap.size = A at hD ⊢
  have hA : ∀ q : Nat, s.heap.size ≤ q → A q := fun q h => by rw [← hAe]; exact Or.inr h
  have hS : va_S A s.heap s.heap [] := va_S.rf
  have hl := lv_entry ([.ref q_t]) (n := 1) (Nat.le_of_ble_eq_true rfl)
  rw [lg_entry_eq]
  generalize (lg_sl ([.ref q_t]) ++ List.replicate (1 - (lg_sl ([.ref q_t])).length) Slot.unset).toArray = ls at hl ⊢
  have hl : lv_has ls 1 [(0, .ref q_t)] := hl
  unfold X8_clear at h
  obtain ⟨H, hHe⟩ : ∃ H, H = s.heap := ⟨_, rfl⟩
  obtain ⟨locs, hLe⟩ : ∃ x : List Loc, x = [] := ⟨_, rfl⟩
  rw [← hHe] at hP
  have hS : va_S A s.heap H locs := by rw [hHe, hLe]; exact hS
  suffices hW : W p l e (headSpec wsX8_clear rm_X8_clear).room s m ([.ref q_t] : List Value).toArray below meth c H locs 0 0 (MQ below (va_Qv (fun (_ : Unit) => True) (bW dC dI A [(q_t, .inr (8, [.int r_v_t_law, .int r_v_t_share, .int r_v_t_pot, .int r_v_t_barred]))]) A) ([.ref q_t] : List Value).toArray s 0 0 A) (F0 m 0 ls []) by rw [hHe, hLe] at hW; exact hW
  refine lv_aload_n hx hb dX8_clear_0 rfl (lv_at hl 0 rfl) ?_
  refine lv_iconst (v := (0 : Int32)) hx hb dX8_clear_1 (by decide) ?_
  refine va_put (D := (dC, dI)) (ci := 8) (v := .int (0 : Int32)) (ty := .int) (C := RX8) (T := TX8) (N := 4) hx hb hts in_X8_clear_X8 tyX8 tyX8_ok nmX8 hown hK hP hD hS 0 rfl rfl 0 (by decide) (hts (.fieldLink RX8 9 "RightIfAsMany$Rules" "law" "I") (List.mem_of_getElem? (i := 1) rfl)) (fun _ h9 => h9) rfl (by decide +kernel) rfl rfl (Nat.le_of_ble_eq_true rfl) dX8_clear_2 (fun H locs hP hD hS => ?_)
  have hP : va_P (dC, dI) vwCl [(q_t, .inr (8, [.int (0 : Int32), .int v_t_share, .int v_t_pot, .int v_t_barred]))] H := hP
  have hD : va_D A [(q_t, .inr (8, [.int (0 : Int32), .int v_t_share, .int v_t_pot, .int v_t_barred]))] := hD
  refine lv_aload_n hx hb dX8_clear_5 rfl (lv_at hl 0 rfl) ?_
  refine lv_iconst (v := (0 : Int32)) hx hb dX8_clear_6 (by decide) ?_
  refine va_put (D := (dC, dI)) (ci := 8) (v := .int (0 : Int32)) (ty := .int) (C := RX8) (T := TX8) (N := 4) hx hb hts in_X8_clear_X8 tyX8 tyX8_ok nmX8 hown hK hP hD hS 0 rfl rfl 1 (by decide) (hts (.fieldLink RX8 15 "RightIfAsMany$Rules" "share" "I") (List.mem_of_getElem? (i := 2) rfl)) (fun _ h9 => h9) rfl (by decide +kernel) rfl rfl (Nat.le_of_ble_eq_true rfl) dX8_clear_7 (fun H locs hP hD hS => ?_)
  have hP : va_P (dC, dI) vwCl [(q_t, .inr (8, [.int (0 : Int32), .int (0 : Int32), .int v_t_pot, .int v_t_barred]))] H := hP
  have hD : va_D A [(q_t, .inr (8, [.int (0 : Int32), .int (0 : Int32), .int v_t_pot, .int v_t_barred]))] := hD
  refine lv_aload_n hx hb dX8_clear_10 rfl (lv_at hl 0 rfl) ?_
  refine lv_iconst (v := (0 : Int32)) hx hb dX8_clear_11 (by decide) ?_
  refine va_put (D := (dC, dI)) (ci := 8) (v := .int (0 : Int32)) (ty := .int) (C := RX8) (T := TX8) (N := 4) hx hb hts in_X8_clear_X8 tyX8 tyX8_ok nmX8 hown hK hP hD hS 0 rfl rfl 2 (by decide) (hts (.fieldLink RX8 18 "RightIfAsMany$Rules" "pot" "I") (List.mem_of_getElem? (i := 3) rfl)) (fun _ h9 => h9) rfl (by decide +kernel) rfl rfl (Nat.le_of_ble_eq_true rfl) dX8_clear_12 (fun H locs hP hD hS => ?_)
  have hP : va_P (dC, dI) vwCl [(q_t, .inr (8, [.int (0 : Int32), .int (0 : Int32), .int (0 : Int32), .int v_t_barred]))] H := hP
  have hD : va_D A [(q_t, .inr (8, [.int (0 : Int32), .int (0 : Int32), .int (0 : Int32), .int v_t_barred]))] := hD
  refine lv_aload_n hx hb dX8_clear_15 rfl (lv_at hl 0 rfl) ?_
  refine lv_iconst (v := (0 : Int32)) hx hb dX8_clear_16 (by decide) ?_
  refine va_put (D := (dC, dI)) (ci := 8) (v := .int (0 : Int32)) (ty := .int) (C := RX8) (T := TX8) (N := 4) hx hb hts in_X8_clear_X8 tyX8 tyX8_ok nmX8 hown hK hP hD hS 0 rfl rfl 3 (by decide) (hts (.fieldLink RX8 21 "RightIfAsMany$Rules" "barred" "I") (List.mem_of_getElem? (i := 4) rfl)) (fun _ h9 => h9) rfl (by decide +kernel) rfl rfl (Nat.le_of_ble_eq_true rfl) dX8_clear_17 (fun H locs hP hD hS => ?_)
  have hP : va_P (dC, dI) vwCl [(q_t, .inr (8, [.int (0 : Int32), .int (0 : Int32), .int (0 : Int32), .int (0 : Int32)]))] H := hP
  have hD : va_D A [(q_t, .inr (8, [.int (0 : Int32), .int (0 : Int32), .int (0 : Int32), .int (0 : Int32)]))] := hD
  replace h := Option.some.inj h
  obtain ⟨e1, e2, e3, e4⟩ := pr4 h
  exact W.vret hx hb hr (fun t ht hW => ⟨⟨(), rfl, trivial, (by rw [ht, ← e1, ← e2, ← e3, ← e4]; exact hP), (by rw [← e1, ← e2, ← e3, ← e4]; exact hD)⟩, hS.F ht⟩) hS.2.2 dX8_clear_20
