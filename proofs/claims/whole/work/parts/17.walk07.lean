/-! walks, by program: X3_correct X10_round X2_acts X2_takeAct X10_undo X3_changes -/
abbrev rm_X3_correct : Room := { frames := 3, cells := 0, slots := 0, locals := 64 }
theorem in_X3_correct_X8 : ∀ w ∈ wsX80, w ∈ wsX3_correct := fun _ h => List.mem_cons_of_mem _ (List.mem_append_right _ h)
theorem in_X3_correct_X5 : ∀ w ∈ wsX50, w ∈ wsX3_correct := fun _ h => List.mem_cons_of_mem _ (List.mem_append_left _ (List.mem_append_right _ h))
theorem in_X3_correct_X3 : ∀ w ∈ wsX30, w ∈ wsX3_correct := fun _ h => List.mem_cons_of_mem _ (List.mem_append_left _ (List.mem_append_left _ (List.mem_append_right _ h)))
set_option maxHeartbeats 4000000 in
set_option maxRecDepth 100000 in
theorem cn_X3_correct (l : Launch) (dC : Nat → ClassId) (dI : Nat → Nat → Nat) (cI cJ cZ : ClassId) (q_t q_p1 q_p2 q_t_now q_t_next q_p2_numbers q_p2_counts : Nat) (sz : Nat) (f_t_now : (Nat → Int32)) (v_p1_law : Int32) (v_p1_share : Int32) (v_p1_pot : Int32) (v_p1_barred : Int32) (v_p2_size : Int32) (f_p2_numbers : (Nat → Int32)) (f_p2_counts : (Nat → Int32)) (res : Int32) (r_f_t_now : (Nat → Int32)) (r_f_p2_numbers : (Nat → Int32)) (r_f_p2_counts : (Nat → Int32)) (h : X3_correct f_t_now v_p1_law v_p1_barred v_p2_size f_p2_numbers f_p2_counts = some (res, r_f_t_now, r_f_p2_numbers, r_f_p2_counts)) : Met l yX3_correct wsX3_correct rm_X3_correct (pcW dC dI cI cJ cZ [(q_t, .inr (3, [.ref q_t_now, .ref q_t_next])), (q_t_now, .inl (cI, 10, .inl f_t_now)), (q_p1, .inr (8, [.int v_p1_law, .int v_p1_share, .int v_p1_pot, .int v_p1_barred])), (q_p2, .inr (5, [.ref q_p2_numbers, .ref q_p2_counts, .int v_p2_size])), (q_p2_numbers, .inl (cI, 9, .inl f_p2_numbers)), (q_p2_counts, .inl (cI, 10, .inl f_p2_counts))] sz [.ref q_t, .ref q_p1, .ref q_p2]) (va_Qi (fun (r : Int32) (_ : Unit) => r = res) (bW dC dI (va_A [(q_t, .inr (3, [.ref q_t_now, .ref q_t_next])), (q_t_now, .inl (cI, 10, .inl f_t_now)), (q_p1, .inr (8, [.int v_p1_law, .int v_p1_share, .int v_p1_pot, .int v_p1_barred])), (q_p2, .inr (5, [.ref q_p2_numbers, .ref q_p2_counts, .int v_p2_size])), (q_p2_numbers, .inl (cI, 9, .inl f_p2_numbers)), (q_p2_counts, .inl (cI, 10, .inl f_p2_counts))] sz) [(q_t, .inr (3, [.ref q_t_now, .ref q_t_next])), (q_t_now, .inl (cI, 10, .inl r_f_t_now)), (q_p1, .inr (8, [.int v_p1_law, .int v_p1_share, .int v_p1_pot, .int v_p1_barred])), (q_p2, .inr (5, [.ref q_p2_numbers, .ref q_p2_counts, .int v_p2_size])), (q_p2_numbers, .inl (cI, 9, .inl r_f_p2_numbers)), (q_p2_counts, .inl (cI, 10, .inl r_f_p2_counts))]) (va_A [(q_t, .inr (3, [.ref q_t_now, .ref q_t_next])), (q_t_now, .inl (cI, 10, .inl f_t_now)), (q_p1, .inr (8, [.int v_p1_law, .int v_p1_share, .int v_p1_pot, .int v_p1_barred])), (q_p2, .inr (5, [.ref q_p2_numbers, .ref q_p2_counts, .int v_p2_size])), (q_p2_numbers, .inl (cI, 9, .inl f_p2_numbers)), (q_p2_counts, .inl (cI, 10, .inl f_p2_counts))] sz)) 0 0 (va_A [(q_t, .inr (3, [.ref q_t_now, .ref q_t_next])), (q_t_now, .inl (cI, 10, .inl f_t_now)), (q_p1, .inr (8, [.int v_p1_law, .int v_p1_share, .int v_p1_pot, .int v_p1_barred])), (q_p2, .inr (5, [.ref q_p2_numbers, .ref q_p2_counts, .int v_p2_size])), (q_p2_numbers, .inl (cI, 9, .inl f_p2_numbers)), (q_p2_counts, .inl (cI, 10, .inl f_p2_counts))] sz) := by
  refine Met.ofW (cc := cX3_correct) (maxL := 7) (ret := (some .int)) (by decide) rfl ?_
  intro p e s m args below meth c s₁ B hml hv
  obtain ⟨rfl, hsz, hP, hKK, hD0⟩ := hv
  have hx := B.exec
  have hb := B.bytes
  have hr := B.returns
  have hts := atoms_spec (ws := wsX3_correct) B.pre
  have hown : s.vm.findClass RX3 = some m.cls := findClass_of_methodNamed B.named
  have hlocks := B.notSynchronized
  have hK := hKK.1
  subst hsz
  have hD := hD0.self (sz := s.heap.size)
  generalize hAe : va_A [(q_t, .inr (3, [.ref q_t_now, .ref q_t_next])), (q_t_now, .inl (cI, 10, .inl f_t_now)), (q_p1, .inr (8, [.int v_p1_law, .int v_p1_share, .int v_p1_pot, .int v_p1_barred])), (q_p2, .inr (5, [.ref q_p2_numbers, .ref q_p2_counts, .int v_p2_size])), (q_p2_numbers, .inl (cI, 9, .inl f_p2_numbers)), (q_p2_counts, .inl (cI, 10, .inl f_p2_counts))] s.heap.size = A at hD ⊢
  have hA : ∀ q : Nat, s.heap.size ≤ q → A q := fun q h => by rw [← hAe]; exact Or.inr h
  have hS : va_S A s.heap s.heap [] := va_S.rf
  have hl := lv_entry ([.ref q_t, .ref q_p1, .ref q_p2]) (n := 7) (Nat.le_of_ble_eq_true rfl)
  rw [lg_entry_eq]
  generalize (lg_sl ([.ref q_t, .ref q_p1, .ref q_p2]) ++ List.replicate (7 - (lg_sl ([.ref q_t, .ref q_p1, .ref q_p2])).length) Slot.unset).toArray = ls at hl ⊢
  have hl : lv_has ls 7 [(0, .ref q_t), (1, .ref q_p1), (2, .ref q_p2)] := hl
  have L_20 : ∀ (n20 : Nat) , ∀ (f_t_now : (Nat → Int32)) (f_p2_numbers : (Nat → Int32)) (f_p2_counts : (Nat → Int32)) (x3 : Int32) (x4 : Int32), X3_correct_b20 n20 f_t_now v_p1_law v_p1_barred v_p2_size f_p2_numbers f_p2_counts x3 x4 = some (res, r_f_t_now, r_f_p2_numbers, r_f_p2_counts) → ∀ (H : Heap) (locs : List Loc) (ls : Array Slot), va_P (dC, dI) vwCl [(q_t, .inr (3, [.ref q_t_now, .ref q_t_next])), (q_t_now, .inl (cI, 10, .inl f_t_now)), (q_p1, .inr (8, [.int v_p1_law, .int v_p1_share, .int v_p1_pot, .int v_p1_barred])), (q_p2, .inr (5, [.ref q_p2_numbers, .ref q_p2_counts, .int v_p2_size])), (q_p2_numbers, .inl (cI, 9, .inl f_p2_numbers)), (q_p2_counts, .inl (cI, 10, .inl f_p2_counts))] H → va_D A [(q_t, .inr (3, [.ref q_t_now, .ref q_t_next])), (q_t_now, .inl (cI, 10, .inl f_t_now)), (q_p1, .inr (8, [.int v_p1_law, .int v_p1_share, .int v_p1_pot, .int v_p1_barred])), (q_p2, .inr (5, [.ref q_p2_numbers, .ref q_p2_counts, .int v_p2_size])), (q_p2_numbers, .inl (cI, 9, .inl f_p2_numbers)), (q_p2_counts, .inl (cI, 10, .inl f_p2_counts))] → va_S A s.heap H locs → lv_has ls 7 [(0, .ref q_t), (1, .ref q_p1), (2, .ref q_p2), (3, .int x3), (4, .int x4)] → W p l e (headSpec wsX3_correct rm_X3_correct).room s m ([.ref q_t, .ref q_p1, .ref q_p2] : List Value).toArray below meth c H locs 0 0 (MQ below (va_Qi (fun (r : Int32) (_ : Unit) => r = res) (bW dC dI A [(q_t, .inr (3, [.ref q_t_now, .ref q_t_next])), (q_t_now, .inl (cI, 10, .inl r_f_t_now)), (q_p1, .inr (8, [.int v_p1_law, .int v_p1_share, .int v_p1_pot, .int v_p1_barred])), (q_p2, .inr (5, [.ref q_p2_numbers, .ref q_p2_counts, .int v_p2_size])), (q_p2_numbers, .inl (cI, 9, .inl r_f_p2_numbers)), (q_p2_counts, .inl (cI, 10, .inl r_f_p2_counts))]) A) ([.ref q_t, .ref q_p1, .ref q_p2] : List Value).toArray s 0 0 A) (F0 m 20 ls []) := by
    intro n20
    induction n20 with
    | zero => intro f_t_now f_p2_numbers f_p2_counts x3 x4 h H locs ls hP hD hS hl; exact absurd h (fun h => by cases h)
    | succ n20 ih_20 =>
      have B_67 : ∀ (f_t_now : (Nat → Int32)) (f_p2_numbers : (Nat → Int32)) (f_p2_counts : (Nat → Int32)) (x3 : Int32) (x4 : Int32), X3_correct_b67 (X3_correct_b20 n20) f_t_now v_p1_law v_p1_barred v_p2_size f_p2_numbers f_p2_counts x3 x4 = some (res, r_f_t_now, r_f_p2_numbers, r_f_p2_counts) → ∀ (H : Heap) (locs : List Loc) (ls : Array Slot), va_P (dC, dI) vwCl [(q_t, .inr (3, [.ref q_t_now, .ref q_t_next])), (q_t_now, .inl (cI, 10, .inl f_t_now)), (q_p1, .inr (8, [.int v_p1_law, .int v_p1_share, .int v_p1_pot, .int v_p1_barred])), (q_p2, .inr (5, [.ref q_p2_numbers, .ref q_p2_counts, .int v_p2_size])), (q_p2_numbers, .inl (cI, 9, .inl f_p2_numbers)), (q_p2_counts, .inl (cI, 10, .inl f_p2_counts))] H → va_D A [(q_t, .inr (3, [.ref q_t_now, .ref q_t_next])), (q_t_now, .inl (cI, 10, .inl f_t_now)), (q_p1, .inr (8, [.int v_p1_law, .int v_p1_share, .int v_p1_pot, .int v_p1_barred])), (q_p2, .inr (5, [.ref q_p2_numbers, .ref q_p2_counts, .int v_p2_size])), (q_p2_numbers, .inl (cI, 9, .inl f_p2_numbers)), (q_p2_counts, .inl (cI, 10, .inl f_p2_counts))] → va_S A s.heap H locs → lv_has ls 7 [(0, .ref q_t), (1, .ref q_p1), (2, .ref q_p2), (3, .int x3), (4, .int x4)] → W p l e (headSpec wsX3_correct rm_X3_correct).room s m ([.ref q_t, .ref q_p1, .ref q_p2] : List Value).toArray below meth c H locs 0 0 (MQ below (va_Qi (fun (r : Int32) (_ : Unit) => r = res) (bW dC dI A [(q_t, .inr (3, [.ref q_t_now, .ref q_t_next])), (q_t_now, .inl (cI, 10, .inl r_f_t_now)), (q_p1, .inr (8, [.int v_p1_law, .int v_p1_share, .int v_p1_pot, .int v_p1_barred])), (q_p2, .inr (5, [.ref q_p2_numbers, .ref q_p2_counts, .int v_p2_size])), (q_p2_numbers, .inl (cI, 9, .inl r_f_p2_numbers)), (q_p2_counts, .inl (cI, 10, .inl r_f_p2_counts))]) A) ([.ref q_t, .ref q_p1, .ref q_p2] : List Value).toArray s 0 0 A) (F0 m 67 ls []) := by
        intro f_t_now f_p2_numbers f_p2_counts x3 x4 h H locs ls hP hD hS hl
        unfold X3_correct_b67 at h
        refine lv_iinc (v := (x4 + (1 : Int32))) (lv' := [(4, .int (x4 + (1 : Int32))), (0, .ref q_t), (1, .ref q_p1), (2, .ref q_p2), (3, .int x3)]) hx hb dX3_correct_67 hl (k := 4) rfl rfl (by decide) rfl (fun ls hl => ?_)
        refine lv_goto (tgt := 20) hx hb dX3_correct_70 (by decide) ?_
        exact ih_20 f_t_now f_p2_numbers f_p2_counts x3 (x4 + (1 : Int32)) h H locs ls hP hD hS (lv_sub hl [1, 2, 3, 4, 0] rfl)
      intro f_t_now f_p2_numbers f_p2_counts x3 x4 h H locs ls hP hD hS hl
      replace h : X3_correct_b20_s (X3_correct_b20 n20) f_t_now v_p1_law v_p1_barred v_p2_size f_p2_numbers f_p2_counts x3 x4 = some (res, r_f_t_now, r_f_p2_numbers, r_f_p2_counts) := h
      unfold X3_correct_b20_s at h
      refine lv_iload hx hb dX3_correct_20 (lv_at hl 4 rfl) ?_
      refine lv_aload_n hx hb dX3_correct_22 rfl (lv_at hl 2 rfl) ?_
      refine kRi (res := (X5_size v_p2_size)) (va_runV (As := []) (rest := [.int x4]) ⟨hx, hb, hml, hown, hts⟩ (cn_X5_size l dC dI cI cJ cZ q_p2 q_p2_numbers q_p2_counts  v_p2_size  (X5_size v_p2_size) rfl) (cwV 0 hts gX3_correct_X5_size rfl rfl rfl (by decide +kernel) ⟨Nat.le_of_ble_eq_true rfl, Nat.le_of_ble_eq_true rfl⟩) (preR hKK (hP.sub (ws' := [(q_p2, .inr (5, [.ref q_p2_numbers, .ref q_p2_counts, .int v_p2_size]))]) [3] rfl) (ci := 5) (q0 := 0) rfl rfl) rfl rfl hl.1 rfl (lv_room (Nat.le_of_ble_eq_true rfl)) dX3_correct_23 ⟨Nat.zero_le _, Nat.zero_le _⟩) ?_
      refine lv_icmp_ge (tgt := 73) hx hb dX3_correct_26 (by decide) (fun c1 => ?_) (fun c1 => ?_)
      · replace h := ite_t h c1
        refine lv_iload_n hx hb dX3_correct_73 rfl (lv_at hl 3 rfl) ?_
        replace h := Option.some.inj h
        obtain ⟨e1, e2, e3, e4⟩ := pr4 h
        exact W.iret (v := x3) hx hb hr (fun t ht hW => ⟨⟨_, (), rfl, e1, (by rw [ht, ← e2, ← e3, ← e4]; exact hP), (by rw [← e2, ← e3, ← e4]; exact hD)⟩, hS.F ht⟩) hS.2.2 dX3_correct_74
      replace h := ite_f h c1
      refine lv_aload_n hx hb dX3_correct_29 rfl (lv_at hl 2 rfl) ?_
      refine lv_iload hx hb dX3_correct_30 (lv_at hl 4 rfl) ?_
      obtain ⟨r2, hc2, h⟩ := bnd1_s h
      refine kRi (res := r2) (va_runV (As := [.int x4]) (rest := []) ⟨hx, hb, hml, hown, hts⟩ (cn_X5_numberOf l dC dI cI cJ cZ q_p2 q_p2_numbers q_p2_counts  v_p2_size f_p2_numbers x4 r2 hc2) (cwV 1 hts gX3_correct_X5_numberOf rfl rfl rfl (by decide +kernel) ⟨Nat.le_of_ble_eq_true rfl, Nat.le_of_ble_eq_true rfl⟩) (preR hKK (hP.sub (ws' := [(q_p2, .inr (5, [.ref q_p2_numbers, .ref q_p2_counts, .int v_p2_size])), (q_p2_numbers, .inl (cI, 9, .inl f_p2_numbers))]) [3, 4] rfl) (ci := 5) (q0 := 0) rfl rfl) rfl rfl hl.1 rfl (lv_room (Nat.le_of_ble_eq_true rfl)) dX3_correct_32 ⟨Nat.zero_le _, Nat.zero_le _⟩) ?_
      refine lv_istore (lv' := [(5, .int r2), (0, .ref q_t), (1, .ref q_p1), (2, .ref q_p2), (3, .int x3), (4, .int x4)]) hx hb dX3_correct_35 hl (by decide) rfl (fun ls hl => ?_)
      refine lv_aload_n hx hb dX3_correct_37 rfl (lv_at hl 2 rfl) ?_
      refine lv_iload hx hb dX3_correct_38 (lv_at hl 0 rfl) ?_
      refine lv_aload_n hx hb dX3_correct_40 rfl (lv_at hl 1 rfl) ?_
      refine va_get (D := (dC, dI)) (ci := 3) (v := .ref q_t_now) (C := RX3) (T := TX3) (N := 2) hx hb hts in_X3_correct_X3 hown hK hP 0 rfl rfl 0 (by decide) (hts (.fieldLink RX3 9 "RightIfAsMany$Moves" "now" "[I") (List.mem_of_getElem? (i := 1) rfl)) (fun _ h9 => h9) rfl dX3_correct_41 ?_
      obtain ⟨r3, hc3, h⟩ := bnd1_s h
      refine kRi (res := r3) (va_runV (As := [.int r2, .ref q_t_now]) (rest := []) ⟨hx, hb, hml, hown, hts⟩ (cn_X8_corrected l dC dI cI cJ cZ q_p1 q_t_now  v_p1_law v_p1_share v_p1_pot v_p1_barred f_t_now r2 r3 hc3) (cwV 2 hts gX3_correct_X8_corrected rfl rfl rfl (by decide +kernel) ⟨Nat.le_of_ble_eq_true rfl, Nat.le_of_ble_eq_true rfl⟩) (preR hKK (hP.sub (ws' := [(q_p1, .inr (8, [.int v_p1_law, .int v_p1_share, .int v_p1_pot, .int v_p1_barred])), (q_t_now, .inl (cI, 10, .inl f_t_now))]) [2, 1] rfl) (ci := 8) (q0 := 0) rfl rfl) rfl rfl hl.1 rfl (lv_room (Nat.le_of_ble_eq_true rfl)) dX3_correct_44 ⟨Nat.zero_le _, Nat.zero_le _⟩) ?_
      refine lv_istore (lv' := [(6, .int r3), (5, .int r2), (0, .ref q_t), (1, .ref q_p1), (2, .ref q_p2), (3, .int x3), (4, .int x4)]) hx hb dX3_correct_47 hl (by decide) rfl (fun ls hl => ?_)
      refine lv_iload hx hb dX3_correct_49 (lv_at hl 0 rfl) ?_
      refine lv_iload hx hb dX3_correct_51 (lv_at hl 1 rfl) ?_
      refine lv_icmp_eq (tgt := 67) hx hb dX3_correct_53 (by decide) (fun c4 => ?_) (fun c4 => ?_)
      · replace h := ite_t h c4
        exact B_67 f_t_now f_p2_numbers f_p2_counts x3 x4 h H locs ls hP hD hS (lv_sub hl [2, 3, 4, 5, 6] rfl)
      replace h := ite_f h c4
      refine lv_aload_n hx hb dX3_correct_56 rfl (lv_at hl 4 rfl) ?_
      refine lv_iload hx hb dX3_correct_57 (lv_at hl 6 rfl) ?_
      refine lv_iload hx hb dX3_correct_59 (lv_at hl 0 rfl) ?_
      obtain ⟨w5_0, w5_1, hc5, h⟩ := bnd2_s h
      refine kWv (wc := [(q_p2, .inr (5, [.ref q_p2_numbers, .ref q_p2_counts, .int v_p2_size])), (q_p2_numbers, .inl (cI, 9, .inl f_p2_numbers)), (q_p2_counts, .inl (cI, 10, .inl f_p2_counts))]) (wr := [(q_t, .inr (3, [.ref q_t_now, .ref q_t_next])), (q_t_now, .inl (cI, 10, .inl f_t_now)), (q_p1, .inr (8, [.int v_p1_law, .int v_p1_share, .int v_p1_pot, .int v_p1_barred]))]) (w1 := [(q_p2, .inr (5, [.ref q_p2_numbers, .ref q_p2_counts, .int v_p2_size])), (q_p2_numbers, .inl (cI, 9, .inl w5_0)), (q_p2_counts, .inl (cI, 10, .inl w5_1))]) (wn := [(q_t, .inr (3, [.ref q_t_now, .ref q_t_next])), (q_t_now, .inl (cI, 10, .inl f_t_now)), (q_p1, .inr (8, [.int v_p1_law, .int v_p1_share, .int v_p1_pot, .int v_p1_barred])), (q_p2, .inr (5, [.ref q_p2_numbers, .ref q_p2_counts, .int v_p2_size])), (q_p2_numbers, .inl (cI, 9, .inl w5_0)), (q_p2_counts, .inl (cI, 10, .inl w5_1))]) hP hD hS hA [3, 4, 5] [0, 1, 2] [0, 1, 2, 3, 4, 5] rfl rfl (by decide) (by decide) rfl (by decide) (va_runV (As := [.int x4, .int r3]) (rest := []) ⟨hx, hb, hml, hown, hts⟩ (cn_X5_rewrite l dC dI cI cJ cZ q_p2 q_p2_numbers q_p2_counts H.size v_p2_size f_p2_numbers f_p2_counts x4 r3 w5_0 w5_1 hc5) (cwV 2 hts gX3_correct_X5_rewrite rfl rfl rfl (by decide +kernel) ⟨Nat.le_of_ble_eq_true rfl, Nat.le_of_ble_eq_true rfl⟩) (preW hKK (hP.sub (ws' := [(q_p2, .inr (5, [.ref q_p2_numbers, .ref q_p2_counts, .int v_p2_size])), (q_p2_numbers, .inl (cI, 9, .inl f_p2_numbers)), (q_p2_counts, .inl (cI, 10, .inl f_p2_counts))]) [3, 4, 5] rfl) (hD.sub (ws' := [(q_p2, .inr (5, [.ref q_p2_numbers, .ref q_p2_counts, .int v_p2_size])), (q_p2_numbers, .inl (cI, 9, .inl f_p2_numbers)), (q_p2_counts, .inl (cI, 10, .inl f_p2_counts))]) [3, 4, 5] (by decide) rfl) (ci := 5) (q0 := 0) rfl rfl) rfl rfl hl.1 rfl (lv_room (Nat.le_of_ble_eq_true rfl)) dX3_correct_61 ⟨Nat.zero_le _, Nat.zero_le _⟩) (fun H locs hP hD hS => ?_)
      refine lv_iinc (v := (x3 + (1 : Int32))) (lv' := [(3, .int (x3 + (1 : Int32))), (6, .int r3), (5, .int r2), (0, .ref q_t), (1, .ref q_p1), (2, .ref q_p2), (4, .int x4)]) hx hb dX3_correct_64 hl (k := 5) rfl rfl (by decide) rfl (fun ls hl => ?_)
      exact B_67 f_t_now w5_0 w5_1 (x3 + (1 : Int32)) x4 h H locs ls hP hD hS (lv_sub hl [3, 4, 5, 0, 6] rfl)
  unfold X3_correct at h
  obtain ⟨H, hHe⟩ : ∃ H, H = s.heap := ⟨_, rfl⟩
  obtain ⟨locs, hLe⟩ : ∃ x : List Loc, x = [] := ⟨_, rfl⟩
  rw [← hHe] at hP
  have hS : va_S A s.heap H locs := by rw [hHe, hLe]; exact hS
  suffices hW : W p l e (headSpec wsX3_correct rm_X3_correct).room s m ([.ref q_t, .ref q_p1, .ref q_p2] : List Value).toArray below meth c H locs 0 0 (MQ below (va_Qi (fun (r : Int32) (_ : Unit) => r = res) (bW dC dI A [(q_t, .inr (3, [.ref q_t_now, .ref q_t_next])), (q_t_now, .inl (cI, 10, .inl r_f_t_now)), (q_p1, .inr (8, [.int v_p1_law, .int v_p1_share, .int v_p1_pot, .int v_p1_barred])), (q_p2, .inr (5, [.ref q_p2_numbers, .ref q_p2_counts, .int v_p2_size])), (q_p2_numbers, .inl (cI, 9, .inl r_f_p2_numbers)), (q_p2_counts, .inl (cI, 10, .inl r_f_p2_counts))]) A) ([.ref q_t, .ref q_p1, .ref q_p2] : List Value).toArray s 0 0 A) (F0 m 0 ls []) by rw [hHe, hLe] at hW; exact hW
  refine lv_aload_n hx hb dX3_correct_0 rfl (lv_at hl 2 rfl) ?_
  refine kRr (res := q_p2_counts) (va_runV (As := []) (rest := []) ⟨hx, hb, hml, hown, hts⟩ (cn_X5_counts l dC dI cI cJ cZ q_p2 q_p2_numbers q_p2_counts  v_p2_size   ) (cwV 0 hts gX3_correct_X5_counts rfl rfl rfl (by decide +kernel) ⟨Nat.le_of_ble_eq_true rfl, Nat.le_of_ble_eq_true rfl⟩) (preR hKK (hP.sub (ws' := [(q_p2, .inr (5, [.ref q_p2_numbers, .ref q_p2_counts, .int v_p2_size]))]) [3] rfl) (ci := 5) (q0 := 0) rfl rfl) rfl rfl hl.1 rfl (lv_room (Nat.le_of_ble_eq_true rfl)) dX3_correct_1 ⟨Nat.zero_le _, Nat.zero_le _⟩) ?_
  refine lv_iconst (v := (0 : Int32)) hx hb dX3_correct_4 (by decide) ?_
  refine lv_aload_n hx hb dX3_correct_5 rfl (lv_at hl 0 rfl) ?_
  refine va_get (D := (dC, dI)) (ci := 3) (v := .ref q_t_now) (C := RX3) (T := TX3) (N := 2) hx hb hts in_X3_correct_X3 hown hK hP 0 rfl rfl 0 (by decide) (hts (.fieldLink RX3 9 "RightIfAsMany$Moves" "now" "[I") (List.mem_of_getElem? (i := 1) rfl)) (fun _ h9 => h9) rfl dX3_correct_6 ?_
  refine lv_iconst (v := (0 : Int32)) hx hb dX3_correct_9 (by decide) ?_
  refine lv_bipush (v := (10 : Int32)) hx hb dX3_correct_10 (by decide) ?_
  refine va_copyi hx hb (hml.trans hl.1.symm) hown (hts (.methodLink RX3 24 arraycopyName) (List.mem_of_getElem? (i := 2) rfl)) (hts (.native arraycopyName) (List.mem_of_getElem? (i := 3) rfl)) (hts (.static arraycopyName) (List.mem_of_getElem? (i := 4) rfl)) (hts (.initialized "java/lang/System") (List.mem_of_getElem? (i := 5) rfl)) hK hP hD hS 5 1 0 0 rfl rfl rfl rfl rfl (by decide) (by decide) (by decide) (by decide) (by decide) (fun _ _ => rfl) (Nat.le_of_ble_eq_true rfl) (by decide) dX3_correct_12 (fun H locs hP hD hS => ?_)
  have hP : va_P (dC, dI) vwCl [(q_t, .inr (3, [.ref q_t_now, .ref q_t_next])), (q_t_now, .inl (cI, 10, .inl (va_cpy f_p2_counts f_t_now (0 : Int32).toNatClampNeg (0 : Int32).toNatClampNeg (10 : Int32).toNatClampNeg))), (q_p1, .inr (8, [.int v_p1_law, .int v_p1_share, .int v_p1_pot, .int v_p1_barred])), (q_p2, .inr (5, [.ref q_p2_numbers, .ref q_p2_counts, .int v_p2_size])), (q_p2_numbers, .inl (cI, 9, .inl f_p2_numbers)), (q_p2_counts, .inl (cI, 10, .inl f_p2_counts))] H := hP
  have hD : va_D A [(q_t, .inr (3, [.ref q_t_now, .ref q_t_next])), (q_t_now, .inl (cI, 10, .inl (va_cpy f_p2_counts f_t_now (0 : Int32).toNatClampNeg (0 : Int32).toNatClampNeg (10 : Int32).toNatClampNeg))), (q_p1, .inr (8, [.int v_p1_law, .int v_p1_share, .int v_p1_pot, .int v_p1_barred])), (q_p2, .inr (5, [.ref q_p2_numbers, .ref q_p2_counts, .int v_p2_size])), (q_p2_numbers, .inl (cI, 9, .inl f_p2_numbers)), (q_p2_counts, .inl (cI, 10, .inl f_p2_counts))] := hD
  refine lv_iconst (v := (0 : Int32)) hx hb dX3_correct_15 (by decide) ?_
  refine lv_istore_n (lv' := [(3, .int (0 : Int32)), (0, .ref q_t), (1, .ref q_p1), (2, .ref q_p2)]) hx hb dX3_correct_16 rfl hl (by decide) rfl (fun ls hl => ?_)
  refine lv_iconst (v := (0 : Int32)) hx hb dX3_correct_17 (by decide) ?_
  refine lv_istore (lv' := [(4, .int (0 : Int32)), (3, .int (0 : Int32)), (0, .ref q_t), (1, .ref q_p1), (2, .ref q_p2)]) hx hb dX3_correct_18 hl (by decide) rfl (fun ls hl => ?_)
  exact L_20 fU (va_cpy f_p2_counts f_t_now (0 : Int32).toNatClampNeg (0 : Int32).toNatClampNeg (10 : Int32).toNatClampNeg) f_p2_numbers f_p2_counts (0 : Int32) (0 : Int32) h H locs ls hP hD hS (lv_sub hl [2, 3, 4, 1, 0] rfl)
abbrev rm_X10_round : Room := { frames := 4, cells := 0, slots := 0, locals := 90 }
theorem in_X10_round_X8 : ∀ w ∈ wsX80, w ∈ wsX10_round := fun _ h => List.mem_cons_of_mem _ (List.mem_append_right _ h)
theorem in_X10_round_X3 : ∀ w ∈ wsX30, w ∈ wsX10_round := fun _ h => List.mem_cons_of_mem _ (List.mem_append_left _ (List.mem_append_right _ h))
theorem in_X10_round_X2 : ∀ w ∈ wsX20, w ∈ wsX10_round := fun _ h => List.mem_cons_of_mem _ (List.mem_append_left _ (List.mem_append_left _ (List.mem_append_right _ h)))
theorem in_X10_round_X5 : ∀ w ∈ wsX50, w ∈ wsX10_round := fun _ h => List.mem_cons_of_mem _ (List.mem_append_left _ (List.mem_append_left _ (List.mem_append_left _ (List.mem_append_right _ h))))
theorem in_X10_round_X10 : ∀ w ∈ wsX100, w ∈ wsX10_round := fun _ h => List.mem_cons_of_mem _ (List.mem_append_left _ (List.mem_append_left _ (List.mem_append_left _ (List.mem_append_left _ (List.mem_append_right _ h)))))
set_option maxHeartbeats 4000000 in
set_option maxRecDepth 100000 in
theorem cn_X10_round (l : Launch) (dC : Nat → ClassId) (dI : Nat → Nat → Nat) (cI cJ cZ : ClassId) (q_t q_t_text q_t_reader q_t_rules q_t_people q_t_memory q_t_rows q_t_chances q_t_moves q_t_payments q_t_evenings q_t_people_numbers q_t_people_counts q_t_memory_row q_t_memory_slots q_t_moves_now q_t_moves_next : Nat) (sz : Nat) (v_t_rules_law : Int32) (v_t_rules_share : Int32) (v_t_rules_pot : Int32) (v_t_rules_barred : Int32) (v_t_people_size : Int32) (f_t_people_numbers : (Nat → Int32)) (f_t_people_counts : (Nat → Int32)) (v_t_memory_acts : Int32) (f_t_memory_row : (Nat → Int64)) (f_t_moves_now : (Nat → Int32)) (res : Int32) (r_f_t_people_numbers : (Nat → Int32)) (r_f_t_people_counts : (Nat → Int32)) (r_v_t_memory_acts : Int32) (r_f_t_memory_row : (Nat → Int64)) (r_f_t_moves_now : (Nat → Int32)) (h : X10_round v_t_rules_law v_t_rules_barred v_t_people_size f_t_people_numbers f_t_people_counts v_t_memory_acts f_t_memory_row f_t_moves_now = some (res, r_f_t_people_numbers, r_f_t_people_counts, r_v_t_memory_acts, r_f_t_memory_row, r_f_t_moves_now)) : Met l yX10_round wsX10_round rm_X10_round (pcW dC dI cI cJ cZ [(q_t, .inr (10, [.ref q_t_text, .ref q_t_reader, .ref q_t_rules, .ref q_t_people, .ref q_t_memory, .ref q_t_rows, .ref q_t_chances, .ref q_t_moves, .ref q_t_payments, .ref q_t_evenings])), (q_t_rules, .inr (8, [.int v_t_rules_law, .int v_t_rules_share, .int v_t_rules_pot, .int v_t_rules_barred])), (q_t_people, .inr (5, [.ref q_t_people_numbers, .ref q_t_people_counts, .int v_t_people_size])), (q_t_people_numbers, .inl (cI, 9, .inl f_t_people_numbers)), (q_t_people_counts, .inl (cI, 10, .inl f_t_people_counts)), (q_t_memory, .inr (2, [.ref q_t_memory_row, .ref q_t_memory_slots, .int v_t_memory_acts])), (q_t_memory_row, .inl (cJ, 16, .inr (.inl f_t_memory_row))), (q_t_moves, .inr (3, [.ref q_t_moves_now, .ref q_t_moves_next])), (q_t_moves_now, .inl (cI, 10, .inl f_t_moves_now))] sz [.ref q_t]) (va_Qi (fun (r : Int32) (_ : Unit) => r = res) (bW dC dI (va_A [(q_t, .inr (10, [.ref q_t_text, .ref q_t_reader, .ref q_t_rules, .ref q_t_people, .ref q_t_memory, .ref q_t_rows, .ref q_t_chances, .ref q_t_moves, .ref q_t_payments, .ref q_t_evenings])), (q_t_rules, .inr (8, [.int v_t_rules_law, .int v_t_rules_share, .int v_t_rules_pot, .int v_t_rules_barred])), (q_t_people, .inr (5, [.ref q_t_people_numbers, .ref q_t_people_counts, .int v_t_people_size])), (q_t_people_numbers, .inl (cI, 9, .inl f_t_people_numbers)), (q_t_people_counts, .inl (cI, 10, .inl f_t_people_counts)), (q_t_memory, .inr (2, [.ref q_t_memory_row, .ref q_t_memory_slots, .int v_t_memory_acts])), (q_t_memory_row, .inl (cJ, 16, .inr (.inl f_t_memory_row))), (q_t_moves, .inr (3, [.ref q_t_moves_now, .ref q_t_moves_next])), (q_t_moves_now, .inl (cI, 10, .inl f_t_moves_now))] sz) [(q_t, .inr (10, [.ref q_t_text, .ref q_t_reader, .ref q_t_rules, .ref q_t_people, .ref q_t_memory, .ref q_t_rows, .ref q_t_chances, .ref q_t_moves, .ref q_t_payments, .ref q_t_evenings])), (q_t_rules, .inr (8, [.int v_t_rules_law, .int v_t_rules_share, .int v_t_rules_pot, .int v_t_rules_barred])), (q_t_people, .inr (5, [.ref q_t_people_numbers, .ref q_t_people_counts, .int v_t_people_size])), (q_t_people_numbers, .inl (cI, 9, .inl r_f_t_people_numbers)), (q_t_people_counts, .inl (cI, 10, .inl r_f_t_people_counts)), (q_t_memory, .inr (2, [.ref q_t_memory_row, .ref q_t_memory_slots, .int r_v_t_memory_acts])), (q_t_memory_row, .inl (cJ, 16, .inr (.inl r_f_t_memory_row))), (q_t_moves, .inr (3, [.ref q_t_moves_now, .ref q_t_moves_next])), (q_t_moves_now, .inl (cI, 10, .inl r_f_t_moves_now))]) (va_A [(q_t, .inr (10, [.ref q_t_text, .ref q_t_reader, .ref q_t_rules, .ref q_t_people, .ref q_t_memory, .ref q_t_rows, .ref q_t_chances, .ref q_t_moves, .ref q_t_payments, .ref q_t_evenings])), (q_t_rules, .inr (8, [.int v_t_rules_law, .int v_t_rules_share, .int v_t_rules_pot, .int v_t_rules_barred])), (q_t_people, .inr (5, [.ref q_t_people_numbers, .ref q_t_people_counts, .int v_t_people_size])), (q_t_people_numbers, .inl (cI, 9, .inl f_t_people_numbers)), (q_t_people_counts, .inl (cI, 10, .inl f_t_people_counts)), (q_t_memory, .inr (2, [.ref q_t_memory_row, .ref q_t_memory_slots, .int v_t_memory_acts])), (q_t_memory_row, .inl (cJ, 16, .inr (.inl f_t_memory_row))), (q_t_moves, .inr (3, [.ref q_t_moves_now, .ref q_t_moves_next])), (q_t_moves_now, .inl (cI, 10, .inl f_t_moves_now))] sz)) 0 0 (va_A [(q_t, .inr (10, [.ref q_t_text, .ref q_t_reader, .ref q_t_rules, .ref q_t_people, .ref q_t_memory, .ref q_t_rows, .ref q_t_chances, .ref q_t_moves, .ref q_t_payments, .ref q_t_evenings])), (q_t_rules, .inr (8, [.int v_t_rules_law, .int v_t_rules_share, .int v_t_rules_pot, .int v_t_rules_barred])), (q_t_people, .inr (5, [.ref q_t_people_numbers, .ref q_t_people_counts, .int v_t_people_size])), (q_t_people_numbers, .inl (cI, 9, .inl f_t_people_numbers)), (q_t_people_counts, .inl (cI, 10, .inl f_t_people_counts)), (q_t_memory, .inr (2, [.ref q_t_memory_row, .ref q_t_memory_slots, .int v_t_memory_acts])), (q_t_memory_row, .inl (cJ, 16, .inr (.inl f_t_memory_row))), (q_t_moves, .inr (3, [.ref q_t_moves_now, .ref q_t_moves_next])), (q_t_moves_now, .inl (cI, 10, .inl f_t_moves_now))] sz) := by
  refine Met.ofW (cc := cX10_round) (maxL := 1) (ret := (some .int)) (by decide) rfl ?_
  intro p e s m args below meth c s₁ B hml hv
  obtain ⟨rfl, hsz, hP, hKK, hD0⟩ := hv
  have hx := B.exec
  have hb := B.bytes
  have hr := B.returns
  have hts := atoms_spec (ws := wsX10_round) B.pre
  have hown : s.vm.findClass RX10 = some m.cls := findClass_of_methodNamed B.named
  have hlocks := B.notSynchronized
  have hK := hKK.1
  subst hsz
  have hD := hD0.self (sz := s.heap.size)
  generalize hAe : va_A [(q_t, .inr (10, [.ref q_t_text, .ref q_t_reader, .ref q_t_rules, .ref q_t_people, .ref q_t_memory, .ref q_t_rows, .ref q_t_chances, .ref q_t_moves, .ref q_t_payments, .ref q_t_evenings])), (q_t_rules, .inr (8, [.int v_t_rules_law, .int v_t_rules_share, .int v_t_rules_pot, .int v_t_rules_barred])), (q_t_people, .inr (5, [.ref q_t_people_numbers, .ref q_t_people_counts, .int v_t_people_size])), (q_t_people_numbers, .inl (cI, 9, .inl f_t_people_numbers)), (q_t_people_counts, .inl (cI, 10, .inl f_t_people_counts)), (q_t_memory, .inr (2, [.ref q_t_memory_row, .ref q_t_memory_slots, .int v_t_memory_acts])), (q_t_memory_row, .inl (cJ, 16, .inr (.inl f_t_memory_row))), (q_t_moves, .inr (3, [.ref q_t_moves_now, .ref q_t_moves_next])), (q_t_moves_now, .inl (cI, 10, .inl f_t_moves_now))] s.heap.size = A at hD ⊢
  have hA : ∀ q : Nat, s.heap.size ≤ q → A q := fun q h => by rw [← hAe]; exact Or.inr h
  have hS : va_S A s.heap s.heap [] := va_S.rf
  have hl := lv_entry ([.ref q_t]) (n := 1) (Nat.le_of_ble_eq_true rfl)
  rw [lg_entry_eq]
  generalize (lg_sl ([.ref q_t]) ++ List.replicate (1 - (lg_sl ([.ref q_t])).length) Slot.unset).toArray = ls at hl ⊢
  have hl : lv_has ls 1 [(0, .ref q_t)] := hl
  unfold X10_round at h
  obtain ⟨H, hHe⟩ : ∃ H, H = s.heap := ⟨_, rfl⟩
  obtain ⟨locs, hLe⟩ : ∃ x : List Loc, x = [] := ⟨_, rfl⟩
  rw [← hHe] at hP
  have hS : va_S A s.heap H locs := by rw [hHe, hLe]; exact hS
  suffices hW : W p l e (headSpec wsX10_round rm_X10_round).room s m ([.ref q_t] : List Value).toArray below meth c H locs 0 0 (MQ below (va_Qi (fun (r : Int32) (_ : Unit) => r = res) (bW dC dI A [(q_t, .inr (10, [.ref q_t_text, .ref q_t_reader, .ref q_t_rules, .ref q_t_people, .ref q_t_memory, .ref q_t_rows, .ref q_t_chances, .ref q_t_moves, .ref q_t_payments, .ref q_t_evenings])), (q_t_rules, .inr (8, [.int v_t_rules_law, .int v_t_rules_share, .int v_t_rules_pot, .int v_t_rules_barred])), (q_t_people, .inr (5, [.ref q_t_people_numbers, .ref q_t_people_counts, .int v_t_people_size])), (q_t_people_numbers, .inl (cI, 9, .inl r_f_t_people_numbers)), (q_t_people_counts, .inl (cI, 10, .inl r_f_t_people_counts)), (q_t_memory, .inr (2, [.ref q_t_memory_row, .ref q_t_memory_slots, .int r_v_t_memory_acts])), (q_t_memory_row, .inl (cJ, 16, .inr (.inl r_f_t_memory_row))), (q_t_moves, .inr (3, [.ref q_t_moves_now, .ref q_t_moves_next])), (q_t_moves_now, .inl (cI, 10, .inl r_f_t_moves_now))]) A) ([.ref q_t] : List Value).toArray s 0 0 A) (F0 m 0 ls []) by rw [hHe, hLe] at hW; exact hW
  refine lv_aload_n hx hb dX10_round_0 rfl (lv_at hl 0 rfl) ?_
  refine va_get (D := (dC, dI)) (ci := 10) (v := .ref q_t_memory) (C := RX10) (T := TX10) (N := 10) hx hb hts in_X10_round_X10 hown hK hP 0 rfl rfl 4 (by decide) (hts (.fieldLink RX10 40 "RightIfAsMany" "memory" "LRightIfAsMany$Memory;") (List.mem_of_getElem? (i := 1) rfl)) (fun _ h9 => h9) rfl dX10_round_1 ?_
  refine lv_aload_n hx hb dX10_round_4 rfl (lv_at hl 0 rfl) ?_
  refine va_get (D := (dC, dI)) (ci := 10) (v := .ref q_t_people) (C := RX10) (T := TX10) (N := 10) hx hb hts in_X10_round_X10 hown hK hP 0 rfl rfl 3 (by decide) (hts (.fieldLink RX10 33 "RightIfAsMany" "people" "LRightIfAsMany$People;") (List.mem_of_getElem? (i := 2) rfl)) (fun _ h9 => h9) rfl dX10_round_5 ?_
  obtain ⟨r1, hc1, h⟩ := bnd1_s h
  refine kRl (res := r1) (va_runV (As := []) (rest := [.ref q_t_memory]) ⟨hx, hb, hml, hown, hts⟩ (cn_X5_pack l dC dI cI cJ cZ q_t_people q_t_people_numbers q_t_people_counts  v_t_people_size f_t_people_numbers  r1 hc1) (cwV 0 hts gX10_round_X5_pack rfl rfl rfl (by decide +kernel) ⟨Nat.le_of_ble_eq_true rfl, Nat.le_of_ble_eq_true rfl⟩) (preR hKK (hP.sub (ws' := [(q_t_people, .inr (5, [.ref q_t_people_numbers, .ref q_t_people_counts, .int v_t_people_size])), (q_t_people_numbers, .inl (cI, 9, .inl f_t_people_numbers))]) [2, 3] rfl) (ci := 5) (q0 := 0) rfl rfl) rfl rfl hl.1 rfl (lv_room (Nat.le_of_ble_eq_true rfl)) dX10_round_8 ⟨Nat.zero_le _, Nat.zero_le _⟩) ?_
  obtain ⟨w2_0, w2_1, hc2, h⟩ := bnd2_s h
  refine kWv (wc := [(q_t_memory, .inr (2, [.ref q_t_memory_row, .ref q_t_memory_slots, .int v_t_memory_acts])), (q_t_memory_row, .inl (cJ, 16, .inr (.inl f_t_memory_row)))]) (wr := [(q_t, .inr (10, [.ref q_t_text, .ref q_t_reader, .ref q_t_rules, .ref q_t_people, .ref q_t_memory, .ref q_t_rows, .ref q_t_chances, .ref q_t_moves, .ref q_t_payments, .ref q_t_evenings])), (q_t_rules, .inr (8, [.int v_t_rules_law, .int v_t_rules_share, .int v_t_rules_pot, .int v_t_rules_barred])), (q_t_people, .inr (5, [.ref q_t_people_numbers, .ref q_t_people_counts, .int v_t_people_size])), (q_t_people_numbers, .inl (cI, 9, .inl f_t_people_numbers)), (q_t_people_counts, .inl (cI, 10, .inl f_t_people_counts)), (q_t_moves, .inr (3, [.ref q_t_moves_now, .ref q_t_moves_next])), (q_t_moves_now, .inl (cI, 10, .inl f_t_moves_now))]) (w1 := [(q_t_memory, .inr (2, [.ref q_t_memory_row, .ref q_t_memory_slots, .int w2_0])), (q_t_memory_row, .inl (cJ, 16, .inr (.inl w2_1)))]) (wn := [(q_t, .inr (10, [.ref q_t_text, .ref q_t_reader, .ref q_t_rules, .ref q_t_people, .ref q_t_memory, .ref q_t_rows, .ref q_t_chances, .ref q_t_moves, .ref q_t_payments, .ref q_t_evenings])), (q_t_rules, .inr (8, [.int v_t_rules_law, .int v_t_rules_share, .int v_t_rules_pot, .int v_t_rules_barred])), (q_t_people, .inr (5, [.ref q_t_people_numbers, .ref q_t_people_counts, .int v_t_people_size])), (q_t_people_numbers, .inl (cI, 9, .inl f_t_people_numbers)), (q_t_people_counts, .inl (cI, 10, .inl f_t_people_counts)), (q_t_memory, .inr (2, [.ref q_t_memory_row, .ref q_t_memory_slots, .int w2_0])), (q_t_memory_row, .inl (cJ, 16, .inr (.inl w2_1))), (q_t_moves, .inr (3, [.ref q_t_moves_now, .ref q_t_moves_next])), (q_t_moves_now, .inl (cI, 10, .inl f_t_moves_now))]) hP hD hS hA [5, 6] [0, 1, 2, 3, 4, 7, 8] [0, 1, 2, 3, 4, 7, 8, 5, 6] rfl rfl (by decide) (by decide) rfl (by decide) (va_runV (As := [.long r1]) (rest := []) ⟨hx, hb, hml, hown, hts⟩ (cn_X2_addAct l dC dI cI cJ cZ q_t_memory q_t_memory_row q_t_memory_slots H.size v_t_memory_acts f_t_memory_row r1 w2_0 w2_1 hc2) (cwV 1 hts gX10_round_X2_addAct rfl rfl rfl (by decide +kernel) ⟨Nat.le_of_ble_eq_true rfl, Nat.le_of_ble_eq_true rfl⟩) (preW hKK (hP.sub (ws' := [(q_t_memory, .inr (2, [.ref q_t_memory_row, .ref q_t_memory_slots, .int v_t_memory_acts])), (q_t_memory_row, .inl (cJ, 16, .inr (.inl f_t_memory_row)))]) [5, 6] rfl) (hD.sub (ws' := [(q_t_memory, .inr (2, [.ref q_t_memory_row, .ref q_t_memory_slots, .int v_t_memory_acts])), (q_t_memory_row, .inl (cJ, 16, .inr (.inl f_t_memory_row)))]) [5, 6] (by decide) rfl) (ci := 2) (q0 := 0) rfl rfl) rfl rfl hl.1 rfl (lv_room (Nat.le_of_ble_eq_true rfl)) dX10_round_11 ⟨Nat.zero_le _, Nat.zero_le _⟩) (fun H locs hP hD hS => ?_)
  refine lv_aload_n hx hb dX10_round_14 rfl (lv_at hl 0 rfl) ?_
  refine va_get (D := (dC, dI)) (ci := 10) (v := .ref q_t_moves) (C := RX10) (T := TX10) (N := 10) hx hb hts in_X10_round_X10 hown hK hP 0 rfl rfl 7 (by decide) (hts (.fieldLink RX10 61 "RightIfAsMany" "moves" "LRightIfAsMany$Moves;") (List.mem_of_getElem? (i := 3) rfl)) (fun _ h9 => h9) rfl dX10_round_15 ?_
  refine lv_aload_n hx hb dX10_round_18 rfl (lv_at hl 0 rfl) ?_
  refine va_get (D := (dC, dI)) (ci := 10) (v := .ref q_t_rules) (C := RX10) (T := TX10) (N := 10) hx hb hts in_X10_round_X10 hown hK hP 0 rfl rfl 2 (by decide) (hts (.fieldLink RX10 26 "RightIfAsMany" "rules" "LRightIfAsMany$Rules;") (List.mem_of_getElem? (i := 4) rfl)) (fun _ h9 => h9) rfl dX10_round_19 ?_
  refine lv_aload_n hx hb dX10_round_22 rfl (lv_at hl 0 rfl) ?_
  refine va_get (D := (dC, dI)) (ci := 10) (v := .ref q_t_people) (C := RX10) (T := TX10) (N := 10) hx hb hts in_X10_round_X10 hown hK hP 0 rfl rfl 3 (by decide) (hts (.fieldLink RX10 33 "RightIfAsMany" "people" "LRightIfAsMany$People;") (List.mem_of_getElem? (i := 2) rfl)) (fun _ h9 => h9) rfl dX10_round_23 ?_
  obtain ⟨r3, w3_1, w3_2, w3_3, hc3, h⟩ := bnd4_s h
  refine kWi (res := r3) (wc := [(q_t_moves, .inr (3, [.ref q_t_moves_now, .ref q_t_moves_next])), (q_t_moves_now, .inl (cI, 10, .inl f_t_moves_now)), (q_t_rules, .inr (8, [.int v_t_rules_law, .int v_t_rules_share, .int v_t_rules_pot, .int v_t_rules_barred])), (q_t_people, .inr (5, [.ref q_t_people_numbers, .ref q_t_people_counts, .int v_t_people_size])), (q_t_people_numbers, .inl (cI, 9, .inl f_t_people_numbers)), (q_t_people_counts, .inl (cI, 10, .inl f_t_people_counts))]) (wr := [(q_t, .inr (10, [.ref q_t_text, .ref q_t_reader, .ref q_t_rules, .ref q_t_people, .ref q_t_memory, .ref q_t_rows, .ref q_t_chances, .ref q_t_moves, .ref q_t_payments, .ref q_t_evenings])), (q_t_memory, .inr (2, [.ref q_t_memory_row, .ref q_t_memory_slots, .int w2_0])), (q_t_memory_row, .inl (cJ, 16, .inr (.inl w2_1)))]) (w1 := [(q_t_moves, .inr (3, [.ref q_t_moves_now, .ref q_t_moves_next])), (q_t_moves_now, .inl (cI, 10, .inl w3_1)), (q_t_rules, .inr (8, [.int v_t_rules_law, .int v_t_rules_share, .int v_t_rules_pot, .int v_t_rules_barred])), (q_t_people, .inr (5, [.ref q_t_people_numbers, .ref q_t_people_counts, .int v_t_people_size])), (q_t_people_numbers, .inl (cI, 9, .inl w3_2)), (q_t_people_counts, .inl (cI, 10, .inl w3_3))]) (wn := [(q_t, .inr (10, [.ref q_t_text, .ref q_t_reader, .ref q_t_rules, .ref q_t_people, .ref q_t_memory, .ref q_t_rows, .ref q_t_chances, .ref q_t_moves, .ref q_t_payments, .ref q_t_evenings])), (q_t_rules, .inr (8, [.int v_t_rules_law, .int v_t_rules_share, .int v_t_rules_pot, .int v_t_rules_barred])), (q_t_people, .inr (5, [.ref q_t_people_numbers, .ref q_t_people_counts, .int v_t_people_size])), (q_t_people_numbers, .inl (cI, 9, .inl w3_2)), (q_t_people_counts, .inl (cI, 10, .inl w3_3)), (q_t_memory, .inr (2, [.ref q_t_memory_row, .ref q_t_memory_slots, .int w2_0])), (q_t_memory_row, .inl (cJ, 16, .inr (.inl w2_1))), (q_t_moves, .inr (3, [.ref q_t_moves_now, .ref q_t_moves_next])), (q_t_moves_now, .inl (cI, 10, .inl w3_1))]) hP hD hS hA [7, 8, 1, 2, 3, 4] [0, 5, 6] [0, 5, 6, 7, 8, 1, 2, 3, 4] rfl rfl (by decide) (by decide) rfl (by decide) (va_runV (As := [.ref q_t_rules, .ref q_t_people]) (rest := []) ⟨hx, hb, hml, hown, hts⟩ (cn_X3_correct l dC dI cI cJ cZ q_t_moves q_t_rules q_t_people q_t_moves_now q_t_moves_next q_t_people_numbers q_t_people_counts H.size f_t_moves_now v_t_rules_law v_t_rules_share v_t_rules_pot v_t_rules_barred v_t_people_size f_t_people_numbers f_t_people_counts  r3 w3_1 w3_2 w3_3 hc3) (cwV 2 hts gX10_round_X3_correct rfl rfl rfl (by decide +kernel) ⟨Nat.le_of_ble_eq_true rfl, Nat.le_of_ble_eq_true rfl⟩) (preW hKK (hP.sub (ws' := [(q_t_moves, .inr (3, [.ref q_t_moves_now, .ref q_t_moves_next])), (q_t_moves_now, .inl (cI, 10, .inl f_t_moves_now)), (q_t_rules, .inr (8, [.int v_t_rules_law, .int v_t_rules_share, .int v_t_rules_pot, .int v_t_rules_barred])), (q_t_people, .inr (5, [.ref q_t_people_numbers, .ref q_t_people_counts, .int v_t_people_size])), (q_t_people_numbers, .inl (cI, 9, .inl f_t_people_numbers)), (q_t_people_counts, .inl (cI, 10, .inl f_t_people_counts))]) [7, 8, 1, 2, 3, 4] rfl) (hD.sub (ws' := [(q_t_moves, .inr (3, [.ref q_t_moves_now, .ref q_t_moves_next])), (q_t_moves_now, .inl (cI, 10, .inl f_t_moves_now)), (q_t_rules, .inr (8, [.int v_t_rules_law, .int v_t_rules_share, .int v_t_rules_pot, .int v_t_rules_barred])), (q_t_people, .inr (5, [.ref q_t_people_numbers, .ref q_t_people_counts, .int v_t_people_size])), (q_t_people_numbers, .inl (cI, 9, .inl f_t_people_numbers)), (q_t_people_counts, .inl (cI, 10, .inl f_t_people_counts))]) [7, 8, 1, 2, 3, 4] (by decide) rfl) (ci := 3) (q0 := 0) rfl rfl) rfl rfl hl.1 rfl (lv_room (Nat.le_of_ble_eq_true rfl)) dX10_round_26 ⟨Nat.zero_le _, Nat.zero_le _⟩) (fun H locs hP hD hS => ?_)
  replace h := Option.some.inj h
  obtain ⟨e1, e2, e3, e4, e5, e6⟩ := pr6 h
  exact W.iret (v := r3) hx hb hr (fun t ht hW => ⟨⟨_, (), rfl, e1, (by rw [ht, ← e2, ← e3, ← e4, ← e5, ← e6]; exact hP), (by rw [← e2, ← e3, ← e4, ← e5, ← e6]; exact hD)⟩, hS.F ht⟩) hS.2.2 dX10_round_29
abbrev rm_X2_acts : Room := { frames := 0, cells := 0, slots := 0, locals := 0 }
theorem in_X2_acts_X2 : ∀ w ∈ wsX20, w ∈ wsX2_acts := fun _ h => List.mem_cons_of_mem _ (List.mem_append_right _ h)
set_option maxHeartbeats 4000000 in
set_option maxRecDepth 100000 in
theorem cn_X2_acts (l : Launch) (dC : Nat → ClassId) (dI : Nat → Nat → Nat) (cI cJ cZ : ClassId) (q_t q_t_row q_t_slots : Nat) (v_t_acts : Int32) (res : Int32) (h : X2_acts v_t_acts = res) : Met l yX2_acts wsX2_acts rm_X2_acts (pcR dC dI cI cJ cZ [(q_t, .inr (2, [.ref q_t_row, .ref q_t_slots, .int v_t_acts]))] [.ref q_t]) (vp_Si (fun r => r = res)) 0 0 (fun _ => False) := by
  refine Met.ofW (cc := cX2_acts) (maxL := 1) (ret := (some .int)) (by decide) rfl ?_
  intro p e s m args below meth c s₁ B hml hv
  obtain ⟨rfl, hP, hKK⟩ := hv
  have hx := B.exec
  have hb := B.bytes
  have hr := B.returns
  have hts := atoms_spec (ws := wsX2_acts) B.pre
  have hown : s.vm.findClass RX2 = some m.cls := findClass_of_methodNamed B.named
  have hlocks := B.notSynchronized
  have hK := hKK.1
  have hl := lv_entry ([.ref q_t]) (n := 1) (Nat.le_of_ble_eq_true rfl)
  rw [lg_entry_eq]
  generalize (lg_sl ([.ref q_t]) ++ List.replicate (1 - (lg_sl ([.ref q_t])).length) Slot.unset).toArray = ls at hl ⊢
  have hl : lv_has ls 1 [(0, .ref q_t)] := hl
  unfold X2_acts at h
  refine lv_aload_n hx hb dX2_acts_0 rfl (lv_at hl 0 rfl) ?_
  refine va_get (D := (dC, dI)) (ci := 2) (v := .int v_t_acts) (C := RX2) (T := TX2) (N := 3) hx hb hts in_X2_acts_X2 hown hK hP 0 rfl rfl 2 (by decide) (hts (.fieldLink RX2 20 "RightIfAsMany$Memory" "acts" "I") (List.mem_of_getElem? (i := 1) rfl)) (fun _ h9 => h9) rfl dX2_acts_1 ?_
  have e1 := h
  exact W.iret (v := v_t_acts) hx hb hr (fun t ht hW => ⟨_, rfl, e1, ht⟩) (fun q hq => by cases hq) dX2_acts_4
abbrev rm_X2_takeAct : Room := { frames := 0, cells := 0, slots := 0, locals := 0 }
theorem in_X2_takeAct_X2 : ∀ w ∈ wsX20, w ∈ wsX2_takeAct := fun _ h => List.mem_cons_of_mem _ (List.mem_append_right _ h)
set_option maxHeartbeats 4000000 in
set_option maxRecDepth 100000 in
theorem cn_X2_takeAct (l : Launch) (dC : Nat → ClassId) (dI : Nat → Nat → Nat) (cI cJ cZ : ClassId) (q_t q_t_row q_t_slots : Nat) (sz : Nat) (v_t_acts : Int32) (f_t_row : (Nat → Int64)) (res : Int64) (r_v_t_acts : Int32) (h : X2_takeAct v_t_acts f_t_row = some (res, r_v_t_acts)) : Met l yX2_takeAct wsX2_takeAct rm_X2_takeAct (pcW dC dI cI cJ cZ [(q_t, .inr (2, [.ref q_t_row, .ref q_t_slots, .int v_t_acts])), (q_t_row, .inl (cJ, 16, .inr (.inl f_t_row)))] sz [.ref q_t]) (va_Ql (fun (r : Int64) (_ : Unit) => r = res) (bW dC dI (va_A [(q_t, .inr (2, [.ref q_t_row, .ref q_t_slots, .int v_t_acts])), (q_t_row, .inl (cJ, 16, .inr (.inl f_t_row)))] sz) [(q_t, .inr (2, [.ref q_t_row, .ref q_t_slots, .int r_v_t_acts])), (q_t_row, .inl (cJ, 16, .inr (.inl f_t_row)))]) (va_A [(q_t, .inr (2, [.ref q_t_row, .ref q_t_slots, .int v_t_acts])), (q_t_row, .inl (cJ, 16, .inr (.inl f_t_row)))] sz)) 0 0 (va_A [(q_t, .inr (2, [.ref q_t_row, .ref q_t_slots, .int v_t_acts])), (q_t_row, .inl (cJ, 16, .inr (.inl f_t_row)))] sz) := by
  refine Met.ofW (cc := cX2_takeAct) (maxL := 1) (ret := (some .long)) (by decide) rfl ?_
  intro p e s m args below meth c s₁ B hml hv
  obtain ⟨rfl, hsz, hP, hKK, hD0⟩ := hv
  have hx := B.exec
  have hb := B.bytes
  have hr := B.returns
  have hts := atoms_spec (ws := wsX2_takeAct) B.pre
  have hown : s.vm.findClass RX2 = some m.cls := findClass_of_methodNamed B.named
  have hlocks := B.notSynchronized
  have hK := hKK.1
  subst hsz
  have hD := hD0.self (sz := s.heap.size)
  generalize hAe : va_A [(q_t, .inr (2, [.ref q_t_row, .ref q_t_slots, .int v_t_acts])), (q_t_row, .inl (cJ, 16, .inr (.inl f_t_row)))] s.heap.size = A at hD ⊢
  have hA : ∀ q : Nat, s.heap.size ≤ q → A q := fun q h => by rw [← hAe]; exact Or.inr h
  have hS : va_S A s.heap s.heap [] := va_S.rf
  have hl := lv_entry ([.ref q_t]) (n := 1) (Nat.le_of_ble_eq_true rfl)
  rw [lg_entry_eq]
  generalize (lg_sl ([.ref q_t]) ++ List.replicate (1 - (lg_sl ([.ref q_t])).length) Slot.unset).toArray = ls at hl ⊢
  have hl : lv_has ls 1 [(0, .ref q_t)] := hl
  unfold X2_takeAct at h
  obtain ⟨H, hHe⟩ : ∃ H, H = s.heap := ⟨_, rfl⟩
  obtain ⟨locs, hLe⟩ : ∃ x : List Loc, x = [] := ⟨_, rfl⟩
  rw [← hHe] at hP
  have hS : va_S A s.heap H locs := by rw [hHe, hLe]; exact hS
  suffices hW : W p l e (headSpec wsX2_takeAct rm_X2_takeAct).room s m ([.ref q_t] : List Value).toArray below meth c H locs 0 0 (MQ below (va_Ql (fun (r : Int64) (_ : Unit) => r = res) (bW dC dI A [(q_t, .inr (2, [.ref q_t_row, .ref q_t_slots, .int r_v_t_acts])), (q_t_row, .inl (cJ, 16, .inr (.inl f_t_row)))]) A) ([.ref q_t] : List Value).toArray s 0 0 A) (F0 m 0 ls []) by rw [hHe, hLe] at hW; exact hW
  refine lv_aload_n hx hb dX2_takeAct_0 rfl (lv_at hl 0 rfl) ?_
  refine va_get (D := (dC, dI)) (ci := 2) (v := .int v_t_acts) (C := RX2) (T := TX2) (N := 3) hx hb hts in_X2_takeAct_X2 hown hK hP 0 rfl rfl 2 (by decide) (hts (.fieldLink RX2 20 "RightIfAsMany$Memory" "acts" "I") (List.mem_of_getElem? (i := 1) rfl)) (fun _ h9 => h9) rfl dX2_takeAct_1 ?_
  refine lv_iconst (v := (1 : Int32)) hx hb dX2_takeAct_4 (by decide) ?_
  refine lv_icmp_ge (tgt := 10) hx hb dX2_takeAct_5 (by decide) (fun c1 => ?_) (fun c1 => ?_)
  · replace h := ite_t h c1
    refine lv_aload_n hx hb dX2_takeAct_10 rfl (lv_at hl 0 rfl) ?_
    refine lv_dup hx hb dX2_takeAct_11 rfl ?_
    refine va_get (D := (dC, dI)) (ci := 2) (v := .int v_t_acts) (C := RX2) (T := TX2) (N := 3) hx hb hts in_X2_takeAct_X2 hown hK hP 0 rfl rfl 2 (by decide) (hts (.fieldLink RX2 20 "RightIfAsMany$Memory" "acts" "I") (List.mem_of_getElem? (i := 1) rfl)) (fun _ h9 => h9) rfl dX2_takeAct_12 ?_
    refine lv_iconst (v := (1 : Int32)) hx hb dX2_takeAct_15 (by decide) ?_
    refine lv_isub hx hb dX2_takeAct_16 ?_
    refine va_put (D := (dC, dI)) (ci := 2) (v := .int (v_t_acts - (1 : Int32))) (ty := .int) (C := RX2) (T := TX2) (N := 3) hx hb hts in_X2_takeAct_X2 tyX2 tyX2_ok nmX2 hown hK hP hD hS 0 rfl rfl 2 (by decide) (hts (.fieldLink RX2 20 "RightIfAsMany$Memory" "acts" "I") (List.mem_of_getElem? (i := 1) rfl)) (fun _ h9 => h9) rfl (by decide +kernel) rfl rfl (Nat.le_of_ble_eq_true rfl) dX2_takeAct_17 (fun H locs hP hD hS => ?_)
    have hP : va_P (dC, dI) vwCl [(q_t, .inr (2, [.ref q_t_row, .ref q_t_slots, .int (v_t_acts - (1 : Int32))])), (q_t_row, .inl (cJ, 16, .inr (.inl f_t_row)))] H := hP
    have hD : va_D A [(q_t, .inr (2, [.ref q_t_row, .ref q_t_slots, .int (v_t_acts - (1 : Int32))])), (q_t_row, .inl (cJ, 16, .inr (.inl f_t_row)))] := hD
    refine lv_aload_n hx hb dX2_takeAct_20 rfl (lv_at hl 0 rfl) ?_
    refine va_get (D := (dC, dI)) (ci := 2) (v := .ref q_t_row) (C := RX2) (T := TX2) (N := 3) hx hb hts in_X2_takeAct_X2 hown hK hP 0 rfl rfl 0 (by decide) (hts (.fieldLink RX2 9 "RightIfAsMany$Memory" "row" "[J") (List.mem_of_getElem? (i := 2) rfl)) (fun _ h9 => h9) rfl dX2_takeAct_21 ?_
    refine lv_aload_n hx hb dX2_takeAct_24 rfl (lv_at hl 0 rfl) ?_
    refine va_get (D := (dC, dI)) (ci := 2) (v := .int (v_t_acts - (1 : Int32))) (C := RX2) (T := TX2) (N := 3) hx hb hts in_X2_takeAct_X2 hown hK hP 0 rfl rfl 2 (by decide) (hts (.fieldLink RX2 20 "RightIfAsMany$Memory" "acts" "I") (List.mem_of_getElem? (i := 1) rfl)) (fun _ h9 => h9) rfl dX2_takeAct_25 ?_
    obtain ⟨hg2, h⟩ := grd_s h
    refine va_lald hx hb hK hP 1 1 rfl rfl hg2 dX2_takeAct_28 ?_
    replace h := Option.some.inj h
    obtain ⟨e1, e2⟩ := pr2 h
    exact W.lret (v := (f_t_row (v_t_acts - (1 : Int32)).toNatClampNeg)) hx hb hr (fun t ht hW => ⟨⟨_, (), rfl, e1, (by rw [ht, ← e2]; exact hP), (by rw [← e2]; exact hD)⟩, hS.F ht⟩) hS.2.2 dX2_takeAct_29
  replace h := ite_f h c1
  refine lv_lconst (v := (0 : Int64)) hx hb dX2_takeAct_8 (by decide) ?_
  replace h := Option.some.inj h
  obtain ⟨e1, e2⟩ := pr2 h
  exact W.lret (v := (0 : Int64)) hx hb hr (fun t ht hW => ⟨⟨_, (), rfl, e1, (by rw [ht, ← e2]; exact hP), (by rw [← e2]; exact hD)⟩, hS.F ht⟩) hS.2.2 dX2_takeAct_9
abbrev rm_X10_undo : Room := { frames := 3, cells := 0, slots := 0, locals := 67 }
theorem in_X10_undo_X5 : ∀ w ∈ wsX50, w ∈ wsX10_undo := fun _ h => List.mem_cons_of_mem _ (List.mem_append_right _ h)
theorem in_X10_undo_X2 : ∀ w ∈ wsX20, w ∈ wsX10_undo := fun _ h => List.mem_cons_of_mem _ (List.mem_append_left _ (List.mem_append_right _ h))
theorem in_X10_undo_X10 : ∀ w ∈ wsX100, w ∈ wsX10_undo := fun _ h => List.mem_cons_of_mem _ (List.mem_append_left _ (List.mem_append_left _ (List.mem_append_right _ h)))
set_option maxHeartbeats 4000000 in
set_option maxRecDepth 100000 in
theorem cn_X10_undo (l : Launch) (dC : Nat → ClassId) (dI : Nat → Nat → Nat) (cI cJ cZ : ClassId) (q_t q_t_text q_t_reader q_t_rules q_t_people q_t_memory q_t_rows q_t_chances q_t_moves q_t_payments q_t_evenings q_t_people_numbers q_t_people_counts q_t_memory_row q_t_memory_slots : Nat) (sz : Nat) (v_t_people_size : Int32) (f_t_people_numbers : (Nat → Int32)) (f_t_people_counts : (Nat → Int32)) (v_t_memory_acts : Int32) (f_t_memory_row : (Nat → Int64)) (res : Int32) (r_v_t_people_size : Int32) (r_f_t_people_numbers : (Nat → Int32)) (r_f_t_people_counts : (Nat → Int32)) (r_v_t_memory_acts : Int32) (h : X10_undo v_t_people_size f_t_people_numbers f_t_people_counts v_t_memory_acts f_t_memory_row = some (res, r_v_t_people_size, r_f_t_people_numbers, r_f_t_people_counts, r_v_t_memory_acts)) : Met l yX10_undo wsX10_undo rm_X10_undo (pcW dC dI cI cJ cZ [(q_t, .inr (10, [.ref q_t_text, .ref q_t_reader, .ref q_t_rules, .ref q_t_people, .ref q_t_memory, .ref q_t_rows, .ref q_t_chances, .ref q_t_moves, .ref q_t_payments, .ref q_t_evenings])), (q_t_people, .inr (5, [.ref q_t_people_numbers, .ref q_t_people_counts, .int v_t_people_size])), (q_t_people_numbers, .inl (cI, 9, .inl f_t_people_numbers)), (q_t_people_counts, .inl (cI, 10, .inl f_t_people_counts)), (q_t_memory, .inr (2, [.ref q_t_memory_row, .ref q_t_memory_slots, .int v_t_memory_acts])), (q_t_memory_row, .inl (cJ, 16, .inr (.inl f_t_memory_row)))] sz [.ref q_t]) (va_Qi (fun (r : Int32) (_ : Unit) => r = res) (bW dC dI (va_A [(q_t, .inr (10, [.ref q_t_text, .ref q_t_reader, .ref q_t_rules, .ref q_t_people, .ref q_t_memory, .ref q_t_rows, .ref q_t_chances, .ref q_t_moves, .ref q_t_payments, .ref q_t_evenings])), (q_t_people, .inr (5, [.ref q_t_people_numbers, .ref q_t_people_counts, .int v_t_people_size])), (q_t_people_numbers, .inl (cI, 9, .inl f_t_people_numbers)), (q_t_people_counts, .inl (cI, 10, .inl f_t_people_counts)), (q_t_memory, .inr (2, [.ref q_t_memory_row, .ref q_t_memory_slots, .int v_t_memory_acts])), (q_t_memory_row, .inl (cJ, 16, .inr (.inl f_t_memory_row)))] sz) [(q_t, .inr (10, [.ref q_t_text, .ref q_t_reader, .ref q_t_rules, .ref q_t_people, .ref q_t_memory, .ref q_t_rows, .ref q_t_chances, .ref q_t_moves, .ref q_t_payments, .ref q_t_evenings])), (q_t_people, .inr (5, [.ref q_t_people_numbers, .ref q_t_people_counts, .int r_v_t_people_size])), (q_t_people_numbers, .inl (cI, 9, .inl r_f_t_people_numbers)), (q_t_people_counts, .inl (cI, 10, .inl r_f_t_people_counts)), (q_t_memory, .inr (2, [.ref q_t_memory_row, .ref q_t_memory_slots, .int r_v_t_memory_acts])), (q_t_memory_row, .inl (cJ, 16, .inr (.inl f_t_memory_row)))]) (va_A [(q_t, .inr (10, [.ref q_t_text, .ref q_t_reader, .ref q_t_rules, .ref q_t_people, .ref q_t_memory, .ref q_t_rows, .ref q_t_chances, .ref q_t_moves, .ref q_t_payments, .ref q_t_evenings])), (q_t_people, .inr (5, [.ref q_t_people_numbers, .ref q_t_people_counts, .int v_t_people_size])), (q_t_people_numbers, .inl (cI, 9, .inl f_t_people_numbers)), (q_t_people_counts, .inl (cI, 10, .inl f_t_people_counts)), (q_t_memory, .inr (2, [.ref q_t_memory_row, .ref q_t_memory_slots, .int v_t_memory_acts])), (q_t_memory_row, .inl (cJ, 16, .inr (.inl f_t_memory_row)))] sz)) 0 0 (va_A [(q_t, .inr (10, [.ref q_t_text, .ref q_t_reader, .ref q_t_rules, .ref q_t_people, .ref q_t_memory, .ref q_t_rows, .ref q_t_chances, .ref q_t_moves, .ref q_t_payments, .ref q_t_evenings])), (q_t_people, .inr (5, [.ref q_t_people_numbers, .ref q_t_people_counts, .int v_t_people_size])), (q_t_people_numbers, .inl (cI, 9, .inl f_t_people_numbers)), (q_t_people_counts, .inl (cI, 10, .inl f_t_people_counts)), (q_t_memory, .inr (2, [.ref q_t_memory_row, .ref q_t_memory_slots, .int v_t_memory_acts])), (q_t_memory_row, .inl (cJ, 16, .inr (.inl f_t_memory_row)))] sz) := by
  refine Met.ofW (cc := cX10_undo) (maxL := 1) (ret := (some .int)) (by decide) rfl ?_
  intro p e s m args below meth c s₁ B hml hv
  obtain ⟨rfl, hsz, hP, hKK, hD0⟩ := hv
  have hx := B.exec
  have hb := B.bytes
  have hr := B.returns
  have hts := atoms_spec (ws := wsX10_undo) B.pre
  have hown : s.vm.findClass RX10 = some m.cls := findClass_of_methodNamed B.named
  have hlocks := B.notSynchronized
  have hK := hKK.1
  subst hsz
  have hD := hD0.self (sz := s.heap.size)
  generalize hAe : va_A [(q_t, .inr (10, [.ref q_t_text, .ref q_t_reader, .ref q_t_rules, .ref q_t_people, .ref q_t_memory, .ref q_t_rows, .ref q_t_chances, .ref q_t_moves, .ref q_t_payments, .ref q_t_evenings])), (q_t_people, .inr (5, [.ref q_t_people_numbers, .ref q_t_people_counts, .int v_t_people_size])), (q_t_people_numbers, .inl (cI, 9, .inl f_t_people_numbers)), (q_t_people_counts, .inl (cI, 10, .inl f_t_people_counts)), (q_t_memory, .inr (2, [.ref q_t_memory_row, .ref q_t_memory_slots, .int v_t_memory_acts])), (q_t_memory_row, .inl (cJ, 16, .inr (.inl f_t_memory_row)))] s.heap.size = A at hD ⊢
  have hA : ∀ q : Nat, s.heap.size ≤ q → A q := fun q h => by rw [← hAe]; exact Or.inr h
  have hS : va_S A s.heap s.heap [] := va_S.rf
  have hl := lv_entry ([.ref q_t]) (n := 1) (Nat.le_of_ble_eq_true rfl)
  rw [lg_entry_eq]
  generalize (lg_sl ([.ref q_t]) ++ List.replicate (1 - (lg_sl ([.ref q_t])).length) Slot.unset).toArray = ls at hl ⊢
  have hl : lv_has ls 1 [(0, .ref q_t)] := hl
  unfold X10_undo at h
  obtain ⟨H, hHe⟩ : ∃ H, H = s.heap := ⟨_, rfl⟩
  obtain ⟨locs, hLe⟩ : ∃ x : List Loc, x = [] := ⟨_, rfl⟩
  rw [← hHe] at hP
  have hS : va_S A s.heap H locs := by rw [hHe, hLe]; exact hS
  suffices hW : W p l e (headSpec wsX10_undo rm_X10_undo).room s m ([.ref q_t] : List Value).toArray below meth c H locs 0 0 (MQ below (va_Qi (fun (r : Int32) (_ : Unit) => r = res) (bW dC dI A [(q_t, .inr (10, [.ref q_t_text, .ref q_t_reader, .ref q_t_rules, .ref q_t_people, .ref q_t_memory, .ref q_t_rows, .ref q_t_chances, .ref q_t_moves, .ref q_t_payments, .ref q_t_evenings])), (q_t_people, .inr (5, [.ref q_t_people_numbers, .ref q_t_people_counts, .int r_v_t_people_size])), (q_t_people_numbers, .inl (cI, 9, .inl r_f_t_people_numbers)), (q_t_people_counts, .inl (cI, 10, .inl r_f_t_people_counts)), (q_t_memory, .inr (2, [.ref q_t_memory_row, .ref q_t_memory_slots, .int r_v_t_memory_acts])), (q_t_memory_row, .inl (cJ, 16, .inr (.inl f_t_memory_row)))]) A) ([.ref q_t] : List Value).toArray s 0 0 A) (F0 m 0 ls []) by rw [hHe, hLe] at hW; exact hW
  refine lv_aload_n hx hb dX10_undo_0 rfl (lv_at hl 0 rfl) ?_
  refine va_get (D := (dC, dI)) (ci := 10) (v := .ref q_t_memory) (C := RX10) (T := TX10) (N := 10) hx hb hts in_X10_undo_X10 hown hK hP 0 rfl rfl 4 (by decide) (hts (.fieldLink RX10 40 "RightIfAsMany" "memory" "LRightIfAsMany$Memory;") (List.mem_of_getElem? (i := 1) rfl)) (fun _ h9 => h9) rfl dX10_undo_1 ?_
  refine kRi (res := (X2_acts v_t_memory_acts)) (va_runV (As := []) (rest := []) ⟨hx, hb, hml, hown, hts⟩ (cn_X2_acts l dC dI cI cJ cZ q_t_memory q_t_memory_row q_t_memory_slots  v_t_memory_acts  (X2_acts v_t_memory_acts) rfl) (cwV 0 hts gX10_undo_X2_acts rfl rfl rfl (by decide +kernel) ⟨Nat.le_of_ble_eq_true rfl, Nat.le_of_ble_eq_true rfl⟩) (preR hKK (hP.sub (ws' := [(q_t_memory, .inr (2, [.ref q_t_memory_row, .ref q_t_memory_slots, .int v_t_memory_acts]))]) [4] rfl) (ci := 2) (q0 := 0) rfl rfl) rfl rfl hl.1 rfl (lv_room (Nat.le_of_ble_eq_true rfl)) dX10_undo_4 ⟨Nat.zero_le _, Nat.zero_le _⟩) ?_
  refine lv_if_ne (tgt := 13) hx hb dX10_undo_7 (by decide) (fun c1 => ?_) (fun c1 => ?_)
  · replace h := ite_f h c1
    refine lv_aload_n hx hb dX10_undo_13 rfl (lv_at hl 0 rfl) ?_
    refine va_get (D := (dC, dI)) (ci := 10) (v := .ref q_t_people) (C := RX10) (T := TX10) (N := 10) hx hb hts in_X10_undo_X10 hown hK hP 0 rfl rfl 3 (by decide) (hts (.fieldLink RX10 33 "RightIfAsMany" "people" "LRightIfAsMany$People;") (List.mem_of_getElem? (i := 2) rfl)) (fun _ h9 => h9) rfl dX10_undo_14 ?_
    refine lv_aload_n hx hb dX10_undo_17 rfl (lv_at hl 0 rfl) ?_
    refine va_get (D := (dC, dI)) (ci := 10) (v := .ref q_t_memory) (C := RX10) (T := TX10) (N := 10) hx hb hts in_X10_undo_X10 hown hK hP 0 rfl rfl 4 (by decide) (hts (.fieldLink RX10 40 "RightIfAsMany" "memory" "LRightIfAsMany$Memory;") (List.mem_of_getElem? (i := 1) rfl)) (fun _ h9 => h9) rfl dX10_undo_18 ?_
    obtain ⟨r2, w2_1, hc2, h⟩ := bnd2_s h
    refine kWl (res := r2) (wc := [(q_t_memory, .inr (2, [.ref q_t_memory_row, .ref q_t_memory_slots, .int v_t_memory_acts])), (q_t_memory_row, .inl (cJ, 16, .inr (.inl f_t_memory_row)))]) (wr := [(q_t, .inr (10, [.ref q_t_text, .ref q_t_reader, .ref q_t_rules, .ref q_t_people, .ref q_t_memory, .ref q_t_rows, .ref q_t_chances, .ref q_t_moves, .ref q_t_payments, .ref q_t_evenings])), (q_t_people, .inr (5, [.ref q_t_people_numbers, .ref q_t_people_counts, .int v_t_people_size])), (q_t_people_numbers, .inl (cI, 9, .inl f_t_people_numbers)), (q_t_people_counts, .inl (cI, 10, .inl f_t_people_counts))]) (w1 := [(q_t_memory, .inr (2, [.ref q_t_memory_row, .ref q_t_memory_slots, .int w2_1])), (q_t_memory_row, .inl (cJ, 16, .inr (.inl f_t_memory_row)))]) (wn := [(q_t, .inr (10, [.ref q_t_text, .ref q_t_reader, .ref q_t_rules, .ref q_t_people, .ref q_t_memory, .ref q_t_rows, .ref q_t_chances, .ref q_t_moves, .ref q_t_payments, .ref q_t_evenings])), (q_t_people, .inr (5, [.ref q_t_people_numbers, .ref q_t_people_counts, .int v_t_people_size])), (q_t_people_numbers, .inl (cI, 9, .inl f_t_people_numbers)), (q_t_people_counts, .inl (cI, 10, .inl f_t_people_counts)), (q_t_memory, .inr (2, [.ref q_t_memory_row, .ref q_t_memory_slots, .int w2_1])), (q_t_memory_row, .inl (cJ, 16, .inr (.inl f_t_memory_row)))]) hP hD hS hA [4, 5] [0, 1, 2, 3] [0, 1, 2, 3, 4, 5] rfl rfl (by decide) (by decide) rfl (by decide) (va_runV (As := []) (rest := [.ref q_t_people]) ⟨hx, hb, hml, hown, hts⟩ (cn_X2_takeAct l dC dI cI cJ cZ q_t_memory q_t_memory_row q_t_memory_slots H.size v_t_memory_acts f_t_memory_row  r2 w2_1 hc2) (cwV 0 hts gX10_undo_X2_takeAct rfl rfl rfl (by decide +kernel) ⟨Nat.le_of_ble_eq_true rfl, Nat.le_of_ble_eq_true rfl⟩) (preW hKK (hP.sub (ws' := [(q_t_memory, .inr (2, [.ref q_t_memory_row, .ref q_t_memory_slots, .int v_t_memory_acts])), (q_t_memory_row, .inl (cJ, 16, .inr (.inl f_t_memory_row)))]) [4, 5] rfl) (hD.sub (ws' := [(q_t_memory, .inr (2, [.ref q_t_memory_row, .ref q_t_memory_slots, .int v_t_memory_acts])), (q_t_memory_row, .inl (cJ, 16, .inr (.inl f_t_memory_row)))]) [4, 5] (by decide) rfl) (ci := 2) (q0 := 0) rfl rfl) rfl rfl hl.1 rfl (lv_room (Nat.le_of_ble_eq_true rfl)) dX10_undo_21 ⟨Nat.zero_le _, Nat.zero_le _⟩) (fun H locs hP hD hS => ?_)
    obtain ⟨w3_0, w3_1, w3_2, hc3, h⟩ := bnd3_s h
    refine kWv (wc := [(q_t_people, .inr (5, [.ref q_t_people_numbers, .ref q_t_people_counts, .int v_t_people_size])), (q_t_people_numbers, .inl (cI, 9, .inl f_t_people_numbers)), (q_t_people_counts, .inl (cI, 10, .inl f_t_people_counts))]) (wr := [(q_t, .inr (10, [.ref q_t_text, .ref q_t_reader, .ref q_t_rules, .ref q_t_people, .ref q_t_memory, .ref q_t_rows, .ref q_t_chances, .ref q_t_moves, .ref q_t_payments, .ref q_t_evenings])), (q_t_memory, .inr (2, [.ref q_t_memory_row, .ref q_t_memory_slots, .int w2_1])), (q_t_memory_row, .inl (cJ, 16, .inr (.inl f_t_memory_row)))]) (w1 := [(q_t_people, .inr (5, [.ref q_t_people_numbers, .ref q_t_people_counts, .int w3_0])), (q_t_people_numbers, .inl (cI, 9, .inl w3_1)), (q_t_people_counts, .inl (cI, 10, .inl w3_2))]) (wn := [(q_t, .inr (10, [.ref q_t_text, .ref q_t_reader, .ref q_t_rules, .ref q_t_people, .ref q_t_memory, .ref q_t_rows, .ref q_t_chances, .ref q_t_moves, .ref q_t_payments, .ref q_t_evenings])), (q_t_people, .inr (5, [.ref q_t_people_numbers, .ref q_t_people_counts, .int w3_0])), (q_t_people_numbers, .inl (cI, 9, .inl w3_1)), (q_t_people_counts, .inl (cI, 10, .inl w3_2)), (q_t_memory, .inr (2, [.ref q_t_memory_row, .ref q_t_memory_slots, .int w2_1])), (q_t_memory_row, .inl (cJ, 16, .inr (.inl f_t_memory_row)))]) hP hD hS hA [1, 2, 3] [0, 4, 5] [0, 3, 4, 5, 1, 2] rfl rfl (by decide) (by decide) rfl (by decide) (va_runV (As := [.long r2]) (rest := []) ⟨hx, hb, hml, hown, hts⟩ (cn_X5_unpack l dC dI cI cJ cZ q_t_people q_t_people_numbers q_t_people_counts H.size v_t_people_size f_t_people_numbers f_t_people_counts r2 w3_0 w3_1 w3_2 hc3) (cwV 1 hts gX10_undo_X5_unpack rfl rfl rfl (by decide +kernel) ⟨Nat.le_of_ble_eq_true rfl, Nat.le_of_ble_eq_true rfl⟩) (preW hKK (hP.sub (ws' := [(q_t_people, .inr (5, [.ref q_t_people_numbers, .ref q_t_people_counts, .int v_t_people_size])), (q_t_people_numbers, .inl (cI, 9, .inl f_t_people_numbers)), (q_t_people_counts, .inl (cI, 10, .inl f_t_people_counts))]) [1, 2, 3] rfl) (hD.sub (ws' := [(q_t_people, .inr (5, [.ref q_t_people_numbers, .ref q_t_people_counts, .int v_t_people_size])), (q_t_people_numbers, .inl (cI, 9, .inl f_t_people_numbers)), (q_t_people_counts, .inl (cI, 10, .inl f_t_people_counts))]) [1, 2, 3] (by decide) rfl) (ci := 5) (q0 := 0) rfl rfl) rfl rfl hl.1 rfl (lv_room (Nat.le_of_ble_eq_true rfl)) dX10_undo_24 ⟨Nat.zero_le _, Nat.zero_le _⟩) (fun H locs hP hD hS => ?_)
    refine lv_aload_n hx hb dX10_undo_27 rfl (lv_at hl 0 rfl) ?_
    refine va_get (D := (dC, dI)) (ci := 10) (v := .ref q_t_memory) (C := RX10) (T := TX10) (N := 10) hx hb hts in_X10_undo_X10 hown hK hP 0 rfl rfl 4 (by decide) (hts (.fieldLink RX10 40 "RightIfAsMany" "memory" "LRightIfAsMany$Memory;") (List.mem_of_getElem? (i := 1) rfl)) (fun _ h9 => h9) rfl dX10_undo_28 ?_
    refine kRi (res := (X2_acts w2_1)) (va_runV (As := []) (rest := []) ⟨hx, hb, hml, hown, hts⟩ (cn_X2_acts l dC dI cI cJ cZ q_t_memory q_t_memory_row q_t_memory_slots  w2_1  (X2_acts w2_1) rfl) (cwV 0 hts gX10_undo_X2_acts rfl rfl rfl (by decide +kernel) ⟨Nat.le_of_ble_eq_true rfl, Nat.le_of_ble_eq_true rfl⟩) (preR hKK (hP.sub (ws' := [(q_t_memory, .inr (2, [.ref q_t_memory_row, .ref q_t_memory_slots, .int w2_1]))]) [4] rfl) (ci := 2) (q0 := 0) rfl rfl) rfl rfl hl.1 rfl (lv_room (Nat.le_of_ble_eq_true rfl)) dX10_undo_31 ⟨Nat.zero_le _, Nat.zero_le _⟩) ?_
    replace h := Option.some.inj h
    obtain ⟨e1, e2, e3, e4, e5⟩ := pr5 h
    exact W.iret (v := (X2_acts w2_1)) hx hb hr (fun t ht hW => ⟨⟨_, (), rfl, e1, (by rw [ht, ← e2, ← e3, ← e4, ← e5]; exact hP), (by rw [← e2, ← e3, ← e4, ← e5]; exact hD)⟩, hS.F ht⟩) hS.2.2 dX10_undo_34
  replace h := ite_t h c1
  refine lv_bipush (v := (-3 : Int32)) hx hb dX10_undo_10 (by decide) ?_
  replace h := Option.some.inj h
  obtain ⟨e1, e2, e3, e4, e5⟩ := pr5 h
  exact W.iret (v := (-3 : Int32)) hx hb hr (fun t ht hW => ⟨⟨_, (), rfl, e1, (by rw [ht, ← e2, ← e3, ← e4, ← e5]; exact hP), (by rw [← e2, ← e3, ← e4, ← e5]; exact hD)⟩, hS.F ht⟩) hS.2.2 dX10_undo_12
abbrev rm_X3_changes : Room := { frames := 3, cells := 0, slots := 0, locals := 64 }
theorem in_X3_changes_X8 : ∀ w ∈ wsX80, w ∈ wsX3_changes := fun _ h => List.mem_cons_of_mem _ (List.mem_append_right _ h)
theorem in_X3_changes_X3 : ∀ w ∈ wsX30, w ∈ wsX3_changes := fun _ h => List.mem_cons_of_mem _ (List.mem_append_left _ (List.mem_append_right _ h))
set_option maxHeartbeats 4000000 in
set_option maxRecDepth 100000 in
theorem cn_X3_changes (l : Launch) (dC : Nat → ClassId) (dI : Nat → Nat → Nat) (cI cJ cZ : ClassId) (q_t q_p1 q_t_now q_t_next : Nat) (sz : Nat) (f_t_now : (Nat → Int32)) (f_t_next : (Nat → Int32)) (v_p1_law : Int32) (v_p1_share : Int32) (v_p1_pot : Int32) (v_p1_barred : Int32) (res : Int32) (r_f_t_next : (Nat → Int32)) (h : X3_changes f_t_now f_t_next v_p1_law v_p1_barred = some (res, r_f_t_next)) : Met l yX3_changes wsX3_changes rm_X3_changes (pcW dC dI cI cJ cZ [(q_t, .inr (3, [.ref q_t_now, .ref q_t_next])), (q_t_now, .inl (cI, 10, .inl f_t_now)), (q_t_next, .inl (cI, 10, .inl f_t_next)), (q_p1, .inr (8, [.int v_p1_law, .int v_p1_share, .int v_p1_pot, .int v_p1_barred]))] sz [.ref q_t, .ref q_p1]) (va_Qi (fun (r : Int32) (_ : Unit) => r = res ∧ r &&& 1 = r) (bW dC dI (va_A [(q_t, .inr (3, [.ref q_t_now, .ref q_t_next])), (q_t_now, .inl (cI, 10, .inl f_t_now)), (q_t_next, .inl (cI, 10, .inl f_t_next)), (q_p1, .inr (8, [.int v_p1_law, .int v_p1_share, .int v_p1_pot, .int v_p1_barred]))] sz) [(q_t, .inr (3, [.ref q_t_now, .ref q_t_next])), (q_t_now, .inl (cI, 10, .inl f_t_now)), (q_t_next, .inl (cI, 10, .inl r_f_t_next)), (q_p1, .inr (8, [.int v_p1_law, .int v_p1_share, .int v_p1_pot, .int v_p1_barred]))]) (va_A [(q_t, .inr (3, [.ref q_t_now, .ref q_t_next])), (q_t_now, .inl (cI, 10, .inl f_t_now)), (q_t_next, .inl (cI, 10, .inl f_t_next)), (q_p1, .inr (8, [.int v_p1_law, .int v_p1_share, .int v_p1_pot, .int v_p1_barred]))] sz)) 0 0 (va_A [(q_t, .inr (3, [.ref q_t_now, .ref q_t_next])), (q_t_now, .inl (cI, 10, .inl f_t_now)), (q_t_next, .inl (cI, 10, .inl f_t_next)), (q_p1, .inr (8, [.int v_p1_law, .int v_p1_share, .int v_p1_pot, .int v_p1_barred]))] sz) := by
  refine Met.ofW (cc := cX3_changes) (maxL := 5) (ret := (some .boolean)) (by decide) rfl ?_
  intro p e s m args below meth c s₁ B hml hv
  obtain ⟨rfl, hsz, hP, hKK, hD0⟩ := hv
  have hx := B.exec
  have hb := B.bytes
  have hr := B.returns
  have hts := atoms_spec (ws := wsX3_changes) B.pre
  have hown : s.vm.findClass RX3 = some m.cls := findClass_of_methodNamed B.named
  have hlocks := B.notSynchronized
  have hK := hKK.1
  subst hsz
  have hD := hD0.self (sz := s.heap.size)
  generalize hAe : va_A [(q_t, .inr (3, [.ref q_t_now, .ref q_t_next])), (q_t_now, .inl (cI, 10, .inl f_t_now)), (q_t_next, .inl (cI, 10, .inl f_t_next)), (q_p1, .inr (8, [.int v_p1_law, .int v_p1_share, .int v_p1_pot, .int v_p1_barred]))] s.heap.size = A at hD ⊢
  have hA : ∀ q : Nat, s.heap.size ≤ q → A q := fun q h => by rw [← hAe]; exact Or.inr h
  have hS : va_S A s.heap s.heap [] := va_S.rf
  have hl := lv_entry ([.ref q_t, .ref q_p1]) (n := 5) (Nat.le_of_ble_eq_true rfl)
  rw [lg_entry_eq]
  generalize (lg_sl ([.ref q_t, .ref q_p1]) ++ List.replicate (5 - (lg_sl ([.ref q_t, .ref q_p1])).length) Slot.unset).toArray = ls at hl ⊢
  have hl : lv_has ls 5 [(0, .ref q_t), (1, .ref q_p1)] := hl
  have L_12 : ∀ (n12 : Nat) , ∀ (f_t_next : (Nat → Int32)) (x2 : Int32) (x3 : Int32), X3_changes_b12 n12 f_t_now f_t_next v_p1_law v_p1_barred x2 x3 = some (res, r_f_t_next) → ∀ (H : Heap) (locs : List Loc) (ls : Array Slot), va_P (dC, dI) vwCl [(q_t, .inr (3, [.ref q_t_now, .ref q_t_next])), (q_t_now, .inl (cI, 10, .inl f_t_now)), (q_t_next, .inl (cI, 10, .inl f_t_next)), (q_p1, .inr (8, [.int v_p1_law, .int v_p1_share, .int v_p1_pot, .int v_p1_barred]))] H → va_D A [(q_t, .inr (3, [.ref q_t_now, .ref q_t_next])), (q_t_now, .inl (cI, 10, .inl f_t_now)), (q_t_next, .inl (cI, 10, .inl f_t_next)), (q_p1, .inr (8, [.int v_p1_law, .int v_p1_share, .int v_p1_pot, .int v_p1_barred]))] → va_S A s.heap H locs → lv_has ls 5 [(0, .ref q_t), (1, .ref q_p1), (2, .int x2), (3, .int x3)] → W p l e (headSpec wsX3_changes rm_X3_changes).room s m ([.ref q_t, .ref q_p1] : List Value).toArray below meth c H locs 0 0 (MQ below (va_Qi (fun (r : Int32) (_ : Unit) => r = res ∧ r &&& 1 = r) (bW dC dI A [(q_t, .inr (3, [.ref q_t_now, .ref q_t_next])), (q_t_now, .inl (cI, 10, .inl f_t_now)), (q_t_next, .inl (cI, 10, .inl r_f_t_next)), (q_p1, .inr (8, [.int v_p1_law, .int v_p1_share, .int v_p1_pot, .int v_p1_barred]))]) A) ([.ref q_t, .ref q_p1] : List Value).toArray s 0 0 A) (F0 m 12 ls []) := by
    intro n12
    induction n12 with
    | zero => intro f_t_next x2 x3 h H locs ls hP hD hS hl; exact absurd h (fun h => by cases h)
    | succ n12 ih_12 =>
      have B_78 : ∀ (f_t_next : (Nat → Int32)) (x2 : Int32) (x3 : Int32), X3_changes_b78 (X3_changes_b12 n12) f_t_now f_t_next v_p1_law v_p1_barred x2 x3 = some (res, r_f_t_next) → ∀ (H : Heap) (locs : List Loc) (ls : Array Slot), va_P (dC, dI) vwCl [(q_t, .inr (3, [.ref q_t_now, .ref q_t_next])), (q_t_now, .inl (cI, 10, .inl f_t_now)), (q_t_next, .inl (cI, 10, .inl f_t_next)), (q_p1, .inr (8, [.int v_p1_law, .int v_p1_share, .int v_p1_pot, .int v_p1_barred]))] H → va_D A [(q_t, .inr (3, [.ref q_t_now, .ref q_t_next])), (q_t_now, .inl (cI, 10, .inl f_t_now)), (q_t_next, .inl (cI, 10, .inl f_t_next)), (q_p1, .inr (8, [.int v_p1_law, .int v_p1_share, .int v_p1_pot, .int v_p1_barred]))] → va_S A s.heap H locs → lv_has ls 5 [(0, .ref q_t), (1, .ref q_p1), (2, .int x2), (3, .int x3)] → W p l e (headSpec wsX3_changes rm_X3_changes).room s m ([.ref q_t, .ref q_p1] : List Value).toArray below meth c H locs 0 0 (MQ below (va_Qi (fun (r : Int32) (_ : Unit) => r = res ∧ r &&& 1 = r) (bW dC dI A [(q_t, .inr (3, [.ref q_t_now, .ref q_t_next])), (q_t_now, .inl (cI, 10, .inl f_t_now)), (q_t_next, .inl (cI, 10, .inl r_f_t_next)), (q_p1, .inr (8, [.int v_p1_law, .int v_p1_share, .int v_p1_pot, .int v_p1_barred]))]) A) ([.ref q_t, .ref q_p1] : List Value).toArray s 0 0 A) (F0 m 78 ls []) := by
        intro f_t_next x2 x3 h H locs ls hP hD hS hl
        unfold X3_changes_b78 at h
        refine lv_iinc (v := (x3 + (1 : Int32))) (lv' := [(3, .int (x3 + (1 : Int32))), (0, .ref q_t), (1, .ref q_p1), (2, .int x2)]) hx hb dX3_changes_78 hl (k := 3) rfl rfl (by decide) rfl (fun ls hl => ?_)
        refine lv_goto (tgt := 12) hx hb dX3_changes_81 (by decide) ?_
        exact ih_12 f_t_next x2 (x3 + (1 : Int32)) h H locs ls hP hD hS (lv_sub hl [1, 2, 3, 0] rfl)
      have B_77 : ∀ (f_t_next : (Nat → Int32)) (x3 : Int32) (s0 : Int32), X3_changes_b77 (X3_changes_b12 n12) f_t_now f_t_next v_p1_law v_p1_barred x3 s0 = some (res, r_f_t_next) → ∀ (H : Heap) (locs : List Loc) (ls : Array Slot), va_P (dC, dI) vwCl [(q_t, .inr (3, [.ref q_t_now, .ref q_t_next])), (q_t_now, .inl (cI, 10, .inl f_t_now)), (q_t_next, .inl (cI, 10, .inl f_t_next)), (q_p1, .inr (8, [.int v_p1_law, .int v_p1_share, .int v_p1_pot, .int v_p1_barred]))] H → va_D A [(q_t, .inr (3, [.ref q_t_now, .ref q_t_next])), (q_t_now, .inl (cI, 10, .inl f_t_now)), (q_t_next, .inl (cI, 10, .inl f_t_next)), (q_p1, .inr (8, [.int v_p1_law, .int v_p1_share, .int v_p1_pot, .int v_p1_barred]))] → va_S A s.heap H locs → lv_has ls 5 [(0, .ref q_t), (1, .ref q_p1), (3, .int x3)] → W p l e (headSpec wsX3_changes rm_X3_changes).room s m ([.ref q_t, .ref q_p1] : List Value).toArray below meth c H locs 0 0 (MQ below (va_Qi (fun (r : Int32) (_ : Unit) => r = res ∧ r &&& 1 = r) (bW dC dI A [(q_t, .inr (3, [.ref q_t_now, .ref q_t_next])), (q_t_now, .inl (cI, 10, .inl f_t_now)), (q_t_next, .inl (cI, 10, .inl r_f_t_next)), (q_p1, .inr (8, [.int v_p1_law, .int v_p1_share, .int v_p1_pot, .int v_p1_barred]))]) A) ([.ref q_t, .ref q_p1] : List Value).toArray s 0 0 A) (F0 m 77 ls [.int s0]) := by
        intro f_t_next x3 s0 h H locs ls hP hD hS hl
        unfold X3_changes_b77 at h
        refine lv_istore_n (lv' := [(2, .int s0), (0, .ref q_t), (1, .ref q_p1), (3, .int x3)]) hx hb dX3_changes_77 rfl hl (by decide) rfl (fun ls hl => ?_)
        exact B_78 f_t_next s0 x3 h H locs ls hP hD hS (lv_sub hl [1, 2, 0, 3] rfl)
      have B_72 : ∀ (f_t_next : (Nat → Int32)) (x3 : Int32), X3_changes_b72 (X3_changes_b12 n12) f_t_now f_t_next v_p1_law v_p1_barred x3 = some (res, r_f_t_next) → ∀ (H : Heap) (locs : List Loc) (ls : Array Slot), va_P (dC, dI) vwCl [(q_t, .inr (3, [.ref q_t_now, .ref q_t_next])), (q_t_now, .inl (cI, 10, .inl f_t_now)), (q_t_next, .inl (cI, 10, .inl f_t_next)), (q_p1, .inr (8, [.int v_p1_law, .int v_p1_share, .int v_p1_pot, .int v_p1_barred]))] H → va_D A [(q_t, .inr (3, [.ref q_t_now, .ref q_t_next])), (q_t_now, .inl (cI, 10, .inl f_t_now)), (q_t_next, .inl (cI, 10, .inl f_t_next)), (q_p1, .inr (8, [.int v_p1_law, .int v_p1_share, .int v_p1_pot, .int v_p1_barred]))] → va_S A s.heap H locs → lv_has ls 5 [(0, .ref q_t), (1, .ref q_p1), (3, .int x3)] → W p l e (headSpec wsX3_changes rm_X3_changes).room s m ([.ref q_t, .ref q_p1] : List Value).toArray below meth c H locs 0 0 (MQ below (va_Qi (fun (r : Int32) (_ : Unit) => r = res ∧ r &&& 1 = r) (bW dC dI A [(q_t, .inr (3, [.ref q_t_now, .ref q_t_next])), (q_t_now, .inl (cI, 10, .inl f_t_now)), (q_t_next, .inl (cI, 10, .inl r_f_t_next)), (q_p1, .inr (8, [.int v_p1_law, .int v_p1_share, .int v_p1_pot, .int v_p1_barred]))]) A) ([.ref q_t, .ref q_p1] : List Value).toArray s 0 0 A) (F0 m 72 ls []) := by
        intro f_t_next x3 h H locs ls hP hD hS hl
        unfold X3_changes_b72 at h
        refine lv_iconst (v := (1 : Int32)) hx hb dX3_changes_72 (by decide) ?_
        refine lv_goto (tgt := 77) hx hb dX3_changes_73 (by decide) ?_
        exact B_77 f_t_next x3 (1 : Int32) h H locs ls hP hD hS (lv_sub hl [0, 1, 2] rfl)
      intro f_t_next x2 x3 h H locs ls hP hD hS hl
      replace h : X3_changes_b12_s (X3_changes_b12 n12) f_t_now f_t_next v_p1_law v_p1_barred x2 x3 = some (res, r_f_t_next) := h
      unfold X3_changes_b12_s at h
      refine lv_iload_n hx hb dX3_changes_12 rfl (lv_at hl 3 rfl) ?_
      refine lv_bipush (v := (10 : Int32)) hx hb dX3_changes_13 (by decide) ?_
      refine lv_icmp_ge (tgt := 84) hx hb dX3_changes_15 (by decide) (fun c1 => ?_) (fun c1 => ?_)
      · replace h := ite_t h c1
        refine lv_iload_n hx hb dX3_changes_84 rfl (lv_at hl 2 rfl) ?_
        obtain ⟨hg2, h⟩ := grd_s h
        replace h := Option.some.inj h
        obtain ⟨e1, e2⟩ := pr2 h
        exact W.zret (v := x2) (ty := .boolean) hx hb hr (congrArg Value.int (Decidable.not_not.mp hg2)) (fun t ht hW => ⟨⟨_, (), rfl, ⟨e1, (Decidable.not_not.mp hg2)⟩, (by rw [ht, ← e2]; exact hP), (by rw [← e2]; exact hD)⟩, hS.F ht⟩) hS.2.2 dX3_changes_85
      replace h := ite_f h c1
      refine lv_aload_n hx hb dX3_changes_18 rfl (lv_at hl 0 rfl) ?_
      refine va_get (D := (dC, dI)) (ci := 3) (v := .ref q_t_now) (C := RX3) (T := TX3) (N := 2) hx hb hts in_X3_changes_X3 hown hK hP 0 rfl rfl 0 (by decide) (hts (.fieldLink RX3 9 "RightIfAsMany$Moves" "now" "[I") (List.mem_of_getElem? (i := 2) rfl)) (fun _ h9 => h9) rfl dX3_changes_19 ?_
      refine lv_iload_n hx hb dX3_changes_22 rfl (lv_at hl 3 rfl) ?_
      obtain ⟨hg3, h⟩ := grd_s h
      refine va_iald hx hb hK hP 1 0 rfl rfl hg3 dX3_changes_23 ?_
      refine lv_if_le (tgt := 78) hx hb dX3_changes_24 (by decide) (fun c4 => ?_) (fun c4 => ?_)
      · replace h := ite_t h c4
        exact B_78 f_t_next x2 x3 h H locs ls hP hD hS (lv_sub hl [0, 1, 2, 3] rfl)
      replace h := ite_f h c4
      refine lv_aload_n hx hb dX3_changes_27 rfl (lv_at hl 1 rfl) ?_
      refine lv_iload_n hx hb dX3_changes_28 rfl (lv_at hl 3 rfl) ?_
      refine lv_aload_n hx hb dX3_changes_29 rfl (lv_at hl 0 rfl) ?_
      refine va_get (D := (dC, dI)) (ci := 3) (v := .ref q_t_now) (C := RX3) (T := TX3) (N := 2) hx hb hts in_X3_changes_X3 hown hK hP 0 rfl rfl 0 (by decide) (hts (.fieldLink RX3 9 "RightIfAsMany$Moves" "now" "[I") (List.mem_of_getElem? (i := 2) rfl)) (fun _ h9 => h9) rfl dX3_changes_30 ?_
      obtain ⟨r5, hc5, h⟩ := bnd1_s h
      refine kRi (res := r5) (va_runV (As := [.int x3, .ref q_t_now]) (rest := []) ⟨hx, hb, hml, hown, hts⟩ (cn_X8_corrected l dC dI cI cJ cZ q_p1 q_t_now  v_p1_law v_p1_share v_p1_pot v_p1_barred f_t_now x3 r5 hc5) (cwV 2 hts gX3_changes_X8_corrected rfl rfl rfl (by decide +kernel) ⟨Nat.le_of_ble_eq_true rfl, Nat.le_of_ble_eq_true rfl⟩) (preR hKK (hP.sub (ws' := [(q_p1, .inr (8, [.int v_p1_law, .int v_p1_share, .int v_p1_pot, .int v_p1_barred])), (q_t_now, .inl (cI, 10, .inl f_t_now))]) [3, 1] rfl) (ci := 8) (q0 := 0) rfl rfl) rfl rfl hl.1 rfl (lv_room (Nat.le_of_ble_eq_true rfl)) dX3_changes_33 ⟨Nat.zero_le _, Nat.zero_le _⟩) ?_
      refine lv_istore (lv' := [(4, .int r5), (0, .ref q_t), (1, .ref q_p1), (2, .int x2), (3, .int x3)]) hx hb dX3_changes_36 hl (by decide) rfl (fun ls hl => ?_)
      refine lv_iload hx hb dX3_changes_38 (lv_at hl 0 rfl) ?_
      refine kRz (res := (X10_isNumber r5)) (va_runSN (As := [.int r5]) (rest := []) ⟨hx, hb, hml, hown, hts⟩ (cn_X10_isNumber l dC dI cI cJ cZ    r5 (X10_isNumber r5) rfl) ⟨va_cnB 1 hts gX3_changes_X10_isNumber_n58 rfl rfl rfl (hKK.nw 15 rfl) (hts (.initialized RX10) (List.mem_of_getElem? (i := 27) rfl)) (by decide +kernel) ⟨Nat.le_of_ble_eq_true rfl, Nat.le_of_ble_eq_true rfl⟩, hts (.static yX10_isNumber) (List.mem_of_getElem? (i := 26) rfl), trivial⟩ (preRS hKK (hP.sub (ws' := []) [] rfl)) rfl rfl hl.1 rfl (lv_room (Nat.le_of_ble_eq_true rfl)) dX3_changes_40 ⟨Nat.zero_le _, Nat.zero_le _⟩) (fun hz6 => ?_)
      refine lv_if_eq (tgt := 78) hx hb dX3_changes_43 (by decide) (fun c7 => ?_) (fun c7 => ?_)
      · replace h := ite_t h c7
        exact B_78 f_t_next x2 x3 h H locs ls hP hD hS (lv_sub hl [1, 2, 3, 4] rfl)
      replace h := ite_f h c7
      refine lv_aload_n hx hb dX3_changes_46 rfl (lv_at hl 1 rfl) ?_
      refine va_get (D := (dC, dI)) (ci := 3) (v := .ref q_t_next) (C := RX3) (T := TX3) (N := 2) hx hb hts in_X3_changes_X3 hown hK hP 0 rfl rfl 1 (by decide) (hts (.fieldLink RX3 15 "RightIfAsMany$Moves" "next" "[I") (List.mem_of_getElem? (i := 1) rfl)) (fun _ h9 => h9) rfl dX3_changes_47 ?_
      refine lv_iload hx hb dX3_changes_50 (lv_at hl 0 rfl) ?_
      refine lv_dup2_11 hx hb dX3_changes_52 rfl rfl ?_
      obtain ⟨hg8, h⟩ := grd_s h
      refine va_iald hx hb hK hP 2 0 rfl rfl hg8 dX3_changes_53 ?_
      refine lv_aload_n hx hb dX3_changes_54 rfl (lv_at hl 1 rfl) ?_
      refine va_get (D := (dC, dI)) (ci := 3) (v := .ref q_t_now) (C := RX3) (T := TX3) (N := 2) hx hb hts in_X3_changes_X3 hown hK hP 0 rfl rfl 0 (by decide) (hts (.fieldLink RX3 9 "RightIfAsMany$Moves" "now" "[I") (List.mem_of_getElem? (i := 2) rfl)) (fun _ h9 => h9) rfl dX3_changes_55 ?_
      refine lv_iload_n hx hb dX3_changes_58 rfl (lv_at hl 4 rfl) ?_
      obtain ⟨hg9, h⟩ := grd_s h
      refine va_iald hx hb hK hP 1 0 rfl rfl hg9 dX3_changes_59 ?_
      refine lv_iadd hx hb dX3_changes_60 ?_
      obtain ⟨hg10, h⟩ := grd_s h
      refine va_iast hx hb hK hP hD hS 2 0 rfl rfl hg10 dX3_changes_61 (fun H locs hP hD hS => ?_)
      have hP : va_P (dC, dI) vwCl [(q_t, .inr (3, [.ref q_t_now, .ref q_t_next])), (q_t_now, .inl (cI, 10, .inl f_t_now)), (q_t_next, .inl (cI, 10, .inl (upd f_t_next r5.toNatClampNeg ((f_t_next r5.toNatClampNeg) + (f_t_now x3.toNatClampNeg))))), (q_p1, .inr (8, [.int v_p1_law, .int v_p1_share, .int v_p1_pot, .int v_p1_barred]))] H := hP
      have hD : va_D A [(q_t, .inr (3, [.ref q_t_now, .ref q_t_next])), (q_t_now, .inl (cI, 10, .inl f_t_now)), (q_t_next, .inl (cI, 10, .inl (upd f_t_next r5.toNatClampNeg ((f_t_next r5.toNatClampNeg) + (f_t_now x3.toNatClampNeg))))), (q_p1, .inr (8, [.int v_p1_law, .int v_p1_share, .int v_p1_pot, .int v_p1_barred]))] := hD
      refine lv_iload_n hx hb dX3_changes_62 rfl (lv_at hl 3 rfl) ?_
      refine lv_if_ne (tgt := 72) hx hb dX3_changes_63 (by decide) (fun c11 => ?_) (fun c11 => ?_)
      · replace h := ite_f h c11
        exact B_72 (upd f_t_next r5.toNatClampNeg ((f_t_next r5.toNatClampNeg) + (f_t_now x3.toNatClampNeg))) x3 h H locs ls hP hD hS (lv_sub hl [1, 2, 4] rfl)
      replace h := ite_t h c11
      refine lv_iload hx hb dX3_changes_66 (lv_at hl 0 rfl) ?_
      refine lv_iload_n hx hb dX3_changes_68 rfl (lv_at hl 4 rfl) ?_
      refine lv_icmp_eq (tgt := 76) hx hb dX3_changes_69 (by decide) (fun c12 => ?_) (fun c12 => ?_)
      · replace h := ite_t h c12
        refine lv_iconst (v := (0 : Int32)) hx hb dX3_changes_76 (by decide) ?_
        exact B_77 (upd f_t_next r5.toNatClampNeg ((f_t_next r5.toNatClampNeg) + (f_t_now x3.toNatClampNeg))) x3 (0 : Int32) h H locs ls hP hD hS (lv_sub hl [1, 2, 4] rfl)
      replace h := ite_f h c12
      exact B_72 (upd f_t_next r5.toNatClampNeg ((f_t_next r5.toNatClampNeg) + (f_t_now x3.toNatClampNeg))) x3 h H locs ls hP hD hS (lv_sub hl [1, 2, 4] rfl)
  unfold X3_changes at h
  obtain ⟨H, hHe⟩ : ∃ H, H = s.heap := ⟨_, rfl⟩
  obtain ⟨locs, hLe⟩ : ∃ x : List Loc, x = [] := ⟨_, rfl⟩
  rw [← hHe] at hP
  have hS : va_S A s.heap H locs := by rw [hHe, hLe]; exact hS
  suffices hW : W p l e (headSpec wsX3_changes rm_X3_changes).room s m ([.ref q_t, .ref q_p1] : List Value).toArray below meth c H locs 0 0 (MQ below (va_Qi (fun (r : Int32) (_ : Unit) => r = res ∧ r &&& 1 = r) (bW dC dI A [(q_t, .inr (3, [.ref q_t_now, .ref q_t_next])), (q_t_now, .inl (cI, 10, .inl f_t_now)), (q_t_next, .inl (cI, 10, .inl r_f_t_next)), (q_p1, .inr (8, [.int v_p1_law, .int v_p1_share, .int v_p1_pot, .int v_p1_barred]))]) A) ([.ref q_t, .ref q_p1] : List Value).toArray s 0 0 A) (F0 m 0 ls []) by rw [hHe, hLe] at hW; exact hW
  refine lv_iconst (v := (0 : Int32)) hx hb dX3_changes_0 (by decide) ?_
  refine lv_istore_n (lv' := [(2, .int (0 : Int32)), (0, .ref q_t), (1, .ref q_p1)]) hx hb dX3_changes_1 rfl hl (by decide) rfl (fun ls hl => ?_)
  refine lv_aload_n hx hb dX3_changes_2 rfl (lv_at hl 1 rfl) ?_
  refine va_get (D := (dC, dI)) (ci := 3) (v := .ref q_t_next) (C := RX3) (T := TX3) (N := 2) hx hb hts in_X3_changes_X3 hown hK hP 0 rfl rfl 1 (by decide) (hts (.fieldLink RX3 15 "RightIfAsMany$Moves" "next" "[I") (List.mem_of_getElem? (i := 1) rfl)) (fun _ h9 => h9) rfl dX3_changes_3 ?_
  refine lv_iconst (v := (0 : Int32)) hx hb dX3_changes_6 (by decide) ?_
  refine kWv (wc := [(q_t_next, .inl (cI, 10, .inl f_t_next))]) (wr := [(q_t, .inr (3, [.ref q_t_now, .ref q_t_next])), (q_t_now, .inl (cI, 10, .inl f_t_now)), (q_p1, .inr (8, [.int v_p1_law, .int v_p1_share, .int v_p1_pot, .int v_p1_barred]))]) (w1 := [(q_t_next, .inl (cI, 10, .inl (fillI 10 f_t_next (0 : Int32))))]) (wn := [(q_t, .inr (3, [.ref q_t_now, .ref q_t_next])), (q_t_now, .inl (cI, 10, .inl f_t_now)), (q_t_next, .inl (cI, 10, .inl (fillI 10 f_t_next (0 : Int32)))), (q_p1, .inr (8, [.int v_p1_law, .int v_p1_share, .int v_p1_pot, .int v_p1_barred]))]) hP hD hS hA [2] [0, 1, 3] [0, 1, 3, 2] rfl rfl (by decide) (by decide) rfl (by decide) (va_runS (As := [.ref q_t_next, .int (0 : Int32)]) (rest := []) ⟨hx, hb, hml, hown, hts⟩ (cn_J7_fill_53178 l dC dI cI cJ cZ q_t_next 10 H.size f_t_next (0 : Int32) (by decide)) (va_cwS 2 hts gX3_changes_J7_fill_53178 rfl rfl rfl (by decide +kernel) ⟨Nat.le_of_ble_eq_true rfl, Nat.le_of_ble_eq_true rfl⟩) (preWS hKK (hP.sub (ws' := [(q_t_next, .inl (cI, 10, .inl f_t_next))]) [2] rfl) (hD.sub (ws' := [(q_t_next, .inl (cI, 10, .inl f_t_next))]) [2] (by decide) rfl)) rfl rfl hl.1 rfl (lv_room (Nat.le_of_ble_eq_true rfl)) dX3_changes_7 ⟨Nat.zero_le _, Nat.zero_le _⟩) (fun H locs hP hD hS => ?_)
  refine lv_iconst (v := (0 : Int32)) hx hb dX3_changes_10 (by decide) ?_
  refine lv_istore_n (lv' := [(3, .int (0 : Int32)), (2, .int (0 : Int32)), (0, .ref q_t), (1, .ref q_p1)]) hx hb dX3_changes_11 rfl hl (by decide) rfl (fun ls hl => ?_)
  exact L_12 fU (fillI 10 f_t_next (0 : Int32)) (0 : Int32) (0 : Int32) h H locs ls hP hD hS (lv_sub hl [2, 3, 1, 0] rfl)
