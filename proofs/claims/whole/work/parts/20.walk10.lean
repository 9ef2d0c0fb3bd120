/-! walks, by program: X7_leastFrom X7_firstAllRight X10_agreed X7_leastAnew X7_fewestAnew -/
abbrev rm_X7_leastFrom : Room := { frames := 3, cells := 0, slots := 0, locals := 81 }
theorem in_X7_leastFrom_X8 : ∀ w ∈ wsX80, w ∈ wsX7_leastFrom := fun _ h => List.mem_cons_of_mem _ (List.mem_append_right _ h)
theorem in_X7_leastFrom_X7 : ∀ w ∈ wsX70, w ∈ wsX7_leastFrom := fun _ h => List.mem_cons_of_mem _ (List.mem_append_left _ (List.mem_append_right _ h))
set_option maxHeartbeats 4000000 in
set_option maxRecDepth 100000 in
theorem cn_X7_leastFrom (l : Launch) (dC : Nat → ClassId) (dI : Nat → Nat → Nat) (cI cJ cZ : ClassId) (q_t q_p1 q_t_sums q_t_costs q_t_weights q_t_needed : Nat) (sz : Nat) (f_t_needed : (Nat → Int32)) (v_p1_law : Int32) (v_p1_share : Int32) (v_p1_pot : Int32) (v_p1_barred : Int32) (p2 : Int32) (p3 : Int32) (res : Int32) (r_f_t_needed : (Nat → Int32)) (h : X7_leastFrom f_t_needed v_p1_law v_p1_barred p2 p3 = some (res, r_f_t_needed)) : Met l yX7_leastFrom wsX7_leastFrom rm_X7_leastFrom (pcW dC dI cI cJ cZ [(q_t, .inr (7, [.ref q_t_sums, .ref q_t_costs, .ref q_t_weights, .ref q_t_needed])), (q_t_needed, .inl (cI, 10, .inl f_t_needed)), (q_p1, .inr (8, [.int v_p1_law, .int v_p1_share, .int v_p1_pot, .int v_p1_barred]))] sz [.ref q_t, .ref q_p1, .int p2, .int p3]) (va_Qi (fun (r : Int32) (_ : Unit) => r = res) (bW dC dI (va_A [(q_t, .inr (7, [.ref q_t_sums, .ref q_t_costs, .ref q_t_weights, .ref q_t_needed])), (q_t_needed, .inl (cI, 10, .inl f_t_needed)), (q_p1, .inr (8, [.int v_p1_law, .int v_p1_share, .int v_p1_pot, .int v_p1_barred]))] sz) [(q_t, .inr (7, [.ref q_t_sums, .ref q_t_costs, .ref q_t_weights, .ref q_t_needed])), (q_t_needed, .inl (cI, 10, .inl r_f_t_needed)), (q_p1, .inr (8, [.int v_p1_law, .int v_p1_share, .int v_p1_pot, .int v_p1_barred]))]) (va_A [(q_t, .inr (7, [.ref q_t_sums, .ref q_t_costs, .ref q_t_weights, .ref q_t_needed])), (q_t_needed, .inl (cI, 10, .inl f_t_needed)), (q_p1, .inr (8, [.int v_p1_law, .int v_p1_share, .int v_p1_pot, .int v_p1_barred]))] sz)) 0 0 (va_A [(q_t, .inr (7, [.ref q_t_sums, .ref q_t_costs, .ref q_t_weights, .ref q_t_needed])), (q_t_needed, .inl (cI, 10, .inl f_t_needed)), (q_p1, .inr (8, [.int v_p1_law, .int v_p1_share, .int v_p1_pot, .int v_p1_barred]))] sz) := by
  refine Met.ofW (cc := cX7_leastFrom) (maxL := 5) (ret := (some .int)) (by decide) rfl ?_
  intro p e s m args below meth c s₁ B hml hv
  obtain ⟨rfl, hsz, hP, hKK, hD0⟩ := hv
  have hx := B.exec
  have hb := B.bytes
  have hr := B.returns
  have hts := atoms_spec (ws := wsX7_leastFrom) B.pre
  have hown : s.vm.findClass RX7 = some m.cls := findClass_of_methodNamed B.named
  have hlocks := B.notSynchronized
  have hK := hKK.1
  subst hsz
  have hD := hD0.self (sz := s.heap.size)
  generalize hAe : va_A [(q_t, .inr (7, [.ref q_t_sums, .ref q_t_costs, .ref q_t_weights, .ref q_t_needed])), (q_t_needed, .inl (cI, 10, .inl f_t_needed)), (q_p1, .inr (8, [.int v_p1_law, .int v_p1_share, .int v_p1_pot, .int v_p1_barred]))] s.heap.size = A at hD ⊢
  have hA : ∀ q : Nat, s.heap.size ≤ q → A q := fun q h => by rw [← hAe]; exact Or.inr h
  have hS : va_S A s.heap s.heap [] := va_S.rf
  have hl := lv_entry ([.ref q_t, .ref q_p1, .int p2, .int p3]) (n := 5) (Nat.le_of_ble_eq_true rfl)
  rw [lg_entry_eq]
  generalize (lg_sl ([.ref q_t, .ref q_p1, .int p2, .int p3]) ++ List.replicate (5 - (lg_sl ([.ref q_t, .ref q_p1, .int p2, .int p3])).length) Slot.unset).toArray = ls at hl ⊢
  have hl : lv_has ls 5 [(0, .ref q_t), (1, .ref q_p1), (2, .int p2), (3, .int p3)] := hl
  have L_7 : ∀ (n7 : Nat) , ∀ (f_t_needed : (Nat → Int32)) (x3 : Int32) (x4 : Int32), X7_leastFrom_b7 n7 f_t_needed v_p1_law v_p1_barred x3 x4 = some (res, r_f_t_needed) → ∀ (H : Heap) (locs : List Loc) (ls : Array Slot), va_P (dC, dI) vwCl [(q_t, .inr (7, [.ref q_t_sums, .ref q_t_costs, .ref q_t_weights, .ref q_t_needed])), (q_t_needed, .inl (cI, 10, .inl f_t_needed)), (q_p1, .inr (8, [.int v_p1_law, .int v_p1_share, .int v_p1_pot, .int v_p1_barred]))] H → va_D A [(q_t, .inr (7, [.ref q_t_sums, .ref q_t_costs, .ref q_t_weights, .ref q_t_needed])), (q_t_needed, .inl (cI, 10, .inl f_t_needed)), (q_p1, .inr (8, [.int v_p1_law, .int v_p1_share, .int v_p1_pot, .int v_p1_barred]))] → va_S A s.heap H locs → lv_has ls 5 [(0, .ref q_t), (1, .ref q_p1), (3, .int x3), (4, .int x4)] → W p l e (headSpec wsX7_leastFrom rm_X7_leastFrom).room s m ([.ref q_t, .ref q_p1, .int p2, .int p3] : List Value).toArray below meth c H locs 0 0 (MQ below (va_Qi (fun (r : Int32) (_ : Unit) => r = res) (bW dC dI A [(q_t, .inr (7, [.ref q_t_sums, .ref q_t_costs, .ref q_t_weights, .ref q_t_needed])), (q_t_needed, .inl (cI, 10, .inl r_f_t_needed)), (q_p1, .inr (8, [.int v_p1_law, .int v_p1_share, .int v_p1_pot, .int v_p1_barred]))]) A) ([.ref q_t, .ref q_p1, .int p2, .int p3] : List Value).toArray s 0 0 A) (F0 m 7 ls []) := by
    intro n7
    induction n7 with
    | zero => intro f_t_needed x3 x4 h H locs ls hP hD hS hl; exact absurd h (fun h => by cases h)
    | succ n7 ih_7 =>
      have B_57 : ∀ (f_t_needed : (Nat → Int32)) (x3 : Int32) (x4 : Int32), X7_leastFrom_b57 (X7_leastFrom_b7 n7) f_t_needed v_p1_law v_p1_barred x3 x4 = some (res, r_f_t_needed) → ∀ (H : Heap) (locs : List Loc) (ls : Array Slot), va_P (dC, dI) vwCl [(q_t, .inr (7, [.ref q_t_sums, .ref q_t_costs, .ref q_t_weights, .ref q_t_needed])), (q_t_needed, .inl (cI, 10, .inl f_t_needed)), (q_p1, .inr (8, [.int v_p1_law, .int v_p1_share, .int v_p1_pot, .int v_p1_barred]))] H → va_D A [(q_t, .inr (7, [.ref q_t_sums, .ref q_t_costs, .ref q_t_weights, .ref q_t_needed])), (q_t_needed, .inl (cI, 10, .inl f_t_needed)), (q_p1, .inr (8, [.int v_p1_law, .int v_p1_share, .int v_p1_pot, .int v_p1_barred]))] → va_S A s.heap H locs → lv_has ls 5 [(0, .ref q_t), (1, .ref q_p1), (3, .int x3), (4, .int x4)] → W p l e (headSpec wsX7_leastFrom rm_X7_leastFrom).room s m ([.ref q_t, .ref q_p1, .int p2, .int p3] : List Value).toArray below meth c H locs 0 0 (MQ below (va_Qi (fun (r : Int32) (_ : Unit) => r = res) (bW dC dI A [(q_t, .inr (7, [.ref q_t_sums, .ref q_t_costs, .ref q_t_weights, .ref q_t_needed])), (q_t_needed, .inl (cI, 10, .inl r_f_t_needed)), (q_p1, .inr (8, [.int v_p1_law, .int v_p1_share, .int v_p1_pot, .int v_p1_barred]))]) A) ([.ref q_t, .ref q_p1, .int p2, .int p3] : List Value).toArray s 0 0 A) (F0 m 57 ls []) := by
        intro f_t_needed x3 x4 h H locs ls hP hD hS hl
        unfold X7_leastFrom_b57 at h
        refine lv_iinc (v := (x4 + (1 : Int32))) (lv' := [(4, .int (x4 + (1 : Int32))), (0, .ref q_t), (1, .ref q_p1), (3, .int x3)]) hx hb dX7_leastFrom_57 hl (k := 3) rfl rfl (by decide) rfl (fun ls hl => ?_)
        refine lv_goto (tgt := 7) hx hb dX7_leastFrom_60 (by decide) ?_
        exact ih_7 f_t_needed x3 (x4 + (1 : Int32)) h H locs ls hP hD hS (lv_sub hl [1, 2, 3, 0] rfl)
      intro f_t_needed x3 x4 h H locs ls hP hD hS hl
      replace h : X7_leastFrom_b7_s (X7_leastFrom_b7 n7) f_t_needed v_p1_law v_p1_barred x3 x4 = some (res, r_f_t_needed) := h
      unfold X7_leastFrom_b7_s at h
      refine lv_iload hx hb dX7_leastFrom_7 (lv_at hl 3 rfl) ?_
      refine lv_bipush (v := (10 : Int32)) hx hb dX7_leastFrom_9 (by decide) ?_
      refine lv_icmp_ge (tgt := 63) hx hb dX7_leastFrom_11 (by decide) (fun c1 => ?_) (fun c1 => ?_)
      · replace h := ite_t h c1
        refine lv_bipush (v := (10 : Int32)) hx hb dX7_leastFrom_63 (by decide) ?_
        replace h := Option.some.inj h
        obtain ⟨e1, e2⟩ := pr2 h
        exact W.iret (v := (10 : Int32)) hx hb hr (fun t ht hW => ⟨⟨_, (), rfl, e1, (by rw [ht, ← e2]; exact hP), (by rw [← e2]; exact hD)⟩, hS.F ht⟩) hS.2.2 dX7_leastFrom_65
      replace h := ite_f h c1
      refine lv_aload_n hx hb dX7_leastFrom_14 rfl (lv_at hl 1 rfl) ?_
      refine lv_iload hx hb dX7_leastFrom_15 (lv_at hl 3 rfl) ?_
      refine kRz (res := (X8_isOpen v_p1_barred x4)) (va_runV (As := [.int x4]) (rest := []) ⟨hx, hb, hml, hown, hts⟩ (cn_X8_isOpen l dC dI cI cJ cZ q_p1  v_p1_law v_p1_share v_p1_pot v_p1_barred x4 (X8_isOpen v_p1_barred x4) rfl) (cwV 1 hts gX7_leastFrom_X8_isOpen rfl rfl rfl (by decide +kernel) ⟨Nat.le_of_ble_eq_true rfl, Nat.le_of_ble_eq_true rfl⟩) (preR hKK (hP.sub (ws' := [(q_p1, .inr (8, [.int v_p1_law, .int v_p1_share, .int v_p1_pot, .int v_p1_barred]))]) [2] rfl) (ci := 8) (q0 := 0) rfl rfl) rfl rfl hl.1 rfl (lv_room (Nat.le_of_ble_eq_true rfl)) dX7_leastFrom_17 ⟨Nat.zero_le _, Nat.zero_le _⟩) (fun hz2 => ?_)
      refine lv_if_eq (tgt := 57) hx hb dX7_leastFrom_20 (by decide) (fun c3 => ?_) (fun c3 => ?_)
      · replace h := ite_t h c3
        exact B_57 f_t_needed x3 x4 h H locs ls hP hD hS (lv_sub hl [0, 1, 2, 3] rfl)
      replace h := ite_f h c3
      refine lv_aload_n hx hb dX7_leastFrom_23 rfl (lv_at hl 0 rfl) ?_
      refine va_get (D := (dC, dI)) (ci := 7) (v := .ref q_t_needed) (C := RX7) (T := TX7) (N := 4) hx hb hts in_X7_leastFrom_X7 hown hK hP 0 rfl rfl 3 (by decide) (hts (.fieldLink RX7 22 "RightIfAsMany$Rows" "needed" "[I") (List.mem_of_getElem? (i := 5) rfl)) (fun _ h9 => h9) rfl dX7_leastFrom_24 ?_
      refine lv_iload hx hb dX7_leastFrom_27 (lv_at hl 3 rfl) ?_
      refine lv_dup2_11 hx hb dX7_leastFrom_29 rfl rfl ?_
      obtain ⟨hg4, h⟩ := grd_s h
      refine va_iald hx hb hK hP 1 0 rfl rfl hg4 dX7_leastFrom_30 ?_
      refine lv_iconst (v := (1 : Int32)) hx hb dX7_leastFrom_31 (by decide) ?_
      refine lv_iadd hx hb dX7_leastFrom_32 ?_
      obtain ⟨hg5, h⟩ := grd_s h
      refine va_iast hx hb hK hP hD hS 1 0 rfl rfl hg5 dX7_leastFrom_33 (fun H locs hP hD hS => ?_)
      have hP : va_P (dC, dI) vwCl [(q_t, .inr (7, [.ref q_t_sums, .ref q_t_costs, .ref q_t_weights, .ref q_t_needed])), (q_t_needed, .inl (cI, 10, .inl (upd f_t_needed x4.toNatClampNeg ((f_t_needed x4.toNatClampNeg) + (1 : Int32))))), (q_p1, .inr (8, [.int v_p1_law, .int v_p1_share, .int v_p1_pot, .int v_p1_barred]))] H := hP
      have hD : va_D A [(q_t, .inr (7, [.ref q_t_sums, .ref q_t_costs, .ref q_t_weights, .ref q_t_needed])), (q_t_needed, .inl (cI, 10, .inl (upd f_t_needed x4.toNatClampNeg ((f_t_needed x4.toNatClampNeg) + (1 : Int32))))), (q_p1, .inr (8, [.int v_p1_law, .int v_p1_share, .int v_p1_pot, .int v_p1_barred]))] := hD
      refine lv_aload_n hx hb dX7_leastFrom_34 rfl (lv_at hl 0 rfl) ?_
      refine lv_aload_n hx hb dX7_leastFrom_35 rfl (lv_at hl 1 rfl) ?_
      refine lv_iload_n hx hb dX7_leastFrom_36 rfl (lv_at hl 2 rfl) ?_
      obtain ⟨r6, hc6, h⟩ := bnd1_s h
      refine kRz (res := r6) (va_runV (As := [.ref q_p1, .int x3]) (rest := []) ⟨hx, hb, hml, hown, hts⟩ (cn_X7_canBeFilled l dC dI cI cJ cZ q_t q_p1 q_t_sums q_t_costs q_t_weights q_t_needed  (upd f_t_needed x4.toNatClampNeg ((f_t_needed x4.toNatClampNeg) + (1 : Int32))) v_p1_law v_p1_share v_p1_pot v_p1_barred x3 r6 hc6) (cwV 2 hts gX7_leastFrom_X7_canBeFilled rfl rfl rfl (by decide +kernel) ⟨Nat.le_of_ble_eq_true rfl, Nat.le_of_ble_eq_true rfl⟩) (preR hKK (hP.sub (ws' := [(q_t, .inr (7, [.ref q_t_sums, .ref q_t_costs, .ref q_t_weights, .ref q_t_needed])), (q_t_needed, .inl (cI, 10, .inl (upd f_t_needed x4.toNatClampNeg ((f_t_needed x4.toNatClampNeg) + (1 : Int32))))), (q_p1, .inr (8, [.int v_p1_law, .int v_p1_share, .int v_p1_pot, .int v_p1_barred]))]) [0, 1, 2] rfl) (ci := 7) (q0 := 0) rfl rfl) rfl rfl hl.1 rfl (lv_room (Nat.le_of_ble_eq_true rfl)) dX7_leastFrom_37 ⟨Nat.zero_le _, Nat.zero_le _⟩) (fun hz7 => ?_)
      refine lv_if_eq (tgt := 46) hx hb dX7_leastFrom_40 (by decide) (fun c8 => ?_) (fun c8 => ?_)
      · replace h := ite_t h c8
        refine lv_aload_n hx hb dX7_leastFrom_46 rfl (lv_at hl 0 rfl) ?_
        refine va_get (D := (dC, dI)) (ci := 7) (v := .ref q_t_needed) (C := RX7) (T := TX7) (N := 4) hx hb hts in_X7_leastFrom_X7 hown hK hP 0 rfl rfl 3 (by decide) (hts (.fieldLink RX7 22 "RightIfAsMany$Rows" "needed" "[I") (List.mem_of_getElem? (i := 5) rfl)) (fun _ h9 => h9) rfl dX7_leastFrom_47 ?_
        refine lv_iload hx hb dX7_leastFrom_50 (lv_at hl 3 rfl) ?_
        refine lv_dup2_11 hx hb dX7_leastFrom_52 rfl rfl ?_
        obtain ⟨hg9, h⟩ := grd_s h
        refine va_iald hx hb hK hP 1 0 rfl rfl hg9 dX7_leastFrom_53 ?_
        refine lv_iconst (v := (1 : Int32)) hx hb dX7_leastFrom_54 (by decide) ?_
        refine lv_isub hx hb dX7_leastFrom_55 ?_
        obtain ⟨hg10, h⟩ := grd_s h
        refine va_iast hx hb hK hP hD hS 1 0 rfl rfl hg10 dX7_leastFrom_56 (fun H locs hP hD hS => ?_)
        have hP : va_P (dC, dI) vwCl [(q_t, .inr (7, [.ref q_t_sums, .ref q_t_costs, .ref q_t_weights, .ref q_t_needed])), (q_t_needed, .inl (cI, 10, .inl (upd (upd f_t_needed x4.toNatClampNeg ((f_t_needed x4.toNatClampNeg) + (1 : Int32))) x4.toNatClampNeg (((upd f_t_needed x4.toNatClampNeg ((f_t_needed x4.toNatClampNeg) + (1 : Int32))) x4.toNatClampNeg) - (1 : Int32))))), (q_p1, .inr (8, [.int v_p1_law, .int v_p1_share, .int v_p1_pot, .int v_p1_barred]))] H := hP
        have hD : va_D A [(q_t, .inr (7, [.ref q_t_sums, .ref q_t_costs, .ref q_t_weights, .ref q_t_needed])), (q_t_needed, .inl (cI, 10, .inl (upd (upd f_t_needed x4.toNatClampNeg ((f_t_needed x4.toNatClampNeg) + (1 : Int32))) x4.toNatClampNeg (((upd f_t_needed x4.toNatClampNeg ((f_t_needed x4.toNatClampNeg) + (1 : Int32))) x4.toNatClampNeg) - (1 : Int32))))), (q_p1, .inr (8, [.int v_p1_law, .int v_p1_share, .int v_p1_pot, .int v_p1_barred]))] := hD
        exact B_57 (upd (upd f_t_needed x4.toNatClampNeg ((f_t_needed x4.toNatClampNeg) + (1 : Int32))) x4.toNatClampNeg (((upd f_t_needed x4.toNatClampNeg ((f_t_needed x4.toNatClampNeg) + (1 : Int32))) x4.toNatClampNeg) - (1 : Int32))) x3 x4 h H locs ls hP hD hS (lv_sub hl [0, 1, 2, 3] rfl)
      replace h := ite_f h c8
      refine lv_iload hx hb dX7_leastFrom_43 (lv_at hl 3 rfl) ?_
      replace h := Option.some.inj h
      obtain ⟨e1, e2⟩ := pr2 h
      exact W.iret (v := x4) hx hb hr (fun t ht hW => ⟨⟨_, (), rfl, e1, (by rw [ht, ← e2]; exact hP), (by rw [← e2]; exact hD)⟩, hS.F ht⟩) hS.2.2 dX7_leastFrom_45
  unfold X7_leastFrom at h
  obtain ⟨H, hHe⟩ : ∃ H, H = s.heap := ⟨_, rfl⟩
  obtain ⟨locs, hLe⟩ : ∃ x : List Loc, x = [] := ⟨_, rfl⟩
  rw [← hHe] at hP
  have hS : va_S A s.heap H locs := by rw [hHe, hLe]; exact hS
  suffices hW : W p l e (headSpec wsX7_leastFrom rm_X7_leastFrom).room s m ([.ref q_t, .ref q_p1, .int p2, .int p3] : List Value).toArray below meth c H locs 0 0 (MQ below (va_Qi (fun (r : Int32) (_ : Unit) => r = res) (bW dC dI A [(q_t, .inr (7, [.ref q_t_sums, .ref q_t_costs, .ref q_t_weights, .ref q_t_needed])), (q_t_needed, .inl (cI, 10, .inl r_f_t_needed)), (q_p1, .inr (8, [.int v_p1_law, .int v_p1_share, .int v_p1_pot, .int v_p1_barred]))]) A) ([.ref q_t, .ref q_p1, .int p2, .int p3] : List Value).toArray s 0 0 A) (F0 m 0 ls []) by rw [hHe, hLe] at hW; exact hW
  refine lv_iconst (v := (0 : Int32)) hx hb dX7_leastFrom_0 (by decide) ?_
  refine lv_iload_n hx hb dX7_leastFrom_1 rfl (lv_at hl 2 rfl) ?_
  refine va_mmax hx hb (hml.trans hl.1.symm) hown (hts (.methodLink RX7 69 Lib.Math.max.name) (List.mem_of_getElem? (i := 1) rfl)) (hts (.static Lib.Math.max.name) (List.mem_of_getElem? (i := 2) rfl)) (hts (.initialized "java/lang/Math") (List.mem_of_getElem? (i := 3) rfl)) (hts (.code Lib.Math.max.name Lib.Math.max.code 2 (some .int)) (List.mem_of_getElem? (i := 4) rfl)) (Nat.le_of_ble_eq_true rfl) (Nat.le_of_ble_eq_true rfl) (Nat.zero_le _) (Nat.zero_le _) dX7_leastFrom_2 ?_
  refine lv_istore (lv' := [(4, .int (if (0 : Int32) < p2 then p2 else (0 : Int32))), (0, .ref q_t), (1, .ref q_p1), (2, .int p2), (3, .int p3)]) hx hb dX7_leastFrom_5 hl (by decide) rfl (fun ls hl => ?_)
  exact L_7 fU f_t_needed p3 (if (0 : Int32) < p2 then p2 else (0 : Int32)) h H locs ls hP hD hS (lv_sub hl [1, 2, 4, 0] rfl)
abbrev rm_X7_firstAllRight : Room := { frames := 4, cells := 0, slots := 0, locals := 105 }
theorem in_X7_firstAllRight_X8 : ∀ w ∈ wsX80, w ∈ wsX7_firstAllRight := fun _ h => List.mem_cons_of_mem _ (List.mem_append_right _ h)
theorem in_X7_firstAllRight_X7 : ∀ w ∈ wsX70, w ∈ wsX7_firstAllRight := fun _ h => List.mem_cons_of_mem _ (List.mem_append_left _ (List.mem_append_right _ h))
set_option maxHeartbeats 4000000 in
set_option maxRecDepth 100000 in
theorem cn_X7_firstAllRight (l : Launch) (dC : Nat → ClassId) (dI : Nat → Nat → Nat) (cI cJ cZ : ClassId) (q_t q_p1 q_t_sums q_t_costs q_t_weights q_t_needed : Nat) (sz : Nat) (f_t_needed : (Nat → Int32)) (v_p1_law : Int32) (v_p1_share : Int32) (v_p1_pot : Int32) (v_p1_barred : Int32) (p2 : Int32) (p3 : Int32) (res : Int32) (r_f_t_needed : (Nat → Int32)) (h : X7_firstAllRight f_t_needed v_p1_law v_p1_barred p2 p3 = some (res, r_f_t_needed)) : Met l yX7_firstAllRight wsX7_firstAllRight rm_X7_firstAllRight (pcW dC dI cI cJ cZ [(q_t, .inr (7, [.ref q_t_sums, .ref q_t_costs, .ref q_t_weights, .ref q_t_needed])), (q_t_needed, .inl (cI, 10, .inl f_t_needed)), (q_p1, .inr (8, [.int v_p1_law, .int v_p1_share, .int v_p1_pot, .int v_p1_barred]))] sz [.ref q_t, .ref q_p1, .int p2, .int p3]) (va_Qi (fun (r : Int32) (_ : Unit) => r = res) (bW dC dI (va_A [(q_t, .inr (7, [.ref q_t_sums, .ref q_t_costs, .ref q_t_weights, .ref q_t_needed])), (q_t_needed, .inl (cI, 10, .inl f_t_needed)), (q_p1, .inr (8, [.int v_p1_law, .int v_p1_share, .int v_p1_pot, .int v_p1_barred]))] sz) [(q_t, .inr (7, [.ref q_t_sums, .ref q_t_costs, .ref q_t_weights, .ref q_t_needed])), (q_t_needed, .inl (cI, 10, .inl r_f_t_needed)), (q_p1, .inr (8, [.int v_p1_law, .int v_p1_share, .int v_p1_pot, .int v_p1_barred]))]) (va_A [(q_t, .inr (7, [.ref q_t_sums, .ref q_t_costs, .ref q_t_weights, .ref q_t_needed])), (q_t_needed, .inl (cI, 10, .inl f_t_needed)), (q_p1, .inr (8, [.int v_p1_law, .int v_p1_share, .int v_p1_pot, .int v_p1_barred]))] sz)) 0 0 (va_A [(q_t, .inr (7, [.ref q_t_sums, .ref q_t_costs, .ref q_t_weights, .ref q_t_needed])), (q_t_needed, .inl (cI, 10, .inl f_t_needed)), (q_p1, .inr (8, [.int v_p1_law, .int v_p1_share, .int v_p1_pot, .int v_p1_barred]))] sz) := by
  refine Met.ofW (cc := cX7_firstAllRight) (maxL := 6) (ret := (some .int)) (by decide) rfl ?_
  intro p e s m args below meth c s₁ B hml hv
  obtain ⟨rfl, hsz, hP, hKK, hD0⟩ := hv
  have hx := B.exec
  have hb := B.bytes
  have hr := B.returns
  have hts := atoms_spec (ws := wsX7_firstAllRight) B.pre
  have hown : s.vm.findClass RX7 = some m.cls := findClass_of_methodNamed B.named
  have hlocks := B.notSynchronized
  have hK := hKK.1
  subst hsz
  have hD := hD0.self (sz := s.heap.size)
  generalize hAe : va_A [(q_t, .inr (7, [.ref q_t_sums, .ref q_t_costs, .ref q_t_weights, .ref q_t_needed])), (q_t_needed, .inl (cI, 10, .inl f_t_needed)), (q_p1, .inr (8, [.int v_p1_law, .int v_p1_share, .int v_p1_pot, .int v_p1_barred]))] s.heap.size = A at hD ⊢
  have hA : ∀ q : Nat, s.heap.size ≤ q → A q := fun q h => by rw [← hAe]; exact Or.inr h
  have hS : va_S A s.heap s.heap [] := va_S.rf
  have hl := lv_entry ([.ref q_t, .ref q_p1, .int p2, .int p3]) (n := 6) (Nat.le_of_ble_eq_true rfl)
  rw [lg_entry_eq]
  generalize (lg_sl ([.ref q_t, .ref q_p1, .int p2, .int p3]) ++ List.replicate (6 - (lg_sl ([.ref q_t, .ref q_p1, .int p2, .int p3])).length) Slot.unset).toArray = ls at hl ⊢
  have hl : lv_has ls 6 [(0, .ref q_t), (1, .ref q_p1), (2, .int p2), (3, .int p3)] := hl
  have B_42 : ∀ (f_t_needed : (Nat → Int32)) (x4 : Int32), X7_firstAllRight_b42 f_t_needed v_p1_law v_p1_barred x4 = some (res, r_f_t_needed) → ∀ (H : Heap) (locs : List Loc) (ls : Array Slot), va_P (dC, dI) vwCl [(q_t, .inr (7, [.ref q_t_sums, .ref q_t_costs, .ref q_t_weights, .ref q_t_needed])), (q_t_needed, .inl (cI, 10, .inl f_t_needed)), (q_p1, .inr (8, [.int v_p1_law, .int v_p1_share, .int v_p1_pot, .int v_p1_barred]))] H → va_D A [(q_t, .inr (7, [.ref q_t_sums, .ref q_t_costs, .ref q_t_weights, .ref q_t_needed])), (q_t_needed, .inl (cI, 10, .inl f_t_needed)), (q_p1, .inr (8, [.int v_p1_law, .int v_p1_share, .int v_p1_pot, .int v_p1_barred]))] → va_S A s.heap H locs → lv_has ls 6 [(4, .int x4)] → W p l e (headSpec wsX7_firstAllRight rm_X7_firstAllRight).room s m ([.ref q_t, .ref q_p1, .int p2, .int p3] : List Value).toArray below meth c H locs 0 0 (MQ below (va_Qi (fun (r : Int32) (_ : Unit) => r = res) (bW dC dI A [(q_t, .inr (7, [.ref q_t_sums, .ref q_t_costs, .ref q_t_weights, .ref q_t_needed])), (q_t_needed, .inl (cI, 10, .inl r_f_t_needed)), (q_p1, .inr (8, [.int v_p1_law, .int v_p1_share, .int v_p1_pot, .int v_p1_barred]))]) A) ([.ref q_t, .ref q_p1, .int p2, .int p3] : List Value).toArray s 0 0 A) (F0 m 42 ls []) := by
    intro f_t_needed x4 h H locs ls hP hD hS hl
    unfold X7_firstAllRight_b42 at h
    refine lv_iload hx hb dX7_firstAllRight_42 (lv_at hl 0 rfl) ?_
    refine lv_bipush (v := (10 : Int32)) hx hb dX7_firstAllRight_44 (by decide) ?_
    refine lv_icmp_ge (tgt := 54) hx hb dX7_firstAllRight_46 (by decide) (fun c1 => ?_) (fun c1 => ?_)
    · replace h := ite_t h c1
      refine lv_bipush (v := (-9 : Int32)) hx hb dX7_firstAllRight_54 (by decide) ?_
      replace h := Option.some.inj h
      obtain ⟨e1, e2⟩ := pr2 h
      exact W.iret (v := (-9 : Int32)) hx hb hr (fun t ht hW => ⟨⟨_, (), rfl, e1, (by rw [ht, ← e2]; exact hP), (by rw [← e2]; exact hD)⟩, hS.F ht⟩) hS.2.2 dX7_firstAllRight_56
    replace h := ite_f h c1
    refine lv_iload hx hb dX7_firstAllRight_49 (lv_at hl 0 rfl) ?_
    refine lv_goto (tgt := 56) hx hb dX7_firstAllRight_51 (by decide) ?_
    replace h := Option.some.inj h
    obtain ⟨e1, e2⟩ := pr2 h
    exact W.iret (v := x4) hx hb hr (fun t ht hW => ⟨⟨_, (), rfl, e1, (by rw [ht, ← e2]; exact hP), (by rw [← e2]; exact hD)⟩, hS.F ht⟩) hS.2.2 dX7_firstAllRight_56
  have L_14 : ∀ (n14 : Nat) , ∀ (f_t_needed : (Nat → Int32)) (x2 : Int32) (x3 : Int32) (x4 : Int32) (x5 : Int32), X7_firstAllRight_b14 n14 f_t_needed v_p1_law v_p1_barred x2 x3 x4 x5 = some (res, r_f_t_needed) → ∀ (H : Heap) (locs : List Loc) (ls : Array Slot), va_P (dC, dI) vwCl [(q_t, .inr (7, [.ref q_t_sums, .ref q_t_costs, .ref q_t_weights, .ref q_t_needed])), (q_t_needed, .inl (cI, 10, .inl f_t_needed)), (q_p1, .inr (8, [.int v_p1_law, .int v_p1_share, .int v_p1_pot, .int v_p1_barred]))] H → va_D A [(q_t, .inr (7, [.ref q_t_sums, .ref q_t_costs, .ref q_t_weights, .ref q_t_needed])), (q_t_needed, .inl (cI, 10, .inl f_t_needed)), (q_p1, .inr (8, [.int v_p1_law, .int v_p1_share, .int v_p1_pot, .int v_p1_barred]))] → va_S A s.heap H locs → lv_has ls 6 [(0, .ref q_t), (1, .ref q_p1), (2, .int x2), (3, .int x3), (4, .int x4), (5, .int x5)] → W p l e (headSpec wsX7_firstAllRight rm_X7_firstAllRight).room s m ([.ref q_t, .ref q_p1, .int p2, .int p3] : List Value).toArray below meth c H locs 0 0 (MQ below (va_Qi (fun (r : Int32) (_ : Unit) => r = res) (bW dC dI A [(q_t, .inr (7, [.ref q_t_sums, .ref q_t_costs, .ref q_t_weights, .ref q_t_needed])), (q_t_needed, .inl (cI, 10, .inl r_f_t_needed)), (q_p1, .inr (8, [.int v_p1_law, .int v_p1_share, .int v_p1_pot, .int v_p1_barred]))]) A) ([.ref q_t, .ref q_p1, .int p2, .int p3] : List Value).toArray s 0 0 A) (F0 m 14 ls []) := by
    intro n14
    induction n14 with
    | zero => intro f_t_needed x2 x3 x4 x5 h H locs ls hP hD hS hl; exact absurd h (fun h => by cases h)
    | succ n14 ih_14 =>
      intro f_t_needed x2 x3 x4 x5 h H locs ls hP hD hS hl
      replace h : X7_firstAllRight_b14_s (X7_firstAllRight_b14 n14) f_t_needed v_p1_law v_p1_barred x2 x3 x4 x5 = some (res, r_f_t_needed) := h
      unfold X7_firstAllRight_b14_s at h
      refine lv_iload hx hb dX7_firstAllRight_14 (lv_at hl 5 rfl) ?_
      refine lv_iload_n hx hb dX7_firstAllRight_16 rfl (lv_at hl 2 rfl) ?_
      refine lv_icmp_gt (tgt := 42) hx hb dX7_firstAllRight_17 (by decide) (fun c2 => ?_) (fun c2 => ?_)
      · replace h := ite_t h c2
        exact B_42 f_t_needed x4 h H locs ls hP hD hS (lv_sub hl [4] rfl)
      replace h := ite_f h c2
      refine lv_iload hx hb dX7_firstAllRight_20 (lv_at hl 5 rfl) ?_
      refine lv_iload_n hx hb dX7_firstAllRight_22 rfl (lv_at hl 3 rfl) ?_
      refine lv_icmp_ge (tgt := 42) hx hb dX7_firstAllRight_23 (by decide) (fun c3 => ?_) (fun c3 => ?_)
      · replace h := ite_t h c3
        exact B_42 f_t_needed x4 h H locs ls hP hD hS (lv_sub hl [4] rfl)
      replace h := ite_f h c3
      refine lv_aload_n hx hb dX7_firstAllRight_26 rfl (lv_at hl 0 rfl) ?_
      refine lv_aload_n hx hb dX7_firstAllRight_27 rfl (lv_at hl 1 rfl) ?_
      refine lv_iload hx hb dX7_firstAllRight_28 (lv_at hl 4 rfl) ?_
      refine lv_iload_n hx hb dX7_firstAllRight_30 rfl (lv_at hl 3 rfl) ?_
      obtain ⟨r4, w4_1, hc4, h⟩ := bnd2_s h
      refine kWi (res := r4) (wc := [(q_t, .inr (7, [.ref q_t_sums, .ref q_t_costs, .ref q_t_weights, .ref q_t_needed])), (q_t_needed, .inl (cI, 10, .inl f_t_needed)), (q_p1, .inr (8, [.int v_p1_law, .int v_p1_share, .int v_p1_pot, .int v_p1_barred]))]) (wr := []) (w1 := [(q_t, .inr (7, [.ref q_t_sums, .ref q_t_costs, .ref q_t_weights, .ref q_t_needed])), (q_t_needed, .inl (cI, 10, .inl w4_1)), (q_p1, .inr (8, [.int v_p1_law, .int v_p1_share, .int v_p1_pot, .int v_p1_barred]))]) (wn := [(q_t, .inr (7, [.ref q_t_sums, .ref q_t_costs, .ref q_t_weights, .ref q_t_needed])), (q_t_needed, .inl (cI, 10, .inl w4_1)), (q_p1, .inr (8, [.int v_p1_law, .int v_p1_share, .int v_p1_pot, .int v_p1_barred]))]) hP hD hS hA [0, 1, 2] [] [0, 1, 2] rfl rfl (by decide) (by decide) rfl (by decide) (va_runV (As := [.ref q_p1, .int x4, .int x3]) (rest := []) ⟨hx, hb, hml, hown, hts⟩ (cn_X7_leastFrom l dC dI cI cJ cZ q_t q_p1 q_t_sums q_t_costs q_t_weights q_t_needed H.size f_t_needed v_p1_law v_p1_share v_p1_pot v_p1_barred x4 x3 r4 w4_1 hc4) (cwV 3 hts gX7_firstAllRight_X7_leastFrom rfl rfl rfl (by decide +kernel) ⟨Nat.le_of_ble_eq_true rfl, Nat.le_of_ble_eq_true rfl⟩) (preW hKK (hP.sub (ws' := [(q_t, .inr (7, [.ref q_t_sums, .ref q_t_costs, .ref q_t_weights, .ref q_t_needed])), (q_t_needed, .inl (cI, 10, .inl f_t_needed)), (q_p1, .inr (8, [.int v_p1_law, .int v_p1_share, .int v_p1_pot, .int v_p1_barred]))]) [0, 1, 2] rfl) (hD.sub (ws' := [(q_t, .inr (7, [.ref q_t_sums, .ref q_t_costs, .ref q_t_weights, .ref q_t_needed])), (q_t_needed, .inl (cI, 10, .inl f_t_needed)), (q_p1, .inr (8, [.int v_p1_law, .int v_p1_share, .int v_p1_pot, .int v_p1_barred]))]) [0, 1, 2] (by decide) rfl) (ci := 7) (q0 := 0) rfl rfl) rfl rfl hl.1 rfl (lv_room (Nat.le_of_ble_eq_true rfl)) dX7_firstAllRight_31 ⟨Nat.zero_le _, Nat.zero_le _⟩) (fun H locs hP hD hS => ?_)
      refine lv_istore (lv' := [(4, .int r4), (0, .ref q_t), (1, .ref q_p1), (2, .int x2), (3, .int x3), (5, .int x5)]) hx hb dX7_firstAllRight_34 hl (by decide) rfl (fun ls hl => ?_)
      refine lv_iinc (v := (x5 + (1 : Int32))) (lv' := [(5, .int (x5 + (1 : Int32))), (4, .int r4), (0, .ref q_t), (1, .ref q_p1), (2, .int x2), (3, .int x3)]) hx hb dX7_firstAllRight_36 hl (k := 5) rfl rfl (by decide) rfl (fun ls hl => ?_)
      refine lv_goto (tgt := 14) hx hb dX7_firstAllRight_39 (by decide) ?_
      exact ih_14 w4_1 x2 x3 r4 (x5 + (1 : Int32)) h H locs ls hP hD hS (lv_sub hl [2, 3, 4, 5, 1, 0] rfl)
  unfold X7_firstAllRight at h
  obtain ⟨H, hHe⟩ : ∃ H, H = s.heap := ⟨_, rfl⟩
  obtain ⟨locs, hLe⟩ : ∃ x : List Loc, x = [] := ⟨_, rfl⟩
  rw [← hHe] at hP
  have hS : va_S A s.heap H locs := by rw [hHe, hLe]; exact hS
  suffices hW : W p l e (headSpec wsX7_firstAllRight rm_X7_firstAllRight).room s m ([.ref q_t, .ref q_p1, .int p2, .int p3] : List Value).toArray below meth c H locs 0 0 (MQ below (va_Qi (fun (r : Int32) (_ : Unit) => r = res) (bW dC dI A [(q_t, .inr (7, [.ref q_t_sums, .ref q_t_costs, .ref q_t_weights, .ref q_t_needed])), (q_t_needed, .inl (cI, 10, .inl r_f_t_needed)), (q_p1, .inr (8, [.int v_p1_law, .int v_p1_share, .int v_p1_pot, .int v_p1_barred]))]) A) ([.ref q_t, .ref q_p1, .int p2, .int p3] : List Value).toArray s 0 0 A) (F0 m 0 ls []) by rw [hHe, hLe] at hW; exact hW
  refine lv_aload_n hx hb dX7_firstAllRight_0 rfl (lv_at hl 0 rfl) ?_
  refine va_get (D := (dC, dI)) (ci := 7) (v := .ref q_t_needed) (C := RX7) (T := TX7) (N := 4) hx hb hts in_X7_firstAllRight_X7 hown hK hP 0 rfl rfl 3 (by decide) (hts (.fieldLink RX7 22 "RightIfAsMany$Rows" "needed" "[I") (List.mem_of_getElem? (i := 1) rfl)) (fun _ h9 => h9) rfl dX7_firstAllRight_1 ?_
  refine lv_iconst (v := (0 : Int32)) hx hb dX7_firstAllRight_4 (by decide) ?_
  refine kWv (wc := [(q_t_needed, .inl (cI, 10, .inl f_t_needed))]) (wr := [(q_t, .inr (7, [.ref q_t_sums, .ref q_t_costs, .ref q_t_weights, .ref q_t_needed])), (q_p1, .inr (8, [.int v_p1_law, .int v_p1_share, .int v_p1_pot, .int v_p1_barred]))]) (w1 := [(q_t_needed, .inl (cI, 10, .inl (fillI 10 f_t_needed (0 : Int32))))]) (wn := [(q_t, .inr (7, [.ref q_t_sums, .ref q_t_costs, .ref q_t_weights, .ref q_t_needed])), (q_t_needed, .inl (cI, 10, .inl (fillI 10 f_t_needed (0 : Int32)))), (q_p1, .inr (8, [.int v_p1_law, .int v_p1_share, .int v_p1_pot, .int v_p1_barred]))]) hP hD hS hA [1] [0, 2] [0, 2, 1] rfl rfl (by decide) (by decide) rfl (by decide) (va_runS (As := [.ref q_t_needed, .int (0 : Int32)]) (rest := []) ⟨hx, hb, hml, hown, hts⟩ (cn_J7_fill_53178 l dC dI cI cJ cZ q_t_needed 10 H.size f_t_needed (0 : Int32) (by decide)) (va_cwS 2 hts gX7_firstAllRight_J7_fill_53178 rfl rfl rfl (by decide +kernel) ⟨Nat.le_of_ble_eq_true rfl, Nat.le_of_ble_eq_true rfl⟩) (preWS hKK (hP.sub (ws' := [(q_t_needed, .inl (cI, 10, .inl f_t_needed))]) [1] rfl) (hD.sub (ws' := [(q_t_needed, .inl (cI, 10, .inl f_t_needed))]) [1] (by decide) rfl)) rfl rfl hl.1 rfl (lv_room (Nat.le_of_ble_eq_true rfl)) dX7_firstAllRight_5 ⟨Nat.zero_le _, Nat.zero_le _⟩) (fun H locs hP hD hS => ?_)
  refine lv_iconst (v := (0 : Int32)) hx hb dX7_firstAllRight_8 (by decide) ?_
  refine lv_istore (lv' := [(4, .int (0 : Int32)), (0, .ref q_t), (1, .ref q_p1), (2, .int p2), (3, .int p3)]) hx hb dX7_firstAllRight_9 hl (by decide) rfl (fun ls hl => ?_)
  refine lv_iconst (v := (0 : Int32)) hx hb dX7_firstAllRight_11 (by decide) ?_
  refine lv_istore (lv' := [(5, .int (0 : Int32)), (4, .int (0 : Int32)), (0, .ref q_t), (1, .ref q_p1), (2, .int p2), (3, .int p3)]) hx hb dX7_firstAllRight_12 hl (by decide) rfl (fun ls hl => ?_)
  exact L_14 fU (fillI 10 f_t_needed (0 : Int32)) p2 p3 (0 : Int32) (0 : Int32) h H locs ls hP hD hS (lv_sub hl [2, 3, 4, 5, 1, 0] rfl)
abbrev rm_X10_agreed : Room := { frames := 5, cells := 0, slots := 0, locals := 130 }
theorem in_X10_agreed_X8 : ∀ w ∈ wsX80, w ∈ wsX10_agreed := fun _ h => List.mem_cons_of_mem _ (List.mem_append_right _ h)
theorem in_X10_agreed_X7 : ∀ w ∈ wsX70, w ∈ wsX10_agreed := fun _ h => List.mem_cons_of_mem _ (List.mem_append_left _ (List.mem_append_right _ h))
theorem in_X10_agreed_X5 : ∀ w ∈ wsX50, w ∈ wsX10_agreed := fun _ h => List.mem_cons_of_mem _ (List.mem_append_left _ (List.mem_append_left _ (List.mem_append_right _ h)))
theorem in_X10_agreed_X10 : ∀ w ∈ wsX100, w ∈ wsX10_agreed := fun _ h => List.mem_cons_of_mem _ (List.mem_append_left _ (List.mem_append_left _ (List.mem_append_left _ (List.mem_append_right _ h))))
set_option maxHeartbeats 4000000 in
set_option maxRecDepth 100000 in
theorem cn_X10_agreed (l : Launch) (dC : Nat → ClassId) (dI : Nat → Nat → Nat) (cI cJ cZ : ClassId) (q_t q_t_text q_t_reader q_t_rules q_t_people q_t_memory q_t_rows q_t_chances q_t_moves q_t_payments q_t_evenings q_t_people_numbers q_t_people_counts q_t_rows_sums q_t_rows_costs q_t_rows_weights q_t_rows_needed : Nat) (sz : Nat) (v_t_rules_law : Int32) (v_t_rules_share : Int32) (v_t_rules_pot : Int32) (v_t_rules_barred : Int32) (v_t_people_size : Int32) (f_t_rows_needed : (Nat → Int32)) (p1 : Int32) (res : Int32) (r_f_t_rows_needed : (Nat → Int32)) (h : X10_agreed v_t_rules_law v_t_rules_barred v_t_people_size f_t_rows_needed p1 = some (res, r_f_t_rows_needed)) : Met l yX10_agreed wsX10_agreed rm_X10_agreed (pcW dC dI cI cJ cZ [(q_t, .inr (10, [.ref q_t_text, .ref q_t_reader, .ref q_t_rules, .ref q_t_people, .ref q_t_memory, .ref q_t_rows, .ref q_t_chances, .ref q_t_moves, .ref q_t_payments, .ref q_t_evenings])), (q_t_rules, .inr (8, [.int v_t_rules_law, .int v_t_rules_share, .int v_t_rules_pot, .int v_t_rules_barred])), (q_t_people, .inr (5, [.ref q_t_people_numbers, .ref q_t_people_counts, .int v_t_people_size])), (q_t_rows, .inr (7, [.ref q_t_rows_sums, .ref q_t_rows_costs, .ref q_t_rows_weights, .ref q_t_rows_needed])), (q_t_rows_needed, .inl (cI, 10, .inl f_t_rows_needed))] sz [.ref q_t, .int p1]) (va_Qi (fun (r : Int32) (_ : Unit) => r = res) (bW dC dI (va_A [(q_t, .inr (10, [.ref q_t_text, .ref q_t_reader, .ref q_t_rules, .ref q_t_people, .ref q_t_memory, .ref q_t_rows, .ref q_t_chances, .ref q_t_moves, .ref q_t_payments, .ref q_t_evenings])), (q_t_rules, .inr (8, [.int v_t_rules_law, .int v_t_rules_share, .int v_t_rules_pot, .int v_t_rules_barred])), (q_t_people, .inr (5, [.ref q_t_people_numbers, .ref q_t_people_counts, .int v_t_people_size])), (q_t_rows, .inr (7, [.ref q_t_rows_sums, .ref q_t_rows_costs, .ref q_t_rows_weights, .ref q_t_rows_needed])), (q_t_rows_needed, .inl (cI, 10, .inl f_t_rows_needed))] sz) [(q_t, .inr (10, [.ref q_t_text, .ref q_t_reader, .ref q_t_rules, .ref q_t_people, .ref q_t_memory, .ref q_t_rows, .ref q_t_chances, .ref q_t_moves, .ref q_t_payments, .ref q_t_evenings])), (q_t_rules, .inr (8, [.int v_t_rules_law, .int v_t_rules_share, .int v_t_rules_pot, .int v_t_rules_barred])), (q_t_people, .inr (5, [.ref q_t_people_numbers, .ref q_t_people_counts, .int v_t_people_size])), (q_t_rows, .inr (7, [.ref q_t_rows_sums, .ref q_t_rows_costs, .ref q_t_rows_weights, .ref q_t_rows_needed])), (q_t_rows_needed, .inl (cI, 10, .inl r_f_t_rows_needed))]) (va_A [(q_t, .inr (10, [.ref q_t_text, .ref q_t_reader, .ref q_t_rules, .ref q_t_people, .ref q_t_memory, .ref q_t_rows, .ref q_t_chances, .ref q_t_moves, .ref q_t_payments, .ref q_t_evenings])), (q_t_rules, .inr (8, [.int v_t_rules_law, .int v_t_rules_share, .int v_t_rules_pot, .int v_t_rules_barred])), (q_t_people, .inr (5, [.ref q_t_people_numbers, .ref q_t_people_counts, .int v_t_people_size])), (q_t_rows, .inr (7, [.ref q_t_rows_sums, .ref q_t_rows_costs, .ref q_t_rows_weights, .ref q_t_rows_needed])), (q_t_rows_needed, .inl (cI, 10, .inl f_t_rows_needed))] sz)) 0 0 (va_A [(q_t, .inr (10, [.ref q_t_text, .ref q_t_reader, .ref q_t_rules, .ref q_t_people, .ref q_t_memory, .ref q_t_rows, .ref q_t_chances, .ref q_t_moves, .ref q_t_payments, .ref q_t_evenings])), (q_t_rules, .inr (8, [.int v_t_rules_law, .int v_t_rules_share, .int v_t_rules_pot, .int v_t_rules_barred])), (q_t_people, .inr (5, [.ref q_t_people_numbers, .ref q_t_people_counts, .int v_t_people_size])), (q_t_rows, .inr (7, [.ref q_t_rows_sums, .ref q_t_rows_costs, .ref q_t_rows_weights, .ref q_t_rows_needed])), (q_t_rows_needed, .inl (cI, 10, .inl f_t_rows_needed))] sz) := by
  refine Met.ofW (cc := cX10_agreed) (maxL := 2) (ret := (some .int)) (by decide) rfl ?_
  intro p e s m args below meth c s₁ B hml hv
  obtain ⟨rfl, hsz, hP, hKK, hD0⟩ := hv
  have hx := B.exec
  have hb := B.bytes
  have hr := B.returns
  have hts := atoms_spec (ws := wsX10_agreed) B.pre
  have hown : s.vm.findClass RX10 = some m.cls := findClass_of_methodNamed B.named
  have hlocks := B.notSynchronized
  have hK := hKK.1
  subst hsz
  have hD := hD0.self (sz := s.heap.size)
  generalize hAe : va_A [(q_t, .inr (10, [.ref q_t_text, .ref q_t_reader, .ref q_t_rules, .ref q_t_people, .ref q_t_memory, .ref q_t_rows, .ref q_t_chances, .ref q_t_moves, .ref q_t_payments, .ref q_t_evenings])), (q_t_rules, .inr (8, [.int v_t_rules_law, .int v_t_rules_share, .int v_t_rules_pot, .int v_t_rules_barred])), (q_t_people, .inr (5, [.ref q_t_people_numbers, .ref q_t_people_counts, .int v_t_people_size])), (q_t_rows, .inr (7, [.ref q_t_rows_sums, .ref q_t_rows_costs, .ref q_t_rows_weights, .ref q_t_rows_needed])), (q_t_rows_needed, .inl (cI, 10, .inl f_t_rows_needed))] s.heap.size = A at hD ⊢
  have hA : ∀ q : Nat, s.heap.size ≤ q → A q := fun q h => by rw [← hAe]; exact Or.inr h
  have hS : va_S A s.heap s.heap [] := va_S.rf
  have hl := lv_entry ([.ref q_t, .int p1]) (n := 2) (Nat.le_of_ble_eq_true rfl)
  rw [lg_entry_eq]
  generalize (lg_sl ([.ref q_t, .int p1]) ++ List.replicate (2 - (lg_sl ([.ref q_t, .int p1])).length) Slot.unset).toArray = ls at hl ⊢
  have hl : lv_has ls 2 [(0, .ref q_t), (1, .int p1)] := hl
  unfold X10_agreed at h
  obtain ⟨H, hHe⟩ : ∃ H, H = s.heap := ⟨_, rfl⟩
  obtain ⟨locs, hLe⟩ : ∃ x : List Loc, x = [] := ⟨_, rfl⟩
  rw [← hHe] at hP
  have hS : va_S A s.heap H locs := by rw [hHe, hLe]; exact hS
  suffices hW : W p l e (headSpec wsX10_agreed rm_X10_agreed).room s m ([.ref q_t, .int p1] : List Value).toArray below meth c H locs 0 0 (MQ below (va_Qi (fun (r : Int32) (_ : Unit) => r = res) (bW dC dI A [(q_t, .inr (10, [.ref q_t_text, .ref q_t_reader, .ref q_t_rules, .ref q_t_people, .ref q_t_memory, .ref q_t_rows, .ref q_t_chances, .ref q_t_moves, .ref q_t_payments, .ref q_t_evenings])), (q_t_rules, .inr (8, [.int v_t_rules_law, .int v_t_rules_share, .int v_t_rules_pot, .int v_t_rules_barred])), (q_t_people, .inr (5, [.ref q_t_people_numbers, .ref q_t_people_counts, .int v_t_people_size])), (q_t_rows, .inr (7, [.ref q_t_rows_sums, .ref q_t_rows_costs, .ref q_t_rows_weights, .ref q_t_rows_needed])), (q_t_rows_needed, .inl (cI, 10, .inl r_f_t_rows_needed))]) A) ([.ref q_t, .int p1] : List Value).toArray s 0 0 A) (F0 m 0 ls []) by rw [hHe, hLe] at hW; exact hW
  refine lv_aload_n hx hb dX10_agreed_0 rfl (lv_at hl 0 rfl) ?_
  refine va_get (D := (dC, dI)) (ci := 10) (v := .ref q_t_people) (C := RX10) (T := TX10) (N := 10) hx hb hts in_X10_agreed_X10 hown hK hP 0 rfl rfl 3 (by decide) (hts (.fieldLink RX10 33 "RightIfAsMany" "people" "LRightIfAsMany$People;") (List.mem_of_getElem? (i := 1) rfl)) (fun _ h9 => h9) rfl dX10_agreed_1 ?_
  refine lv_iload_n hx hb dX10_agreed_4 rfl (lv_at hl 1 rfl) ?_
  refine kRz (res := (X5_has v_t_people_size p1)) (va_runV (As := [.int p1]) (rest := []) ⟨hx, hb, hml, hown, hts⟩ (cn_X5_has l dC dI cI cJ cZ q_t_people q_t_people_numbers q_t_people_counts  v_t_people_size p1 (X5_has v_t_people_size p1) rfl) (cwV 1 hts gX10_agreed_X5_has rfl rfl rfl (by decide +kernel) ⟨Nat.le_of_ble_eq_true rfl, Nat.le_of_ble_eq_true rfl⟩) (preR hKK (hP.sub (ws' := [(q_t_people, .inr (5, [.ref q_t_people_numbers, .ref q_t_people_counts, .int v_t_people_size]))]) [2] rfl) (ci := 5) (q0 := 0) rfl rfl) rfl rfl hl.1 rfl (lv_room (Nat.le_of_ble_eq_true rfl)) dX10_agreed_5 ⟨Nat.zero_le _, Nat.zero_le _⟩) (fun hz1 => ?_)
  refine lv_if_eq (tgt := 33) hx hb dX10_agreed_8 (by decide) (fun c2 => ?_) (fun c2 => ?_)
  · replace h := ite_t h c2
    refine lv_iconst (v := (-1 : Int32)) hx hb dX10_agreed_33 (by decide) ?_
    replace h := Option.some.inj h
    obtain ⟨e1, e2⟩ := pr2 h
    exact W.iret (v := (-1 : Int32)) hx hb hr (fun t ht hW => ⟨⟨_, (), rfl, e1, (by rw [ht, ← e2]; exact hP), (by rw [← e2]; exact hD)⟩, hS.F ht⟩) hS.2.2 dX10_agreed_34
  replace h := ite_f h c2
  refine lv_aload_n hx hb dX10_agreed_11 rfl (lv_at hl 0 rfl) ?_
  refine va_get (D := (dC, dI)) (ci := 10) (v := .ref q_t_rows) (C := RX10) (T := TX10) (N := 10) hx hb hts in_X10_agreed_X10 hown hK hP 0 rfl rfl 5 (by decide) (hts (.fieldLink RX10 47 "RightIfAsMany" "rows" "LRightIfAsMany$Rows;") (List.mem_of_getElem? (i := 2) rfl)) (fun _ h9 => h9) rfl dX10_agreed_12 ?_
  refine lv_aload_n hx hb dX10_agreed_15 rfl (lv_at hl 0 rfl) ?_
  refine va_get (D := (dC, dI)) (ci := 10) (v := .ref q_t_rules) (C := RX10) (T := TX10) (N := 10) hx hb hts in_X10_agreed_X10 hown hK hP 0 rfl rfl 2 (by decide) (hts (.fieldLink RX10 26 "RightIfAsMany" "rules" "LRightIfAsMany$Rules;") (List.mem_of_getElem? (i := 3) rfl)) (fun _ h9 => h9) rfl dX10_agreed_16 ?_
  refine lv_iload_n hx hb dX10_agreed_19 rfl (lv_at hl 1 rfl) ?_
  refine lv_aload_n hx hb dX10_agreed_20 rfl (lv_at hl 0 rfl) ?_
  refine va_get (D := (dC, dI)) (ci := 10) (v := .ref q_t_people) (C := RX10) (T := TX10) (N := 10) hx hb hts in_X10_agreed_X10 hown hK hP 0 rfl rfl 3 (by decide) (hts (.fieldLink RX10 33 "RightIfAsMany" "people" "LRightIfAsMany$People;") (List.mem_of_getElem? (i := 1) rfl)) (fun _ h9 => h9) rfl dX10_agreed_21 ?_
  refine kRi (res := (X5_size v_t_people_size)) (va_runV (As := []) (rest := [.int p1, .ref q_t_rules, .ref q_t_rows]) ⟨hx, hb, hml, hown, hts⟩ (cn_X5_size l dC dI cI cJ cZ q_t_people q_t_people_numbers q_t_people_counts  v_t_people_size  (X5_size v_t_people_size) rfl) (cwV 0 hts gX10_agreed_X5_size rfl rfl rfl (by decide +kernel) ⟨Nat.le_of_ble_eq_true rfl, Nat.le_of_ble_eq_true rfl⟩) (preR hKK (hP.sub (ws' := [(q_t_people, .inr (5, [.ref q_t_people_numbers, .ref q_t_people_counts, .int v_t_people_size]))]) [2] rfl) (ci := 5) (q0 := 0) rfl rfl) rfl rfl hl.1 rfl (lv_room (Nat.le_of_ble_eq_true rfl)) dX10_agreed_24 ⟨Nat.zero_le _, Nat.zero_le _⟩) ?_
  obtain ⟨r3, w3_1, hc3, h⟩ := bnd2_s h
  refine kWi (res := r3) (wc := [(q_t_rows, .inr (7, [.ref q_t_rows_sums, .ref q_t_rows_costs, .ref q_t_rows_weights, .ref q_t_rows_needed])), (q_t_rows_needed, .inl (cI, 10, .inl f_t_rows_needed)), (q_t_rules, .inr (8, [.int v_t_rules_law, .int v_t_rules_share, .int v_t_rules_pot, .int v_t_rules_barred]))]) (wr := [(q_t, .inr (10, [.ref q_t_text, .ref q_t_reader, .ref q_t_rules, .ref q_t_people, .ref q_t_memory, .ref q_t_rows, .ref q_t_chances, .ref q_t_moves, .ref q_t_payments, .ref q_t_evenings])), (q_t_people, .inr (5, [.ref q_t_people_numbers, .ref q_t_people_counts, .int v_t_people_size]))]) (w1 := [(q_t_rows, .inr (7, [.ref q_t_rows_sums, .ref q_t_rows_costs, .ref q_t_rows_weights, .ref q_t_rows_needed])), (q_t_rows_needed, .inl (cI, 10, .inl w3_1)), (q_t_rules, .inr (8, [.int v_t_rules_law, .int v_t_rules_share, .int v_t_rules_pot, .int v_t_rules_barred]))]) (wn := [(q_t, .inr (10, [.ref q_t_text, .ref q_t_reader, .ref q_t_rules, .ref q_t_people, .ref q_t_memory, .ref q_t_rows, .ref q_t_chances, .ref q_t_moves, .ref q_t_payments, .ref q_t_evenings])), (q_t_rules, .inr (8, [.int v_t_rules_law, .int v_t_rules_share, .int v_t_rules_pot, .int v_t_rules_barred])), (q_t_people, .inr (5, [.ref q_t_people_numbers, .ref q_t_people_counts, .int v_t_people_size])), (q_t_rows, .inr (7, [.ref q_t_rows_sums, .ref q_t_rows_costs, .ref q_t_rows_weights, .ref q_t_rows_needed])), (q_t_rows_needed, .inl (cI, 10, .inl w3_1))]) hP hD hS hA [3, 4, 1] [0, 2] [0, 4, 1, 2, 3] rfl rfl (by decide) (by decide) rfl (by decide) (va_runV (As := [.ref q_t_rules, .int p1, .int (X5_size v_t_people_size)]) (rest := []) ⟨hx, hb, hml, hown, hts⟩ (cn_X7_firstAllRight l dC dI cI cJ cZ q_t_rows q_t_rules q_t_rows_sums q_t_rows_costs q_t_rows_weights q_t_rows_needed H.size f_t_rows_needed v_t_rules_law v_t_rules_share v_t_rules_pot v_t_rules_barred p1 (X5_size v_t_people_size) r3 w3_1 hc3) (cwV 3 hts gX10_agreed_X7_firstAllRight rfl rfl rfl (by decide +kernel) ⟨Nat.le_of_ble_eq_true rfl, Nat.le_of_ble_eq_true rfl⟩) (preW hKK (hP.sub (ws' := [(q_t_rows, .inr (7, [.ref q_t_rows_sums, .ref q_t_rows_costs, .ref q_t_rows_weights, .ref q_t_rows_needed])), (q_t_rows_needed, .inl (cI, 10, .inl f_t_rows_needed)), (q_t_rules, .inr (8, [.int v_t_rules_law, .int v_t_rules_share, .int v_t_rules_pot, .int v_t_rules_barred]))]) [3, 4, 1] rfl) (hD.sub (ws' := [(q_t_rows, .inr (7, [.ref q_t_rows_sums, .ref q_t_rows_costs, .ref q_t_rows_weights, .ref q_t_rows_needed])), (q_t_rows_needed, .inl (cI, 10, .inl f_t_rows_needed)), (q_t_rules, .inr (8, [.int v_t_rules_law, .int v_t_rules_share, .int v_t_rules_pot, .int v_t_rules_barred]))]) [3, 4, 1] (by decide) rfl) (ci := 7) (q0 := 0) rfl rfl) rfl rfl hl.1 rfl (lv_room (Nat.le_of_ble_eq_true rfl)) dX10_agreed_27 ⟨Nat.zero_le _, Nat.zero_le _⟩) (fun H locs hP hD hS => ?_)
  refine lv_goto (tgt := 34) hx hb dX10_agreed_30 (by decide) ?_
  replace h := Option.some.inj h
  obtain ⟨e1, e2⟩ := pr2 h
  exact W.iret (v := r3) hx hb hr (fun t ht hW => ⟨⟨_, (), rfl, e1, (by rw [ht, ← e2]; exact hP), (by rw [← e2]; exact hD)⟩, hS.F ht⟩) hS.2.2 dX10_agreed_34
abbrev rm_X7_leastAnew : Room := { frames := 1, cells := 0, slots := 0, locals := 30 }
theorem in_X7_leastAnew_X8 : ∀ w ∈ wsX80, w ∈ wsX7_leastAnew := fun _ h => List.mem_cons_of_mem _ (List.mem_append_right _ h)
theorem in_X7_leastAnew_X7 : ∀ w ∈ wsX70, w ∈ wsX7_leastAnew := fun _ h => List.mem_cons_of_mem _ (List.mem_append_left _ (List.mem_append_right _ h))
set_option maxHeartbeats 4000000 in
set_option maxRecDepth 100000 in
theorem cn_X7_leastAnew (l : Launch) (dC : Nat → ClassId) (dI : Nat → Nat → Nat) (cI cJ cZ : ClassId) (q_t q_p1 q_t_sums q_t_costs q_t_weights q_t_needed : Nat) (f_t_costs : (Nat → Int32)) (v_p1_law : Int32) (v_p1_share : Int32) (v_p1_pot : Int32) (v_p1_barred : Int32) (p2 : Int32) (p3 : Int32) (p4 : Int32) (res : Int32) (h : X7_leastAnew f_t_costs v_p1_law p2 p3 p4 = some res) : Met l yX7_leastAnew wsX7_leastAnew rm_X7_leastAnew (pcR dC dI cI cJ cZ [(q_t, .inr (7, [.ref q_t_sums, .ref q_t_costs, .ref q_t_weights, .ref q_t_needed])), (q_t_costs, .inl (cI, 10, .inl f_t_costs)), (q_p1, .inr (8, [.int v_p1_law, .int v_p1_share, .int v_p1_pot, .int v_p1_barred]))] [.ref q_t, .ref q_p1, .int p2, .int p3, .int p4]) (vp_Si (fun r => r = res)) 0 0 (fun _ => False) := by
  refine Met.ofW (cc := cX7_leastAnew) (maxL := 7) (ret := (some .int)) (by decide) rfl ?_
  intro p e s m args below meth c s₁ B hml hv
  obtain ⟨rfl, hP, hKK⟩ := hv
  have hx := B.exec
  have hb := B.bytes
  have hr := B.returns
  have hts := atoms_spec (ws := wsX7_leastAnew) B.pre
  have hown : s.vm.findClass RX7 = some m.cls := findClass_of_methodNamed B.named
  have hlocks := B.notSynchronized
  have hK := hKK.1
  have hl := lv_entry ([.ref q_t, .ref q_p1, .int p2, .int p3, .int p4]) (n := 7) (Nat.le_of_ble_eq_true rfl)
  rw [lg_entry_eq]
  generalize (lg_sl ([.ref q_t, .ref q_p1, .int p2, .int p3, .int p4]) ++ List.replicate (7 - (lg_sl ([.ref q_t, .ref q_p1, .int p2, .int p3, .int p4])).length) Slot.unset).toArray = ls at hl ⊢
  have hl : lv_has ls 7 [(0, .ref q_t), (1, .ref q_p1), (2, .int p2), (3, .int p3), (4, .int p4)] := hl
  have L_14 : ∀ (n14 : Nat) , ∀  (x2 : Int32) (x3 : Int32) (x4 : Int32) (x5 : Int32) (x6 : Int32), X7_leastAnew_b14 n14 f_t_costs v_p1_law x2 x3 x4 x5 x6 = some res → ∀ (ls : Array Slot), lv_has ls 7 [(0, .ref q_t), (1, .ref q_p1), (2, .int x2), (3, .int x3), (4, .int x4), (5, .int x5), (6, .int x6)] → W p l e (headSpec wsX7_leastAnew rm_X7_leastAnew).room s m ([.ref q_t, .ref q_p1, .int p2, .int p3, .int p4] : List Value).toArray below meth c s.heap [] 0 0 (MQ below (vp_Si (fun r => r = res)) ([.ref q_t, .ref q_p1, .int p2, .int p3, .int p4] : List Value).toArray s 0 0 (fun _ => False)) (F0 m 14 ls []) := by
    intro n14
    induction n14 with
    | zero => intro x2 x3 x4 x5 x6 h ls hl; exact absurd h (fun h => by cases h)
    | succ n14 ih_14 =>
      have B_57 : ∀  (x2 : Int32) (x3 : Int32) (x4 : Int32) (x5 : Int32) (x6 : Int32), X7_leastAnew_b57 (X7_leastAnew_b14 n14) f_t_costs v_p1_law x2 x3 x4 x5 x6 = some res → ∀ (ls : Array Slot), lv_has ls 7 [(0, .ref q_t), (1, .ref q_p1), (2, .int x2), (3, .int x3), (4, .int x4), (5, .int x5), (6, .int x6)] → W p l e (headSpec wsX7_leastAnew rm_X7_leastAnew).room s m ([.ref q_t, .ref q_p1, .int p2, .int p3, .int p4] : List Value).toArray below meth c s.heap [] 0 0 (MQ below (vp_Si (fun r => r = res)) ([.ref q_t, .ref q_p1, .int p2, .int p3, .int p4] : List Value).toArray s 0 0 (fun _ => False)) (F0 m 57 ls []) := by
        intro x2 x3 x4 x5 x6 h ls hl
        unfold X7_leastAnew_b57 at h
        refine lv_iinc (v := (x6 + (1 : Int32))) (lv' := [(6, .int (x6 + (1 : Int32))), (0, .ref q_t), (1, .ref q_p1), (2, .int x2), (3, .int x3), (4, .int x4), (5, .int x5)]) hx hb dX7_leastAnew_57 hl (k := 6) rfl rfl (by decide) rfl (fun ls hl => ?_)
        refine lv_goto (tgt := 14) hx hb dX7_leastAnew_60 (by decide) ?_
        exact ih_14 x2 x3 x4 x5 (x6 + (1 : Int32)) h ls (lv_sub hl [1, 2, 3, 4, 5, 6, 0] rfl)
      intro x2 x3 x4 x5 x6 h ls hl
      replace h : X7_leastAnew_b14_s (X7_leastAnew_b14 n14) f_t_costs v_p1_law x2 x3 x4 x5 x6 = some res := h
      unfold X7_leastAnew_b14_s at h
      refine lv_iload hx hb dX7_leastAnew_14 (lv_at hl 6 rfl) ?_
      refine lv_iload hx hb dX7_leastAnew_16 (lv_at hl 4 rfl) ?_
      refine lv_icmp_gt (tgt := 63) hx hb dX7_leastAnew_18 (by decide) (fun c1 => ?_) (fun c1 => ?_)
      · replace h := ite_t h c1
        refine lv_iload hx hb dX7_leastAnew_63 (lv_at hl 5 rfl) ?_
        have e1 := Option.some.inj h
        exact W.iret (v := x5) hx hb hr (fun t ht hW => ⟨_, rfl, e1, ht⟩) (fun q hq => by cases hq) dX7_leastAnew_65
      replace h := ite_f h c1
      refine lv_aload_n hx hb dX7_leastAnew_21 rfl (lv_at hl 1 rfl) ?_
      refine lv_iload_n hx hb dX7_leastAnew_22 rfl (lv_at hl 2 rfl) ?_
      refine lv_iload hx hb dX7_leastAnew_23 (lv_at hl 6 rfl) ?_
      refine kRz (res := (X8_suits v_p1_law x2 x6)) (va_runV (As := [.int x2, .int x6]) (rest := []) ⟨hx, hb, hml, hown, hts⟩ (cn_X8_suits l dC dI cI cJ cZ q_p1  v_p1_law v_p1_share v_p1_pot v_p1_barred x2 x6 (X8_suits v_p1_law x2 x6) rfl) (cwV 2 hts gX7_leastAnew_X8_suits rfl rfl rfl (by decide +kernel) ⟨Nat.le_of_ble_eq_true rfl, Nat.le_of_ble_eq_true rfl⟩) (preR hKK (hP.sub (ws' := [(q_p1, .inr (8, [.int v_p1_law, .int v_p1_share, .int v_p1_pot, .int v_p1_barred]))]) [2] rfl) (ci := 8) (q0 := 0) rfl rfl) rfl rfl hl.1 rfl (lv_room (Nat.le_of_ble_eq_true rfl)) dX7_leastAnew_25 ⟨Nat.zero_le _, Nat.zero_le _⟩) (fun hz2 => ?_)
      refine lv_if_eq (tgt := 57) hx hb dX7_leastAnew_28 (by decide) (fun c3 => ?_) (fun c3 => ?_)
      · replace h := ite_t h c3
        exact B_57 x2 x3 x4 x5 x6 h ls (lv_sub hl [0, 1, 2, 3, 4, 5, 6] rfl)
      replace h := ite_f h c3
      refine lv_iload hx hb dX7_leastAnew_31 (lv_at hl 5 rfl) ?_
      refine lv_aload_n hx hb dX7_leastAnew_33 rfl (lv_at hl 0 rfl) ?_
      refine va_get (D := (dC, dI)) (ci := 7) (v := .ref q_t_costs) (C := RX7) (T := TX7) (N := 4) hx hb hts in_X7_leastAnew_X7 hown hK hP 0 rfl rfl 1 (by decide) (hts (.fieldLink RX7 15 "RightIfAsMany$Rows" "costs" "[I") (List.mem_of_getElem? (i := 1) rfl)) (fun _ h9 => h9) rfl dX7_leastAnew_34 ?_
      refine lv_iload hx hb dX7_leastAnew_37 (lv_at hl 4 rfl) ?_
      refine lv_iload hx hb dX7_leastAnew_39 (lv_at hl 6 rfl) ?_
      refine lv_isub hx hb dX7_leastAnew_41 ?_
      obtain ⟨hg4, h⟩ := grd_s h
      refine va_iald hx hb hK hP 1 0 rfl rfl hg4 dX7_leastAnew_42 ?_
      refine lv_iconst (v := (0 : Int32)) hx hb dX7_leastAnew_43 (by decide) ?_
      refine lv_iload_n hx hb dX7_leastAnew_44 rfl (lv_at hl 3 rfl) ?_
      refine lv_iload hx hb dX7_leastAnew_45 (lv_at hl 6 rfl) ?_
      refine lv_isub hx hb dX7_leastAnew_47 ?_
      refine va_mmax hx hb (hml.trans hl.1.symm) hown (hts (.methodLink RX7 69 Lib.Math.max.name) (List.mem_of_getElem? (i := 2) rfl)) (hts (.static Lib.Math.max.name) (List.mem_of_getElem? (i := 3) rfl)) (hts (.initialized "java/lang/Math") (List.mem_of_getElem? (i := 4) rfl)) (hts (.code Lib.Math.max.name Lib.Math.max.code 2 (some .int)) (List.mem_of_getElem? (i := 5) rfl)) (Nat.le_of_ble_eq_true rfl) (Nat.le_of_ble_eq_true rfl) (Nat.zero_le _) (Nat.zero_le _) dX7_leastAnew_48 ?_
      refine lv_iadd hx hb dX7_leastAnew_51 ?_
      refine va_mmin hx hb (hml.trans hl.1.symm) hown (hts (.methodLink RX7 59 Lib.Math.min.name) (List.mem_of_getElem? (i := 6) rfl)) (hts (.static Lib.Math.min.name) (List.mem_of_getElem? (i := 7) rfl)) (hts (.initialized "java/lang/Math") (List.mem_of_getElem? (i := 4) rfl)) (hts (.code Lib.Math.min.name Lib.Math.min.code 2 (some .int)) (List.mem_of_getElem? (i := 8) rfl)) (Nat.le_of_ble_eq_true rfl) (Nat.le_of_ble_eq_true rfl) (Nat.zero_le _) (Nat.zero_le _) dX7_leastAnew_52 ?_
      refine lv_istore (lv' := [(5, .int (if ((f_t_costs (x4 - x6).toNatClampNeg) + (if (0 : Int32) < (x3 - x6) then (x3 - x6) else (0 : Int32))) < x5 then ((f_t_costs (x4 - x6).toNatClampNeg) + (if (0 : Int32) < (x3 - x6) then (x3 - x6) else (0 : Int32))) else x5)), (0, .ref q_t), (1, .ref q_p1), (2, .int x2), (3, .int x3), (4, .int x4), (6, .int x6)]) hx hb dX7_leastAnew_55 hl (by decide) rfl (fun ls hl => ?_)
      exact B_57 x2 x3 x4 (if ((f_t_costs (x4 - x6).toNatClampNeg) + (if (0 : Int32) < (x3 - x6) then (x3 - x6) else (0 : Int32))) < x5 then ((f_t_costs (x4 - x6).toNatClampNeg) + (if (0 : Int32) < (x3 - x6) then (x3 - x6) else (0 : Int32))) else x5) x6 h ls (lv_sub hl [1, 2, 3, 4, 5, 0, 6] rfl)
  unfold X7_leastAnew at h
  refine lv_aload_n hx hb dX7_leastAnew_0 rfl (lv_at hl 0 rfl) ?_
  refine va_get (D := (dC, dI)) (ci := 7) (v := .ref q_t_costs) (C := RX7) (T := TX7) (N := 4) hx hb hts in_X7_leastAnew_X7 hown hK hP 0 rfl rfl 1 (by decide) (hts (.fieldLink RX7 15 "RightIfAsMany$Rows" "costs" "[I") (List.mem_of_getElem? (i := 1) rfl)) (fun _ h9 => h9) rfl dX7_leastAnew_1 ?_
  refine lv_iload hx hb dX7_leastAnew_4 (lv_at hl 4 rfl) ?_
  obtain ⟨hg5, h⟩ := grd_s h
  refine va_iald hx hb hK hP 1 0 rfl rfl hg5 dX7_leastAnew_6 ?_
  refine lv_iload_n hx hb dX7_leastAnew_7 rfl (lv_at hl 3 rfl) ?_
  refine lv_iadd hx hb dX7_leastAnew_8 ?_
  refine lv_istore (lv' := [(5, .int ((f_t_costs p4.toNatClampNeg) + p3)), (0, .ref q_t), (1, .ref q_p1), (2, .int p2), (3, .int p3), (4, .int p4)]) hx hb dX7_leastAnew_9 hl (by decide) rfl (fun ls hl => ?_)
  refine lv_iconst (v := (1 : Int32)) hx hb dX7_leastAnew_11 (by decide) ?_
  refine lv_istore (lv' := [(6, .int (1 : Int32)), (5, .int ((f_t_costs p4.toNatClampNeg) + p3)), (0, .ref q_t), (1, .ref q_p1), (2, .int p2), (3, .int p3), (4, .int p4)]) hx hb dX7_leastAnew_12 hl (by decide) rfl (fun ls hl => ?_)
  exact L_14 fU p2 p3 p4 ((f_t_costs p4.toNatClampNeg) + p3) (1 : Int32) h ls (lv_sub hl [2, 3, 4, 5, 6, 1, 0] rfl)
abbrev rm_X7_fewestAnew : Room := { frames := 2, cells := 0, slots := 0, locals := 56 }
theorem in_X7_fewestAnew_X8 : ∀ w ∈ wsX80, w ∈ wsX7_fewestAnew := fun _ h => List.mem_cons_of_mem _ (List.mem_append_right _ h)
theorem in_X7_fewestAnew_X7 : ∀ w ∈ wsX70, w ∈ wsX7_fewestAnew := fun _ h => List.mem_cons_of_mem _ (List.mem_append_left _ (List.mem_append_right _ h))
set_option maxHeartbeats 4000000 in
set_option maxRecDepth 100000 in
theorem cn_X7_fewestAnew (l : Launch) (dC : Nat → ClassId) (dI : Nat → Nat → Nat) (cI cJ cZ : ClassId) (q_t q_p1 q_p2 q_t_sums q_t_costs q_t_weights q_t_needed : Nat) (sz : Nat) (f_t_costs : (Nat → Int32)) (v_p1_law : Int32) (v_p1_share : Int32) (v_p1_pot : Int32) (v_p1_barred : Int32) (f_p2 : (Nat → Int32)) (p3 : Int32) (res : Int32) (r_f_t_costs : (Nat → Int32)) (h : X7_fewestAnew f_t_costs v_p1_law v_p1_barred f_p2 p3 = some (res, r_f_t_costs)) : Met l yX7_fewestAnew wsX7_fewestAnew rm_X7_fewestAnew (pcW dC dI cI cJ cZ [(q_t, .inr (7, [.ref q_t_sums, .ref q_t_costs, .ref q_t_weights, .ref q_t_needed])), (q_t_costs, .inl (cI, 10, .inl f_t_costs)), (q_p1, .inr (8, [.int v_p1_law, .int v_p1_share, .int v_p1_pot, .int v_p1_barred])), (q_p2, .inl (cI, 10, .inl f_p2))] sz [.ref q_t, .ref q_p1, .ref q_p2, .int p3]) (va_Qi (fun (r : Int32) (_ : Unit) => r = res) (bW dC dI (va_A [(q_t, .inr (7, [.ref q_t_sums, .ref q_t_costs, .ref q_t_weights, .ref q_t_needed])), (q_t_costs, .inl (cI, 10, .inl f_t_costs)), (q_p1, .inr (8, [.int v_p1_law, .int v_p1_share, .int v_p1_pot, .int v_p1_barred])), (q_p2, .inl (cI, 10, .inl f_p2))] sz) [(q_t, .inr (7, [.ref q_t_sums, .ref q_t_costs, .ref q_t_weights, .ref q_t_needed])), (q_t_costs, .inl (cI, 10, .inl r_f_t_costs)), (q_p1, .inr (8, [.int v_p1_law, .int v_p1_share, .int v_p1_pot, .int v_p1_barred])), (q_p2, .inl (cI, 10, .inl f_p2))]) (va_A [(q_t, .inr (7, [.ref q_t_sums, .ref q_t_costs, .ref q_t_weights, .ref q_t_needed])), (q_t_costs, .inl (cI, 10, .inl f_t_costs)), (q_p1, .inr (8, [.int v_p1_law, .int v_p1_share, .int v_p1_pot, .int v_p1_barred])), (q_p2, .inl (cI, 10, .inl f_p2))] sz)) 0 0 (va_A [(q_t, .inr (7, [.ref q_t_sums, .ref q_t_costs, .ref q_t_weights, .ref q_t_needed])), (q_t_costs, .inl (cI, 10, .inl f_t_costs)), (q_p1, .inr (8, [.int v_p1_law, .int v_p1_share, .int v_p1_pot, .int v_p1_barred])), (q_p2, .inl (cI, 10, .inl f_p2))] sz) := by
  refine Met.ofW (cc := cX7_fewestAnew) (maxL := 6) (ret := (some .int)) (by decide) rfl ?_
  intro p e s m args below meth c s₁ B hml hv
  obtain ⟨rfl, hsz, hP, hKK, hD0⟩ := hv
  have hx := B.exec
  have hb := B.bytes
  have hr := B.returns
  have hts := atoms_spec (ws := wsX7_fewestAnew) B.pre
  have hown : s.vm.findClass RX7 = some m.cls := findClass_of_methodNamed B.named
  have hlocks := B.notSynchronized
  have hK := hKK.1
  subst hsz
  have hD := hD0.self (sz := s.heap.size)
  generalize hAe : va_A [(q_t, .inr (7, [.ref q_t_sums, .ref q_t_costs, .ref q_t_weights, .ref q_t_needed])), (q_t_costs, .inl (cI, 10, .inl f_t_costs)), (q_p1, .inr (8, [.int v_p1_law, .int v_p1_share, .int v_p1_pot, .int v_p1_barred])), (q_p2, .inl (cI, 10, .inl f_p2))] s.heap.size = A at hD ⊢
  have hA : ∀ q : Nat, s.heap.size ≤ q → A q := fun q h => by rw [← hAe]; exact Or.inr h
  have hS : va_S A s.heap s.heap [] := va_S.rf
  have hl := lv_entry ([.ref q_t, .ref q_p1, .ref q_p2, .int p3]) (n := 6) (Nat.le_of_ble_eq_true rfl)
  rw [lg_entry_eq]
  generalize (lg_sl ([.ref q_t, .ref q_p1, .ref q_p2, .int p3]) ++ List.replicate (6 - (lg_sl ([.ref q_t, .ref q_p1, .ref q_p2, .int p3])).length) Slot.unset).toArray = ls at hl ⊢
  have hl : lv_has ls 6 [(0, .ref q_t), (1, .ref q_p1), (2, .ref q_p2), (3, .int p3)] := hl
  have B_85 : ∀ (f_t_costs : (Nat → Int32)) (x3 : Int32), X7_fewestAnew_b85 f_t_costs v_p1_law v_p1_barred f_p2 x3 = some (res, r_f_t_costs) → ∀ (H : Heap) (locs : List Loc) (ls : Array Slot), va_P (dC, dI) vwCl [(q_t, .inr (7, [.ref q_t_sums, .ref q_t_costs, .ref q_t_weights, .ref q_t_needed])), (q_t_costs, .inl (cI, 10, .inl f_t_costs)), (q_p1, .inr (8, [.int v_p1_law, .int v_p1_share, .int v_p1_pot, .int v_p1_barred])), (q_p2, .inl (cI, 10, .inl f_p2))] H → va_D A [(q_t, .inr (7, [.ref q_t_sums, .ref q_t_costs, .ref q_t_weights, .ref q_t_needed])), (q_t_costs, .inl (cI, 10, .inl f_t_costs)), (q_p1, .inr (8, [.int v_p1_law, .int v_p1_share, .int v_p1_pot, .int v_p1_barred])), (q_p2, .inl (cI, 10, .inl f_p2))] → va_S A s.heap H locs → lv_has ls 6 [(0, .ref q_t), (3, .int x3)] → W p l e (headSpec wsX7_fewestAnew rm_X7_fewestAnew).room s m ([.ref q_t, .ref q_p1, .ref q_p2, .int p3] : List Value).toArray below meth c H locs 0 0 (MQ below (va_Qi (fun (r : Int32) (_ : Unit) => r = res) (bW dC dI A [(q_t, .inr (7, [.ref q_t_sums, .ref q_t_costs, .ref q_t_weights, .ref q_t_needed])), (q_t_costs, .inl (cI, 10, .inl r_f_t_costs)), (q_p1, .inr (8, [.int v_p1_law, .int v_p1_share, .int v_p1_pot, .int v_p1_barred])), (q_p2, .inl (cI, 10, .inl f_p2))]) A) ([.ref q_t, .ref q_p1, .ref q_p2, .int p3] : List Value).toArray s 0 0 A) (F0 m 85 ls []) := by
    intro f_t_costs x3 h H locs ls hP hD hS hl
    unfold X7_fewestAnew_b85 at h
    refine lv_aload_n hx hb dX7_fewestAnew_85 rfl (lv_at hl 0 rfl) ?_
    refine va_get (D := (dC, dI)) (ci := 7) (v := .ref q_t_costs) (C := RX7) (T := TX7) (N := 4) hx hb hts in_X7_fewestAnew_X7 hown hK hP 0 rfl rfl 1 (by decide) (hts (.fieldLink RX7 15 "RightIfAsMany$Rows" "costs" "[I") (List.mem_of_getElem? (i := 1) rfl)) (fun _ h9 => h9) rfl dX7_fewestAnew_86 ?_
    refine lv_iload_n hx hb dX7_fewestAnew_89 rfl (lv_at hl 1 rfl) ?_
    refine lv_iconst (v := (1 : Int32)) hx hb dX7_fewestAnew_90 (by decide) ?_
    refine lv_iadd hx hb dX7_fewestAnew_91 ?_
    obtain ⟨hg5, h⟩ := grd_s h
    refine va_iald hx hb hK hP 1 0 rfl rfl hg5 dX7_fewestAnew_92 ?_
    refine lv_sipush (v := (1000 : Int32)) hx hb dX7_fewestAnew_93 (by decide) ?_
    refine lv_icmp_ge (tgt := 110) hx hb dX7_fewestAnew_96 (by decide) (fun c6 => ?_) (fun c6 => ?_)
    · replace h := ite_t h c6
      refine lv_bipush (v := (-9 : Int32)) hx hb dX7_fewestAnew_110 (by decide) ?_
      replace h := Option.some.inj h
      obtain ⟨e1, e2⟩ := pr2 h
      exact W.iret (v := (-9 : Int32)) hx hb hr (fun t ht hW => ⟨⟨_, (), rfl, e1, (by rw [ht, ← e2]; exact hP), (by rw [← e2]; exact hD)⟩, hS.F ht⟩) hS.2.2 dX7_fewestAnew_112
    replace h := ite_f h c6
    refine lv_aload_n hx hb dX7_fewestAnew_99 rfl (lv_at hl 0 rfl) ?_
    refine va_get (D := (dC, dI)) (ci := 7) (v := .ref q_t_costs) (C := RX7) (T := TX7) (N := 4) hx hb hts in_X7_fewestAnew_X7 hown hK hP 0 rfl rfl 1 (by decide) (hts (.fieldLink RX7 15 "RightIfAsMany$Rows" "costs" "[I") (List.mem_of_getElem? (i := 1) rfl)) (fun _ h9 => h9) rfl dX7_fewestAnew_100 ?_
    refine lv_iload_n hx hb dX7_fewestAnew_103 rfl (lv_at hl 1 rfl) ?_
    refine lv_iconst (v := (1 : Int32)) hx hb dX7_fewestAnew_104 (by decide) ?_
    refine lv_iadd hx hb dX7_fewestAnew_105 ?_
    obtain ⟨hg7, h⟩ := grd_s h
    refine va_iald hx hb hK hP 1 0 rfl rfl hg7 dX7_fewestAnew_106 ?_
    refine lv_goto (tgt := 112) hx hb dX7_fewestAnew_107 (by decide) ?_
    replace h := Option.some.inj h
    obtain ⟨e1, e2⟩ := pr2 h
    exact W.iret (v := (f_t_costs (x3 + (1 : Int32)).toNatClampNeg)) hx hb hr (fun t ht hW => ⟨⟨_, (), rfl, e1, (by rw [ht, ← e2]; exact hP), (by rw [← e2]; exact hD)⟩, hS.F ht⟩) hS.2.2 dX7_fewestAnew_112
  have L_20 : ∀ (n20 : Nat) , ∀ (f_t_costs : (Nat → Int32)) (x3 : Int32) (x4 : Int32), X7_fewestAnew_b20 n20 f_t_costs v_p1_law v_p1_barred f_p2 x3 x4 = some (res, r_f_t_costs) → ∀ (H : Heap) (locs : List Loc) (ls : Array Slot), va_P (dC, dI) vwCl [(q_t, .inr (7, [.ref q_t_sums, .ref q_t_costs, .ref q_t_weights, .ref q_t_needed])), (q_t_costs, .inl (cI, 10, .inl f_t_costs)), (q_p1, .inr (8, [.int v_p1_law, .int v_p1_share, .int v_p1_pot, .int v_p1_barred])), (q_p2, .inl (cI, 10, .inl f_p2))] H → va_D A [(q_t, .inr (7, [.ref q_t_sums, .ref q_t_costs, .ref q_t_weights, .ref q_t_needed])), (q_t_costs, .inl (cI, 10, .inl f_t_costs)), (q_p1, .inr (8, [.int v_p1_law, .int v_p1_share, .int v_p1_pot, .int v_p1_barred])), (q_p2, .inl (cI, 10, .inl f_p2))] → va_S A s.heap H locs → lv_has ls 6 [(0, .ref q_t), (1, .ref q_p1), (2, .ref q_p2), (3, .int x3), (4, .int x4)] → W p l e (headSpec wsX7_fewestAnew rm_X7_fewestAnew).room s m ([.ref q_t, .ref q_p1, .ref q_p2, .int p3] : List Value).toArray below meth c H locs 0 0 (MQ below (va_Qi (fun (r : Int32) (_ : Unit) => r = res) (bW dC dI A [(q_t, .inr (7, [.ref q_t_sums, .ref q_t_costs, .ref q_t_weights, .ref q_t_needed])), (q_t_costs, .inl (cI, 10, .inl r_f_t_costs)), (q_p1, .inr (8, [.int v_p1_law, .int v_p1_share, .int v_p1_pot, .int v_p1_barred])), (q_p2, .inl (cI, 10, .inl f_p2))]) A) ([.ref q_t, .ref q_p1, .ref q_p2, .int p3] : List Value).toArray s 0 0 A) (F0 m 20 ls []) := by
    intro n20
    induction n20 with
    | zero => intro f_t_costs x3 x4 h H locs ls hP hD hS hl; exact absurd h (fun h => by cases h)
    | succ n20 ih_20 =>
      have B_79 : ∀ (f_t_costs : (Nat → Int32)) (x3 : Int32) (x4 : Int32), X7_fewestAnew_b79 (X7_fewestAnew_b20 n20) f_t_costs v_p1_law v_p1_barred f_p2 x3 x4 = some (res, r_f_t_costs) → ∀ (H : Heap) (locs : List Loc) (ls : Array Slot), va_P (dC, dI) vwCl [(q_t, .inr (7, [.ref q_t_sums, .ref q_t_costs, .ref q_t_weights, .ref q_t_needed])), (q_t_costs, .inl (cI, 10, .inl f_t_costs)), (q_p1, .inr (8, [.int v_p1_law, .int v_p1_share, .int v_p1_pot, .int v_p1_barred])), (q_p2, .inl (cI, 10, .inl f_p2))] H → va_D A [(q_t, .inr (7, [.ref q_t_sums, .ref q_t_costs, .ref q_t_weights, .ref q_t_needed])), (q_t_costs, .inl (cI, 10, .inl f_t_costs)), (q_p1, .inr (8, [.int v_p1_law, .int v_p1_share, .int v_p1_pot, .int v_p1_barred])), (q_p2, .inl (cI, 10, .inl f_p2))] → va_S A s.heap H locs → lv_has ls 6 [(0, .ref q_t), (1, .ref q_p1), (2, .ref q_p2), (3, .int x3), (4, .int x4)] → W p l e (headSpec wsX7_fewestAnew rm_X7_fewestAnew).room s m ([.ref q_t, .ref q_p1, .ref q_p2, .int p3] : List Value).toArray below meth c H locs 0 0 (MQ below (va_Qi (fun (r : Int32) (_ : Unit) => r = res) (bW dC dI A [(q_t, .inr (7, [.ref q_t_sums, .ref q_t_costs, .ref q_t_weights, .ref q_t_needed])), (q_t_costs, .inl (cI, 10, .inl r_f_t_costs)), (q_p1, .inr (8, [.int v_p1_law, .int v_p1_share, .int v_p1_pot, .int v_p1_barred])), (q_p2, .inl (cI, 10, .inl f_p2))]) A) ([.ref q_t, .ref q_p1, .ref q_p2, .int p3] : List Value).toArray s 0 0 A) (F0 m 79 ls []) := by
        intro f_t_costs x3 x4 h H locs ls hP hD hS hl
        unfold X7_fewestAnew_b79 at h
        refine lv_iinc (v := (x4 + (1 : Int32))) (lv' := [(4, .int (x4 + (1 : Int32))), (0, .ref q_t), (1, .ref q_p1), (2, .ref q_p2), (3, .int x3)]) hx hb dX7_fewestAnew_79 hl (k := 4) rfl rfl (by decide) rfl (fun ls hl => ?_)
        refine lv_goto (tgt := 20) hx hb dX7_fewestAnew_82 (by decide) ?_
        exact ih_20 f_t_costs x3 (x4 + (1 : Int32)) h H locs ls hP hD hS (lv_sub hl [1, 2, 3, 4, 0] rfl)
      have L_48 : ∀ (n48 : Nat) , ∀ (f_t_costs : (Nat → Int32)) (x3 : Int32) (x4 : Int32) (x5 : Int32), X7_fewestAnew_b48 (X7_fewestAnew_b20 n20) n48 f_t_costs v_p1_law v_p1_barred f_p2 x3 x4 x5 = some (res, r_f_t_costs) → ∀ (H : Heap) (locs : List Loc) (ls : Array Slot), va_P (dC, dI) vwCl [(q_t, .inr (7, [.ref q_t_sums, .ref q_t_costs, .ref q_t_weights, .ref q_t_needed])), (q_t_costs, .inl (cI, 10, .inl f_t_costs)), (q_p1, .inr (8, [.int v_p1_law, .int v_p1_share, .int v_p1_pot, .int v_p1_barred])), (q_p2, .inl (cI, 10, .inl f_p2))] H → va_D A [(q_t, .inr (7, [.ref q_t_sums, .ref q_t_costs, .ref q_t_weights, .ref q_t_needed])), (q_t_costs, .inl (cI, 10, .inl f_t_costs)), (q_p1, .inr (8, [.int v_p1_law, .int v_p1_share, .int v_p1_pot, .int v_p1_barred])), (q_p2, .inl (cI, 10, .inl f_p2))] → va_S A s.heap H locs → lv_has ls 6 [(0, .ref q_t), (1, .ref q_p1), (2, .ref q_p2), (3, .int x3), (4, .int x4), (5, .int x5)] → W p l e (headSpec wsX7_fewestAnew rm_X7_fewestAnew).room s m ([.ref q_t, .ref q_p1, .ref q_p2, .int p3] : List Value).toArray below meth c H locs 0 0 (MQ below (va_Qi (fun (r : Int32) (_ : Unit) => r = res) (bW dC dI A [(q_t, .inr (7, [.ref q_t_sums, .ref q_t_costs, .ref q_t_weights, .ref q_t_needed])), (q_t_costs, .inl (cI, 10, .inl r_f_t_costs)), (q_p1, .inr (8, [.int v_p1_law, .int v_p1_share, .int v_p1_pot, .int v_p1_barred])), (q_p2, .inl (cI, 10, .inl f_p2))]) A) ([.ref q_t, .ref q_p1, .ref q_p2, .int p3] : List Value).toArray s 0 0 A) (F0 m 48 ls []) := by
        intro n48
        induction n48 with
        | zero => intro f_t_costs x3 x4 x5 h H locs ls hP hD hS hl; exact absurd h (fun h => by cases h)
        | succ n48 ih_48 =>
          intro f_t_costs x3 x4 x5 h H locs ls hP hD hS hl
          replace h : X7_fewestAnew_b48_s (X7_fewestAnew_b20 n20) (X7_fewestAnew_b48 (X7_fewestAnew_b20 n20) n48) f_t_costs v_p1_law v_p1_barred f_p2 x3 x4 x5 = some (res, r_f_t_costs) := h
          unfold X7_fewestAnew_b48_s at h
          refine lv_iload hx hb dX7_fewestAnew_48 (lv_at hl 5 rfl) ?_
          refine lv_if_lt (tgt := 79) hx hb dX7_fewestAnew_50 (by decide) (fun c1 => ?_) (fun c1 => ?_)
          · replace h := ite_t h c1
            exact B_79 f_t_costs x3 x4 h H locs ls hP hD hS (lv_sub hl [0, 1, 2, 3, 4] rfl)
          replace h := ite_f h c1
          refine lv_aload_n hx hb dX7_fewestAnew_53 rfl (lv_at hl 0 rfl) ?_
          refine va_get (D := (dC, dI)) (ci := 7) (v := .ref q_t_costs) (C := RX7) (T := TX7) (N := 4) hx hb hts in_X7_fewestAnew_X7 hown hK hP 0 rfl rfl 1 (by decide) (hts (.fieldLink RX7 15 "RightIfAsMany$Rows" "costs" "[I") (List.mem_of_getElem? (i := 1) rfl)) (fun _ h9 => h9) rfl dX7_fewestAnew_54 ?_
          refine lv_iload hx hb dX7_fewestAnew_57 (lv_at hl 5 rfl) ?_
          refine lv_aload_n hx hb dX7_fewestAnew_59 rfl (lv_at hl 0 rfl) ?_
          refine lv_aload_n hx hb dX7_fewestAnew_60 rfl (lv_at hl 1 rfl) ?_
          refine lv_iload hx hb dX7_fewestAnew_61 (lv_at hl 4 rfl) ?_
          refine lv_aload_n hx hb dX7_fewestAnew_63 rfl (lv_at hl 2 rfl) ?_
          refine lv_iload hx hb dX7_fewestAnew_64 (lv_at hl 4 rfl) ?_
          obtain ⟨hg2, h⟩ := grd_s h
          refine va_iald hx hb hK hP 3 0 rfl rfl hg2 dX7_fewestAnew_66 ?_
          refine lv_iload hx hb dX7_fewestAnew_67 (lv_at hl 5 rfl) ?_
          obtain ⟨r3, hc3, h⟩ := bnd1_s h
          refine kRi (res := r3) (va_runV (As := [.ref q_p1, .int x4, .int (f_p2 x4.toNatClampNeg), .int x5]) (rest := [.int x5, .ref q_t_costs]) ⟨hx, hb, hml, hown, hts⟩ (cn_X7_leastAnew l dC dI cI cJ cZ q_t q_p1 q_t_sums q_t_costs q_t_weights q_t_needed  f_t_costs v_p1_law v_p1_share v_p1_pot v_p1_barred x4 (f_p2 x4.toNatClampNeg) x5 r3 hc3) (cwV 4 hts gX7_fewestAnew_X7_leastAnew rfl rfl rfl (by decide +kernel) ⟨Nat.le_of_ble_eq_true rfl, Nat.le_of_ble_eq_true rfl⟩) (preR hKK (hP.sub (ws' := [(q_t, .inr (7, [.ref q_t_sums, .ref q_t_costs, .ref q_t_weights, .ref q_t_needed])), (q_t_costs, .inl (cI, 10, .inl f_t_costs)), (q_p1, .inr (8, [.int v_p1_law, .int v_p1_share, .int v_p1_pot, .int v_p1_barred]))]) [0, 1, 2] rfl) (ci := 7) (q0 := 0) rfl rfl) rfl rfl hl.1 rfl (lv_room (Nat.le_of_ble_eq_true rfl)) dX7_fewestAnew_69 ⟨Nat.zero_le _, Nat.zero_le _⟩) ?_
          obtain ⟨hg4, h⟩ := grd_s h
          refine va_iast hx hb hK hP hD hS 1 0 rfl rfl hg4 dX7_fewestAnew_72 (fun H locs hP hD hS => ?_)
          have hP : va_P (dC, dI) vwCl [(q_t, .inr (7, [.ref q_t_sums, .ref q_t_costs, .ref q_t_weights, .ref q_t_needed])), (q_t_costs, .inl (cI, 10, .inl (upd f_t_costs x5.toNatClampNeg r3))), (q_p1, .inr (8, [.int v_p1_law, .int v_p1_share, .int v_p1_pot, .int v_p1_barred])), (q_p2, .inl (cI, 10, .inl f_p2))] H := hP
          have hD : va_D A [(q_t, .inr (7, [.ref q_t_sums, .ref q_t_costs, .ref q_t_weights, .ref q_t_needed])), (q_t_costs, .inl (cI, 10, .inl (upd f_t_costs x5.toNatClampNeg r3))), (q_p1, .inr (8, [.int v_p1_law, .int v_p1_share, .int v_p1_pot, .int v_p1_barred])), (q_p2, .inl (cI, 10, .inl f_p2))] := hD
          refine lv_iinc (v := (x5 + (-1 : Int32))) (lv' := [(5, .int (x5 + (-1 : Int32))), (0, .ref q_t), (1, .ref q_p1), (2, .ref q_p2), (3, .int x3), (4, .int x4)]) hx hb dX7_fewestAnew_73 hl (k := 5) rfl rfl (by decide) rfl (fun ls hl => ?_)
          refine lv_goto (tgt := 48) hx hb dX7_fewestAnew_76 (by decide) ?_
          exact ih_48 (upd f_t_costs x5.toNatClampNeg r3) x3 x4 (x5 + (-1 : Int32)) h H locs ls hP hD hS (lv_sub hl [1, 2, 3, 4, 5, 0] rfl)
      intro f_t_costs x3 x4 h H locs ls hP hD hS hl
      replace h : X7_fewestAnew_b20_s (X7_fewestAnew_b20 n20) f_t_costs v_p1_law v_p1_barred f_p2 x3 x4 = some (res, r_f_t_costs) := h
      unfold X7_fewestAnew_b20_s at h
      refine lv_iload hx hb dX7_fewestAnew_20 (lv_at hl 4 rfl) ?_
      refine lv_bipush (v := (10 : Int32)) hx hb dX7_fewestAnew_22 (by decide) ?_
      refine lv_icmp_ge (tgt := 85) hx hb dX7_fewestAnew_24 (by decide) (fun c8 => ?_) (fun c8 => ?_)
      · replace h := ite_t h c8
        exact B_85 f_t_costs x3 h H locs ls hP hD hS (lv_sub hl [0, 3] rfl)
      replace h := ite_f h c8
      refine lv_iload hx hb dX7_fewestAnew_27 (lv_at hl 4 rfl) ?_
      refine lv_aload_n hx hb dX7_fewestAnew_29 rfl (lv_at hl 2 rfl) ?_
      refine va_alen (v := (10 : Int32)) hx hb hK hP 3 0 rfl rfl (show Int32.ofNat 10 = 10 by decide) dX7_fewestAnew_30 ?_
      refine lv_icmp_ge (tgt := 85) hx hb dX7_fewestAnew_31 (by decide) (fun c9 => ?_) (fun c9 => ?_)
      · replace h := ite_t h c9
        exact B_85 f_t_costs x3 h H locs ls hP hD hS (lv_sub hl [0, 3] rfl)
      replace h := ite_f h c9
      refine lv_aload_n hx hb dX7_fewestAnew_34 rfl (lv_at hl 1 rfl) ?_
      refine lv_iload hx hb dX7_fewestAnew_35 (lv_at hl 4 rfl) ?_
      refine kRz (res := (X8_isOpen v_p1_barred x4)) (va_runV (As := [.int x4]) (rest := []) ⟨hx, hb, hml, hown, hts⟩ (cn_X8_isOpen l dC dI cI cJ cZ q_p1  v_p1_law v_p1_share v_p1_pot v_p1_barred x4 (X8_isOpen v_p1_barred x4) rfl) (cwV 1 hts gX7_fewestAnew_X8_isOpen rfl rfl rfl (by decide +kernel) ⟨Nat.le_of_ble_eq_true rfl, Nat.le_of_ble_eq_true rfl⟩) (preR hKK (hP.sub (ws' := [(q_p1, .inr (8, [.int v_p1_law, .int v_p1_share, .int v_p1_pot, .int v_p1_barred]))]) [2] rfl) (ci := 8) (q0 := 0) rfl rfl) rfl rfl hl.1 rfl (lv_room (Nat.le_of_ble_eq_true rfl)) dX7_fewestAnew_37 ⟨Nat.zero_le _, Nat.zero_le _⟩) (fun hz10 => ?_)
      refine lv_if_eq (tgt := 79) hx hb dX7_fewestAnew_40 (by decide) (fun c11 => ?_) (fun c11 => ?_)
      · replace h := ite_t h c11
        exact B_79 f_t_costs x3 x4 h H locs ls hP hD hS (lv_sub hl [0, 1, 2, 3, 4] rfl)
      replace h := ite_f h c11
      refine lv_iload_n hx hb dX7_fewestAnew_43 rfl (lv_at hl 3 rfl) ?_
      refine lv_iconst (v := (1 : Int32)) hx hb dX7_fewestAnew_44 (by decide) ?_
      refine lv_iadd hx hb dX7_fewestAnew_45 ?_
      refine lv_istore (lv' := [(5, .int (x3 + (1 : Int32))), (0, .ref q_t), (1, .ref q_p1), (2, .ref q_p2), (3, .int x3), (4, .int x4)]) hx hb dX7_fewestAnew_46 hl (by decide) rfl (fun ls hl => ?_)
      exact L_48 fU f_t_costs x3 x4 (x3 + (1 : Int32)) h H locs ls hP hD hS (lv_sub hl [1, 2, 3, 4, 5, 0] rfl)
  unfold X7_fewestAnew at h
  obtain ⟨H, hHe⟩ : ∃ H, H = s.heap := ⟨_, rfl⟩
  obtain ⟨locs, hLe⟩ : ∃ x : List Loc, x = [] := ⟨_, rfl⟩
  rw [← hHe] at hP
  have hS : va_S A s.heap H locs := by rw [hHe, hLe]; exact hS
  suffices hW : W p l e (headSpec wsX7_fewestAnew rm_X7_fewestAnew).room s m ([.ref q_t, .ref q_p1, .ref q_p2, .int p3] : List Value).toArray below meth c H locs 0 0 (MQ below (va_Qi (fun (r : Int32) (_ : Unit) => r = res) (bW dC dI A [(q_t, .inr (7, [.ref q_t_sums, .ref q_t_costs, .ref q_t_weights, .ref q_t_needed])), (q_t_costs, .inl (cI, 10, .inl r_f_t_costs)), (q_p1, .inr (8, [.int v_p1_law, .int v_p1_share, .int v_p1_pot, .int v_p1_barred])), (q_p2, .inl (cI, 10, .inl f_p2))]) A) ([.ref q_t, .ref q_p1, .ref q_p2, .int p3] : List Value).toArray s 0 0 A) (F0 m 0 ls []) by rw [hHe, hLe] at hW; exact hW
  refine lv_iload_n hx hb dX7_fewestAnew_0 rfl (lv_at hl 3 rfl) ?_
  refine lv_if_lt (tgt := 10) hx hb dX7_fewestAnew_1 (by decide) (fun c12 => ?_) (fun c12 => ?_)
  · replace h := ite_t h c12
    refine lv_bipush (v := (-9 : Int32)) hx hb dX7_fewestAnew_10 (by decide) ?_
    replace h := Option.some.inj h
    obtain ⟨e1, e2⟩ := pr2 h
    exact W.iret (v := (-9 : Int32)) hx hb hr (fun t ht hW => ⟨⟨_, (), rfl, e1, (by rw [ht, ← e2]; exact hP), (by rw [← e2]; exact hD)⟩, hS.F ht⟩) hS.2.2 dX7_fewestAnew_12
  replace h := ite_f h c12
  refine lv_iload_n hx hb dX7_fewestAnew_4 rfl (lv_at hl 3 rfl) ?_
  refine lv_bipush (v := (9 : Int32)) hx hb dX7_fewestAnew_5 (by decide) ?_
  refine lv_icmp_lt (tgt := 13) hx hb dX7_fewestAnew_7 (by decide) (fun c13 => ?_) (fun c13 => ?_)
  · replace h := ite_t h c13
    refine lv_aload_n hx hb dX7_fewestAnew_13 rfl (lv_at hl 0 rfl) ?_
    obtain ⟨w14_0, hc14, h⟩ := bnd1_s h
    refine kWv (wc := [(q_t, .inr (7, [.ref q_t_sums, .ref q_t_costs, .ref q_t_weights, .ref q_t_needed])), (q_t_costs, .inl (cI, 10, .inl f_t_costs))]) (wr := [(q_p1, .inr (8, [.int v_p1_law, .int v_p1_share, .int v_p1_pot, .int v_p1_barred])), (q_p2, .inl (cI, 10, .inl f_p2))]) (w1 := [(q_t, .inr (7, [.ref q_t_sums, .ref q_t_costs, .ref q_t_weights, .ref q_t_needed])), (q_t_costs, .inl (cI, 10, .inl w14_0))]) (wn := [(q_t, .inr (7, [.ref q_t_sums, .ref q_t_costs, .ref q_t_weights, .ref q_t_needed])), (q_t_costs, .inl (cI, 10, .inl w14_0)), (q_p1, .inr (8, [.int v_p1_law, .int v_p1_share, .int v_p1_pot, .int v_p1_barred])), (q_p2, .inl (cI, 10, .inl f_p2))]) hP hD hS hA [0, 1] [2, 3] [2, 3, 0, 1] rfl rfl (by decide) (by decide) rfl (by decide) (va_runV (As := []) (rest := []) ⟨hx, hb, hml, hown, hts⟩ (cn_X7_startCosts l dC dI cI cJ cZ q_t q_t_sums q_t_costs q_t_weights q_t_needed H.size f_t_costs  w14_0 hc14) (cwV 0 hts gX7_fewestAnew_X7_startCosts rfl rfl rfl (by decide +kernel) ⟨Nat.le_of_ble_eq_true rfl, Nat.le_of_ble_eq_true rfl⟩) (preW hKK (hP.sub (ws' := [(q_t, .inr (7, [.ref q_t_sums, .ref q_t_costs, .ref q_t_weights, .ref q_t_needed])), (q_t_costs, .inl (cI, 10, .inl f_t_costs))]) [0, 1] rfl) (hD.sub (ws' := [(q_t, .inr (7, [.ref q_t_sums, .ref q_t_costs, .ref q_t_weights, .ref q_t_needed])), (q_t_costs, .inl (cI, 10, .inl f_t_costs))]) [0, 1] (by decide) rfl) (ci := 7) (q0 := 0) rfl rfl) rfl rfl hl.1 rfl (lv_room (Nat.le_of_ble_eq_true rfl)) dX7_fewestAnew_14 ⟨Nat.zero_le _, Nat.zero_le _⟩) (fun H locs hP hD hS => ?_)
    refine lv_iconst (v := (0 : Int32)) hx hb dX7_fewestAnew_17 (by decide) ?_
    refine lv_istore (lv' := [(4, .int (0 : Int32)), (0, .ref q_t), (1, .ref q_p1), (2, .ref q_p2), (3, .int p3)]) hx hb dX7_fewestAnew_18 hl (by decide) rfl (fun ls hl => ?_)
    exact L_20 fU w14_0 p3 (0 : Int32) h H locs ls hP hD hS (lv_sub hl [1, 2, 3, 4, 0] rfl)
  replace h := ite_f h c13
  refine lv_bipush (v := (-9 : Int32)) hx hb dX7_fewestAnew_10 (by decide) ?_
  replace h := Option.some.inj h
  obtain ⟨e1, e2⟩ := pr2 h
  exact W.iret (v := (-9 : Int32)) hx hb hr (fun t ht hW => ⟨⟨_, (), rfl, e1, (by rw [ht, ← e2]; exact hP), (by rw [← e2]; exact hD)⟩, hS.F ht⟩) hS.2.2 dX7_fewestAnew_12
