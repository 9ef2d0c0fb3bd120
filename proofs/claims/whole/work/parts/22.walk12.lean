/-! walks, by program: X3_restingRows X3_rowsAtRest X10_rests X4_told X4_tell X10_pay X4_clear X10_unpay X4_differs X10_cheated -/
abbrev rm_X3_restingRows (dd : Nat) : Room := { frames := dd + 5, cells := 0, slots := 0, locals := 25 * dd + 119 }
theorem in_X3_restingRows_X8 : ∀ w ∈ wsX80, w ∈ wsX3_restingRows := fun _ h => List.mem_cons_of_mem _ (List.mem_append_right _ h)
set_option maxHeartbeats 4000000 in
set_option maxRecDepth 100000 in
theorem cn_X3_restingRows (l : Launch) (dC : Nat → ClassId) (dI : Nat → Nat → Nat) (cI cJ cZ : ClassId) : ∀ (dd : Nat)  (q_p0 q_p1 : Nat) (sz : Nat) (v_p0_law : Int32) (v_p0_share : Int32) (v_p0_pot : Int32) (v_p0_barred : Int32) (f_p1 : (Nat → Int32)) (p2 : Int32) (p3 : Int32) (res : Int32) (r_f_p1 : (Nat → Int32)) (h : X3_restingRows dd v_p0_law v_p0_share v_p0_pot v_p0_barred f_p1 p2 p3 = some (res, r_f_p1)), Met l yX3_restingRows wsX3_restingRows (rm_X3_restingRows dd) (pcW dC dI cI cJ cZ [(q_p0, .inr (8, [.int v_p0_law, .int v_p0_share, .int v_p0_pot, .int v_p0_barred])), (q_p1, .inl (cI, 10, .inl f_p1))] sz [.ref q_p0, .ref q_p1, .int p2, .int p3]) (va_Qi (fun (r : Int32) (_ : Unit) => r = res) (bW dC dI (va_A [(q_p0, .inr (8, [.int v_p0_law, .int v_p0_share, .int v_p0_pot, .int v_p0_barred])), (q_p1, .inl (cI, 10, .inl f_p1))] sz) [(q_p0, .inr (8, [.int v_p0_law, .int v_p0_share, .int v_p0_pot, .int v_p0_barred])), (q_p1, .inl (cI, 10, .inl r_f_p1))]) (va_A [(q_p0, .inr (8, [.int v_p0_law, .int v_p0_share, .int v_p0_pot, .int v_p0_barred])), (q_p1, .inl (cI, 10, .inl f_p1))] sz)) 0 0 (va_A [(q_p0, .inr (8, [.int v_p0_law, .int v_p0_share, .int v_p0_pot, .int v_p0_barred])), (q_p1, .inl (cI, 10, .inl f_p1))] sz) := by
  intro dd
  induction dd with
  | zero => intro q_p0 q_p1 sz v_p0_law v_p0_share v_p0_pot v_p0_barred f_p1 p2 p3 res r_f_p1 h; exact absurd h (fun h => by cases h)
  | succ dd ih_d =>
  intro q_p0 q_p1 sz v_p0_law v_p0_share v_p0_pot v_p0_barred f_p1 p2 p3 res r_f_p1 h
  replace h : X3_restingRows_r (X3_restingRows dd) v_p0_law v_p0_share v_p0_pot v_p0_barred f_p1 p2 p3 = some (res, r_f_p1) := h
  refine Met.ofW (cc := cX3_restingRows) (maxL := 6) (ret := (some .int)) (by decide) rfl ?_
  intro p e s m args below meth c s₁ B hml hv
  obtain ⟨rfl, hsz, hP, hKK, hD0⟩ := hv
  have hx := B.exec
  have hb := B.bytes
  have hr := B.returns
  have hts := atoms_spec (ws := wsX3_restingRows) B.pre
  have hown : s.vm.findClass RX3 = some m.cls := findClass_of_methodNamed B.named
  have hlocks := B.notSynchronized
  have hK := hKK.1
  subst hsz
  have hD := hD0.self (sz := s.heap.size)
  generalize hAe : va_A [(q_p0, .inr (8, [.int v_p0_law, .int v_p0_share, .int v_p0_pot, .int v_p0_barred])), (q_p1, .inl (cI, 10, .inl f_p1))] s.heap.size = A at hD ⊢
  have hA : ∀ q : Nat, s.heap.size ≤ q → A q := fun q h => by rw [← hAe]; exact Or.inr h
  have hS : va_S A s.heap s.heap [] := va_S.rf
  have hl := lv_entry ([.ref q_p0, .ref q_p1, .int p2, .int p3]) (n := 6) (Nat.le_of_ble_eq_true rfl)
  rw [lg_entry_eq]
  generalize (lg_sl ([.ref q_p0, .ref q_p1, .int p2, .int p3]) ++ List.replicate (6 - (lg_sl ([.ref q_p0, .ref q_p1, .int p2, .int p3])).length) Slot.unset).toArray = ls at hl ⊢
  have hl : lv_has ls 6 [(0, .ref q_p0), (1, .ref q_p1), (2, .int p2), (3, .int p3)] := hl
  have B_96 : ∀ (f_p1 : (Nat → Int32)) (x2 : Int32) (x4 : Int32), X3_restingRows_b96 (X3_restingRows dd) v_p0_law v_p0_share v_p0_pot v_p0_barred f_p1 x2 x4 = some (res, r_f_p1) → ∀ (H : Heap) (locs : List Loc) (ls : Array Slot), va_P (dC, dI) vwCl [(q_p0, .inr (8, [.int v_p0_law, .int v_p0_share, .int v_p0_pot, .int v_p0_barred])), (q_p1, .inl (cI, 10, .inl f_p1))] H → va_D A [(q_p0, .inr (8, [.int v_p0_law, .int v_p0_share, .int v_p0_pot, .int v_p0_barred])), (q_p1, .inl (cI, 10, .inl f_p1))] → va_S A s.heap H locs → lv_has ls 6 [(1, .ref q_p1), (2, .int x2), (4, .int x4)] → W p l e (headSpec wsX3_restingRows (rm_X3_restingRows (dd + 1))).room s m ([.ref q_p0, .ref q_p1, .int p2, .int p3] : List Value).toArray below meth c H locs 0 0 (MQ below (va_Qi (fun (r : Int32) (_ : Unit) => r = res) (bW dC dI A [(q_p0, .inr (8, [.int v_p0_law, .int v_p0_share, .int v_p0_pot, .int v_p0_barred])), (q_p1, .inl (cI, 10, .inl r_f_p1))]) A) ([.ref q_p0, .ref q_p1, .int p2, .int p3] : List Value).toArray s 0 0 A) (F0 m 96 ls []) := by
    intro f_p1 x2 x4 h H locs ls hP hD hS hl
    unfold X3_restingRows_b96 at h
    refine lv_aload_n hx hb dX3_restingRows_96 rfl (lv_at hl 0 rfl) ?_
    refine lv_iload_n hx hb dX3_restingRows_97 rfl (lv_at hl 1 rfl) ?_
    refine lv_iconst (v := (0 : Int32)) hx hb dX3_restingRows_98 (by decide) ?_
    obtain ⟨hg1, h⟩ := grd_s h
    refine va_iast hx hb hK hP hD hS 1 0 rfl rfl hg1 dX3_restingRows_99 (fun H locs hP hD hS => ?_)
    have hP : va_P (dC, dI) vwCl [(q_p0, .inr (8, [.int v_p0_law, .int v_p0_share, .int v_p0_pot, .int v_p0_barred])), (q_p1, .inl (cI, 10, .inl (upd f_p1 x2.toNatClampNeg (0 : Int32))))] H := hP
    have hD : va_D A [(q_p0, .inr (8, [.int v_p0_law, .int v_p0_share, .int v_p0_pot, .int v_p0_barred])), (q_p1, .inl (cI, 10, .inl (upd f_p1 x2.toNatClampNeg (0 : Int32))))] := hD
    refine lv_iload hx hb dX3_restingRows_100 (lv_at hl 2 rfl) ?_
    replace h := Option.some.inj h
    obtain ⟨e1, e2⟩ := pr2 h
    exact W.iret (v := x4) hx hb hr (fun t ht hW => ⟨⟨_, (), rfl, e1, (by rw [ht, ← e2]; exact hP), (by rw [← e2]; exact hD)⟩, hS.F ht⟩) hS.2.2 dX3_restingRows_102
  have L_55 : ∀ (n55 : Nat) , ∀ (f_p1 : (Nat → Int32)) (x2 : Int32) (x3 : Int32) (x4 : Int32) (x5 : Int32), X3_restingRows_b55 (X3_restingRows dd) n55 v_p0_law v_p0_share v_p0_pot v_p0_barred f_p1 x2 x3 x4 x5 = some (res, r_f_p1) → ∀ (H : Heap) (locs : List Loc) (ls : Array Slot), va_P (dC, dI) vwCl [(q_p0, .inr (8, [.int v_p0_law, .int v_p0_share, .int v_p0_pot, .int v_p0_barred])), (q_p1, .inl (cI, 10, .inl f_p1))] H → va_D A [(q_p0, .inr (8, [.int v_p0_law, .int v_p0_share, .int v_p0_pot, .int v_p0_barred])), (q_p1, .inl (cI, 10, .inl f_p1))] → va_S A s.heap H locs → lv_has ls 6 [(0, .ref q_p0), (1, .ref q_p1), (2, .int x2), (3, .int x3), (4, .int x4), (5, .int x5)] → W p l e (headSpec wsX3_restingRows (rm_X3_restingRows (dd + 1))).room s m ([.ref q_p0, .ref q_p1, .int p2, .int p3] : List Value).toArray below meth c H locs 0 0 (MQ below (va_Qi (fun (r : Int32) (_ : Unit) => r = res) (bW dC dI A [(q_p0, .inr (8, [.int v_p0_law, .int v_p0_share, .int v_p0_pot, .int v_p0_barred])), (q_p1, .inl (cI, 10, .inl r_f_p1))]) A) ([.ref q_p0, .ref q_p1, .int p2, .int p3] : List Value).toArray s 0 0 A) (F0 m 55 ls []) := by
    intro n55
    induction n55 with
    | zero => intro f_p1 x2 x3 x4 x5 h H locs ls hP hD hS hl; exact absurd h (fun h => by cases h)
    | succ n55 ih_55 =>
      intro f_p1 x2 x3 x4 x5 h H locs ls hP hD hS hl
      replace h : X3_restingRows_b55_s (X3_restingRows dd) (X3_restingRows_b55 (X3_restingRows dd) n55) v_p0_law v_p0_share v_p0_pot v_p0_barred f_p1 x2 x3 x4 x5 = some (res, r_f_p1) := h
      unfold X3_restingRows_b55_s at h
      refine lv_iload hx hb dX3_restingRows_55 (lv_at hl 5 rfl) ?_
      refine lv_iload_n hx hb dX3_restingRows_57 rfl (lv_at hl 3 rfl) ?_
      refine lv_icmp_gt (tgt := 96) hx hb dX3_restingRows_58 (by decide) (fun c2 => ?_) (fun c2 => ?_)
      · replace h := ite_t h c2
        exact B_96 f_p1 x2 x4 h H locs ls hP hD hS (lv_sub hl [1, 2, 4] rfl)
      replace h := ite_f h c2
      refine lv_aload_n hx hb dX3_restingRows_61 rfl (lv_at hl 1 rfl) ?_
      refine lv_iload_n hx hb dX3_restingRows_62 rfl (lv_at hl 2 rfl) ?_
      refine lv_iload hx hb dX3_restingRows_63 (lv_at hl 5 rfl) ?_
      obtain ⟨hg3, h⟩ := grd_s h
      refine va_iast hx hb hK hP hD hS 1 0 rfl rfl hg3 dX3_restingRows_65 (fun H locs hP hD hS => ?_)
      have hP : va_P (dC, dI) vwCl [(q_p0, .inr (8, [.int v_p0_law, .int v_p0_share, .int v_p0_pot, .int v_p0_barred])), (q_p1, .inl (cI, 10, .inl (upd f_p1 x2.toNatClampNeg x5)))] H := hP
      have hD : va_D A [(q_p0, .inr (8, [.int v_p0_law, .int v_p0_share, .int v_p0_pot, .int v_p0_barred])), (q_p1, .inl (cI, 10, .inl (upd f_p1 x2.toNatClampNeg x5)))] := hD
      refine lv_iload hx hb dX3_restingRows_66 (lv_at hl 4 rfl) ?_
      refine lv_iload_n hx hb dX3_restingRows_68 rfl (lv_at hl 3 rfl) ?_
      refine lv_iload hx hb dX3_restingRows_69 (lv_at hl 5 rfl) ?_
      obtain ⟨r4, hc4, h⟩ := bnd1_s h
      refine kRi (res := r4) (va_runSN (As := [.int x3, .int x5]) (rest := [.int x4]) ⟨hx, hb, hml, hown, hts⟩ (cn_X10_choose l dC dI cI cJ cZ    x3 x5 r4 hc4) ⟨va_cnB 2 hts gX3_restingRows_X10_choose_n73 rfl rfl rfl (hKK.nw 21 rfl) (hts (.initialized RX10) (List.mem_of_getElem? (i := 47) rfl)) (by decide +kernel) ⟨by show 0 + 1 ≤ dd + 1 + 5; omega, by show 8 + (4 + 11) + 0 ≤ 25 * (dd + 1) + 119; omega⟩, hts (.static yX10_choose) (List.mem_of_getElem? (i := 53) rfl), trivial⟩ (preRS hKK (hP.sub (ws' := []) [] rfl)) rfl rfl hl.1 rfl (lv_room (Nat.le_of_ble_eq_true rfl)) dX3_restingRows_71 ⟨Nat.zero_le _, Nat.zero_le _⟩) ?_
      refine lv_aload_n hx hb dX3_restingRows_74 rfl (lv_at hl 0 rfl) ?_
      refine lv_aload_n hx hb dX3_restingRows_75 rfl (lv_at hl 1 rfl) ?_
      refine lv_iload_n hx hb dX3_restingRows_76 rfl (lv_at hl 2 rfl) ?_
      refine lv_iconst (v := (1 : Int32)) hx hb dX3_restingRows_77 (by decide) ?_
      refine lv_iadd hx hb dX3_restingRows_78 ?_
      refine lv_iload_n hx hb dX3_restingRows_79 rfl (lv_at hl 3 rfl) ?_
      refine lv_iload hx hb dX3_restingRows_80 (lv_at hl 5 rfl) ?_
      refine lv_isub hx hb dX3_restingRows_82 ?_
      obtain ⟨r5, w5_1, hc5, h⟩ := bnd2_s h
      refine kWi (res := r5) (wc := [(q_p0, .inr (8, [.int v_p0_law, .int v_p0_share, .int v_p0_pot, .int v_p0_barred])), (q_p1, .inl (cI, 10, .inl (upd f_p1 x2.toNatClampNeg x5)))]) (wr := []) (w1 := [(q_p0, .inr (8, [.int v_p0_law, .int v_p0_share, .int v_p0_pot, .int v_p0_barred])), (q_p1, .inl (cI, 10, .inl w5_1))]) (wn := [(q_p0, .inr (8, [.int v_p0_law, .int v_p0_share, .int v_p0_pot, .int v_p0_barred])), (q_p1, .inl (cI, 10, .inl w5_1))]) hP hD hS hA [0, 1] [] [0, 1] rfl rfl (by decide) (by decide) rfl (by decide) (va_runS (As := [.ref q_p0, .ref q_p1, .int (x2 + (1 : Int32)), .int (x3 - x5)]) (rest := [.int r4, .int x4]) ⟨hx, hb, hml, hown, hts⟩ (ih_d q_p0 q_p1 H.size v_p0_law v_p0_share v_p0_pot v_p0_barred (upd f_p1 x2.toNatClampNeg x5) (x2 + (1 : Int32)) (x3 - x5) r5 w5_1 hc5) (va_cwS 4 hts gX3_restingRows_X3_restingRows rfl rfl rfl (by decide +kernel) ⟨by show dd + 5 + 1 ≤ dd + 1 + 5; omega, by show 8 + (6 + 11) + (25 * dd + 119) ≤ 25 * (dd + 1) + 119; omega⟩) (preWS hKK (hP.sub (ws' := [(q_p0, .inr (8, [.int v_p0_law, .int v_p0_share, .int v_p0_pot, .int v_p0_barred])), (q_p1, .inl (cI, 10, .inl (upd f_p1 x2.toNatClampNeg x5)))]) [0, 1] rfl) (hD.sub (ws' := [(q_p0, .inr (8, [.int v_p0_law, .int v_p0_share, .int v_p0_pot, .int v_p0_barred])), (q_p1, .inl (cI, 10, .inl (upd f_p1 x2.toNatClampNeg x5)))]) [0, 1] (by decide) rfl)) rfl rfl hl.1 rfl (lv_room (Nat.le_of_ble_eq_true rfl)) dX3_restingRows_83 ⟨Nat.zero_le _, Nat.zero_le _⟩) (fun H locs hP hD hS => ?_)
      refine lv_imul hx hb dX3_restingRows_86 ?_
      refine lv_iadd hx hb dX3_restingRows_87 ?_
      refine lv_istore (lv' := [(4, .int (x4 + (r4 * r5))), (0, .ref q_p0), (1, .ref q_p1), (2, .int x2), (3, .int x3), (5, .int x5)]) hx hb dX3_restingRows_88 hl (by decide) rfl (fun ls hl => ?_)
      refine lv_iinc (v := (x5 + (1 : Int32))) (lv' := [(5, .int (x5 + (1 : Int32))), (4, .int (x4 + (r4 * r5))), (0, .ref q_p0), (1, .ref q_p1), (2, .int x2), (3, .int x3)]) hx hb dX3_restingRows_90 hl (k := 5) rfl rfl (by decide) rfl (fun ls hl => ?_)
      refine lv_goto (tgt := 55) hx hb dX3_restingRows_93 (by decide) ?_
      exact ih_55 w5_1 x2 x3 (x4 + (r4 * r5)) (x5 + (1 : Int32)) h H locs ls hP hD hS (lv_sub hl [2, 3, 4, 5, 1, 0] rfl)
  unfold X3_restingRows_r at h
  obtain ⟨H, hHe⟩ : ∃ H, H = s.heap := ⟨_, rfl⟩
  obtain ⟨locs, hLe⟩ : ∃ x : List Loc, x = [] := ⟨_, rfl⟩
  rw [← hHe] at hP
  have hS : va_S A s.heap H locs := by rw [hHe, hLe]; exact hS
  suffices hW : W p l e (headSpec wsX3_restingRows (rm_X3_restingRows (dd + 1))).room s m ([.ref q_p0, .ref q_p1, .int p2, .int p3] : List Value).toArray below meth c H locs 0 0 (MQ below (va_Qi (fun (r : Int32) (_ : Unit) => r = res) (bW dC dI A [(q_p0, .inr (8, [.int v_p0_law, .int v_p0_share, .int v_p0_pot, .int v_p0_barred])), (q_p1, .inl (cI, 10, .inl r_f_p1))]) A) ([.ref q_p0, .ref q_p1, .int p2, .int p3] : List Value).toArray s 0 0 A) (F0 m 0 ls []) by rw [hHe, hLe] at hW; exact hW
  refine lv_iload_n hx hb dX3_restingRows_0 rfl (lv_at hl 3 rfl) ?_
  refine lv_if_gt (tgt := 18) hx hb dX3_restingRows_1 (by decide) (fun c6 => ?_) (fun c6 => ?_)
  · replace h := ite_t h c6
    refine lv_iload_n hx hb dX3_restingRows_18 rfl (lv_at hl 2 rfl) ?_
    refine kRz (res := (X10_isNumber p2)) (va_runSN (As := [.int p2]) (rest := []) ⟨hx, hb, hml, hown, hts⟩ (cn_X10_isNumber l dC dI cI cJ cZ    p2 (X10_isNumber p2) rfl) ⟨va_cnB 1 hts gX3_restingRows_X10_isNumber_n58 rfl rfl rfl (hKK.nw 15 rfl) (hts (.initialized RX10) (List.mem_of_getElem? (i := 47) rfl)) (by decide +kernel) ⟨by show 0 + 1 ≤ dd + 1 + 5; omega, by show 8 + (1 + 11) + 0 ≤ 25 * (dd + 1) + 119; omega⟩, hts (.static yX10_isNumber) (List.mem_of_getElem? (i := 46) rfl), trivial⟩ (preRS hKK (hP.sub (ws' := []) [] rfl)) rfl rfl hl.1 rfl (lv_room (Nat.le_of_ble_eq_true rfl)) dX3_restingRows_19 ⟨Nat.zero_le _, Nat.zero_le _⟩) (fun hz7 => ?_)
    refine lv_if_eq (tgt := 31) hx hb dX3_restingRows_22 (by decide) (fun c8 => ?_) (fun c8 => ?_)
    · replace h := ite_t h c8
      refine lv_iconst (v := (0 : Int32)) hx hb dX3_restingRows_31 (by decide) ?_
      replace h := Option.some.inj h
      obtain ⟨e1, e2⟩ := pr2 h
      exact W.iret (v := (0 : Int32)) hx hb hr (fun t ht hW => ⟨⟨_, (), rfl, e1, (by rw [ht, ← e2]; exact hP), (by rw [← e2]; exact hD)⟩, hS.F ht⟩) hS.2.2 dX3_restingRows_32
    replace h := ite_f h c8
    refine lv_iload_n hx hb dX3_restingRows_25 rfl (lv_at hl 2 rfl) ?_
    refine lv_aload_n hx hb dX3_restingRows_26 rfl (lv_at hl 1 rfl) ?_
    refine va_alen (v := (10 : Int32)) hx hb hK hP 1 0 rfl rfl (show Int32.ofNat 10 = 10 by decide) dX3_restingRows_27 ?_
    refine lv_icmp_lt (tgt := 33) hx hb dX3_restingRows_28 (by decide) (fun c9 => ?_) (fun c9 => ?_)
    · replace h := ite_t h c9
      refine lv_aload_n hx hb dX3_restingRows_33 rfl (lv_at hl 0 rfl) ?_
      refine lv_aload_n hx hb dX3_restingRows_34 rfl (lv_at hl 1 rfl) ?_
      refine lv_iload_n hx hb dX3_restingRows_35 rfl (lv_at hl 2 rfl) ?_
      refine lv_iconst (v := (1 : Int32)) hx hb dX3_restingRows_36 (by decide) ?_
      refine lv_iadd hx hb dX3_restingRows_37 ?_
      refine lv_iload_n hx hb dX3_restingRows_38 rfl (lv_at hl 3 rfl) ?_
      obtain ⟨r10, w10_1, hc10, h⟩ := bnd2_s h
      refine kWi (res := r10) (wc := [(q_p0, .inr (8, [.int v_p0_law, .int v_p0_share, .int v_p0_pot, .int v_p0_barred])), (q_p1, .inl (cI, 10, .inl f_p1))]) (wr := []) (w1 := [(q_p0, .inr (8, [.int v_p0_law, .int v_p0_share, .int v_p0_pot, .int v_p0_barred])), (q_p1, .inl (cI, 10, .inl w10_1))]) (wn := [(q_p0, .inr (8, [.int v_p0_law, .int v_p0_share, .int v_p0_pot, .int v_p0_barred])), (q_p1, .inl (cI, 10, .inl w10_1))]) hP hD hS hA [0, 1] [] [0, 1] rfl rfl (by decide) (by decide) rfl (by decide) (va_runS (As := [.ref q_p0, .ref q_p1, .int (p2 + (1 : Int32)), .int p3]) (rest := []) ⟨hx, hb, hml, hown, hts⟩ (ih_d q_p0 q_p1 H.size v_p0_law v_p0_share v_p0_pot v_p0_barred f_p1 (p2 + (1 : Int32)) p3 r10 w10_1 hc10) (va_cwS 4 hts gX3_restingRows_X3_restingRows rfl rfl rfl (by decide +kernel) ⟨by show dd + 5 + 1 ≤ dd + 1 + 5; omega, by show 8 + (6 + 11) + (25 * dd + 119) ≤ 25 * (dd + 1) + 119; omega⟩) (preWS hKK (hP.sub (ws' := [(q_p0, .inr (8, [.int v_p0_law, .int v_p0_share, .int v_p0_pot, .int v_p0_barred])), (q_p1, .inl (cI, 10, .inl f_p1))]) [0, 1] rfl) (hD.sub (ws' := [(q_p0, .inr (8, [.int v_p0_law, .int v_p0_share, .int v_p0_pot, .int v_p0_barred])), (q_p1, .inl (cI, 10, .inl f_p1))]) [0, 1] (by decide) rfl)) rfl rfl hl.1 rfl (lv_room (Nat.le_of_ble_eq_true rfl)) dX3_restingRows_39 ⟨Nat.zero_le _, Nat.zero_le _⟩) (fun H locs hP hD hS => ?_)
      refine lv_istore (lv' := [(4, .int r10), (0, .ref q_p0), (1, .ref q_p1), (2, .int p2), (3, .int p3)]) hx hb dX3_restingRows_42 hl (by decide) rfl (fun ls hl => ?_)
      refine lv_aload_n hx hb dX3_restingRows_44 rfl (lv_at hl 1 rfl) ?_
      refine lv_iload_n hx hb dX3_restingRows_45 rfl (lv_at hl 3 rfl) ?_
      refine kRz (res := (X8_isOpen v_p0_barred p2)) (va_runV (As := [.int p2]) (rest := []) ⟨hx, hb, hml, hown, hts⟩ (cn_X8_isOpen l dC dI cI cJ cZ q_p0  v_p0_law v_p0_share v_p0_pot v_p0_barred p2 (X8_isOpen v_p0_barred p2) rfl) (cwV 1 hts gX3_restingRows_X8_isOpen rfl rfl rfl (by decide +kernel) ⟨by show 1 + 1 ≤ dd + 1 + 5; omega, by show 8 + (2 + 11) + 20 ≤ 25 * (dd + 1) + 119; omega⟩) (preR hKK (hP.sub (ws' := [(q_p0, .inr (8, [.int v_p0_law, .int v_p0_share, .int v_p0_pot, .int v_p0_barred]))]) [0] rfl) (ci := 8) (q0 := 0) rfl rfl) rfl rfl hl.1 rfl (lv_room (Nat.le_of_ble_eq_true rfl)) dX3_restingRows_46 ⟨Nat.zero_le _, Nat.zero_le _⟩) (fun hz11 => ?_)
      refine lv_if_eq (tgt := 100) hx hb dX3_restingRows_49 (by decide) (fun c12 => ?_) (fun c12 => ?_)
      · replace h := ite_t h c12
        refine lv_iload hx hb dX3_restingRows_100 (lv_at hl 0 rfl) ?_
        replace h := Option.some.inj h
        obtain ⟨e1, e2⟩ := pr2 h
        exact W.iret (v := r10) hx hb hr (fun t ht hW => ⟨⟨_, (), rfl, e1, (by rw [ht, ← e2]; exact hP), (by rw [← e2]; exact hD)⟩, hS.F ht⟩) hS.2.2 dX3_restingRows_102
      replace h := ite_f h c12
      refine lv_iconst (v := (1 : Int32)) hx hb dX3_restingRows_52 (by decide) ?_
      refine lv_istore (lv' := [(5, .int (1 : Int32)), (4, .int r10), (0, .ref q_p0), (1, .ref q_p1), (2, .int p2), (3, .int p3)]) hx hb dX3_restingRows_53 hl (by decide) rfl (fun ls hl => ?_)
      exact L_55 fU w10_1 p2 p3 r10 (1 : Int32) h H locs ls hP hD hS (lv_sub hl [2, 3, 4, 5, 1, 0] rfl)
    replace h := ite_f h c9
    refine lv_iconst (v := (0 : Int32)) hx hb dX3_restingRows_31 (by decide) ?_
    replace h := Option.some.inj h
    obtain ⟨e1, e2⟩ := pr2 h
    exact W.iret (v := (0 : Int32)) hx hb hr (fun t ht hW => ⟨⟨_, (), rfl, e1, (by rw [ht, ← e2]; exact hP), (by rw [← e2]; exact hD)⟩, hS.F ht⟩) hS.2.2 dX3_restingRows_32
  replace h := ite_f h c6
  refine lv_aload_n hx hb dX3_restingRows_4 rfl (lv_at hl 0 rfl) ?_
  refine lv_aload_n hx hb dX3_restingRows_5 rfl (lv_at hl 1 rfl) ?_
  obtain ⟨r13, hc13, h⟩ := bnd1_s h
  refine kRz (res := r13) (va_runV (As := [.ref q_p1]) (rest := []) ⟨hx, hb, hml, hown, hts⟩ (cn_X8_areAtRest l dC dI cI cJ cZ q_p0 q_p1  v_p0_law v_p0_share v_p0_pot v_p0_barred f_p1  r13 hc13) (cwV 1 hts gX3_restingRows_X8_areAtRest rfl rfl rfl (by decide +kernel) ⟨by show 4 + 1 ≤ dd + 1 + 5; omega, by show 8 + (3 + 11) + 97 ≤ 25 * (dd + 1) + 119; omega⟩) (preR hKK (hP.sub (ws' := [(q_p0, .inr (8, [.int v_p0_law, .int v_p0_share, .int v_p0_pot, .int v_p0_barred])), (q_p1, .inl (cI, 10, .inl f_p1))]) [0, 1] rfl) (ci := 8) (q0 := 0) rfl rfl) rfl rfl hl.1 rfl (lv_room (Nat.le_of_ble_eq_true rfl)) dX3_restingRows_6 ⟨Nat.zero_le _, Nat.zero_le _⟩) (fun hz14 => ?_)
  refine lv_if_eq (tgt := 16) hx hb dX3_restingRows_9 (by decide) (fun c15 => ?_) (fun c15 => ?_)
  · replace h := ite_t h c15
    refine lv_iconst (v := (0 : Int32)) hx hb dX3_restingRows_16 (by decide) ?_
    replace h := Option.some.inj h
    obtain ⟨e1, e2⟩ := pr2 h
    exact W.iret (v := (0 : Int32)) hx hb hr (fun t ht hW => ⟨⟨_, (), rfl, e1, (by rw [ht, ← e2]; exact hP), (by rw [← e2]; exact hD)⟩, hS.F ht⟩) hS.2.2 dX3_restingRows_17
  replace h := ite_f h c15
  refine lv_iconst (v := (1 : Int32)) hx hb dX3_restingRows_12 (by decide) ?_
  refine lv_goto (tgt := 17) hx hb dX3_restingRows_13 (by decide) ?_
  replace h := Option.some.inj h
  obtain ⟨e1, e2⟩ := pr2 h
  exact W.iret (v := (1 : Int32)) hx hb hr (fun t ht hW => ⟨⟨_, (), rfl, e1, (by rw [ht, ← e2]; exact hP), (by rw [← e2]; exact hD)⟩, hS.F ht⟩) hS.2.2 dX3_restingRows_17
abbrev rm_X3_rowsAtRest : Room := { frames := 18, cells := 0, slots := 0, locals := 444 }
theorem in_X3_rowsAtRest_X8 : ∀ w ∈ wsX80, w ∈ wsX3_rowsAtRest := fun _ h => List.mem_cons_of_mem _ (List.mem_append_right _ h)
theorem in_X3_rowsAtRest_X3 : ∀ w ∈ wsX30, w ∈ wsX3_rowsAtRest := fun _ h => List.mem_cons_of_mem _ (List.mem_append_left _ (List.mem_append_right _ h))
set_option maxHeartbeats 4000000 in
set_option maxRecDepth 100000 in
theorem cn_X3_rowsAtRest (l : Launch) (dC : Nat → ClassId) (dI : Nat → Nat → Nat) (cI cJ cZ : ClassId) (q_t q_p1 q_t_now q_t_next : Nat) (sz : Nat) (f_t_now : (Nat → Int32)) (v_p1_law : Int32) (v_p1_share : Int32) (v_p1_pot : Int32) (v_p1_barred : Int32) (p2 : Int32) (res : Int32) (r_f_t_now : (Nat → Int32)) (h : X3_rowsAtRest f_t_now v_p1_law v_p1_share v_p1_pot v_p1_barred p2 = some (res, r_f_t_now)) : Met l yX3_rowsAtRest wsX3_rowsAtRest rm_X3_rowsAtRest (pcW dC dI cI cJ cZ [(q_t, .inr (3, [.ref q_t_now, .ref q_t_next])), (q_t_now, .inl (cI, 10, .inl f_t_now)), (q_p1, .inr (8, [.int v_p1_law, .int v_p1_share, .int v_p1_pot, .int v_p1_barred]))] sz [.ref q_t, .ref q_p1, .int p2]) (va_Qi (fun (r : Int32) (_ : Unit) => r = res) (bW dC dI (va_A [(q_t, .inr (3, [.ref q_t_now, .ref q_t_next])), (q_t_now, .inl (cI, 10, .inl f_t_now)), (q_p1, .inr (8, [.int v_p1_law, .int v_p1_share, .int v_p1_pot, .int v_p1_barred]))] sz) [(q_t, .inr (3, [.ref q_t_now, .ref q_t_next])), (q_t_now, .inl (cI, 10, .inl r_f_t_now)), (q_p1, .inr (8, [.int v_p1_law, .int v_p1_share, .int v_p1_pot, .int v_p1_barred]))]) (va_A [(q_t, .inr (3, [.ref q_t_now, .ref q_t_next])), (q_t_now, .inl (cI, 10, .inl f_t_now)), (q_p1, .inr (8, [.int v_p1_law, .int v_p1_share, .int v_p1_pot, .int v_p1_barred]))] sz)) 0 0 (va_A [(q_t, .inr (3, [.ref q_t_now, .ref q_t_next])), (q_t_now, .inl (cI, 10, .inl f_t_now)), (q_p1, .inr (8, [.int v_p1_law, .int v_p1_share, .int v_p1_pot, .int v_p1_barred]))] sz) := by
  refine Met.ofW (cc := cX3_rowsAtRest) (maxL := 3) (ret := (some .int)) (by decide) rfl ?_
  intro p e s m args below meth c s₁ B hml hv
  obtain ⟨rfl, hsz, hP, hKK, hD0⟩ := hv
  have hx := B.exec
  have hb := B.bytes
  have hr := B.returns
  have hts := atoms_spec (ws := wsX3_rowsAtRest) B.pre
  have hown : s.vm.findClass RX3 = some m.cls := findClass_of_methodNamed B.named
  have hlocks := B.notSynchronized
  have hK := hKK.1
  subst hsz
  have hD := hD0.self (sz := s.heap.size)
  generalize hAe : va_A [(q_t, .inr (3, [.ref q_t_now, .ref q_t_next])), (q_t_now, .inl (cI, 10, .inl f_t_now)), (q_p1, .inr (8, [.int v_p1_law, .int v_p1_share, .int v_p1_pot, .int v_p1_barred]))] s.heap.size = A at hD ⊢
  have hA : ∀ q : Nat, s.heap.size ≤ q → A q := fun q h => by rw [← hAe]; exact Or.inr h
  have hS : va_S A s.heap s.heap [] := va_S.rf
  have hl := lv_entry ([.ref q_t, .ref q_p1, .int p2]) (n := 3) (Nat.le_of_ble_eq_true rfl)
  rw [lg_entry_eq]
  generalize (lg_sl ([.ref q_t, .ref q_p1, .int p2]) ++ List.replicate (3 - (lg_sl ([.ref q_t, .ref q_p1, .int p2])).length) Slot.unset).toArray = ls at hl ⊢
  have hl : lv_has ls 3 [(0, .ref q_t), (1, .ref q_p1), (2, .int p2)] := hl
  unfold X3_rowsAtRest at h
  obtain ⟨H, hHe⟩ : ∃ H, H = s.heap := ⟨_, rfl⟩
  obtain ⟨locs, hLe⟩ : ∃ x : List Loc, x = [] := ⟨_, rfl⟩
  rw [← hHe] at hP
  have hS : va_S A s.heap H locs := by rw [hHe, hLe]; exact hS
  suffices hW : W p l e (headSpec wsX3_rowsAtRest rm_X3_rowsAtRest).room s m ([.ref q_t, .ref q_p1, .int p2] : List Value).toArray below meth c H locs 0 0 (MQ below (va_Qi (fun (r : Int32) (_ : Unit) => r = res) (bW dC dI A [(q_t, .inr (3, [.ref q_t_now, .ref q_t_next])), (q_t_now, .inl (cI, 10, .inl r_f_t_now)), (q_p1, .inr (8, [.int v_p1_law, .int v_p1_share, .int v_p1_pot, .int v_p1_barred]))]) A) ([.ref q_t, .ref q_p1, .int p2] : List Value).toArray s 0 0 A) (F0 m 0 ls []) by rw [hHe, hLe] at hW; exact hW
  refine lv_aload_n hx hb dX3_rowsAtRest_0 rfl (lv_at hl 0 rfl) ?_
  refine va_get (D := (dC, dI)) (ci := 3) (v := .ref q_t_now) (C := RX3) (T := TX3) (N := 2) hx hb hts in_X3_rowsAtRest_X3 hown hK hP 0 rfl rfl 0 (by decide) (hts (.fieldLink RX3 9 "RightIfAsMany$Moves" "now" "[I") (List.mem_of_getElem? (i := 1) rfl)) (fun _ h9 => h9) rfl dX3_rowsAtRest_1 ?_
  refine lv_iconst (v := (0 : Int32)) hx hb dX3_rowsAtRest_4 (by decide) ?_
  refine kWv (wc := [(q_t_now, .inl (cI, 10, .inl f_t_now))]) (wr := [(q_t, .inr (3, [.ref q_t_now, .ref q_t_next])), (q_p1, .inr (8, [.int v_p1_law, .int v_p1_share, .int v_p1_pot, .int v_p1_barred]))]) (w1 := [(q_t_now, .inl (cI, 10, .inl (fillI 10 f_t_now (0 : Int32))))]) (wn := [(q_t, .inr (3, [.ref q_t_now, .ref q_t_next])), (q_t_now, .inl (cI, 10, .inl (fillI 10 f_t_now (0 : Int32)))), (q_p1, .inr (8, [.int v_p1_law, .int v_p1_share, .int v_p1_pot, .int v_p1_barred]))]) hP hD hS hA [1] [0, 2] [0, 2, 1] rfl rfl (by decide) (by decide) rfl (by decide) (va_runS (As := [.ref q_t_now, .int (0 : Int32)]) (rest := []) ⟨hx, hb, hml, hown, hts⟩ (cn_J7_fill_53178 l dC dI cI cJ cZ q_t_now 10 H.size f_t_now (0 : Int32) (by decide)) (va_cwS 2 hts gX3_rowsAtRest_J7_fill_53178 rfl rfl rfl (by decide +kernel) ⟨Nat.le_of_ble_eq_true rfl, Nat.le_of_ble_eq_true rfl⟩) (preWS hKK (hP.sub (ws' := [(q_t_now, .inl (cI, 10, .inl f_t_now))]) [1] rfl) (hD.sub (ws' := [(q_t_now, .inl (cI, 10, .inl f_t_now))]) [1] (by decide) rfl)) rfl rfl hl.1 rfl (lv_room (Nat.le_of_ble_eq_true rfl)) dX3_rowsAtRest_5 ⟨Nat.zero_le _, Nat.zero_le _⟩) (fun H locs hP hD hS => ?_)
  refine lv_aload_n hx hb dX3_rowsAtRest_8 rfl (lv_at hl 1 rfl) ?_
  refine lv_aload_n hx hb dX3_rowsAtRest_9 rfl (lv_at hl 0 rfl) ?_
  refine va_get (D := (dC, dI)) (ci := 3) (v := .ref q_t_now) (C := RX3) (T := TX3) (N := 2) hx hb hts in_X3_rowsAtRest_X3 hown hK hP 0 rfl rfl 0 (by decide) (hts (.fieldLink RX3 9 "RightIfAsMany$Moves" "now" "[I") (List.mem_of_getElem? (i := 1) rfl)) (fun _ h9 => h9) rfl dX3_rowsAtRest_10 ?_
  refine lv_iconst (v := (0 : Int32)) hx hb dX3_rowsAtRest_13 (by decide) ?_
  refine lv_iload_n hx hb dX3_rowsAtRest_14 rfl (lv_at hl 2 rfl) ?_
  obtain ⟨r1, w1_1, hc1, h⟩ := bnd2_s h
  refine kWi (res := r1) (wc := [(q_p1, .inr (8, [.int v_p1_law, .int v_p1_share, .int v_p1_pot, .int v_p1_barred])), (q_t_now, .inl (cI, 10, .inl (fillI 10 f_t_now (0 : Int32))))]) (wr := [(q_t, .inr (3, [.ref q_t_now, .ref q_t_next]))]) (w1 := [(q_p1, .inr (8, [.int v_p1_law, .int v_p1_share, .int v_p1_pot, .int v_p1_barred])), (q_t_now, .inl (cI, 10, .inl w1_1))]) (wn := [(q_t, .inr (3, [.ref q_t_now, .ref q_t_next])), (q_t_now, .inl (cI, 10, .inl w1_1)), (q_p1, .inr (8, [.int v_p1_law, .int v_p1_share, .int v_p1_pot, .int v_p1_barred]))]) hP hD hS hA [2, 1] [0] [0, 2, 1] rfl rfl (by decide) (by decide) rfl (by decide) (va_runS (As := [.ref q_p1, .ref q_t_now, .int (0 : Int32), .int p2]) (rest := []) ⟨hx, hb, hml, hown, hts⟩ (cn_X3_restingRows l dC dI cI cJ cZ 12 q_p1 q_t_now H.size v_p1_law v_p1_share v_p1_pot v_p1_barred (fillI 10 f_t_now (0 : Int32)) (0 : Int32) p2 r1 w1_1 hc1) (va_cwS 4 hts gX3_rowsAtRest_X3_restingRows rfl rfl rfl (by decide +kernel) ⟨Nat.le_of_ble_eq_true rfl, Nat.le_of_ble_eq_true rfl⟩) (preWS hKK (hP.sub (ws' := [(q_p1, .inr (8, [.int v_p1_law, .int v_p1_share, .int v_p1_pot, .int v_p1_barred])), (q_t_now, .inl (cI, 10, .inl (fillI 10 f_t_now (0 : Int32))))]) [2, 1] rfl) (hD.sub (ws' := [(q_p1, .inr (8, [.int v_p1_law, .int v_p1_share, .int v_p1_pot, .int v_p1_barred])), (q_t_now, .inl (cI, 10, .inl (fillI 10 f_t_now (0 : Int32))))]) [2, 1] (by decide) rfl)) rfl rfl hl.1 rfl (lv_room (Nat.le_of_ble_eq_true rfl)) dX3_rowsAtRest_15 ⟨Nat.zero_le _, Nat.zero_le _⟩) (fun H locs hP hD hS => ?_)
  replace h := Option.some.inj h
  obtain ⟨e1, e2⟩ := pr2 h
  exact W.iret (v := r1) hx hb hr (fun t ht hW => ⟨⟨_, (), rfl, e1, (by rw [ht, ← e2]; exact hP), (by rw [← e2]; exact hD)⟩, hS.F ht⟩) hS.2.2 dX3_rowsAtRest_18
abbrev rm_X10_rests : Room := { frames := 19, cells := 0, slots := 0, locals := 466 }
theorem in_X10_rests_X8 : ∀ w ∈ wsX80, w ∈ wsX10_rests := fun _ h => List.mem_cons_of_mem _ (List.mem_append_right _ h)
theorem in_X10_rests_X3 : ∀ w ∈ wsX30, w ∈ wsX10_rests := fun _ h => List.mem_cons_of_mem _ (List.mem_append_left _ (List.mem_append_right _ h))
theorem in_X10_rests_X10 : ∀ w ∈ wsX100, w ∈ wsX10_rests := fun _ h => List.mem_cons_of_mem _ (List.mem_append_left _ (List.mem_append_left _ (List.mem_append_right _ h)))
set_option maxHeartbeats 4000000 in
set_option maxRecDepth 100000 in
theorem cn_X10_rests (l : Launch) (dC : Nat → ClassId) (dI : Nat → Nat → Nat) (cI cJ cZ : ClassId) (q_t q_t_text q_t_reader q_t_rules q_t_people q_t_memory q_t_rows q_t_chances q_t_moves q_t_payments q_t_evenings q_t_moves_now q_t_moves_next : Nat) (sz : Nat) (v_t_rules_law : Int32) (v_t_rules_share : Int32) (v_t_rules_pot : Int32) (v_t_rules_barred : Int32) (f_t_moves_now : (Nat → Int32)) (p1 : Int32) (res : Int32) (r_f_t_moves_now : (Nat → Int32)) (h : X10_rests v_t_rules_law v_t_rules_share v_t_rules_pot v_t_rules_barred f_t_moves_now p1 = some (res, r_f_t_moves_now)) : Met l yX10_rests wsX10_rests rm_X10_rests (pcW dC dI cI cJ cZ [(q_t, .inr (10, [.ref q_t_text, .ref q_t_reader, .ref q_t_rules, .ref q_t_people, .ref q_t_memory, .ref q_t_rows, .ref q_t_chances, .ref q_t_moves, .ref q_t_payments, .ref q_t_evenings])), (q_t_rules, .inr (8, [.int v_t_rules_law, .int v_t_rules_share, .int v_t_rules_pot, .int v_t_rules_barred])), (q_t_moves, .inr (3, [.ref q_t_moves_now, .ref q_t_moves_next])), (q_t_moves_now, .inl (cI, 10, .inl f_t_moves_now))] sz [.ref q_t, .int p1]) (va_Qi (fun (r : Int32) (_ : Unit) => r = res) (bW dC dI (va_A [(q_t, .inr (10, [.ref q_t_text, .ref q_t_reader, .ref q_t_rules, .ref q_t_people, .ref q_t_memory, .ref q_t_rows, .ref q_t_chances, .ref q_t_moves, .ref q_t_payments, .ref q_t_evenings])), (q_t_rules, .inr (8, [.int v_t_rules_law, .int v_t_rules_share, .int v_t_rules_pot, .int v_t_rules_barred])), (q_t_moves, .inr (3, [.ref q_t_moves_now, .ref q_t_moves_next])), (q_t_moves_now, .inl (cI, 10, .inl f_t_moves_now))] sz) [(q_t, .inr (10, [.ref q_t_text, .ref q_t_reader, .ref q_t_rules, .ref q_t_people, .ref q_t_memory, .ref q_t_rows, .ref q_t_chances, .ref q_t_moves, .ref q_t_payments, .ref q_t_evenings])), (q_t_rules, .inr (8, [.int v_t_rules_law, .int v_t_rules_share, .int v_t_rules_pot, .int v_t_rules_barred])), (q_t_moves, .inr (3, [.ref q_t_moves_now, .ref q_t_moves_next])), (q_t_moves_now, .inl (cI, 10, .inl r_f_t_moves_now))]) (va_A [(q_t, .inr (10, [.ref q_t_text, .ref q_t_reader, .ref q_t_rules, .ref q_t_people, .ref q_t_memory, .ref q_t_rows, .ref q_t_chances, .ref q_t_moves, .ref q_t_payments, .ref q_t_evenings])), (q_t_rules, .inr (8, [.int v_t_rules_law, .int v_t_rules_share, .int v_t_rules_pot, .int v_t_rules_barred])), (q_t_moves, .inr (3, [.ref q_t_moves_now, .ref q_t_moves_next])), (q_t_moves_now, .inl (cI, 10, .inl f_t_moves_now))] sz)) 0 0 (va_A [(q_t, .inr (10, [.ref q_t_text, .ref q_t_reader, .ref q_t_rules, .ref q_t_people, .ref q_t_memory, .ref q_t_rows, .ref q_t_chances, .ref q_t_moves, .ref q_t_payments, .ref q_t_evenings])), (q_t_rules, .inr (8, [.int v_t_rules_law, .int v_t_rules_share, .int v_t_rules_pot, .int v_t_rules_barred])), (q_t_moves, .inr (3, [.ref q_t_moves_now, .ref q_t_moves_next])), (q_t_moves_now, .inl (cI, 10, .inl f_t_moves_now))] sz) := by
  refine Met.ofW (cc := cX10_rests) (maxL := 2) (ret := (some .int)) (by decide) rfl ?_
  intro p e s m args below meth c s₁ B hml hv
  obtain ⟨rfl, hsz, hP, hKK, hD0⟩ := hv
  have hx := B.exec
  have hb := B.bytes
  have hr := B.returns
  have hts := atoms_spec (ws := wsX10_rests) B.pre
  have hown : s.vm.findClass RX10 = some m.cls := findClass_of_methodNamed B.named
  have hlocks := B.notSynchronized
  have hK := hKK.1
  subst hsz
  have hD := hD0.self (sz := s.heap.size)
  generalize hAe : va_A [(q_t, .inr (10, [.ref q_t_text, .ref q_t_reader, .ref q_t_rules, .ref q_t_people, .ref q_t_memory, .ref q_t_rows, .ref q_t_chances, .ref q_t_moves, .ref q_t_payments, .ref q_t_evenings])), (q_t_rules, .inr (8, [.int v_t_rules_law, .int v_t_rules_share, .int v_t_rules_pot, .int v_t_rules_barred])), (q_t_moves, .inr (3, [.ref q_t_moves_now, .ref q_t_moves_next])), (q_t_moves_now, .inl (cI, 10, .inl f_t_moves_now))] s.heap.size = A at hD ⊢
  have hA : ∀ q : Nat, s.heap.size ≤ q → A q := fun q h => by rw [← hAe]; exact Or.inr h
  have hS : va_S A s.heap s.heap [] := va_S.rf
  have hl := lv_entry ([.ref q_t, .int p1]) (n := 2) (Nat.le_of_ble_eq_true rfl)
  rw [lg_entry_eq]
  generalize (lg_sl ([.ref q_t, .int p1]) ++ List.replicate (2 - (lg_sl ([.ref q_t, .int p1])).length) Slot.unset).toArray = ls at hl ⊢
  have hl : lv_has ls 2 [(0, .ref q_t), (1, .int p1)] := hl
  unfold X10_rests at h
  obtain ⟨H, hHe⟩ : ∃ H, H = s.heap := ⟨_, rfl⟩
  obtain ⟨locs, hLe⟩ : ∃ x : List Loc, x = [] := ⟨_, rfl⟩
  rw [← hHe] at hP
  have hS : va_S A s.heap H locs := by rw [hHe, hLe]; exact hS
  suffices hW : W p l e (headSpec wsX10_rests rm_X10_rests).room s m ([.ref q_t, .int p1] : List Value).toArray below meth c H locs 0 0 (MQ below (va_Qi (fun (r : Int32) (_ : Unit) => r = res) (bW dC dI A [(q_t, .inr (10, [.ref q_t_text, .ref q_t_reader, .ref q_t_rules, .ref q_t_people, .ref q_t_memory, .ref q_t_rows, .ref q_t_chances, .ref q_t_moves, .ref q_t_payments, .ref q_t_evenings])), (q_t_rules, .inr (8, [.int v_t_rules_law, .int v_t_rules_share, .int v_t_rules_pot, .int v_t_rules_barred])), (q_t_moves, .inr (3, [.ref q_t_moves_now, .ref q_t_moves_next])), (q_t_moves_now, .inl (cI, 10, .inl r_f_t_moves_now))]) A) ([.ref q_t, .int p1] : List Value).toArray s 0 0 A) (F0 m 0 ls []) by rw [hHe, hLe] at hW; exact hW
  refine lv_iload_n hx hb dX10_rests_0 rfl (lv_at hl 1 rfl) ?_
  refine lv_if_lt (tgt := 9) hx hb dX10_rests_1 (by decide) (fun c1 => ?_) (fun c1 => ?_)
  · replace h := ite_t h c1
    refine lv_bipush (v := (-2 : Int32)) hx hb dX10_rests_9 (by decide) ?_
    refine lv_goto (tgt := 26) hx hb dX10_rests_11 (by decide) ?_
    replace h := Option.some.inj h
    obtain ⟨e1, e2⟩ := pr2 h
    exact W.iret (v := (-2 : Int32)) hx hb hr (fun t ht hW => ⟨⟨_, (), rfl, e1, (by rw [ht, ← e2]; exact hP), (by rw [← e2]; exact hD)⟩, hS.F ht⟩) hS.2.2 dX10_rests_26
  replace h := ite_f h c1
  refine lv_iload_n hx hb dX10_rests_4 rfl (lv_at hl 1 rfl) ?_
  refine lv_iconst (v := (4 : Int32)) hx hb dX10_rests_5 (by decide) ?_
  refine lv_icmp_le (tgt := 14) hx hb dX10_rests_6 (by decide) (fun c2 => ?_) (fun c2 => ?_)
  · replace h := ite_t h c2
    refine lv_aload_n hx hb dX10_rests_14 rfl (lv_at hl 0 rfl) ?_
    refine va_get (D := (dC, dI)) (ci := 10) (v := .ref q_t_moves) (C := RX10) (T := TX10) (N := 10) hx hb hts in_X10_rests_X10 hown hK hP 0 rfl rfl 7 (by decide) (hts (.fieldLink RX10 61 "RightIfAsMany" "moves" "LRightIfAsMany$Moves;") (List.mem_of_getElem? (i := 1) rfl)) (fun _ h9 => h9) rfl dX10_rests_15 ?_
    refine lv_aload_n hx hb dX10_rests_18 rfl (lv_at hl 0 rfl) ?_
    refine va_get (D := (dC, dI)) (ci := 10) (v := .ref q_t_rules) (C := RX10) (T := TX10) (N := 10) hx hb hts in_X10_rests_X10 hown hK hP 0 rfl rfl 2 (by decide) (hts (.fieldLink RX10 26 "RightIfAsMany" "rules" "LRightIfAsMany$Rules;") (List.mem_of_getElem? (i := 2) rfl)) (fun _ h9 => h9) rfl dX10_rests_19 ?_
    refine lv_iload_n hx hb dX10_rests_22 rfl (lv_at hl 1 rfl) ?_
    obtain ⟨r3, w3_1, hc3, h⟩ := bnd2_s h
    refine kWi (res := r3) (wc := [(q_t_moves, .inr (3, [.ref q_t_moves_now, .ref q_t_moves_next])), (q_t_moves_now, .inl (cI, 10, .inl f_t_moves_now)), (q_t_rules, .inr (8, [.int v_t_rules_law, .int v_t_rules_share, .int v_t_rules_pot, .int v_t_rules_barred]))]) (wr := [(q_t, .inr (10, [.ref q_t_text, .ref q_t_reader, .ref q_t_rules, .ref q_t_people, .ref q_t_memory, .ref q_t_rows, .ref q_t_chances, .ref q_t_moves, .ref q_t_payments, .ref q_t_evenings]))]) (w1 := [(q_t_moves, .inr (3, [.ref q_t_moves_now, .ref q_t_moves_next])), (q_t_moves_now, .inl (cI, 10, .inl w3_1)), (q_t_rules, .inr (8, [.int v_t_rules_law, .int v_t_rules_share, .int v_t_rules_pot, .int v_t_rules_barred]))]) (wn := [(q_t, .inr (10, [.ref q_t_text, .ref q_t_reader, .ref q_t_rules, .ref q_t_people, .ref q_t_memory, .ref q_t_rows, .ref q_t_chances, .ref q_t_moves, .ref q_t_payments, .ref q_t_evenings])), (q_t_rules, .inr (8, [.int v_t_rules_law, .int v_t_rules_share, .int v_t_rules_pot, .int v_t_rules_barred])), (q_t_moves, .inr (3, [.ref q_t_moves_now, .ref q_t_moves_next])), (q_t_moves_now, .inl (cI, 10, .inl w3_1))]) hP hD hS hA [2, 3, 1] [0] [0, 3, 1, 2] rfl rfl (by decide) (by decide) rfl (by decide) (va_runV (As := [.ref q_t_rules, .int p1]) (rest := []) ⟨hx, hb, hml, hown, hts⟩ (cn_X3_rowsAtRest l dC dI cI cJ cZ q_t_moves q_t_rules q_t_moves_now q_t_moves_next H.size f_t_moves_now v_t_rules_law v_t_rules_share v_t_rules_pot v_t_rules_barred p1 r3 w3_1 hc3) (cwV 2 hts gX10_rests_X3_rowsAtRest rfl rfl rfl (by decide +kernel) ⟨Nat.le_of_ble_eq_true rfl, Nat.le_of_ble_eq_true rfl⟩) (preW hKK (hP.sub (ws' := [(q_t_moves, .inr (3, [.ref q_t_moves_now, .ref q_t_moves_next])), (q_t_moves_now, .inl (cI, 10, .inl f_t_moves_now)), (q_t_rules, .inr (8, [.int v_t_rules_law, .int v_t_rules_share, .int v_t_rules_pot, .int v_t_rules_barred]))]) [2, 3, 1] rfl) (hD.sub (ws' := [(q_t_moves, .inr (3, [.ref q_t_moves_now, .ref q_t_moves_next])), (q_t_moves_now, .inl (cI, 10, .inl f_t_moves_now)), (q_t_rules, .inr (8, [.int v_t_rules_law, .int v_t_rules_share, .int v_t_rules_pot, .int v_t_rules_barred]))]) [2, 3, 1] (by decide) rfl) (ci := 3) (q0 := 0) rfl rfl) rfl rfl hl.1 rfl (lv_room (Nat.le_of_ble_eq_true rfl)) dX10_rests_23 ⟨Nat.zero_le _, Nat.zero_le _⟩) (fun H locs hP hD hS => ?_)
    replace h := Option.some.inj h
    obtain ⟨e1, e2⟩ := pr2 h
    exact W.iret (v := r3) hx hb hr (fun t ht hW => ⟨⟨_, (), rfl, e1, (by rw [ht, ← e2]; exact hP), (by rw [← e2]; exact hD)⟩, hS.F ht⟩) hS.2.2 dX10_rests_26
  replace h := ite_f h c2
  refine lv_bipush (v := (-2 : Int32)) hx hb dX10_rests_9 (by decide) ?_
  refine lv_goto (tgt := 26) hx hb dX10_rests_11 (by decide) ?_
  replace h := Option.some.inj h
  obtain ⟨e1, e2⟩ := pr2 h
  exact W.iret (v := (-2 : Int32)) hx hb hr (fun t ht hW => ⟨⟨_, (), rfl, e1, (by rw [ht, ← e2]; exact hP), (by rw [← e2]; exact hD)⟩, hS.F ht⟩) hS.2.2 dX10_rests_26
abbrev rm_X4_told : Room := { frames := 0, cells := 0, slots := 0, locals := 0 }
theorem in_X4_told_X4 : ∀ w ∈ wsX40, w ∈ wsX4_told := fun _ h => List.mem_cons_of_mem _ (List.mem_append_right _ h)
set_option maxHeartbeats 4000000 in
set_option maxRecDepth 100000 in
theorem cn_X4_told (l : Launch) (dC : Nat → ClassId) (dI : Nat → Nat → Nat) (cI cJ cZ : ClassId) (q_t q_t_last : Nat) (v_t_told : Int32) (res : Int32) (h : X4_told v_t_told = res) : Met l yX4_told wsX4_told rm_X4_told (pcR dC dI cI cJ cZ [(q_t, .inr (4, [.ref q_t_last, .int v_t_told]))] [.ref q_t]) (vp_Si (fun r => r = res)) 0 0 (fun _ => False) := by
  refine Met.ofW (cc := cX4_told) (maxL := 1) (ret := (some .int)) (by decide) rfl ?_
  intro p e s m args below meth c s₁ B hml hv
  obtain ⟨rfl, hP, hKK⟩ := hv
  have hx := B.exec
  have hb := B.bytes
  have hr := B.returns
  have hts := atoms_spec (ws := wsX4_told) B.pre
  have hown : s.vm.findClass RX4 = some m.cls := findClass_of_methodNamed B.named
  have hlocks := B.notSynchronized
  have hK := hKK.1
  have hl := lv_entry ([.ref q_t]) (n := 1) (Nat.le_of_ble_eq_true rfl)
  rw [lg_entry_eq]
  generalize (lg_sl ([.ref q_t]) ++ List.replicate (1 - (lg_sl ([.ref q_t])).length) Slot.unset).toArray = ls at hl ⊢
  have hl : lv_has ls 1 [(0, .ref q_t)] := hl
  unfold X4_told at h
  refine lv_aload_n hx hb dX4_told_0 rfl (lv_at hl 0 rfl) ?_
  refine va_get (D := (dC, dI)) (ci := 4) (v := .int v_t_told) (C := RX4) (T := TX4) (N := 2) hx hb hts in_X4_told_X4 hown hK hP 0 rfl rfl 1 (by decide) (hts (.fieldLink RX4 15 "RightIfAsMany$Payments" "told" "I") (List.mem_of_getElem? (i := 1) rfl)) (fun _ h9 => h9) rfl dX4_told_1 ?_
  have e1 := h
  exact W.iret (v := v_t_told) hx hb hr (fun t ht hW => ⟨_, rfl, e1, ht⟩) (fun q hq => by cases hq) dX4_told_4
abbrev rm_X4_tell : Room := { frames := 0, cells := 0, slots := 0, locals := 0 }
theorem in_X4_tell_X4 : ∀ w ∈ wsX40, w ∈ wsX4_tell := fun _ h => List.mem_cons_of_mem _ (List.mem_append_right _ h)
set_option maxHeartbeats 4000000 in
set_option maxRecDepth 100000 in
theorem cn_X4_tell (l : Launch) (dC : Nat → ClassId) (dI : Nat → Nat → Nat) (cI cJ cZ : ClassId) (q_t q_t_last : Nat) (sz : Nat) (v_t_told : Int32) (f_t_last : (Nat → Int32)) (p1 : Int32) (p2 : Int32) (r_v_t_told : Int32) (r_f_t_last : (Nat → Int32)) (h : X4_tell v_t_told f_t_last p1 p2 = some (r_v_t_told, r_f_t_last)) : Met l yX4_tell wsX4_tell rm_X4_tell (pcW dC dI cI cJ cZ [(q_t, .inr (4, [.ref q_t_last, .int v_t_told])), (q_t_last, .inl (cI, 9, .inl f_t_last))] sz [.ref q_t, .int p1, .int p2]) (va_Qv (fun (_ : Unit) => True) (bW dC dI (va_A [(q_t, .inr (4, [.ref q_t_last, .int v_t_told])), (q_t_last, .inl (cI, 9, .inl f_t_last))] sz) [(q_t, .inr (4, [.ref q_t_last, .int r_v_t_told])), (q_t_last, .inl (cI, 9, .inl r_f_t_last))]) (va_A [(q_t, .inr (4, [.ref q_t_last, .int v_t_told])), (q_t_last, .inl (cI, 9, .inl f_t_last))] sz)) 0 0 (va_A [(q_t, .inr (4, [.ref q_t_last, .int v_t_told])), (q_t_last, .inl (cI, 9, .inl f_t_last))] sz) := by
  refine Met.ofW (cc := cX4_tell) (maxL := 3) (ret := none) (by decide) rfl ?_
  intro p e s m args below meth c s₁ B hml hv
  obtain ⟨rfl, hsz, hP, hKK, hD0⟩ := hv
  have hx := B.exec
  have hb := B.bytes
  have hr := B.returns
  have hts := atoms_spec (ws := wsX4_tell) B.pre
  have hown : s.vm.findClass RX4 = some m.cls := findClass_of_methodNamed B.named
  have hlocks := B.notSynchronized
  have hK := hKK.1
  subst hsz
  have hD := hD0.self (sz := s.heap.size)
  generalize hAe : va_A [(q_t, .inr (4, [.ref q_t_last, .int v_t_told])), (q_t_last, .inl (cI, 9, .inl f_t_last))] s.heap.size = A at hD ⊢
  have hA : ∀ q : Nat, s.heap.size ≤ q → A q := fun q h => by rw [← hAe]; exact Or.inr h
  have hS : va_S A s.heap s.heap [] := va_S.rf
  have hl := lv_entry ([.ref q_t, .int p1, .int p2]) (n := 3) (Nat.le_of_ble_eq_true rfl)
  rw [lg_entry_eq]
  generalize (lg_sl ([.ref q_t, .int p1, .int p2]) ++ List.replicate (3 - (lg_sl ([.ref q_t, .int p1, .int p2])).length) Slot.unset).toArray = ls at hl ⊢
  have hl : lv_has ls 3 [(0, .ref q_t), (1, .int p1), (2, .int p2)] := hl
  unfold X4_tell at h
  obtain ⟨H, hHe⟩ : ∃ H, H = s.heap := ⟨_, rfl⟩
  obtain ⟨locs, hLe⟩ : ∃ x : List Loc, x = [] := ⟨_, rfl⟩
  rw [← hHe] at hP
  have hS : va_S A s.heap H locs := by rw [hHe, hLe]; exact hS
  suffices hW : W p l e (headSpec wsX4_tell rm_X4_tell).room s m ([.ref q_t, .int p1, .int p2] : List Value).toArray below meth c H locs 0 0 (MQ below (va_Qv (fun (_ : Unit) => True) (bW dC dI A [(q_t, .inr (4, [.ref q_t_last, .int r_v_t_told])), (q_t_last, .inl (cI, 9, .inl r_f_t_last))]) A) ([.ref q_t, .int p1, .int p2] : List Value).toArray s 0 0 A) (F0 m 0 ls []) by rw [hHe, hLe] at hW; exact hW
  refine lv_iload_n hx hb dX4_tell_0 rfl (lv_at hl 1 rfl) ?_
  refine lv_if_lt (tgt := 30) hx hb dX4_tell_1 (by decide) (fun c1 => ?_) (fun c1 => ?_)
  · replace h := ite_t h c1
    replace h := Option.some.inj h
    obtain ⟨e1, e2⟩ := pr2 h
    exact W.vret hx hb hr (fun t ht hW => ⟨⟨(), rfl, trivial, (by rw [ht, ← e1, ← e2]; exact hP), (by rw [← e1, ← e2]; exact hD)⟩, hS.F ht⟩) hS.2.2 dX4_tell_30
  replace h := ite_f h c1
  refine lv_iload_n hx hb dX4_tell_4 rfl (lv_at hl 1 rfl) ?_
  refine lv_aload_n hx hb dX4_tell_5 rfl (lv_at hl 0 rfl) ?_
  refine va_get (D := (dC, dI)) (ci := 4) (v := .ref q_t_last) (C := RX4) (T := TX4) (N := 2) hx hb hts in_X4_tell_X4 hown hK hP 0 rfl rfl 0 (by decide) (hts (.fieldLink RX4 9 "RightIfAsMany$Payments" "last" "[I") (List.mem_of_getElem? (i := 1) rfl)) (fun _ h9 => h9) rfl dX4_tell_6 ?_
  refine va_alen (v := (9 : Int32)) hx hb hK hP 1 0 rfl rfl (show Int32.ofNat 9 = 9 by decide) dX4_tell_9 ?_
  refine lv_icmp_ge (tgt := 30) hx hb dX4_tell_10 (by decide) (fun c2 => ?_) (fun c2 => ?_)
  · replace h := ite_t h c2
    replace h := Option.some.inj h
    obtain ⟨e1, e2⟩ := pr2 h
    exact W.vret hx hb hr (fun t ht hW => ⟨⟨(), rfl, trivial, (by rw [ht, ← e1, ← e2]; exact hP), (by rw [← e1, ← e2]; exact hD)⟩, hS.F ht⟩) hS.2.2 dX4_tell_30
  replace h := ite_f h c2
  refine lv_aload_n hx hb dX4_tell_13 rfl (lv_at hl 0 rfl) ?_
  refine va_get (D := (dC, dI)) (ci := 4) (v := .ref q_t_last) (C := RX4) (T := TX4) (N := 2) hx hb hts in_X4_tell_X4 hown hK hP 0 rfl rfl 0 (by decide) (hts (.fieldLink RX4 9 "RightIfAsMany$Payments" "last" "[I") (List.mem_of_getElem? (i := 1) rfl)) (fun _ h9 => h9) rfl dX4_tell_14 ?_
  refine lv_iload_n hx hb dX4_tell_17 rfl (lv_at hl 1 rfl) ?_
  refine lv_iload_n hx hb dX4_tell_18 rfl (lv_at hl 2 rfl) ?_
  obtain ⟨hg3, h⟩ := grd_s h
  refine va_iast hx hb hK hP hD hS 1 0 rfl rfl hg3 dX4_tell_19 (fun H locs hP hD hS => ?_)
  have hP : va_P (dC, dI) vwCl [(q_t, .inr (4, [.ref q_t_last, .int v_t_told])), (q_t_last, .inl (cI, 9, .inl (upd f_t_last p1.toNatClampNeg p2)))] H := hP
  have hD : va_D A [(q_t, .inr (4, [.ref q_t_last, .int v_t_told])), (q_t_last, .inl (cI, 9, .inl (upd f_t_last p1.toNatClampNeg p2)))] := hD
  refine lv_aload_n hx hb dX4_tell_20 rfl (lv_at hl 0 rfl) ?_
  refine lv_dup hx hb dX4_tell_21 rfl ?_
  refine va_get (D := (dC, dI)) (ci := 4) (v := .int v_t_told) (C := RX4) (T := TX4) (N := 2) hx hb hts in_X4_tell_X4 hown hK hP 0 rfl rfl 1 (by decide) (hts (.fieldLink RX4 15 "RightIfAsMany$Payments" "told" "I") (List.mem_of_getElem? (i := 2) rfl)) (fun _ h9 => h9) rfl dX4_tell_22 ?_
  refine lv_iconst (v := (1 : Int32)) hx hb dX4_tell_25 (by decide) ?_
  refine lv_iadd hx hb dX4_tell_26 ?_
  refine va_put (D := (dC, dI)) (ci := 4) (v := .int (v_t_told + (1 : Int32))) (ty := .int) (C := RX4) (T := TX4) (N := 2) hx hb hts in_X4_tell_X4 tyX4 tyX4_ok nmX4 hown hK hP hD hS 0 rfl rfl 1 (by decide) (hts (.fieldLink RX4 15 "RightIfAsMany$Payments" "told" "I") (List.mem_of_getElem? (i := 2) rfl)) (fun _ h9 => h9) rfl (by decide +kernel) rfl rfl (Nat.le_of_ble_eq_true rfl) dX4_tell_27 (fun H locs hP hD hS => ?_)
  have hP : va_P (dC, dI) vwCl [(q_t, .inr (4, [.ref q_t_last, .int (v_t_told + (1 : Int32))])), (q_t_last, .inl (cI, 9, .inl (upd f_t_last p1.toNatClampNeg p2)))] H := hP
  have hD : va_D A [(q_t, .inr (4, [.ref q_t_last, .int (v_t_told + (1 : Int32))])), (q_t_last, .inl (cI, 9, .inl (upd f_t_last p1.toNatClampNeg p2)))] := hD
  replace h := Option.some.inj h
  obtain ⟨e1, e2⟩ := pr2 h
  exact W.vret hx hb hr (fun t ht hW => ⟨⟨(), rfl, trivial, (by rw [ht, ← e1, ← e2]; exact hP), (by rw [← e1, ← e2]; exact hD)⟩, hS.F ht⟩) hS.2.2 dX4_tell_30
abbrev rm_X10_pay : Room := { frames := 1, cells := 0, slots := 0, locals := 22 }
theorem in_X10_pay_X4 : ∀ w ∈ wsX40, w ∈ wsX10_pay := fun _ h => List.mem_cons_of_mem _ (List.mem_append_right _ h)
theorem in_X10_pay_X10 : ∀ w ∈ wsX100, w ∈ wsX10_pay := fun _ h => List.mem_cons_of_mem _ (List.mem_append_left _ (List.mem_append_right _ h))
set_option maxHeartbeats 4000000 in
set_option maxRecDepth 100000 in
theorem cn_X10_pay (l : Launch) (dC : Nat → ClassId) (dI : Nat → Nat → Nat) (cI cJ cZ : ClassId) (q_t q_t_text q_t_reader q_t_rules q_t_people q_t_memory q_t_rows q_t_chances q_t_moves q_t_payments q_t_evenings q_t_payments_last : Nat) (sz : Nat) (v_t_payments_told : Int32) (f_t_payments_last : (Nat → Int32)) (p1 : Int32) (p2 : Int32) (res : Int32) (r_v_t_payments_told : Int32) (r_f_t_payments_last : (Nat → Int32)) (h : X10_pay v_t_payments_told f_t_payments_last p1 p2 = some (res, r_v_t_payments_told, r_f_t_payments_last)) : Met l yX10_pay wsX10_pay rm_X10_pay (pcW dC dI cI cJ cZ [(q_t, .inr (10, [.ref q_t_text, .ref q_t_reader, .ref q_t_rules, .ref q_t_people, .ref q_t_memory, .ref q_t_rows, .ref q_t_chances, .ref q_t_moves, .ref q_t_payments, .ref q_t_evenings])), (q_t_payments, .inr (4, [.ref q_t_payments_last, .int v_t_payments_told])), (q_t_payments_last, .inl (cI, 9, .inl f_t_payments_last))] sz [.ref q_t, .int p1, .int p2]) (va_Qi (fun (r : Int32) (_ : Unit) => r = res) (bW dC dI (va_A [(q_t, .inr (10, [.ref q_t_text, .ref q_t_reader, .ref q_t_rules, .ref q_t_people, .ref q_t_memory, .ref q_t_rows, .ref q_t_chances, .ref q_t_moves, .ref q_t_payments, .ref q_t_evenings])), (q_t_payments, .inr (4, [.ref q_t_payments_last, .int v_t_payments_told])), (q_t_payments_last, .inl (cI, 9, .inl f_t_payments_last))] sz) [(q_t, .inr (10, [.ref q_t_text, .ref q_t_reader, .ref q_t_rules, .ref q_t_people, .ref q_t_memory, .ref q_t_rows, .ref q_t_chances, .ref q_t_moves, .ref q_t_payments, .ref q_t_evenings])), (q_t_payments, .inr (4, [.ref q_t_payments_last, .int r_v_t_payments_told])), (q_t_payments_last, .inl (cI, 9, .inl r_f_t_payments_last))]) (va_A [(q_t, .inr (10, [.ref q_t_text, .ref q_t_reader, .ref q_t_rules, .ref q_t_people, .ref q_t_memory, .ref q_t_rows, .ref q_t_chances, .ref q_t_moves, .ref q_t_payments, .ref q_t_evenings])), (q_t_payments, .inr (4, [.ref q_t_payments_last, .int v_t_payments_told])), (q_t_payments_last, .inl (cI, 9, .inl f_t_payments_last))] sz)) 0 0 (va_A [(q_t, .inr (10, [.ref q_t_text, .ref q_t_reader, .ref q_t_rules, .ref q_t_people, .ref q_t_memory, .ref q_t_rows, .ref q_t_chances, .ref q_t_moves, .ref q_t_payments, .ref q_t_evenings])), (q_t_payments, .inr (4, [.ref q_t_payments_last, .int v_t_payments_told])), (q_t_payments_last, .inl (cI, 9, .inl f_t_payments_last))] sz) := by
  refine Met.ofW (cc := cX10_pay) (maxL := 3) (ret := (some .int)) (by decide) rfl ?_
  intro p e s m args below meth c s₁ B hml hv
  obtain ⟨rfl, hsz, hP, hKK, hD0⟩ := hv
  have hx := B.exec
  have hb := B.bytes
  have hr := B.returns
  have hts := atoms_spec (ws := wsX10_pay) B.pre
  have hown : s.vm.findClass RX10 = some m.cls := findClass_of_methodNamed B.named
  have hlocks := B.notSynchronized
  have hK := hKK.1
  subst hsz
  have hD := hD0.self (sz := s.heap.size)
  generalize hAe : va_A [(q_t, .inr (10, [.ref q_t_text, .ref q_t_reader, .ref q_t_rules, .ref q_t_people, .ref q_t_memory, .ref q_t_rows, .ref q_t_chances, .ref q_t_moves, .ref q_t_payments, .ref q_t_evenings])), (q_t_payments, .inr (4, [.ref q_t_payments_last, .int v_t_payments_told])), (q_t_payments_last, .inl (cI, 9, .inl f_t_payments_last))] s.heap.size = A at hD ⊢
  have hA : ∀ q : Nat, s.heap.size ≤ q → A q := fun q h => by rw [← hAe]; exact Or.inr h
  have hS : va_S A s.heap s.heap [] := va_S.rf
  have hl := lv_entry ([.ref q_t, .int p1, .int p2]) (n := 3) (Nat.le_of_ble_eq_true rfl)
  rw [lg_entry_eq]
  generalize (lg_sl ([.ref q_t, .int p1, .int p2]) ++ List.replicate (3 - (lg_sl ([.ref q_t, .int p1, .int p2])).length) Slot.unset).toArray = ls at hl ⊢
  have hl : lv_has ls 3 [(0, .ref q_t), (1, .int p1), (2, .int p2)] := hl
  unfold X10_pay at h
  obtain ⟨H, hHe⟩ : ∃ H, H = s.heap := ⟨_, rfl⟩
  obtain ⟨locs, hLe⟩ : ∃ x : List Loc, x = [] := ⟨_, rfl⟩
  rw [← hHe] at hP
  have hS : va_S A s.heap H locs := by rw [hHe, hLe]; exact hS
  suffices hW : W p l e (headSpec wsX10_pay rm_X10_pay).room s m ([.ref q_t, .int p1, .int p2] : List Value).toArray below meth c H locs 0 0 (MQ below (va_Qi (fun (r : Int32) (_ : Unit) => r = res) (bW dC dI A [(q_t, .inr (10, [.ref q_t_text, .ref q_t_reader, .ref q_t_rules, .ref q_t_people, .ref q_t_memory, .ref q_t_rows, .ref q_t_chances, .ref q_t_moves, .ref q_t_payments, .ref q_t_evenings])), (q_t_payments, .inr (4, [.ref q_t_payments_last, .int r_v_t_payments_told])), (q_t_payments_last, .inl (cI, 9, .inl r_f_t_payments_last))]) A) ([.ref q_t, .int p1, .int p2] : List Value).toArray s 0 0 A) (F0 m 0 ls []) by rw [hHe, hLe] at hW; exact hW
  refine lv_iload_n hx hb dX10_pay_0 rfl (lv_at hl 1 rfl) ?_
  refine lv_if_lt (tgt := 21) hx hb dX10_pay_1 (by decide) (fun c1 => ?_) (fun c1 => ?_)
  · replace h := ite_t h c1
    refine lv_bipush (v := (-2 : Int32)) hx hb dX10_pay_21 (by decide) ?_
    replace h := Option.some.inj h
    obtain ⟨e1, e2, e3⟩ := pr3 h
    exact W.iret (v := (-2 : Int32)) hx hb hr (fun t ht hW => ⟨⟨_, (), rfl, e1, (by rw [ht, ← e2, ← e3]; exact hP), (by rw [← e2, ← e3]; exact hD)⟩, hS.F ht⟩) hS.2.2 dX10_pay_23
  replace h := ite_f h c1
  refine lv_iload_n hx hb dX10_pay_4 rfl (lv_at hl 1 rfl) ?_
  refine lv_bipush (v := (9 : Int32)) hx hb dX10_pay_5 (by decide) ?_
  refine lv_icmp_ge (tgt := 21) hx hb dX10_pay_7 (by decide) (fun c2 => ?_) (fun c2 => ?_)
  · replace h := ite_t h c2
    refine lv_bipush (v := (-2 : Int32)) hx hb dX10_pay_21 (by decide) ?_
    replace h := Option.some.inj h
    obtain ⟨e1, e2, e3⟩ := pr3 h
    exact W.iret (v := (-2 : Int32)) hx hb hr (fun t ht hW => ⟨⟨_, (), rfl, e1, (by rw [ht, ← e2, ← e3]; exact hP), (by rw [← e2, ← e3]; exact hD)⟩, hS.F ht⟩) hS.2.2 dX10_pay_23
  replace h := ite_f h c2
  refine lv_iload_n hx hb dX10_pay_10 rfl (lv_at hl 2 rfl) ?_
  refine lv_if_lt (tgt := 21) hx hb dX10_pay_11 (by decide) (fun c3 => ?_) (fun c3 => ?_)
  · replace h := ite_t h c3
    refine lv_bipush (v := (-2 : Int32)) hx hb dX10_pay_21 (by decide) ?_
    replace h := Option.some.inj h
    obtain ⟨e1, e2, e3⟩ := pr3 h
    exact W.iret (v := (-2 : Int32)) hx hb hr (fun t ht hW => ⟨⟨_, (), rfl, e1, (by rw [ht, ← e2, ← e3]; exact hP), (by rw [← e2, ← e3]; exact hD)⟩, hS.F ht⟩) hS.2.2 dX10_pay_23
  replace h := ite_f h c3
  refine lv_iload_n hx hb dX10_pay_14 rfl (lv_at hl 2 rfl) ?_
  refine lv_sipush (v := (999 : Int32)) hx hb dX10_pay_15 (by decide) ?_
  refine lv_icmp_le (tgt := 24) hx hb dX10_pay_18 (by decide) (fun c4 => ?_) (fun c4 => ?_)
  · replace h := ite_t h c4
    refine lv_aload_n hx hb dX10_pay_24 rfl (lv_at hl 0 rfl) ?_
    refine va_get (D := (dC, dI)) (ci := 10) (v := .ref q_t_payments) (C := RX10) (T := TX10) (N := 10) hx hb hts in_X10_pay_X10 hown hK hP 0 rfl rfl 8 (by decide) (hts (.fieldLink RX10 68 "RightIfAsMany" "payments" "LRightIfAsMany$Payments;") (List.mem_of_getElem? (i := 1) rfl)) (fun _ h9 => h9) rfl dX10_pay_25 ?_
    refine kRi (res := (X4_told v_t_payments_told)) (va_runV (As := []) (rest := []) ⟨hx, hb, hml, hown, hts⟩ (cn_X4_told l dC dI cI cJ cZ q_t_payments q_t_payments_last  v_t_payments_told  (X4_told v_t_payments_told) rfl) (cwV 0 hts gX10_pay_X4_told rfl rfl rfl (by decide +kernel) ⟨Nat.le_of_ble_eq_true rfl, Nat.le_of_ble_eq_true rfl⟩) (preR hKK (hP.sub (ws' := [(q_t_payments, .inr (4, [.ref q_t_payments_last, .int v_t_payments_told]))]) [1] rfl) (ci := 4) (q0 := 0) rfl rfl) rfl rfl hl.1 rfl (lv_room (Nat.le_of_ble_eq_true rfl)) dX10_pay_28 ⟨Nat.zero_le _, Nat.zero_le _⟩) ?_
    refine lv_bipush (v := (12 : Int32)) hx hb dX10_pay_31 (by decide) ?_
    refine lv_icmp_lt (tgt := 39) hx hb dX10_pay_33 (by decide) (fun c5 => ?_) (fun c5 => ?_)
    · replace h := ite_t h c5
      refine lv_aload_n hx hb dX10_pay_39 rfl (lv_at hl 0 rfl) ?_
      refine va_get (D := (dC, dI)) (ci := 10) (v := .ref q_t_payments) (C := RX10) (T := TX10) (N := 10) hx hb hts in_X10_pay_X10 hown hK hP 0 rfl rfl 8 (by decide) (hts (.fieldLink RX10 68 "RightIfAsMany" "payments" "LRightIfAsMany$Payments;") (List.mem_of_getElem? (i := 1) rfl)) (fun _ h9 => h9) rfl dX10_pay_40 ?_
      refine lv_iload_n hx hb dX10_pay_43 rfl (lv_at hl 1 rfl) ?_
      refine lv_iload_n hx hb dX10_pay_44 rfl (lv_at hl 2 rfl) ?_
      obtain ⟨w6_0, w6_1, hc6, h⟩ := bnd2_s h
      refine kWv (wc := [(q_t_payments, .inr (4, [.ref q_t_payments_last, .int v_t_payments_told])), (q_t_payments_last, .inl (cI, 9, .inl f_t_payments_last))]) (wr := [(q_t, .inr (10, [.ref q_t_text, .ref q_t_reader, .ref q_t_rules, .ref q_t_people, .ref q_t_memory, .ref q_t_rows, .ref q_t_chances, .ref q_t_moves, .ref q_t_payments, .ref q_t_evenings]))]) (w1 := [(q_t_payments, .inr (4, [.ref q_t_payments_last, .int w6_0])), (q_t_payments_last, .inl (cI, 9, .inl w6_1))]) (wn := [(q_t, .inr (10, [.ref q_t_text, .ref q_t_reader, .ref q_t_rules, .ref q_t_people, .ref q_t_memory, .ref q_t_rows, .ref q_t_chances, .ref q_t_moves, .ref q_t_payments, .ref q_t_evenings])), (q_t_payments, .inr (4, [.ref q_t_payments_last, .int w6_0])), (q_t_payments_last, .inl (cI, 9, .inl w6_1))]) hP hD hS hA [1, 2] [0] [0, 1, 2] rfl rfl (by decide) (by decide) rfl (by decide) (va_runV (As := [.int p1, .int p2]) (rest := []) ⟨hx, hb, hml, hown, hts⟩ (cn_X4_tell l dC dI cI cJ cZ q_t_payments q_t_payments_last H.size v_t_payments_told f_t_payments_last p1 p2 w6_0 w6_1 hc6) (cwV 2 hts gX10_pay_X4_tell rfl rfl rfl (by decide +kernel) ⟨Nat.le_of_ble_eq_true rfl, Nat.le_of_ble_eq_true rfl⟩) (preW hKK (hP.sub (ws' := [(q_t_payments, .inr (4, [.ref q_t_payments_last, .int v_t_payments_told])), (q_t_payments_last, .inl (cI, 9, .inl f_t_payments_last))]) [1, 2] rfl) (hD.sub (ws' := [(q_t_payments, .inr (4, [.ref q_t_payments_last, .int v_t_payments_told])), (q_t_payments_last, .inl (cI, 9, .inl f_t_payments_last))]) [1, 2] (by decide) rfl) (ci := 4) (q0 := 0) rfl rfl) rfl rfl hl.1 rfl (lv_room (Nat.le_of_ble_eq_true rfl)) dX10_pay_45 ⟨Nat.zero_le _, Nat.zero_le _⟩) (fun H locs hP hD hS => ?_)
      refine lv_aload_n hx hb dX10_pay_48 rfl (lv_at hl 0 rfl) ?_
      refine va_get (D := (dC, dI)) (ci := 10) (v := .ref q_t_payments) (C := RX10) (T := TX10) (N := 10) hx hb hts in_X10_pay_X10 hown hK hP 0 rfl rfl 8 (by decide) (hts (.fieldLink RX10 68 "RightIfAsMany" "payments" "LRightIfAsMany$Payments;") (List.mem_of_getElem? (i := 1) rfl)) (fun _ h9 => h9) rfl dX10_pay_49 ?_
      refine kRi (res := (X4_told w6_0)) (va_runV (As := []) (rest := []) ⟨hx, hb, hml, hown, hts⟩ (cn_X4_told l dC dI cI cJ cZ q_t_payments q_t_payments_last  w6_0  (X4_told w6_0) rfl) (cwV 0 hts gX10_pay_X4_told rfl rfl rfl (by decide +kernel) ⟨Nat.le_of_ble_eq_true rfl, Nat.le_of_ble_eq_true rfl⟩) (preR hKK (hP.sub (ws' := [(q_t_payments, .inr (4, [.ref q_t_payments_last, .int w6_0]))]) [1] rfl) (ci := 4) (q0 := 0) rfl rfl) rfl rfl hl.1 rfl (lv_room (Nat.le_of_ble_eq_true rfl)) dX10_pay_52 ⟨Nat.zero_le _, Nat.zero_le _⟩) ?_
      replace h := Option.some.inj h
      obtain ⟨e1, e2, e3⟩ := pr3 h
      exact W.iret (v := (X4_told w6_0)) hx hb hr (fun t ht hW => ⟨⟨_, (), rfl, e1, (by rw [ht, ← e2, ← e3]; exact hP), (by rw [← e2, ← e3]; exact hD)⟩, hS.F ht⟩) hS.2.2 dX10_pay_55
    replace h := ite_f h c5
    refine lv_bipush (v := (-4 : Int32)) hx hb dX10_pay_36 (by decide) ?_
    replace h := Option.some.inj h
    obtain ⟨e1, e2, e3⟩ := pr3 h
    exact W.iret (v := (-4 : Int32)) hx hb hr (fun t ht hW => ⟨⟨_, (), rfl, e1, (by rw [ht, ← e2, ← e3]; exact hP), (by rw [← e2, ← e3]; exact hD)⟩, hS.F ht⟩) hS.2.2 dX10_pay_38
  replace h := ite_f h c4
  refine lv_bipush (v := (-2 : Int32)) hx hb dX10_pay_21 (by decide) ?_
  replace h := Option.some.inj h
  obtain ⟨e1, e2, e3⟩ := pr3 h
  exact W.iret (v := (-2 : Int32)) hx hb hr (fun t ht hW => ⟨⟨_, (), rfl, e1, (by rw [ht, ← e2, ← e3]; exact hP), (by rw [← e2, ← e3]; exact hD)⟩, hS.F ht⟩) hS.2.2 dX10_pay_23
abbrev rm_X4_clear : Room := { frames := 1, cells := 0, slots := 0, locals := 23 }
theorem in_X4_clear_X4 : ∀ w ∈ wsX40, w ∈ wsX4_clear := fun _ h => List.mem_cons_of_mem _ (List.mem_append_right _ h)
set_option maxHeartbeats 4000000 in
set_option maxRecDepth 100000 in
theorem cn_X4_clear (l : Launch) (dC : Nat → ClassId) (dI : Nat → Nat → Nat) (cI cJ cZ : ClassId) (q_t q_t_last : Nat) (sz : Nat) (v_t_told : Int32) (f_t_last : (Nat → Int32)) (r_v_t_told : Int32) (r_f_t_last : (Nat → Int32)) (h : X4_clear v_t_told f_t_last = some (r_v_t_told, r_f_t_last)) : Met l yX4_clear wsX4_clear rm_X4_clear (pcW dC dI cI cJ cZ [(q_t, .inr (4, [.ref q_t_last, .int v_t_told])), (q_t_last, .inl (cI, 9, .inl f_t_last))] sz [.ref q_t]) (va_Qv (fun (_ : Unit) => True) (bW dC dI (va_A [(q_t, .inr (4, [.ref q_t_last, .int v_t_told])), (q_t_last, .inl (cI, 9, .inl f_t_last))] sz) [(q_t, .inr (4, [.ref q_t_last, .int r_v_t_told])), (q_t_last, .inl (cI, 9, .inl r_f_t_last))]) (va_A [(q_t, .inr (4, [.ref q_t_last, .int v_t_told])), (q_t_last, .inl (cI, 9, .inl f_t_last))] sz)) 0 0 (va_A [(q_t, .inr (4, [.ref q_t_last, .int v_t_told])), (q_t_last, .inl (cI, 9, .inl f_t_last))] sz) := by
  refine Met.ofW (cc := cX4_clear) (maxL := 1) (ret := none) (by decide) rfl ?_
  intro p e s m args below meth c s₁ B hml hv
  obtain ⟨rfl, hsz, hP, hKK, hD0⟩ := hv
  have hx := B.exec
  have hb := B.bytes
  have hr := B.returns
  have hts := atoms_spec (ws := wsX4_clear) B.pre
  have hown : s.vm.findClass RX4 = some m.cls := findClass_of_methodNamed B.named
  have hlocks := B.notSynchronized
  have hK := hKK.1
  subst hsz
  have hD := hD0.self (sz := s.heap.size)
  generalize hAe : va_A [(q_t, .inr (4, [.ref q_t_last, .int v_t_told])), (q_t_last, .inl (cI, 9, .inl f_t_last))] s.heap.size = A at hD ⊢
  have hA : ∀ q : Nat, s.heap.size ≤ q → A q := fun q h => by rw [← hAe]; exact Or.inr h
  have hS : va_S A s.heap s.heap [] := va_S.rf
  have hl := lv_entry ([.ref q_t]) (n := 1) (Nat.le_of_ble_eq_true rfl)
  rw [lg_entry_eq]
  generalize (lg_sl ([.ref q_t]) ++ List.replicate (1 - (lg_sl ([.ref q_t])).length) Slot.unset).toArray = ls at hl ⊢
  have hl : lv_has ls 1 [(0, .ref q_t)] := hl
  unfold X4_clear at h
  obtain ⟨H, hHe⟩ : ∃ H, H = s.heap := ⟨_, rfl⟩
  obtain ⟨locs, hLe⟩ : ∃ x : List Loc, x = [] := ⟨_, rfl⟩
  rw [← hHe] at hP
  have hS : va_S A s.heap H locs := by rw [hHe, hLe]; exact hS
  suffices hW : W p l e (headSpec wsX4_clear rm_X4_clear).room s m ([.ref q_t] : List Value).toArray below meth c H locs 0 0 (MQ below (va_Qv (fun (_ : Unit) => True) (bW dC dI A [(q_t, .inr (4, [.ref q_t_last, .int r_v_t_told])), (q_t_last, .inl (cI, 9, .inl r_f_t_last))]) A) ([.ref q_t] : List Value).toArray s 0 0 A) (F0 m 0 ls []) by rw [hHe, hLe] at hW; exact hW
  refine lv_aload_n hx hb dX4_clear_0 rfl (lv_at hl 0 rfl) ?_
  refine va_get (D := (dC, dI)) (ci := 4) (v := .ref q_t_last) (C := RX4) (T := TX4) (N := 2) hx hb hts in_X4_clear_X4 hown hK hP 0 rfl rfl 0 (by decide) (hts (.fieldLink RX4 9 "RightIfAsMany$Payments" "last" "[I") (List.mem_of_getElem? (i := 1) rfl)) (fun _ h9 => h9) rfl dX4_clear_1 ?_
  refine lv_bipush (v := (-9 : Int32)) hx hb dX4_clear_4 (by decide) ?_
  refine kWv (wc := [(q_t_last, .inl (cI, 9, .inl f_t_last))]) (wr := [(q_t, .inr (4, [.ref q_t_last, .int v_t_told]))]) (w1 := [(q_t_last, .inl (cI, 9, .inl (fillI 9 f_t_last (-9 : Int32))))]) (wn := [(q_t, .inr (4, [.ref q_t_last, .int v_t_told])), (q_t_last, .inl (cI, 9, .inl (fillI 9 f_t_last (-9 : Int32))))]) hP hD hS hA [1] [0] [0, 1] rfl rfl (by decide) (by decide) rfl (by decide) (va_runS (As := [.ref q_t_last, .int (-9 : Int32)]) (rest := []) ⟨hx, hb, hml, hown, hts⟩ (cn_J7_fill_53178 l dC dI cI cJ cZ q_t_last 9 H.size f_t_last (-9 : Int32) (by decide)) (va_cwS 2 hts gX4_clear_J7_fill_53178 rfl rfl rfl (by decide +kernel) ⟨Nat.le_of_ble_eq_true rfl, Nat.le_of_ble_eq_true rfl⟩) (preWS hKK (hP.sub (ws' := [(q_t_last, .inl (cI, 9, .inl f_t_last))]) [1] rfl) (hD.sub (ws' := [(q_t_last, .inl (cI, 9, .inl f_t_last))]) [1] (by decide) rfl)) rfl rfl hl.1 rfl (lv_room (Nat.le_of_ble_eq_true rfl)) dX4_clear_6 ⟨Nat.zero_le _, Nat.zero_le _⟩) (fun H locs hP hD hS => ?_)
  refine lv_aload_n hx hb dX4_clear_9 rfl (lv_at hl 0 rfl) ?_
  refine lv_iconst (v := (0 : Int32)) hx hb dX4_clear_10 (by decide) ?_
  refine va_put (D := (dC, dI)) (ci := 4) (v := .int (0 : Int32)) (ty := .int) (C := RX4) (T := TX4) (N := 2) hx hb hts in_X4_clear_X4 tyX4 tyX4_ok nmX4 hown hK hP hD hS 0 rfl rfl 1 (by decide) (hts (.fieldLink RX4 15 "RightIfAsMany$Payments" "told" "I") (List.mem_of_getElem? (i := 2) rfl)) (fun _ h9 => h9) rfl (by decide +kernel) rfl rfl (Nat.le_of_ble_eq_true rfl) dX4_clear_11 (fun H locs hP hD hS => ?_)
  have hP : va_P (dC, dI) vwCl [(q_t, .inr (4, [.ref q_t_last, .int (0 : Int32)])), (q_t_last, .inl (cI, 9, .inl (fillI 9 f_t_last (-9 : Int32))))] H := hP
  have hD : va_D A [(q_t, .inr (4, [.ref q_t_last, .int (0 : Int32)])), (q_t_last, .inl (cI, 9, .inl (fillI 9 f_t_last (-9 : Int32))))] := hD
  replace h := Option.some.inj h
  obtain ⟨e1, e2⟩ := pr2 h
  exact W.vret hx hb hr (fun t ht hW => ⟨⟨(), rfl, trivial, (by rw [ht, ← e1, ← e2]; exact hP), (by rw [← e1, ← e2]; exact hD)⟩, hS.F ht⟩) hS.2.2 dX4_clear_14
abbrev rm_X10_unpay : Room := { frames := 2, cells := 0, slots := 0, locals := 43 }
theorem in_X10_unpay_X4 : ∀ w ∈ wsX40, w ∈ wsX10_unpay := fun _ h => List.mem_cons_of_mem _ (List.mem_append_right _ h)
theorem in_X10_unpay_X10 : ∀ w ∈ wsX100, w ∈ wsX10_unpay := fun _ h => List.mem_cons_of_mem _ (List.mem_append_left _ (List.mem_append_right _ h))
set_option maxHeartbeats 4000000 in
set_option maxRecDepth 100000 in
theorem cn_X10_unpay (l : Launch) (dC : Nat → ClassId) (dI : Nat → Nat → Nat) (cI cJ cZ : ClassId) (q_t q_t_text q_t_reader q_t_rules q_t_people q_t_memory q_t_rows q_t_chances q_t_moves q_t_payments q_t_evenings q_t_payments_last : Nat) (sz : Nat) (v_t_payments_told : Int32) (f_t_payments_last : (Nat → Int32)) (res : Int32) (r_v_t_payments_told : Int32) (r_f_t_payments_last : (Nat → Int32)) (h : X10_unpay v_t_payments_told f_t_payments_last = some (res, r_v_t_payments_told, r_f_t_payments_last)) : Met l yX10_unpay wsX10_unpay rm_X10_unpay (pcW dC dI cI cJ cZ [(q_t, .inr (10, [.ref q_t_text, .ref q_t_reader, .ref q_t_rules, .ref q_t_people, .ref q_t_memory, .ref q_t_rows, .ref q_t_chances, .ref q_t_moves, .ref q_t_payments, .ref q_t_evenings])), (q_t_payments, .inr (4, [.ref q_t_payments_last, .int v_t_payments_told])), (q_t_payments_last, .inl (cI, 9, .inl f_t_payments_last))] sz [.ref q_t]) (va_Qi (fun (r : Int32) (_ : Unit) => r = res) (bW dC dI (va_A [(q_t, .inr (10, [.ref q_t_text, .ref q_t_reader, .ref q_t_rules, .ref q_t_people, .ref q_t_memory, .ref q_t_rows, .ref q_t_chances, .ref q_t_moves, .ref q_t_payments, .ref q_t_evenings])), (q_t_payments, .inr (4, [.ref q_t_payments_last, .int v_t_payments_told])), (q_t_payments_last, .inl (cI, 9, .inl f_t_payments_last))] sz) [(q_t, .inr (10, [.ref q_t_text, .ref q_t_reader, .ref q_t_rules, .ref q_t_people, .ref q_t_memory, .ref q_t_rows, .ref q_t_chances, .ref q_t_moves, .ref q_t_payments, .ref q_t_evenings])), (q_t_payments, .inr (4, [.ref q_t_payments_last, .int r_v_t_payments_told])), (q_t_payments_last, .inl (cI, 9, .inl r_f_t_payments_last))]) (va_A [(q_t, .inr (10, [.ref q_t_text, .ref q_t_reader, .ref q_t_rules, .ref q_t_people, .ref q_t_memory, .ref q_t_rows, .ref q_t_chances, .ref q_t_moves, .ref q_t_payments, .ref q_t_evenings])), (q_t_payments, .inr (4, [.ref q_t_payments_last, .int v_t_payments_told])), (q_t_payments_last, .inl (cI, 9, .inl f_t_payments_last))] sz)) 0 0 (va_A [(q_t, .inr (10, [.ref q_t_text, .ref q_t_reader, .ref q_t_rules, .ref q_t_people, .ref q_t_memory, .ref q_t_rows, .ref q_t_chances, .ref q_t_moves, .ref q_t_payments, .ref q_t_evenings])), (q_t_payments, .inr (4, [.ref q_t_payments_last, .int v_t_payments_told])), (q_t_payments_last, .inl (cI, 9, .inl f_t_payments_last))] sz) := by
  refine Met.ofW (cc := cX10_unpay) (maxL := 2) (ret := (some .int)) (by decide) rfl ?_
  intro p e s m args below meth c s₁ B hml hv
  obtain ⟨rfl, hsz, hP, hKK, hD0⟩ := hv
  have hx := B.exec
  have hb := B.bytes
  have hr := B.returns
  have hts := atoms_spec (ws := wsX10_unpay) B.pre
  have hown : s.vm.findClass RX10 = some m.cls := findClass_of_methodNamed B.named
  have hlocks := B.notSynchronized
  have hK := hKK.1
  subst hsz
  have hD := hD0.self (sz := s.heap.size)
  generalize hAe : va_A [(q_t, .inr (10, [.ref q_t_text, .ref q_t_reader, .ref q_t_rules, .ref q_t_people, .ref q_t_memory, .ref q_t_rows, .ref q_t_chances, .ref q_t_moves, .ref q_t_payments, .ref q_t_evenings])), (q_t_payments, .inr (4, [.ref q_t_payments_last, .int v_t_payments_told])), (q_t_payments_last, .inl (cI, 9, .inl f_t_payments_last))] s.heap.size = A at hD ⊢
  have hA : ∀ q : Nat, s.heap.size ≤ q → A q := fun q h => by rw [← hAe]; exact Or.inr h
  have hS : va_S A s.heap s.heap [] := va_S.rf
  have hl := lv_entry ([.ref q_t]) (n := 2) (Nat.le_of_ble_eq_true rfl)
  rw [lg_entry_eq]
  generalize (lg_sl ([.ref q_t]) ++ List.replicate (2 - (lg_sl ([.ref q_t])).length) Slot.unset).toArray = ls at hl ⊢
  have hl : lv_has ls 2 [(0, .ref q_t)] := hl
  unfold X10_unpay at h
  obtain ⟨H, hHe⟩ : ∃ H, H = s.heap := ⟨_, rfl⟩
  obtain ⟨locs, hLe⟩ : ∃ x : List Loc, x = [] := ⟨_, rfl⟩
  rw [← hHe] at hP
  have hS : va_S A s.heap H locs := by rw [hHe, hLe]; exact hS
  suffices hW : W p l e (headSpec wsX10_unpay rm_X10_unpay).room s m ([.ref q_t] : List Value).toArray below meth c H locs 0 0 (MQ below (va_Qi (fun (r : Int32) (_ : Unit) => r = res) (bW dC dI A [(q_t, .inr (10, [.ref q_t_text, .ref q_t_reader, .ref q_t_rules, .ref q_t_people, .ref q_t_memory, .ref q_t_rows, .ref q_t_chances, .ref q_t_moves, .ref q_t_payments, .ref q_t_evenings])), (q_t_payments, .inr (4, [.ref q_t_payments_last, .int r_v_t_payments_told])), (q_t_payments_last, .inl (cI, 9, .inl r_f_t_payments_last))]) A) ([.ref q_t] : List Value).toArray s 0 0 A) (F0 m 0 ls []) by rw [hHe, hLe] at hW; exact hW
  refine lv_aload_n hx hb dX10_unpay_0 rfl (lv_at hl 0 rfl) ?_
  refine va_get (D := (dC, dI)) (ci := 10) (v := .ref q_t_payments) (C := RX10) (T := TX10) (N := 10) hx hb hts in_X10_unpay_X10 hown hK hP 0 rfl rfl 8 (by decide) (hts (.fieldLink RX10 68 "RightIfAsMany" "payments" "LRightIfAsMany$Payments;") (List.mem_of_getElem? (i := 1) rfl)) (fun _ h9 => h9) rfl dX10_unpay_1 ?_
  refine kRi (res := (X4_told v_t_payments_told)) (va_runV (As := []) (rest := []) ⟨hx, hb, hml, hown, hts⟩ (cn_X4_told l dC dI cI cJ cZ q_t_payments q_t_payments_last  v_t_payments_told  (X4_told v_t_payments_told) rfl) (cwV 0 hts gX10_unpay_X4_told rfl rfl rfl (by decide +kernel) ⟨Nat.le_of_ble_eq_true rfl, Nat.le_of_ble_eq_true rfl⟩) (preR hKK (hP.sub (ws' := [(q_t_payments, .inr (4, [.ref q_t_payments_last, .int v_t_payments_told]))]) [1] rfl) (ci := 4) (q0 := 0) rfl rfl) rfl rfl hl.1 rfl (lv_room (Nat.le_of_ble_eq_true rfl)) dX10_unpay_4 ⟨Nat.zero_le _, Nat.zero_le _⟩) ?_
  refine lv_istore_n (lv' := [(1, .int (X4_told v_t_payments_told)), (0, .ref q_t)]) hx hb dX10_unpay_7 rfl hl (by decide) rfl (fun ls hl => ?_)
  refine lv_aload_n hx hb dX10_unpay_8 rfl (lv_at hl 1 rfl) ?_
  refine va_get (D := (dC, dI)) (ci := 10) (v := .ref q_t_payments) (C := RX10) (T := TX10) (N := 10) hx hb hts in_X10_unpay_X10 hown hK hP 0 rfl rfl 8 (by decide) (hts (.fieldLink RX10 68 "RightIfAsMany" "payments" "LRightIfAsMany$Payments;") (List.mem_of_getElem? (i := 1) rfl)) (fun _ h9 => h9) rfl dX10_unpay_9 ?_
  obtain ⟨w1_0, w1_1, hc1, h⟩ := bnd2_s h
  refine kWv (wc := [(q_t_payments, .inr (4, [.ref q_t_payments_last, .int v_t_payments_told])), (q_t_payments_last, .inl (cI, 9, .inl f_t_payments_last))]) (wr := [(q_t, .inr (10, [.ref q_t_text, .ref q_t_reader, .ref q_t_rules, .ref q_t_people, .ref q_t_memory, .ref q_t_rows, .ref q_t_chances, .ref q_t_moves, .ref q_t_payments, .ref q_t_evenings]))]) (w1 := [(q_t_payments, .inr (4, [.ref q_t_payments_last, .int w1_0])), (q_t_payments_last, .inl (cI, 9, .inl w1_1))]) (wn := [(q_t, .inr (10, [.ref q_t_text, .ref q_t_reader, .ref q_t_rules, .ref q_t_people, .ref q_t_memory, .ref q_t_rows, .ref q_t_chances, .ref q_t_moves, .ref q_t_payments, .ref q_t_evenings])), (q_t_payments, .inr (4, [.ref q_t_payments_last, .int w1_0])), (q_t_payments_last, .inl (cI, 9, .inl w1_1))]) hP hD hS hA [1, 2] [0] [0, 1, 2] rfl rfl (by decide) (by decide) rfl (by decide) (va_runV (As := []) (rest := []) ⟨hx, hb, hml, hown, hts⟩ (cn_X4_clear l dC dI cI cJ cZ q_t_payments q_t_payments_last H.size v_t_payments_told f_t_payments_last  w1_0 w1_1 hc1) (cwV 0 hts gX10_unpay_X4_clear rfl rfl rfl (by decide +kernel) ⟨Nat.le_of_ble_eq_true rfl, Nat.le_of_ble_eq_true rfl⟩) (preW hKK (hP.sub (ws' := [(q_t_payments, .inr (4, [.ref q_t_payments_last, .int v_t_payments_told])), (q_t_payments_last, .inl (cI, 9, .inl f_t_payments_last))]) [1, 2] rfl) (hD.sub (ws' := [(q_t_payments, .inr (4, [.ref q_t_payments_last, .int v_t_payments_told])), (q_t_payments_last, .inl (cI, 9, .inl f_t_payments_last))]) [1, 2] (by decide) rfl) (ci := 4) (q0 := 0) rfl rfl) rfl rfl hl.1 rfl (lv_room (Nat.le_of_ble_eq_true rfl)) dX10_unpay_12 ⟨Nat.zero_le _, Nat.zero_le _⟩) (fun H locs hP hD hS => ?_)
  refine lv_iload_n hx hb dX10_unpay_15 rfl (lv_at hl 0 rfl) ?_
  replace h := Option.some.inj h
  obtain ⟨e1, e2, e3⟩ := pr3 h
  exact W.iret (v := (X4_told v_t_payments_told)) hx hb hr (fun t ht hW => ⟨⟨_, (), rfl, e1, (by rw [ht, ← e2, ← e3]; exact hP), (by rw [← e2, ← e3]; exact hD)⟩, hS.F ht⟩) hS.2.2 dX10_unpay_16
abbrev rm_X4_differs : Room := { frames := 0, cells := 0, slots := 0, locals := 0 }
theorem in_X4_differs_X4 : ∀ w ∈ wsX40, w ∈ wsX4_differs := fun _ h => List.mem_cons_of_mem _ (List.mem_append_right _ h)
set_option maxHeartbeats 4000000 in
set_option maxRecDepth 100000 in
theorem cn_X4_differs (l : Launch) (dC : Nat → ClassId) (dI : Nat → Nat → Nat) (cI cJ cZ : ClassId) (q_t q_t_last : Nat) (v_t_told : Int32) (f_t_last : (Nat → Int32)) (p1 : Int32) (p2 : Int32) (res : Int32) (h : X4_differs f_t_last p1 p2 = some res) : Met l yX4_differs wsX4_differs rm_X4_differs (pcR dC dI cI cJ cZ [(q_t, .inr (4, [.ref q_t_last, .int v_t_told])), (q_t_last, .inl (cI, 9, .inl f_t_last))] [.ref q_t, .int p1, .int p2]) (vp_Si (fun r => r = res ∧ r &&& 1 = r)) 0 0 (fun _ => False) := by
  refine Met.ofW (cc := cX4_differs) (maxL := 3) (ret := (some .boolean)) (by decide) rfl ?_
  intro p e s m args below meth c s₁ B hml hv
  obtain ⟨rfl, hP, hKK⟩ := hv
  have hx := B.exec
  have hb := B.bytes
  have hr := B.returns
  have hts := atoms_spec (ws := wsX4_differs) B.pre
  have hown : s.vm.findClass RX4 = some m.cls := findClass_of_methodNamed B.named
  have hlocks := B.notSynchronized
  have hK := hKK.1
  have hl := lv_entry ([.ref q_t, .int p1, .int p2]) (n := 3) (Nat.le_of_ble_eq_true rfl)
  rw [lg_entry_eq]
  generalize (lg_sl ([.ref q_t, .int p1, .int p2]) ++ List.replicate (3 - (lg_sl ([.ref q_t, .int p1, .int p2])).length) Slot.unset).toArray = ls at hl ⊢
  have hl : lv_has ls 3 [(0, .ref q_t), (1, .int p1), (2, .int p2)] := hl
  unfold X4_differs at h
  refine lv_iload_n hx hb dX4_differs_0 rfl (lv_at hl 1 rfl) ?_
  refine lv_if_lt (tgt := 38) hx hb dX4_differs_1 (by decide) (fun c1 => ?_) (fun c1 => ?_)
  · replace h := ite_t h c1
    refine lv_iconst (v := (0 : Int32)) hx hb dX4_differs_38 (by decide) ?_
    have e1 := Option.some.inj h
    exact W.zret (v := (0 : Int32)) (ty := .boolean) hx hb hr (congrArg Value.int rfl) (fun t ht hW => ⟨_, rfl, ⟨e1, rfl⟩, ht⟩) (fun q hq => by cases hq) dX4_differs_39
  replace h := ite_f h c1
  refine lv_iload_n hx hb dX4_differs_4 rfl (lv_at hl 1 rfl) ?_
  refine lv_aload_n hx hb dX4_differs_5 rfl (lv_at hl 0 rfl) ?_
  refine va_get (D := (dC, dI)) (ci := 4) (v := .ref q_t_last) (C := RX4) (T := TX4) (N := 2) hx hb hts in_X4_differs_X4 hown hK hP 0 rfl rfl 0 (by decide) (hts (.fieldLink RX4 9 "RightIfAsMany$Payments" "last" "[I") (List.mem_of_getElem? (i := 1) rfl)) (fun _ h9 => h9) rfl dX4_differs_6 ?_
  refine va_alen (v := (9 : Int32)) hx hb hK hP 1 0 rfl rfl (show Int32.ofNat 9 = 9 by decide) dX4_differs_9 ?_
  refine lv_icmp_ge (tgt := 38) hx hb dX4_differs_10 (by decide) (fun c2 => ?_) (fun c2 => ?_)
  · replace h := ite_t h c2
    refine lv_iconst (v := (0 : Int32)) hx hb dX4_differs_38 (by decide) ?_
    have e1 := Option.some.inj h
    exact W.zret (v := (0 : Int32)) (ty := .boolean) hx hb hr (congrArg Value.int rfl) (fun t ht hW => ⟨_, rfl, ⟨e1, rfl⟩, ht⟩) (fun q hq => by cases hq) dX4_differs_39
  replace h := ite_f h c2
  refine lv_aload_n hx hb dX4_differs_13 rfl (lv_at hl 0 rfl) ?_
  refine va_get (D := (dC, dI)) (ci := 4) (v := .ref q_t_last) (C := RX4) (T := TX4) (N := 2) hx hb hts in_X4_differs_X4 hown hK hP 0 rfl rfl 0 (by decide) (hts (.fieldLink RX4 9 "RightIfAsMany$Payments" "last" "[I") (List.mem_of_getElem? (i := 1) rfl)) (fun _ h9 => h9) rfl dX4_differs_14 ?_
  refine lv_iload_n hx hb dX4_differs_17 rfl (lv_at hl 1 rfl) ?_
  obtain ⟨hg3, h⟩ := grd_s h
  refine va_iald hx hb hK hP 1 0 rfl rfl hg3 dX4_differs_18 ?_
  refine lv_bipush (v := (-9 : Int32)) hx hb dX4_differs_19 (by decide) ?_
  refine lv_icmp_eq (tgt := 38) hx hb dX4_differs_21 (by decide) (fun c4 => ?_) (fun c4 => ?_)
  · replace h := ite_t h c4
    refine lv_iconst (v := (0 : Int32)) hx hb dX4_differs_38 (by decide) ?_
    have e1 := Option.some.inj h
    exact W.zret (v := (0 : Int32)) (ty := .boolean) hx hb hr (congrArg Value.int rfl) (fun t ht hW => ⟨_, rfl, ⟨e1, rfl⟩, ht⟩) (fun q hq => by cases hq) dX4_differs_39
  replace h := ite_f h c4
  refine lv_aload_n hx hb dX4_differs_24 rfl (lv_at hl 0 rfl) ?_
  refine va_get (D := (dC, dI)) (ci := 4) (v := .ref q_t_last) (C := RX4) (T := TX4) (N := 2) hx hb hts in_X4_differs_X4 hown hK hP 0 rfl rfl 0 (by decide) (hts (.fieldLink RX4 9 "RightIfAsMany$Payments" "last" "[I") (List.mem_of_getElem? (i := 1) rfl)) (fun _ h9 => h9) rfl dX4_differs_25 ?_
  refine lv_iload_n hx hb dX4_differs_28 rfl (lv_at hl 1 rfl) ?_
  obtain ⟨hg5, h⟩ := grd_s h
  refine va_iald hx hb hK hP 1 0 rfl rfl hg5 dX4_differs_29 ?_
  refine lv_iload_n hx hb dX4_differs_30 rfl (lv_at hl 2 rfl) ?_
  refine lv_icmp_eq (tgt := 38) hx hb dX4_differs_31 (by decide) (fun c6 => ?_) (fun c6 => ?_)
  · replace h := ite_t h c6
    refine lv_iconst (v := (0 : Int32)) hx hb dX4_differs_38 (by decide) ?_
    have e1 := Option.some.inj h
    exact W.zret (v := (0 : Int32)) (ty := .boolean) hx hb hr (congrArg Value.int rfl) (fun t ht hW => ⟨_, rfl, ⟨e1, rfl⟩, ht⟩) (fun q hq => by cases hq) dX4_differs_39
  replace h := ite_f h c6
  refine lv_iconst (v := (1 : Int32)) hx hb dX4_differs_34 (by decide) ?_
  refine lv_goto (tgt := 39) hx hb dX4_differs_35 (by decide) ?_
  have e1 := Option.some.inj h
  exact W.zret (v := (1 : Int32)) (ty := .boolean) hx hb hr (congrArg Value.int rfl) (fun t ht hW => ⟨_, rfl, ⟨e1, rfl⟩, ht⟩) (fun q hq => by cases hq) dX4_differs_39
abbrev rm_X10_cheated : Room := { frames := 4, cells := 0, slots := 0, locals := 89 }
theorem in_X10_cheated_X4 : ∀ w ∈ wsX40, w ∈ wsX10_cheated := fun _ h => List.mem_cons_of_mem _ (List.mem_append_right _ h)
theorem in_X10_cheated_X8 : ∀ w ∈ wsX80, w ∈ wsX10_cheated := fun _ h => List.mem_cons_of_mem _ (List.mem_append_left _ (List.mem_append_right _ h))
theorem in_X10_cheated_X5 : ∀ w ∈ wsX50, w ∈ wsX10_cheated := fun _ h => List.mem_cons_of_mem _ (List.mem_append_left _ (List.mem_append_left _ (List.mem_append_right _ h)))
theorem in_X10_cheated_X10 : ∀ w ∈ wsX100, w ∈ wsX10_cheated := fun _ h => List.mem_cons_of_mem _ (List.mem_append_left _ (List.mem_append_left _ (List.mem_append_left _ (List.mem_append_right _ h))))
set_option maxHeartbeats 4000000 in
set_option maxRecDepth 100000 in
theorem cn_X10_cheated (l : Launch) (dC : Nat → ClassId) (dI : Nat → Nat → Nat) (cI cJ cZ : ClassId) (q_t q_t_text q_t_reader q_t_rules q_t_people q_t_memory q_t_rows q_t_chances q_t_moves q_t_payments q_t_evenings q_t_people_numbers q_t_people_counts q_t_payments_last : Nat) (v_t_rules_law : Int32) (v_t_rules_share : Int32) (v_t_rules_pot : Int32) (v_t_rules_barred : Int32) (v_t_people_size : Int32) (f_t_people_numbers : (Nat → Int32)) (f_t_people_counts : (Nat → Int32)) (v_t_payments_told : Int32) (f_t_payments_last : (Nat → Int32)) (res : Int32) (h : X10_cheated v_t_rules_law v_t_rules_share v_t_rules_pot v_t_people_size f_t_people_numbers f_t_people_counts f_t_payments_last = some res) : Met l yX10_cheated wsX10_cheated rm_X10_cheated (pcR dC dI cI cJ cZ [(q_t, .inr (10, [.ref q_t_text, .ref q_t_reader, .ref q_t_rules, .ref q_t_people, .ref q_t_memory, .ref q_t_rows, .ref q_t_chances, .ref q_t_moves, .ref q_t_payments, .ref q_t_evenings])), (q_t_rules, .inr (8, [.int v_t_rules_law, .int v_t_rules_share, .int v_t_rules_pot, .int v_t_rules_barred])), (q_t_people, .inr (5, [.ref q_t_people_numbers, .ref q_t_people_counts, .int v_t_people_size])), (q_t_people_numbers, .inl (cI, 9, .inl f_t_people_numbers)), (q_t_people_counts, .inl (cI, 10, .inl f_t_people_counts)), (q_t_payments, .inr (4, [.ref q_t_payments_last, .int v_t_payments_told])), (q_t_payments_last, .inl (cI, 9, .inl f_t_payments_last))] [.ref q_t]) (vp_Si (fun r => r = res)) 0 0 (fun _ => False) := by
  refine Met.ofW (cc := cX10_cheated) (maxL := 2) (ret := (some .int)) (by decide) rfl ?_
  intro p e s m args below meth c s₁ B hml hv
  obtain ⟨rfl, hP, hKK⟩ := hv
  have hx := B.exec
  have hb := B.bytes
  have hr := B.returns
  have hts := atoms_spec (ws := wsX10_cheated) B.pre
  have hown : s.vm.findClass RX10 = some m.cls := findClass_of_methodNamed B.named
  have hlocks := B.notSynchronized
  have hK := hKK.1
  have hl := lv_entry ([.ref q_t]) (n := 2) (Nat.le_of_ble_eq_true rfl)
  rw [lg_entry_eq]
  generalize (lg_sl ([.ref q_t]) ++ List.replicate (2 - (lg_sl ([.ref q_t])).length) Slot.unset).toArray = ls at hl ⊢
  have hl : lv_has ls 2 [(0, .ref q_t)] := hl
  have L_2 : ∀ (n2 : Nat) , ∀  (x1 : Int32), X10_cheated_b2 n2 v_t_rules_law v_t_rules_share v_t_rules_pot v_t_people_size f_t_people_numbers f_t_people_counts f_t_payments_last x1 = some res → ∀ (ls : Array Slot), lv_has ls 2 [(0, .ref q_t), (1, .int x1)] → W p l e (headSpec wsX10_cheated rm_X10_cheated).room s m ([.ref q_t] : List Value).toArray below meth c s.heap [] 0 0 (MQ below (vp_Si (fun r => r = res)) ([.ref q_t] : List Value).toArray s 0 0 (fun _ => False)) (F0 m 2 ls []) := by
    intro n2
    induction n2 with
    | zero => intro x1 h ls hl; exact absurd h (fun h => by cases h)
    | succ n2 ih_2 =>
      intro x1 h ls hl
      replace h : X10_cheated_b2_s (X10_cheated_b2 n2) v_t_rules_law v_t_rules_share v_t_rules_pot v_t_people_size f_t_people_numbers f_t_people_counts f_t_payments_last x1 = some res := h
      unfold X10_cheated_b2_s at h
      refine lv_iload_n hx hb dX10_cheated_2 rfl (lv_at hl 1 rfl) ?_
      refine lv_aload_n hx hb dX10_cheated_3 rfl (lv_at hl 0 rfl) ?_
      refine va_get (D := (dC, dI)) (ci := 10) (v := .ref q_t_people) (C := RX10) (T := TX10) (N := 10) hx hb hts in_X10_cheated_X10 hown hK hP 0 rfl rfl 3 (by decide) (hts (.fieldLink RX10 33 "RightIfAsMany" "people" "LRightIfAsMany$People;") (List.mem_of_getElem? (i := 1) rfl)) (fun _ h9 => h9) rfl dX10_cheated_4 ?_
      refine kRi (res := (X5_size v_t_people_size)) (va_runV (As := []) (rest := [.int x1]) ⟨hx, hb, hml, hown, hts⟩ (cn_X5_size l dC dI cI cJ cZ q_t_people q_t_people_numbers q_t_people_counts  v_t_people_size  (X5_size v_t_people_size) rfl) (cwV 0 hts gX10_cheated_X5_size rfl rfl rfl (by decide +kernel) ⟨Nat.le_of_ble_eq_true rfl, Nat.le_of_ble_eq_true rfl⟩) (preR hKK (hP.sub (ws' := [(q_t_people, .inr (5, [.ref q_t_people_numbers, .ref q_t_people_counts, .int v_t_people_size]))]) [2] rfl) (ci := 5) (q0 := 0) rfl rfl) rfl rfl hl.1 rfl (lv_room (Nat.le_of_ble_eq_true rfl)) dX10_cheated_7 ⟨Nat.zero_le _, Nat.zero_le _⟩) ?_
      refine lv_icmp_ge (tgt := 37) hx hb dX10_cheated_10 (by decide) (fun c1 => ?_) (fun c1 => ?_)
      · replace h := ite_t h c1
        refine lv_bipush (v := (-9 : Int32)) hx hb dX10_cheated_37 (by decide) ?_
        have e1 := Option.some.inj h
        exact W.iret (v := (-9 : Int32)) hx hb hr (fun t ht hW => ⟨_, rfl, e1, ht⟩) (fun q hq => by cases hq) dX10_cheated_39
      replace h := ite_f h c1
      refine lv_aload_n hx hb dX10_cheated_13 rfl (lv_at hl 0 rfl) ?_
      refine va_get (D := (dC, dI)) (ci := 10) (v := .ref q_t_payments) (C := RX10) (T := TX10) (N := 10) hx hb hts in_X10_cheated_X10 hown hK hP 0 rfl rfl 8 (by decide) (hts (.fieldLink RX10 68 "RightIfAsMany" "payments" "LRightIfAsMany$Payments;") (List.mem_of_getElem? (i := 2) rfl)) (fun _ h9 => h9) rfl dX10_cheated_14 ?_
      refine lv_iload_n hx hb dX10_cheated_17 rfl (lv_at hl 1 rfl) ?_
      refine lv_aload_n hx hb dX10_cheated_18 rfl (lv_at hl 0 rfl) ?_
      refine lv_iload_n hx hb dX10_cheated_19 rfl (lv_at hl 1 rfl) ?_
      obtain ⟨r2, hc2, h⟩ := bnd1_s h
      refine kRi (res := r2) (va_runV (As := [.int x1]) (rest := [.int x1, .ref q_t_payments]) ⟨hx, hb, hml, hown, hts⟩ (cn_X10_gainOf l dC dI cI cJ cZ q_t q_t_text q_t_reader q_t_rules q_t_people q_t_memory q_t_rows q_t_chances q_t_moves q_t_payments q_t_evenings q_t_people_numbers q_t_people_counts  v_t_rules_law v_t_rules_share v_t_rules_pot v_t_rules_barred v_t_people_size f_t_people_numbers f_t_people_counts x1 r2 hc2) (cwV 1 hts gX10_cheated_X10_gainOf rfl rfl rfl (by decide +kernel) ⟨Nat.le_of_ble_eq_true rfl, Nat.le_of_ble_eq_true rfl⟩) (preR hKK (hP.sub (ws' := [(q_t, .inr (10, [.ref q_t_text, .ref q_t_reader, .ref q_t_rules, .ref q_t_people, .ref q_t_memory, .ref q_t_rows, .ref q_t_chances, .ref q_t_moves, .ref q_t_payments, .ref q_t_evenings])), (q_t_rules, .inr (8, [.int v_t_rules_law, .int v_t_rules_share, .int v_t_rules_pot, .int v_t_rules_barred])), (q_t_people, .inr (5, [.ref q_t_people_numbers, .ref q_t_people_counts, .int v_t_people_size])), (q_t_people_numbers, .inl (cI, 9, .inl f_t_people_numbers)), (q_t_people_counts, .inl (cI, 10, .inl f_t_people_counts))]) [0, 1, 2, 3, 4] rfl) (ci := 10) (q0 := 0) rfl rfl) rfl rfl hl.1 rfl (lv_room (Nat.le_of_ble_eq_true rfl)) dX10_cheated_20 ⟨Nat.zero_le _, Nat.zero_le _⟩) ?_
      obtain ⟨r3, hc3, h⟩ := bnd1_s h
      refine kRz (res := r3) (va_runV (As := [.int x1, .int r2]) (rest := []) ⟨hx, hb, hml, hown, hts⟩ (cn_X4_differs l dC dI cI cJ cZ q_t_payments q_t_payments_last  v_t_payments_told f_t_payments_last x1 r2 r3 hc3) (cwV 2 hts gX10_cheated_X4_differs rfl rfl rfl (by decide +kernel) ⟨Nat.le_of_ble_eq_true rfl, Nat.le_of_ble_eq_true rfl⟩) (preR hKK (hP.sub (ws' := [(q_t_payments, .inr (4, [.ref q_t_payments_last, .int v_t_payments_told])), (q_t_payments_last, .inl (cI, 9, .inl f_t_payments_last))]) [5, 6] rfl) (ci := 4) (q0 := 0) rfl rfl) rfl rfl hl.1 rfl (lv_room (Nat.le_of_ble_eq_true rfl)) dX10_cheated_23 ⟨Nat.zero_le _, Nat.zero_le _⟩) (fun hz4 => ?_)
      refine lv_if_eq (tgt := 31) hx hb dX10_cheated_26 (by decide) (fun c5 => ?_) (fun c5 => ?_)
      · replace h := ite_t h c5
        refine lv_iinc (v := (x1 + (1 : Int32))) (lv' := [(1, .int (x1 + (1 : Int32))), (0, .ref q_t)]) hx hb dX10_cheated_31 hl (k := 1) rfl rfl (by decide) rfl (fun ls hl => ?_)
        refine lv_goto (tgt := 2) hx hb dX10_cheated_34 (by decide) ?_
        exact ih_2 (x1 + (1 : Int32)) h ls (lv_sub hl [1, 0] rfl)
      replace h := ite_f h c5
      refine lv_iload_n hx hb dX10_cheated_29 rfl (lv_at hl 1 rfl) ?_
      have e1 := Option.some.inj h
      exact W.iret (v := x1) hx hb hr (fun t ht hW => ⟨_, rfl, e1, ht⟩) (fun q hq => by cases hq) dX10_cheated_30
  unfold X10_cheated at h
  refine lv_iconst (v := (0 : Int32)) hx hb dX10_cheated_0 (by decide) ?_
  refine lv_istore_n (lv' := [(1, .int (0 : Int32)), (0, .ref q_t)]) hx hb dX10_cheated_1 rfl hl (by decide) rfl (fun ls hl => ?_)
  exact L_2 fU (0 : Int32) h ls (lv_sub hl [1, 0] rfl)
