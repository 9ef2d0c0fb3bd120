/-! walks, by program: J6_bitCount_0f7a4 X0_weights X10_isNumber X0_put X0_areWhole X10_choose X10_power X0_cases X8_suits X0_rightTogether X0_rightThoughForgetting X1_sow X8_barredMany X8_isOpen X8_openAt -/
abbrev rm_J6_bitCount_0f7a4 : Room := { frames := 0, cells := 0, slots := 0, locals := 0 }
set_option maxHeartbeats 4000000 in
set_option maxRecDepth 100000 in
theorem cn_J6_bitCount_0f7a4 (l : Launch) (dC : Nat → ClassId) (dI : Nat → Nat → Nat) (cI cJ cZ : ClassId) (p0 : Int32) (res : Int32) (h : J6_bitCount_0f7a4 p0 = res) : Met l yJ6_bitCount_0f7a4 wsJ6_bitCount_0f7a4 rm_J6_bitCount_0f7a4 (pcR dC dI cI cJ cZ [] [.int p0]) (vp_Si (fun r => r = res)) 0 0 (fun _ => False) := by
  refine Met.ofW (cc := cJ6_bitCount_0f7a4) (maxL := 1) (ret := (some .int)) (by decide) rfl ?_
  intro p e s m args below meth c s₁ B hml hv
  obtain ⟨rfl, hP, hKK⟩ := hv
  have hx := B.exec
  have hb := B.bytes
  have hr := B.returns
  have hts := atoms_spec (ws := wsJ6_bitCount_0f7a4) B.pre
  have hown : s.vm.findClass RJ6 = some m.cls := findClass_of_methodNamed B.named
  have hlocks := B.notSynchronized
  have hK := hKK.1
  have hl := lv_entry ([.int p0]) (n := 1) (Nat.le_of_ble_eq_true rfl)
  rw [lg_entry_eq]
  generalize (lg_sl ([.int p0]) ++ List.replicate (1 - (lg_sl ([.int p0])).length) Slot.unset).toArray = ls at hl ⊢
  have hl : lv_has ls 1 [(0, .int p0)] := hl
  unfold J6_bitCount_0f7a4 at h
  refine lv_iload_n hx hb dJ6_bitCount_0f7a4_0 rfl (lv_at hl 0 rfl) ?_
  refine lv_iload_n hx hb dJ6_bitCount_0f7a4_1 rfl (lv_at hl 0 rfl) ?_
  refine lv_iconst (v := (1 : Int32)) hx hb dJ6_bitCount_0f7a4_2 (by decide) ?_
  refine lv_iushr hx hb dJ6_bitCount_0f7a4_3 rfl ?_
  refine lv_ldcw (v := (1431655765 : Int32)) hx hb hown (hts (.constant RJ6 265 (1431655765)) (List.mem_of_getElem? (i := 1) rfl)) dJ6_bitCount_0f7a4_4 ?_
  refine lv_iand hx hb dJ6_bitCount_0f7a4_7 ?_
  refine lv_isub hx hb dJ6_bitCount_0f7a4_8 ?_
  refine lv_istore_n (lv' := [(0, .int (p0 - ((p0.toUInt32 >>> ((1 : Int32).toUInt32 &&& Int32.toUInt32 31)).toInt32 &&& (1431655765 : Int32))))]) hx hb dJ6_bitCount_0f7a4_9 rfl hl (by decide) rfl (fun ls hl => ?_)
  refine lv_iload_n hx hb dJ6_bitCount_0f7a4_10 rfl (lv_at hl 0 rfl) ?_
  refine lv_ldcw (v := (858993459 : Int32)) hx hb hown (hts (.constant RJ6 266 (858993459)) (List.mem_of_getElem? (i := 2) rfl)) dJ6_bitCount_0f7a4_11 ?_
  refine lv_iand hx hb dJ6_bitCount_0f7a4_14 ?_
  refine lv_iload_n hx hb dJ6_bitCount_0f7a4_15 rfl (lv_at hl 0 rfl) ?_
  refine lv_iconst (v := (2 : Int32)) hx hb dJ6_bitCount_0f7a4_16 (by decide) ?_
  refine lv_iushr hx hb dJ6_bitCount_0f7a4_17 rfl ?_
  refine lv_ldcw (v := (858993459 : Int32)) hx hb hown (hts (.constant RJ6 266 (858993459)) (List.mem_of_getElem? (i := 2) rfl)) dJ6_bitCount_0f7a4_18 ?_
  refine lv_iand hx hb dJ6_bitCount_0f7a4_21 ?_
  refine lv_iadd hx hb dJ6_bitCount_0f7a4_22 ?_
  refine lv_istore_n (lv' := [(0, .int (((p0 - ((p0.toUInt32 >>> ((1 : Int32).toUInt32 &&& Int32.toUInt32 31)).toInt32 &&& (1431655765 : Int32))) &&& (858993459 : Int32)) + (((p0 - ((p0.toUInt32 >>> ((1 : Int32).toUInt32 &&& Int32.toUInt32 31)).toInt32 &&& (1431655765 : Int32))).toUInt32 >>> ((2 : Int32).toUInt32 &&& Int32.toUInt32 31)).toInt32 &&& (858993459 : Int32))))]) hx hb dJ6_bitCount_0f7a4_23 rfl hl (by decide) rfl (fun ls hl => ?_)
  refine lv_iload_n hx hb dJ6_bitCount_0f7a4_24 rfl (lv_at hl 0 rfl) ?_
  refine lv_iload_n hx hb dJ6_bitCount_0f7a4_25 rfl (lv_at hl 0 rfl) ?_
  refine lv_iconst (v := (4 : Int32)) hx hb dJ6_bitCount_0f7a4_26 (by decide) ?_
  refine lv_iushr hx hb dJ6_bitCount_0f7a4_27 rfl ?_
  refine lv_iadd hx hb dJ6_bitCount_0f7a4_28 ?_
  refine lv_ldcw (v := (252645135 : Int32)) hx hb hown (hts (.constant RJ6 267 (252645135)) (List.mem_of_getElem? (i := 3) rfl)) dJ6_bitCount_0f7a4_29 ?_
  refine lv_iand hx hb dJ6_bitCount_0f7a4_32 ?_
  refine lv_istore_n (lv' := [(0, .int (((((p0 - ((p0.toUInt32 >>> ((1 : Int32).toUInt32 &&& Int32.toUInt32 31)).toInt32 &&& (1431655765 : Int32))) &&& (858993459 : Int32)) + (((p0 - ((p0.toUInt32 >>> ((1 : Int32).toUInt32 &&& Int32.toUInt32 31)).toInt32 &&& (1431655765 : Int32))).toUInt32 >>> ((2 : Int32).toUInt32 &&& Int32.toUInt32 31)).toInt32 &&& (858993459 : Int32))) + ((((p0 - ((p0.toUInt32 >>> ((1 : Int32).toUInt32 &&& Int32.toUInt32 31)).toInt32 &&& (1431655765 : Int32))) &&& (858993459 : Int32)) + (((p0 - ((p0.toUInt32 >>> ((1 : Int32).toUInt32 &&& Int32.toUInt32 31)).toInt32 &&& (1431655765 : Int32))).toUInt32 >>> ((2 : Int32).toUInt32 &&& Int32.toUInt32 31)).toInt32 &&& (858993459 : Int32))).toUInt32 >>> ((4 : Int32).toUInt32 &&& Int32.toUInt32 31)).toInt32) &&& (252645135 : Int32)))]) hx hb dJ6_bitCount_0f7a4_33 rfl hl (by decide) rfl (fun ls hl => ?_)
  refine lv_iload_n hx hb dJ6_bitCount_0f7a4_34 rfl (lv_at hl 0 rfl) ?_
  refine lv_iload_n hx hb dJ6_bitCount_0f7a4_35 rfl (lv_at hl 0 rfl) ?_
  refine lv_bipush (v := (8 : Int32)) hx hb dJ6_bitCount_0f7a4_36 (by decide) ?_
  refine lv_iushr hx hb dJ6_bitCount_0f7a4_38 rfl ?_
  refine lv_iadd hx hb dJ6_bitCount_0f7a4_39 ?_
  refine lv_istore_n (lv' := [(0, .int ((((((p0 - ((p0.toUInt32 >>> ((1 : Int32).toUInt32 &&& Int32.toUInt32 31)).toInt32 &&& (1431655765 : Int32))) &&& (858993459 : Int32)) + (((p0 - ((p0.toUInt32 >>> ((1 : Int32).toUInt32 &&& Int32.toUInt32 31)).toInt32 &&& (1431655765 : Int32))).toUInt32 >>> ((2 : Int32).toUInt32 &&& Int32.toUInt32 31)).toInt32 &&& (858993459 : Int32))) + ((((p0 - ((p0.toUInt32 >>> ((1 : Int32).toUInt32 &&& Int32.toUInt32 31)).toInt32 &&& (1431655765 : Int32))) &&& (858993459 : Int32)) + (((p0 - ((p0.toUInt32 >>> ((1 : Int32).toUInt32 &&& Int32.toUInt32 31)).toInt32 &&& (1431655765 : Int32))).toUInt32 >>> ((2 : Int32).toUInt32 &&& Int32.toUInt32 31)).toInt32 &&& (858993459 : Int32))).toUInt32 >>> ((4 : Int32).toUInt32 &&& Int32.toUInt32 31)).toInt32) &&& (252645135 : Int32)) + ((((((p0 - ((p0.toUInt32 >>> ((1 : Int32).toUInt32 &&& Int32.toUInt32 31)).toInt32 &&& (1431655765 : Int32))) &&& (858993459 : Int32)) + (((p0 - ((p0.toUInt32 >>> ((1 : Int32).toUInt32 &&& Int32.toUInt32 31)).toInt32 &&& (1431655765 : Int32))).toUInt32 >>> ((2 : Int32).toUInt32 &&& Int32.toUInt32 31)).toInt32 &&& (858993459 : Int32))) + ((((p0 - ((p0.toUInt32 >>> ((1 : Int32).toUInt32 &&& Int32.toUInt32 31)).toInt32 &&& (1431655765 : Int32))) &&& (858993459 : Int32)) + (((p0 - ((p0.toUInt32 >>> ((1 : Int32).toUInt32 &&& Int32.toUInt32 31)).toInt32 &&& (1431655765 : Int32))).toUInt32 >>> ((2 : Int32).toUInt32 &&& Int32.toUInt32 31)).toInt32 &&& (858993459 : Int32))).toUInt32 >>> ((4 : Int32).toUInt32 &&& Int32.toUInt32 31)).toInt32) &&& (252645135 : Int32)).toUInt32 >>> ((8 : Int32).toUInt32 &&& Int32.toUInt32 31)).toInt32))]) hx hb dJ6_bitCount_0f7a4_40 rfl hl (by decide) rfl (fun ls hl => ?_)
  refine lv_iload_n hx hb dJ6_bitCount_0f7a4_41 rfl (lv_at hl 0 rfl) ?_
  refine lv_iload_n hx hb dJ6_bitCount_0f7a4_42 rfl (lv_at hl 0 rfl) ?_
  refine lv_bipush (v := (16 : Int32)) hx hb dJ6_bitCount_0f7a4_43 (by decide) ?_
  refine lv_iushr hx hb dJ6_bitCount_0f7a4_45 rfl ?_
  refine lv_iadd hx hb dJ6_bitCount_0f7a4_46 ?_
  refine lv_istore_n (lv' := [(0, .int (((((((p0 - ((p0.toUInt32 >>> ((1 : Int32).toUInt32 &&& Int32.toUInt32 31)).toInt32 &&& (1431655765 : Int32))) &&& (858993459 : Int32)) + (((p0 - ((p0.toUInt32 >>> ((1 : Int32).toUInt32 &&& Int32.toUInt32 31)).toInt32 &&& (1431655765 : Int32))).toUInt32 >>> ((2 : Int32).toUInt32 &&& Int32.toUInt32 31)).toInt32 &&& (858993459 : Int32))) + ((((p0 - ((p0.toUInt32 >>> ((1 : Int32).toUInt32 &&& Int32.toUInt32 31)).toInt32 &&& (1431655765 : Int32))) &&& (858993459 : Int32)) + (((p0 - ((p0.toUInt32 >>> ((1 : Int32).toUInt32 &&& Int32.toUInt32 31)).toInt32 &&& (1431655765 : Int32))).toUInt32 >>> ((2 : Int32).toUInt32 &&& Int32.toUInt32 31)).toInt32 &&& (858993459 : Int32))).toUInt32 >>> ((4 : Int32).toUInt32 &&& Int32.toUInt32 31)).toInt32) &&& (252645135 : Int32)) + ((((((p0 - ((p0.toUInt32 >>> ((1 : Int32).toUInt32 &&& Int32.toUInt32 31)).toInt32 &&& (1431655765 : Int32))) &&& (858993459 : Int32)) + (((p0 - ((p0.toUInt32 >>> ((1 : Int32).toUInt32 &&& Int32.toUInt32 31)).toInt32 &&& (1431655765 : Int32))).toUInt32 >>> ((2 : Int32).toUInt32 &&& Int32.toUInt32 31)).toInt32 &&& (858993459 : Int32))) + ((((p0 - ((p0.toUInt32 >>> ((1 : Int32).toUInt32 &&& Int32.toUInt32 31)).toInt32 &&& (1431655765 : Int32))) &&& (858993459 : Int32)) + (((p0 - ((p0.toUInt32 >>> ((1 : Int32).toUInt32 &&& Int32.toUInt32 31)).toInt32 &&& (1431655765 : Int32))).toUInt32 >>> ((2 : Int32).toUInt32 &&& Int32.toUInt32 31)).toInt32 &&& (858993459 : Int32))).toUInt32 >>> ((4 : Int32).toUInt32 &&& Int32.toUInt32 31)).toInt32) &&& (252645135 : Int32)).toUInt32 >>> ((8 : Int32).toUInt32 &&& Int32.toUInt32 31)).toInt32) + (((((((p0 - ((p0.toUInt32 >>> ((1 : Int32).toUInt32 &&& Int32.toUInt32 31)).toInt32 &&& (1431655765 : Int32))) &&& (858993459 : Int32)) + (((p0 - ((p0.toUInt32 >>> ((1 : Int32).toUInt32 &&& Int32.toUInt32 31)).toInt32 &&& (1431655765 : Int32))).toUInt32 >>> ((2 : Int32).toUInt32 &&& Int32.toUInt32 31)).toInt32 &&& (858993459 : Int32))) + ((((p0 - ((p0.toUInt32 >>> ((1 : Int32).toUInt32 &&& Int32.toUInt32 31)).toInt32 &&& (1431655765 : Int32))) &&& (858993459 : Int32)) + (((p0 - ((p0.toUInt32 >>> ((1 : Int32).toUInt32 &&& Int32.toUInt32 31)).toInt32 &&& (1431655765 : Int32))).toUInt32 >>> ((2 : Int32).toUInt32 &&& Int32.toUInt32 31)).toInt32 &&& (858993459 : Int32))).toUInt32 >>> ((4 : Int32).toUInt32 &&& Int32.toUInt32 31)).toInt32) &&& (252645135 : Int32)) + ((((((p0 - ((p0.toUInt32 >>> ((1 : Int32).toUInt32 &&& Int32.toUInt32 31)).toInt32 &&& (1431655765 : Int32))) &&& (858993459 : Int32)) + (((p0 - ((p0.toUInt32 >>> ((1 : Int32).toUInt32 &&& Int32.toUInt32 31)).toInt32 &&& (1431655765 : Int32))).toUInt32 >>> ((2 : Int32).toUInt32 &&& Int32.toUInt32 31)).toInt32 &&& (858993459 : Int32))) + ((((p0 - ((p0.toUInt32 >>> ((1 : Int32).toUInt32 &&& Int32.toUInt32 31)).toInt32 &&& (1431655765 : Int32))) &&& (858993459 : Int32)) + (((p0 - ((p0.toUInt32 >>> ((1 : Int32).toUInt32 &&& Int32.toUInt32 31)).toInt32 &&& (1431655765 : Int32))).toUInt32 >>> ((2 : Int32).toUInt32 &&& Int32.toUInt32 31)).toInt32 &&& (858993459 : Int32))).toUInt32 >>> ((4 : Int32).toUInt32 &&& Int32.toUInt32 31)).toInt32) &&& (252645135 : Int32)).toUInt32 >>> ((8 : Int32).toUInt32 &&& Int32.toUInt32 31)).toInt32).toUInt32 >>> ((16 : Int32).toUInt32 &&& Int32.toUInt32 31)).toInt32))]) hx hb dJ6_bitCount_0f7a4_47 rfl hl (by decide) rfl (fun ls hl => ?_)
  refine lv_iload_n hx hb dJ6_bitCount_0f7a4_48 rfl (lv_at hl 0 rfl) ?_
  refine lv_bipush (v := (63 : Int32)) hx hb dJ6_bitCount_0f7a4_49 (by decide) ?_
  refine lv_iand hx hb dJ6_bitCount_0f7a4_51 ?_
  have e1 := h
  exact W.iret (v := ((((((((p0 - ((p0.toUInt32 >>> ((1 : Int32).toUInt32 &&& Int32.toUInt32 31)).toInt32 &&& (1431655765 : Int32))) &&& (858993459 : Int32)) + (((p0 - ((p0.toUInt32 >>> ((1 : Int32).toUInt32 &&& Int32.toUInt32 31)).toInt32 &&& (1431655765 : Int32))).toUInt32 >>> ((2 : Int32).toUInt32 &&& Int32.toUInt32 31)).toInt32 &&& (858993459 : Int32))) + ((((p0 - ((p0.toUInt32 >>> ((1 : Int32).toUInt32 &&& Int32.toUInt32 31)).toInt32 &&& (1431655765 : Int32))) &&& (858993459 : Int32)) + (((p0 - ((p0.toUInt32 >>> ((1 : Int32).toUInt32 &&& Int32.toUInt32 31)).toInt32 &&& (1431655765 : Int32))).toUInt32 >>> ((2 : Int32).toUInt32 &&& Int32.toUInt32 31)).toInt32 &&& (858993459 : Int32))).toUInt32 >>> ((4 : Int32).toUInt32 &&& Int32.toUInt32 31)).toInt32) &&& (252645135 : Int32)) + ((((((p0 - ((p0.toUInt32 >>> ((1 : Int32).toUInt32 &&& Int32.toUInt32 31)).toInt32 &&& (1431655765 : Int32))) &&& (858993459 : Int32)) + (((p0 - ((p0.toUInt32 >>> ((1 : Int32).toUInt32 &&& Int32.toUInt32 31)).toInt32 &&& (1431655765 : Int32))).toUInt32 >>> ((2 : Int32).toUInt32 &&& Int32.toUInt32 31)).toInt32 &&& (858993459 : Int32))) + ((((p0 - ((p0.toUInt32 >>> ((1 : Int32).toUInt32 &&& Int32.toUInt32 31)).toInt32 &&& (1431655765 : Int32))) &&& (858993459 : Int32)) + (((p0 - ((p0.toUInt32 >>> ((1 : Int32).toUInt32 &&& Int32.toUInt32 31)).toInt32 &&& (1431655765 : Int32))).toUInt32 >>> ((2 : Int32).toUInt32 &&& Int32.toUInt32 31)).toInt32 &&& (858993459 : Int32))).toUInt32 >>> ((4 : Int32).toUInt32 &&& Int32.toUInt32 31)).toInt32) &&& (252645135 : Int32)).toUInt32 >>> ((8 : Int32).toUInt32 &&& Int32.toUInt32 31)).toInt32) + (((((((p0 - ((p0.toUInt32 >>> ((1 : Int32).toUInt32 &&& Int32.toUInt32 31)).toInt32 &&& (1431655765 : Int32))) &&& (858993459 : Int32)) + (((p0 - ((p0.toUInt32 >>> ((1 : Int32).toUInt32 &&& Int32.toUInt32 31)).toInt32 &&& (1431655765 : Int32))).toUInt32 >>> ((2 : Int32).toUInt32 &&& Int32.toUInt32 31)).toInt32 &&& (858993459 : Int32))) + ((((p0 - ((p0.toUInt32 >>> ((1 : Int32).toUInt32 &&& Int32.toUInt32 31)).toInt32 &&& (1431655765 : Int32))) &&& (858993459 : Int32)) + (((p0 - ((p0.toUInt32 >>> ((1 : Int32).toUInt32 &&& Int32.toUInt32 31)).toInt32 &&& (1431655765 : Int32))).toUInt32 >>> ((2 : Int32).toUInt32 &&& Int32.toUInt32 31)).toInt32 &&& (858993459 : Int32))).toUInt32 >>> ((4 : Int32).toUInt32 &&& Int32.toUInt32 31)).toInt32) &&& (252645135 : Int32)) + ((((((p0 - ((p0.toUInt32 >>> ((1 : Int32).toUInt32 &&& Int32.toUInt32 31)).toInt32 &&& (1431655765 : Int32))) &&& (858993459 : Int32)) + (((p0 - ((p0.toUInt32 >>> ((1 : Int32).toUInt32 &&& Int32.toUInt32 31)).toInt32 &&& (1431655765 : Int32))).toUInt32 >>> ((2 : Int32).toUInt32 &&& Int32.toUInt32 31)).toInt32 &&& (858993459 : Int32))) + ((((p0 - ((p0.toUInt32 >>> ((1 : Int32).toUInt32 &&& Int32.toUInt32 31)).toInt32 &&& (1431655765 : Int32))) &&& (858993459 : Int32)) + (((p0 - ((p0.toUInt32 >>> ((1 : Int32).toUInt32 &&& Int32.toUInt32 31)).toInt32 &&& (1431655765 : Int32))).toUInt32 >>> ((2 : Int32).toUInt32 &&& Int32.toUInt32 31)).toInt32 &&& (858993459 : Int32))).toUInt32 >>> ((4 : Int32).toUInt32 &&& Int32.toUInt32 31)).toInt32) &&& (252645135 : Int32)).toUInt32 >>> ((8 : Int32).toUInt32 &&& Int32.toUInt32 31)).toInt32).toUInt32 >>> ((16 : Int32).toUInt32 &&& Int32.toUInt32 31)).toInt32) &&& (63 : Int32))) hx hb hr (fun t ht hW => ⟨_, rfl, e1, ht⟩) (fun q hq => by cases hq) dJ6_bitCount_0f7a4_52
abbrev rm_X0_weights : Room := { frames := 0, cells := 0, slots := 0, locals := 0 }
theorem in_X0_weights_X0 : ∀ w ∈ wsX00, w ∈ wsX0_weights := fun _ h => List.mem_cons_of_mem _ (List.mem_append_right _ h)
set_option maxHeartbeats 4000000 in
set_option maxRecDepth 100000 in
theorem cn_X0_weights (l : Launch) (dC : Nat → ClassId) (dI : Nat → Nat → Nat) (cI cJ cZ : ClassId) (q_t q_t_weights : Nat) : Met l yX0_weights wsX0_weights rm_X0_weights (pcR dC dI cI cJ cZ [(q_t, .inr (0, [.ref q_t_weights]))] [.ref q_t]) (va_Sr (fun k => k = q_t_weights) (fun k => .ref k)) 0 0 (fun _ => False) := by
  refine Met.ofW (cc := cX0_weights) (maxL := 1) (ret := (some (.array .int))) (by decide) rfl ?_
  intro p e s m args below meth c s₁ B hml hv
  obtain ⟨rfl, hP, hKK⟩ := hv
  have hx := B.exec
  have hb := B.bytes
  have hr := B.returns
  have hts := atoms_spec (ws := wsX0_weights) B.pre
  have hown : s.vm.findClass RX0 = some m.cls := findClass_of_methodNamed B.named
  have hlocks := B.notSynchronized
  have hK := hKK.1
  have hl := lv_entry ([.ref q_t]) (n := 1) (Nat.le_of_ble_eq_true rfl)
  rw [lg_entry_eq]
  generalize (lg_sl ([.ref q_t]) ++ List.replicate (1 - (lg_sl ([.ref q_t])).length) Slot.unset).toArray = ls at hl ⊢
  have hl : lv_has ls 1 [(0, .ref q_t)] := hl
  refine lv_aload_n hx hb dX0_weights_0 rfl (lv_at hl 0 rfl) ?_
  refine va_get (D := (dC, dI)) (ci := 0) (v := .ref q_t_weights) (C := RX0) (T := TX0) (N := 1) hx hb hts in_X0_weights_X0 hown hK hP 0 rfl rfl 0 (by decide) (hts (.fieldLink RX0 9 "RightIfAsMany$Chances" "weights" "[I") (List.mem_of_getElem? (i := 1) rfl)) (fun _ h9 => h9) rfl dX0_weights_1 ?_
  exact W.aret (v := .ref q_t_weights) hx hb hr (Or.inr ⟨_, rfl⟩) (Or.inr ⟨_, rfl⟩) (fun t ht hW => ⟨q_t_weights, rfl, rfl, ht⟩) (fun q hq => by cases hq) dX0_weights_4
abbrev rm_X10_isNumber : Room := { frames := 0, cells := 0, slots := 0, locals := 0 }
set_option maxHeartbeats 4000000 in
set_option maxRecDepth 100000 in
theorem cn_X10_isNumber (l : Launch) (dC : Nat → ClassId) (dI : Nat → Nat → Nat) (cI cJ cZ : ClassId) (p0 : Int32) (res : Int32) (h : X10_isNumber p0 = res) : Met l yX10_isNumber wsX10_isNumber rm_X10_isNumber (pcR dC dI cI cJ cZ [] [.int p0]) (vp_Si (fun r => r = res ∧ r &&& 1 = r)) 0 0 (fun _ => False) := by
  refine Met.ofW (cc := cX10_isNumber) (maxL := 1) (ret := (some .boolean)) (by decide) rfl ?_
  intro p e s m args below meth c s₁ B hml hv
  obtain ⟨rfl, hP, hKK⟩ := hv
  have hx := B.exec
  have hb := B.bytes
  have hr := B.returns
  have hts := atoms_spec (ws := wsX10_isNumber) B.pre
  have hown : s.vm.findClass RX10 = some m.cls := findClass_of_methodNamed B.named
  have hlocks := B.notSynchronized
  have hK := hKK.1
  have hl := lv_entry ([.int p0]) (n := 1) (Nat.le_of_ble_eq_true rfl)
  rw [lg_entry_eq]
  generalize (lg_sl ([.int p0]) ++ List.replicate (1 - (lg_sl ([.int p0])).length) Slot.unset).toArray = ls at hl ⊢
  have hl : lv_has ls 1 [(0, .int p0)] := hl
  unfold X10_isNumber at h
  refine lv_iload_n hx hb dX10_isNumber_0 rfl (lv_at hl 0 rfl) ?_
  refine lv_if_lt (tgt := 14) hx hb dX10_isNumber_1 (by decide) (fun c1 => ?_) (fun c1 => ?_)
  · replace h := ite_t h c1
    refine lv_iconst (v := (0 : Int32)) hx hb dX10_isNumber_14 (by decide) ?_
    have e1 := h
    exact W.zret (v := (0 : Int32)) (ty := .boolean) hx hb hr (congrArg Value.int rfl) (fun t ht hW => ⟨_, rfl, ⟨e1, rfl⟩, ht⟩) (fun q hq => by cases hq) dX10_isNumber_15
  replace h := ite_f h c1
  refine lv_iload_n hx hb dX10_isNumber_4 rfl (lv_at hl 0 rfl) ?_
  refine lv_bipush (v := (10 : Int32)) hx hb dX10_isNumber_5 (by decide) ?_
  refine lv_icmp_ge (tgt := 14) hx hb dX10_isNumber_7 (by decide) (fun c2 => ?_) (fun c2 => ?_)
  · replace h := ite_t h c2
    refine lv_iconst (v := (0 : Int32)) hx hb dX10_isNumber_14 (by decide) ?_
    have e1 := h
    exact W.zret (v := (0 : Int32)) (ty := .boolean) hx hb hr (congrArg Value.int rfl) (fun t ht hW => ⟨_, rfl, ⟨e1, rfl⟩, ht⟩) (fun q hq => by cases hq) dX10_isNumber_15
  replace h := ite_f h c2
  refine lv_iconst (v := (1 : Int32)) hx hb dX10_isNumber_10 (by decide) ?_
  refine lv_goto (tgt := 15) hx hb dX10_isNumber_11 (by decide) ?_
  have e1 := h
  exact W.zret (v := (1 : Int32)) (ty := .boolean) hx hb hr (congrArg Value.int rfl) (fun t ht hW => ⟨_, rfl, ⟨e1, rfl⟩, ht⟩) (fun q hq => by cases hq) dX10_isNumber_15
abbrev rm_X0_put : Room := { frames := 1, cells := 0, slots := 0, locals := 20 }
theorem in_X0_put_X0 : ∀ w ∈ wsX00, w ∈ wsX0_put := fun _ h => List.mem_cons_of_mem _ (List.mem_append_right _ h)
set_option maxHeartbeats 4000000 in
set_option maxRecDepth 100000 in
theorem cn_X0_put (l : Launch) (dC : Nat → ClassId) (dI : Nat → Nat → Nat) (cI cJ cZ : ClassId) (q_t q_t_weights : Nat) (sz : Nat) (f_t_weights : (Nat → Int32)) (p1 : Int32) (p2 : Int32) (res : Int32) (r_f_t_weights : (Nat → Int32)) (h : X0_put f_t_weights p1 p2 = some (res, r_f_t_weights)) : Met l yX0_put wsX0_put rm_X0_put (pcW dC dI cI cJ cZ [(q_t, .inr (0, [.ref q_t_weights])), (q_t_weights, .inl (cI, 10, .inl f_t_weights))] sz [.ref q_t, .int p1, .int p2]) (va_Qi (fun (r : Int32) (_ : Unit) => r = res) (bW dC dI (va_A [(q_t, .inr (0, [.ref q_t_weights])), (q_t_weights, .inl (cI, 10, .inl f_t_weights))] sz) [(q_t, .inr (0, [.ref q_t_weights])), (q_t_weights, .inl (cI, 10, .inl r_f_t_weights))]) (va_A [(q_t, .inr (0, [.ref q_t_weights])), (q_t_weights, .inl (cI, 10, .inl f_t_weights))] sz)) 0 0 (va_A [(q_t, .inr (0, [.ref q_t_weights])), (q_t_weights, .inl (cI, 10, .inl f_t_weights))] sz) := by
  refine Met.ofW (cc := cX0_put) (maxL := 4) (ret := (some .int)) (by decide) rfl ?_
  intro p e s m args below meth c s₁ B hml hv
  obtain ⟨rfl, hsz, hP, hKK, hD0⟩ := hv
  have hx := B.exec
  have hb := B.bytes
  have hr := B.returns
  have hts := atoms_spec (ws := wsX0_put) B.pre
  have hown : s.vm.findClass RX0 = some m.cls := findClass_of_methodNamed B.named
  have hlocks := B.notSynchronized
  have hK := hKK.1
  subst hsz
  have hD := hD0.self (sz := s.heap.size)
  generalize hAe : va_A [(q_t, .inr (0, [.ref q_t_weights])), (q_t_weights, .inl (cI, 10, .inl f_t_weights))] s.heap.size = A at hD ⊢
  have hA : ∀ q : Nat, s.heap.size ≤ q → A q := fun q h => by rw [← hAe]; exact Or.inr h
  have hS : va_S A s.heap s.heap [] := va_S.rf
  have hl := lv_entry ([.ref q_t, .int p1, .int p2]) (n := 4) (Nat.le_of_ble_eq_true rfl)
  rw [lg_entry_eq]
  generalize (lg_sl ([.ref q_t, .int p1, .int p2]) ++ List.replicate (4 - (lg_sl ([.ref q_t, .int p1, .int p2])).length) Slot.unset).toArray = ls at hl ⊢
  have hl : lv_has ls 4 [(0, .ref q_t), (1, .int p1), (2, .int p2)] := hl
  unfold X0_put at h
  obtain ⟨H, hHe⟩ : ∃ H, H = s.heap := ⟨_, rfl⟩
  obtain ⟨locs, hLe⟩ : ∃ x : List Loc, x = [] := ⟨_, rfl⟩
  rw [← hHe] at hP
  have hS : va_S A s.heap H locs := by rw [hHe, hLe]; exact hS
  suffices hW : W p l e (headSpec wsX0_put rm_X0_put).room s m ([.ref q_t, .int p1, .int p2] : List Value).toArray below meth c H locs 0 0 (MQ below (va_Qi (fun (r : Int32) (_ : Unit) => r = res) (bW dC dI A [(q_t, .inr (0, [.ref q_t_weights])), (q_t_weights, .inl (cI, 10, .inl r_f_t_weights))]) A) ([.ref q_t, .int p1, .int p2] : List Value).toArray s 0 0 A) (F0 m 0 ls []) by rw [hHe, hLe] at hW; exact hW
  refine lv_iload_n hx hb dX0_put_0 rfl (lv_at hl 1 rfl) ?_
  refine kRz (res := (X10_isNumber p1)) (va_runSN (As := [.int p1]) (rest := []) ⟨hx, hb, hml, hown, hts⟩ (cn_X10_isNumber l dC dI cI cJ cZ    p1 (X10_isNumber p1) rfl) ⟨va_cnB 1 hts gX0_put_X10_isNumber_n15 rfl rfl rfl (hKK.nw 18 rfl) (hts (.initialized RX10) (List.mem_of_getElem? (i := 3) rfl)) (by decide +kernel) ⟨Nat.le_of_ble_eq_true rfl, Nat.le_of_ble_eq_true rfl⟩, hts (.static yX10_isNumber) (List.mem_of_getElem? (i := 2) rfl), trivial⟩ (preRS hKK (hP.sub (ws' := []) [] rfl)) rfl rfl hl.1 rfl (lv_room (Nat.le_of_ble_eq_true rfl)) dX0_put_1 ⟨Nat.zero_le _, Nat.zero_le _⟩) (fun hz1 => ?_)
  refine lv_if_ne (tgt := 10) hx hb dX0_put_4 (by decide) (fun c2 => ?_) (fun c2 => ?_)
  · replace h := ite_f h c2
    refine lv_aload_n hx hb dX0_put_10 rfl (lv_at hl 0 rfl) ?_
    refine va_get (D := (dC, dI)) (ci := 0) (v := .ref q_t_weights) (C := RX0) (T := TX0) (N := 1) hx hb hts in_X0_put_X0 hown hK hP 0 rfl rfl 0 (by decide) (hts (.fieldLink RX0 9 "RightIfAsMany$Chances" "weights" "[I") (List.mem_of_getElem? (i := 1) rfl)) (fun _ h9 => h9) rfl dX0_put_11 ?_
    refine lv_iload_n hx hb dX0_put_14 rfl (lv_at hl 1 rfl) ?_
    obtain ⟨hg3, h⟩ := grd_s h
    refine va_iald hx hb hK hP 1 0 rfl rfl hg3 dX0_put_15 ?_
    refine lv_istore_n (lv' := [(3, .int (f_t_weights p1.toNatClampNeg)), (0, .ref q_t), (1, .int p1), (2, .int p2)]) hx hb dX0_put_16 rfl hl (by decide) rfl (fun ls hl => ?_)
    refine lv_aload_n hx hb dX0_put_17 rfl (lv_at hl 1 rfl) ?_
    refine va_get (D := (dC, dI)) (ci := 0) (v := .ref q_t_weights) (C := RX0) (T := TX0) (N := 1) hx hb hts in_X0_put_X0 hown hK hP 0 rfl rfl 0 (by decide) (hts (.fieldLink RX0 9 "RightIfAsMany$Chances" "weights" "[I") (List.mem_of_getElem? (i := 1) rfl)) (fun _ h9 => h9) rfl dX0_put_18 ?_
    refine lv_iload_n hx hb dX0_put_21 rfl (lv_at hl 2 rfl) ?_
    refine lv_iload_n hx hb dX0_put_22 rfl (lv_at hl 3 rfl) ?_
    obtain ⟨hg4, h⟩ := grd_s h
    refine va_iast hx hb hK hP hD hS 1 0 rfl rfl hg4 dX0_put_23 (fun H locs hP hD hS => ?_)
    have hP : va_P (dC, dI) vwCl [(q_t, .inr (0, [.ref q_t_weights])), (q_t_weights, .inl (cI, 10, .inl (upd f_t_weights p1.toNatClampNeg p2)))] H := hP
    have hD : va_D A [(q_t, .inr (0, [.ref q_t_weights])), (q_t_weights, .inl (cI, 10, .inl (upd f_t_weights p1.toNatClampNeg p2)))] := hD
    refine lv_iload_n hx hb dX0_put_24 rfl (lv_at hl 0 rfl) ?_
    replace h := Option.some.inj h
    obtain ⟨e1, e2⟩ := pr2 h
    exact W.iret (v := (f_t_weights p1.toNatClampNeg)) hx hb hr (fun t ht hW => ⟨⟨_, (), rfl, e1, (by rw [ht, ← e2]; exact hP), (by rw [← e2]; exact hD)⟩, hS.F ht⟩) hS.2.2 dX0_put_25
  replace h := ite_t h c2
  refine lv_bipush (v := (-9 : Int32)) hx hb dX0_put_7 (by decide) ?_
  replace h := Option.some.inj h
  obtain ⟨e1, e2⟩ := pr2 h
  exact W.iret (v := (-9 : Int32)) hx hb hr (fun t ht hW => ⟨⟨_, (), rfl, e1, (by rw [ht, ← e2]; exact hP), (by rw [← e2]; exact hD)⟩, hS.F ht⟩) hS.2.2 dX0_put_9
abbrev rm_X0_areWhole : Room := { frames := 0, cells := 0, slots := 0, locals := 0 }
theorem in_X0_areWhole_X0 : ∀ w ∈ wsX00, w ∈ wsX0_areWhole := fun _ h => List.mem_cons_of_mem _ (List.mem_append_right _ h)
set_option maxHeartbeats 4000000 in
set_option maxRecDepth 100000 in
theorem cn_X0_areWhole (l : Launch) (dC : Nat → ClassId) (dI : Nat → Nat → Nat) (cI cJ cZ : ClassId) (q_t q_t_weights : Nat) (f_t_weights : (Nat → Int32)) (res : Int32) (h : X0_areWhole f_t_weights = some res) : Met l yX0_areWhole wsX0_areWhole rm_X0_areWhole (pcR dC dI cI cJ cZ [(q_t, .inr (0, [.ref q_t_weights])), (q_t_weights, .inl (cI, 10, .inl f_t_weights))] [.ref q_t]) (vp_Si (fun r => r = res ∧ r &&& 1 = r)) 0 0 (fun _ => False) := by
  refine Met.ofW (cc := cX0_areWhole) (maxL := 6) (ret := (some .boolean)) (by decide) rfl ?_
  intro p e s m args below meth c s₁ B hml hv
  obtain ⟨rfl, hP, hKK⟩ := hv
  have hx := B.exec
  have hb := B.bytes
  have hr := B.returns
  have hts := atoms_spec (ws := wsX0_areWhole) B.pre
  have hown : s.vm.findClass RX0 = some m.cls := findClass_of_methodNamed B.named
  have hlocks := B.notSynchronized
  have hK := hKK.1
  have hl := lv_entry ([.ref q_t]) (n := 6) (Nat.le_of_ble_eq_true rfl)
  rw [lg_entry_eq]
  generalize (lg_sl ([.ref q_t]) ++ List.replicate (6 - (lg_sl ([.ref q_t])).length) Slot.unset).toArray = ls at hl ⊢
  have hl : lv_has ls 6 [(0, .ref q_t)] := hl
  have B_36 : ∀  (x1 : Int32), X0_areWhole_b36 f_t_weights x1 = some res → ∀ (ls : Array Slot), lv_has ls 6 [(1, .int x1)] → W p l e (headSpec wsX0_areWhole rm_X0_areWhole).room s m ([.ref q_t] : List Value).toArray below meth c s.heap [] 0 0 (MQ below (vp_Si (fun r => r = res ∧ r &&& 1 = r)) ([.ref q_t] : List Value).toArray s 0 0 (fun _ => False)) (F0 m 36 ls []) := by
    intro x1 h ls hl
    unfold X0_areWhole_b36 at h
    refine lv_iload_n hx hb dX0_areWhole_36 rfl (lv_at hl 0 rfl) ?_
    refine lv_bipush (v := (10 : Int32)) hx hb dX0_areWhole_37 (by decide) ?_
    refine lv_icmp_ne (tgt := 46) hx hb dX0_areWhole_39 (by decide) (fun c1 => ?_) (fun c1 => ?_)
    · replace h := ite_f h c1
      refine lv_iconst (v := (0 : Int32)) hx hb dX0_areWhole_46 (by decide) ?_
      have e1 := Option.some.inj h
      exact W.zret (v := (0 : Int32)) (ty := .boolean) hx hb hr (congrArg Value.int rfl) (fun t ht hW => ⟨_, rfl, ⟨e1, rfl⟩, ht⟩) (fun q hq => by cases hq) dX0_areWhole_47
    replace h := ite_t h c1
    refine lv_iconst (v := (1 : Int32)) hx hb dX0_areWhole_42 (by decide) ?_
    refine lv_goto (tgt := 47) hx hb dX0_areWhole_43 (by decide) ?_
    have e1 := Option.some.inj h
    exact W.zret (v := (1 : Int32)) (ty := .boolean) hx hb hr (congrArg Value.int rfl) (fun t ht hW => ⟨_, rfl, ⟨e1, rfl⟩, ht⟩) (fun q hq => by cases hq) dX0_areWhole_47
  have L_13 : ∀ (n13 : Nat) , ∀  (x1 : Int32) (x3 : Int32) (x4 : Int32), X0_areWhole_b13 n13 f_t_weights x1 x3 x4 = some res → ∀ (ls : Array Slot), lv_has ls 6 [(1, .int x1), (2, .ref q_t_weights), (3, .int x3), (4, .int x4)] → W p l e (headSpec wsX0_areWhole rm_X0_areWhole).room s m ([.ref q_t] : List Value).toArray below meth c s.heap [] 0 0 (MQ below (vp_Si (fun r => r = res ∧ r &&& 1 = r)) ([.ref q_t] : List Value).toArray s 0 0 (fun _ => False)) (F0 m 13 ls []) := by
    intro n13
    induction n13 with
    | zero => intro x1 x3 x4 h ls hl; exact absurd h (fun h => by cases h)
    | succ n13 ih_13 =>
      intro x1 x3 x4 h ls hl
      replace h : X0_areWhole_b13_s (X0_areWhole_b13 n13) f_t_weights x1 x3 x4 = some res := h
      unfold X0_areWhole_b13_s at h
      refine lv_iload hx hb dX0_areWhole_13 (lv_at hl 3 rfl) ?_
      refine lv_iload_n hx hb dX0_areWhole_15 rfl (lv_at hl 2 rfl) ?_
      refine lv_icmp_ge (tgt := 36) hx hb dX0_areWhole_16 (by decide) (fun c2 => ?_) (fun c2 => ?_)
      · replace h := ite_t h c2
        exact B_36 x1 h ls (lv_sub hl [0] rfl)
      replace h := ite_f h c2
      refine lv_aload_n hx hb dX0_areWhole_19 rfl (lv_at hl 1 rfl) ?_
      refine lv_iload hx hb dX0_areWhole_20 (lv_at hl 3 rfl) ?_
      obtain ⟨hg3, h⟩ := grd_s h
      refine va_iald hx hb hK hP 1 0 rfl rfl hg3 dX0_areWhole_22 ?_
      refine lv_istore (lv' := [(5, .int (f_t_weights x4.toNatClampNeg)), (1, .int x1), (2, .ref q_t_weights), (3, .int x3), (4, .int x4)]) hx hb dX0_areWhole_23 hl (by decide) rfl (fun ls hl => ?_)
      refine lv_iload_n hx hb dX0_areWhole_25 rfl (lv_at hl 1 rfl) ?_
      refine lv_iload hx hb dX0_areWhole_26 (lv_at hl 0 rfl) ?_
      refine lv_iadd hx hb dX0_areWhole_28 ?_
      refine lv_istore_n (lv' := [(1, .int (x1 + (f_t_weights x4.toNatClampNeg))), (5, .int (f_t_weights x4.toNatClampNeg)), (2, .ref q_t_weights), (3, .int x3), (4, .int x4)]) hx hb dX0_areWhole_29 rfl hl (by decide) rfl (fun ls hl => ?_)
      refine lv_iinc (v := (x4 + (1 : Int32))) (lv' := [(4, .int (x4 + (1 : Int32))), (1, .int (x1 + (f_t_weights x4.toNatClampNeg))), (5, .int (f_t_weights x4.toNatClampNeg)), (2, .ref q_t_weights), (3, .int x3)]) hx hb dX0_areWhole_30 hl (k := 4) rfl rfl (by decide) rfl (fun ls hl => ?_)
      refine lv_goto (tgt := 13) hx hb dX0_areWhole_33 (by decide) ?_
      exact ih_13 (x1 + (f_t_weights x4.toNatClampNeg)) x3 (x4 + (1 : Int32)) h ls (lv_sub hl [1, 3, 4, 0] rfl)
  unfold X0_areWhole at h
  refine lv_iconst (v := (0 : Int32)) hx hb dX0_areWhole_0 (by decide) ?_
  refine lv_istore_n (lv' := [(1, .int (0 : Int32)), (0, .ref q_t)]) hx hb dX0_areWhole_1 rfl hl (by decide) rfl (fun ls hl => ?_)
  refine lv_aload_n hx hb dX0_areWhole_2 rfl (lv_at hl 1 rfl) ?_
  refine va_get (D := (dC, dI)) (ci := 0) (v := .ref q_t_weights) (C := RX0) (T := TX0) (N := 1) hx hb hts in_X0_areWhole_X0 hown hK hP 0 rfl rfl 0 (by decide) (hts (.fieldLink RX0 9 "RightIfAsMany$Chances" "weights" "[I") (List.mem_of_getElem? (i := 1) rfl)) (fun _ h9 => h9) rfl dX0_areWhole_3 ?_
  refine lv_astore_n (lv' := [(2, .ref q_t_weights), (1, .int (0 : Int32)), (0, .ref q_t)]) hx hb dX0_areWhole_6 rfl hl (by decide) rfl (fun ls hl => ?_)
  refine lv_aload_n hx hb dX0_areWhole_7 rfl (lv_at hl 0 rfl) ?_
  refine va_alen (v := (10 : Int32)) hx hb hK hP 1 0 rfl rfl (show Int32.ofNat 10 = 10 by decide) dX0_areWhole_8 ?_
  refine lv_istore_n (lv' := [(3, .int (10 : Int32)), (2, .ref q_t_weights), (1, .int (0 : Int32)), (0, .ref q_t)]) hx hb dX0_areWhole_9 rfl hl (by decide) rfl (fun ls hl => ?_)
  refine lv_iconst (v := (0 : Int32)) hx hb dX0_areWhole_10 (by decide) ?_
  refine lv_istore (lv' := [(4, .int (0 : Int32)), (3, .int (10 : Int32)), (2, .ref q_t_weights), (1, .int (0 : Int32)), (0, .ref q_t)]) hx hb dX0_areWhole_11 hl (by decide) rfl (fun ls hl => ?_)
  exact L_13 fU (0 : Int32) (10 : Int32) (0 : Int32) h ls (lv_sub hl [3, 2, 1, 0] rfl)
abbrev rm_X10_choose : Room := { frames := 0, cells := 0, slots := 0, locals := 0 }
set_option maxHeartbeats 4000000 in
set_option maxRecDepth 100000 in
theorem cn_X10_choose (l : Launch) (dC : Nat → ClassId) (dI : Nat → Nat → Nat) (cI cJ cZ : ClassId) (p0 : Int32) (p1 : Int32) (res : Int32) (h : X10_choose p0 p1 = some res) : Met l yX10_choose wsX10_choose rm_X10_choose (pcR dC dI cI cJ cZ [] [.int p0, .int p1]) (vp_Si (fun r => r = res)) 0 0 (fun _ => False) := by
  refine Met.ofW (cc := cX10_choose) (maxL := 4) (ret := (some .int)) (by decide) rfl ?_
  intro p e s m args below meth c s₁ B hml hv
  obtain ⟨rfl, hP, hKK⟩ := hv
  have hx := B.exec
  have hb := B.bytes
  have hr := B.returns
  have hts := atoms_spec (ws := wsX10_choose) B.pre
  have hown : s.vm.findClass RX10 = some m.cls := findClass_of_methodNamed B.named
  have hlocks := B.notSynchronized
  have hK := hKK.1
  have hl := lv_entry ([.int p0, .int p1]) (n := 4) (Nat.le_of_ble_eq_true rfl)
  rw [lg_entry_eq]
  generalize (lg_sl ([.int p0, .int p1]) ++ List.replicate (4 - (lg_sl ([.int p0, .int p1])).length) Slot.unset).toArray = ls at hl ⊢
  have hl : lv_has ls 4 [(0, .int p0), (1, .int p1)] := hl
  have L_4 : ∀ (n4 : Nat) , ∀  (x0 : Int32) (x1 : Int32) (x2 : Int32) (x3 : Int32), X10_choose_b4 n4 x0 x1 x2 x3 = some res → ∀ (ls : Array Slot), lv_has ls 4 [(0, .int x0), (1, .int x1), (2, .int x2), (3, .int x3)] → W p l e (headSpec wsX10_choose rm_X10_choose).room s m ([.int p0, .int p1] : List Value).toArray below meth c s.heap [] 0 0 (MQ below (vp_Si (fun r => r = res)) ([.int p0, .int p1] : List Value).toArray s 0 0 (fun _ => False)) (F0 m 4 ls []) := by
    intro n4
    induction n4 with
    | zero => intro x0 x1 x2 x3 h ls hl; exact absurd h (fun h => by cases h)
    | succ n4 ih_4 =>
      intro x0 x1 x2 x3 h ls hl
      replace h : X10_choose_b4_s (X10_choose_b4 n4) x0 x1 x2 x3 = some res := h
      unfold X10_choose_b4_s at h
      refine lv_iload_n hx hb dX10_choose_4 rfl (lv_at hl 3 rfl) ?_
      refine lv_iload_n hx hb dX10_choose_5 rfl (lv_at hl 1 rfl) ?_
      refine lv_icmp_gt (tgt := 25) hx hb dX10_choose_6 (by decide) (fun c1 => ?_) (fun c1 => ?_)
      · replace h := ite_t h c1
        refine lv_iload_n hx hb dX10_choose_25 rfl (lv_at hl 2 rfl) ?_
        have e1 := Option.some.inj h
        exact W.iret (v := x2) hx hb hr (fun t ht hW => ⟨_, rfl, e1, ht⟩) (fun q hq => by cases hq) dX10_choose_26
      replace h := ite_f h c1
      refine lv_iload_n hx hb dX10_choose_9 rfl (lv_at hl 2 rfl) ?_
      refine lv_iload_n hx hb dX10_choose_10 rfl (lv_at hl 0 rfl) ?_
      refine lv_iload_n hx hb dX10_choose_11 rfl (lv_at hl 3 rfl) ?_
      refine lv_isub hx hb dX10_choose_12 ?_
      refine lv_iconst (v := (1 : Int32)) hx hb dX10_choose_13 (by decide) ?_
      refine lv_iadd hx hb dX10_choose_14 ?_
      refine lv_imul hx hb dX10_choose_15 ?_
      refine lv_iload_n hx hb dX10_choose_16 rfl (lv_at hl 3 rfl) ?_
      obtain ⟨hg2, h⟩ := grd_s h
      refine lv_idiv hx hb dX10_choose_17 hg2 ?_
      refine lv_istore_n (lv' := [(2, .int ((x2 * ((x0 - x3) + (1 : Int32))) / x3)), (0, .int x0), (1, .int x1), (3, .int x3)]) hx hb dX10_choose_18 rfl hl (by decide) rfl (fun ls hl => ?_)
      refine lv_iinc (v := (x3 + (1 : Int32))) (lv' := [(3, .int (x3 + (1 : Int32))), (2, .int ((x2 * ((x0 - x3) + (1 : Int32))) / x3)), (0, .int x0), (1, .int x1)]) hx hb dX10_choose_19 hl (k := 3) rfl rfl (by decide) rfl (fun ls hl => ?_)
      refine lv_goto (tgt := 4) hx hb dX10_choose_22 (by decide) ?_
      exact ih_4 x0 x1 ((x2 * ((x0 - x3) + (1 : Int32))) / x3) (x3 + (1 : Int32)) h ls (lv_sub hl [2, 3, 1, 0] rfl)
  unfold X10_choose at h
  refine lv_iconst (v := (1 : Int32)) hx hb dX10_choose_0 (by decide) ?_
  refine lv_istore_n (lv' := [(2, .int (1 : Int32)), (0, .int p0), (1, .int p1)]) hx hb dX10_choose_1 rfl hl (by decide) rfl (fun ls hl => ?_)
  refine lv_iconst (v := (1 : Int32)) hx hb dX10_choose_2 (by decide) ?_
  refine lv_istore_n (lv' := [(3, .int (1 : Int32)), (2, .int (1 : Int32)), (0, .int p0), (1, .int p1)]) hx hb dX10_choose_3 rfl hl (by decide) rfl (fun ls hl => ?_)
  exact L_4 fU p0 p1 (1 : Int32) (1 : Int32) h ls (lv_sub hl [2, 3, 1, 0] rfl)
abbrev rm_X10_power : Room := { frames := 0, cells := 0, slots := 0, locals := 0 }
set_option maxHeartbeats 4000000 in
set_option maxRecDepth 100000 in
theorem cn_X10_power (l : Launch) (dC : Nat → ClassId) (dI : Nat → Nat → Nat) (cI cJ cZ : ClassId) (p0 : Int64) (p2 : Int32) (res : Int64) (h : X10_power p0 p2 = some res) : Met l yX10_power wsX10_power rm_X10_power (pcR dC dI cI cJ cZ [] [.long p0, .int p2]) (vp_Sl (fun r => r = res)) 0 0 (fun _ => False) := by
  refine Met.ofW (cc := cX10_power) (maxL := 6) (ret := (some .long)) (by decide) rfl ?_
  intro p e s m args below meth c s₁ B hml hv
  obtain ⟨rfl, hP, hKK⟩ := hv
  have hx := B.exec
  have hb := B.bytes
  have hr := B.returns
  have hts := atoms_spec (ws := wsX10_power) B.pre
  have hown : s.vm.findClass RX10 = some m.cls := findClass_of_methodNamed B.named
  have hlocks := B.notSynchronized
  have hK := hKK.1
  have hl := lv_entry ([.long p0, .int p2]) (n := 6) (Nat.le_of_ble_eq_true rfl)
  rw [lg_entry_eq]
  generalize (lg_sl ([.long p0, .int p2]) ++ List.replicate (6 - (lg_sl ([.long p0, .int p2])).length) Slot.unset).toArray = ls at hl ⊢
  have hl : lv_has ls 6 [(0, .long p0), (2, .int p2)] := hl
  have L_5 : ∀ (n5 : Nat) , ∀  (x0 : Int64) (x2 : Int32) (x3 : Int64) (x5 : Int32), X10_power_b5 n5 x0 x2 x3 x5 = some res → ∀ (ls : Array Slot), lv_has ls 6 [(0, .long x0), (2, .int x2), (3, .long x3), (5, .int x5)] → W p l e (headSpec wsX10_power rm_X10_power).room s m ([.long p0, .int p2] : List Value).toArray below meth c s.heap [] 0 0 (MQ below (vp_Sl (fun r => r = res)) ([.long p0, .int p2] : List Value).toArray s 0 0 (fun _ => False)) (F0 m 5 ls []) := by
    intro n5
    induction n5 with
    | zero => intro x0 x2 x3 x5 h ls hl; exact absurd h (fun h => by cases h)
    | succ n5 ih_5 =>
      intro x0 x2 x3 x5 h ls hl
      replace h : X10_power_b5_s (X10_power_b5 n5) x0 x2 x3 x5 = some res := h
      unfold X10_power_b5_s at h
      refine lv_iload hx hb dX10_power_5 (lv_at hl 3 rfl) ?_
      refine lv_iload_n hx hb dX10_power_7 rfl (lv_at hl 1 rfl) ?_
      refine lv_icmp_ge (tgt := 21) hx hb dX10_power_8 (by decide) (fun c1 => ?_) (fun c1 => ?_)
      · replace h := ite_t h c1
        refine lv_lload_n hx hb dX10_power_21 rfl (lv_at hl 2 rfl) ?_
        have e1 := Option.some.inj h
        exact W.lret (v := x3) hx hb hr (fun t ht hW => ⟨_, rfl, e1, ht⟩) (fun q hq => by cases hq) dX10_power_22
      replace h := ite_f h c1
      refine lv_lload_n hx hb dX10_power_11 rfl (lv_at hl 2 rfl) ?_
      refine lv_lload_n hx hb dX10_power_12 rfl (lv_at hl 0 rfl) ?_
      refine lv_lmul hx hb dX10_power_13 ?_
      refine lv_lstore_n (lv' := [(3, .long (x3 * x0)), (0, .long x0), (2, .int x2), (5, .int x5)]) hx hb dX10_power_14 rfl hl (by decide) rfl (fun ls hl => ?_)
      refine lv_iinc (v := (x5 + (1 : Int32))) (lv' := [(5, .int (x5 + (1 : Int32))), (3, .long (x3 * x0)), (0, .long x0), (2, .int x2)]) hx hb dX10_power_15 hl (k := 3) rfl rfl (by decide) rfl (fun ls hl => ?_)
      refine lv_goto (tgt := 5) hx hb dX10_power_18 (by decide) ?_
      exact ih_5 x0 x2 (x3 * x0) (x5 + (1 : Int32)) h ls (lv_sub hl [2, 3, 1, 0] rfl)
  unfold X10_power at h
  refine lv_lconst (v := (1 : Int64)) hx hb dX10_power_0 (by decide) ?_
  refine lv_lstore_n (lv' := [(3, .long (1 : Int64)), (0, .long p0), (2, .int p2)]) hx hb dX10_power_1 rfl hl (by decide) rfl (fun ls hl => ?_)
  refine lv_iconst (v := (0 : Int32)) hx hb dX10_power_2 (by decide) ?_
  refine lv_istore (lv' := [(5, .int (0 : Int32)), (3, .long (1 : Int64)), (0, .long p0), (2, .int p2)]) hx hb dX10_power_3 hl (by decide) rfl (fun ls hl => ?_)
  exact L_5 fU p0 p2 (1 : Int64) (0 : Int32) h ls (lv_sub hl [2, 3, 1, 0] rfl)
abbrev rm_X0_cases : Room := { frames := 1, cells := 0, slots := 0, locals := 25 }
set_option maxHeartbeats 4000000 in
set_option maxRecDepth 100000 in
theorem cn_X0_cases (l : Launch) (dC : Nat → ClassId) (dI : Nat → Nat → Nat) (cI cJ cZ : ClassId) (p0 : Int32) (p1 : Int32) (p2 : Int32) (res : Int64) (h : X0_cases p0 p1 p2 = some res) : Met l yX0_cases wsX0_cases rm_X0_cases (pcR dC dI cI cJ cZ [] [.int p0, .int p1, .int p2]) (vp_Sl (fun r => r = res)) 0 0 (fun _ => False) := by
  refine Met.ofW (cc := cX0_cases) (maxL := 3) (ret := (some .long)) (by decide) rfl ?_
  intro p e s m args below meth c s₁ B hml hv
  obtain ⟨rfl, hP, hKK⟩ := hv
  have hx := B.exec
  have hb := B.bytes
  have hr := B.returns
  have hts := atoms_spec (ws := wsX0_cases) B.pre
  have hown : s.vm.findClass RX0 = some m.cls := findClass_of_methodNamed B.named
  have hlocks := B.notSynchronized
  have hK := hKK.1
  have hl := lv_entry ([.int p0, .int p1, .int p2]) (n := 3) (Nat.le_of_ble_eq_true rfl)
  rw [lg_entry_eq]
  generalize (lg_sl ([.int p0, .int p1, .int p2]) ++ List.replicate (3 - (lg_sl ([.int p0, .int p1, .int p2])).length) Slot.unset).toArray = ls at hl ⊢
  have hl : lv_has ls 3 [(0, .int p0), (1, .int p1), (2, .int p2)] := hl
  unfold X0_cases at h
  refine lv_iload_n hx hb dX0_cases_0 rfl (lv_at hl 0 rfl) ?_
  refine lv_iload_n hx hb dX0_cases_1 rfl (lv_at hl 1 rfl) ?_
  obtain ⟨r1, hc1, h⟩ := bnd1_s h
  refine kRi (res := r1) (va_runSN (As := [.int p0, .int p1]) (rest := []) ⟨hx, hb, hml, hown, hts⟩ (cn_X10_choose l dC dI cI cJ cZ    p0 p1 r1 hc1) ⟨va_cnB 2 hts gX0_cases_X10_choose_n19 rfl rfl rfl (hKK.nw 19 rfl) (hts (.initialized RX10) (List.mem_of_getElem? (i := 2) rfl)) (by decide +kernel) ⟨Nat.le_of_ble_eq_true rfl, Nat.le_of_ble_eq_true rfl⟩, hts (.static yX10_choose) (List.mem_of_getElem? (i := 1) rfl), trivial⟩ (preRS hKK (hP.sub (ws' := []) [] rfl)) rfl rfl hl.1 rfl (lv_room (Nat.le_of_ble_eq_true rfl)) dX0_cases_2 ⟨Nat.zero_le _, Nat.zero_le _⟩) ?_
  refine lv_i2l hx hb dX0_cases_5 rfl ?_
  refine lv_iload_n hx hb dX0_cases_6 rfl (lv_at hl 2 rfl) ?_
  refine lv_i2l hx hb dX0_cases_7 rfl ?_
  refine lv_iload_n hx hb dX0_cases_8 rfl (lv_at hl 1 rfl) ?_
  obtain ⟨r2, hc2, h⟩ := bnd1_s h
  refine kRl (res := r2) (va_runSN (As := [.long p2.toInt64, .int p1]) (rest := [.long r1.toInt64]) ⟨hx, hb, hml, hown, hts⟩ (cn_X10_power l dC dI cI cJ cZ    p2.toInt64 p1 r2 hc2) ⟨va_cnB 2 hts gX0_cases_X10_power_n23 rfl rfl rfl (hKK.nw 20 rfl) (hts (.initialized RX10) (List.mem_of_getElem? (i := 2) rfl)) (by decide +kernel) ⟨Nat.le_of_ble_eq_true rfl, Nat.le_of_ble_eq_true rfl⟩, hts (.static yX10_power) (List.mem_of_getElem? (i := 4) rfl), trivial⟩ (preRS hKK (hP.sub (ws' := []) [] rfl)) rfl rfl hl.1 rfl (lv_room (Nat.le_of_ble_eq_true rfl)) dX0_cases_9 ⟨Nat.zero_le _, Nat.zero_le _⟩) ?_
  refine lv_lmul hx hb dX0_cases_12 ?_
  refine lv_bipush (v := (10 : Int32)) hx hb dX0_cases_13 (by decide) ?_
  refine lv_iload_n hx hb dX0_cases_15 rfl (lv_at hl 2 rfl) ?_
  refine lv_isub hx hb dX0_cases_16 ?_
  refine lv_i2l hx hb dX0_cases_17 rfl ?_
  refine lv_iload_n hx hb dX0_cases_18 rfl (lv_at hl 0 rfl) ?_
  refine lv_iload_n hx hb dX0_cases_19 rfl (lv_at hl 1 rfl) ?_
  refine lv_isub hx hb dX0_cases_20 ?_
  obtain ⟨r3, hc3, h⟩ := bnd1_s h
  refine kRl (res := r3) (va_runSN (As := [.long ((10 : Int32) - p2).toInt64, .int (p0 - p1)]) (rest := [.long (r1.toInt64 * r2)]) ⟨hx, hb, hml, hown, hts⟩ (cn_X10_power l dC dI cI cJ cZ    ((10 : Int32) - p2).toInt64 (p0 - p1) r3 hc3) ⟨va_cnB 2 hts gX0_cases_X10_power_n23 rfl rfl rfl (hKK.nw 20 rfl) (hts (.initialized RX10) (List.mem_of_getElem? (i := 2) rfl)) (by decide +kernel) ⟨Nat.le_of_ble_eq_true rfl, Nat.le_of_ble_eq_true rfl⟩, hts (.static yX10_power) (List.mem_of_getElem? (i := 4) rfl), trivial⟩ (preRS hKK (hP.sub (ws' := []) [] rfl)) rfl rfl hl.1 rfl (lv_room (Nat.le_of_ble_eq_true rfl)) dX0_cases_21 ⟨Nat.zero_le _, Nat.zero_le _⟩) ?_
  refine lv_lmul hx hb dX0_cases_24 ?_
  have e1 := Option.some.inj h
  exact W.lret (v := ((r1.toInt64 * r2) * r3)) hx hb hr (fun t ht hW => ⟨_, rfl, e1, ht⟩) (fun q hq => by cases hq) dX0_cases_25
abbrev rm_X8_suits : Room := { frames := 0, cells := 0, slots := 0, locals := 0 }
theorem in_X8_suits_X8 : ∀ w ∈ wsX80, w ∈ wsX8_suits := fun _ h => List.mem_cons_of_mem _ (List.mem_append_right _ h)
set_option maxHeartbeats 4000000 in
set_option maxRecDepth 100000 in
theorem cn_X8_suits (l : Launch) (dC : Nat → ClassId) (dI : Nat → Nat → Nat) (cI cJ cZ : ClassId) (q_t : Nat) (v_t_law : Int32) (v_t_share : Int32) (v_t_pot : Int32) (v_t_barred : Int32) (p1 : Int32) (p2 : Int32) (res : Int32) (h : X8_suits v_t_law p1 p2 = res) : Met l yX8_suits wsX8_suits rm_X8_suits (pcR dC dI cI cJ cZ [(q_t, .inr (8, [.int v_t_law, .int v_t_share, .int v_t_pot, .int v_t_barred]))] [.ref q_t, .int p1, .int p2]) (vp_Si (fun r => r = res ∧ r &&& 1 = r)) 0 0 (fun _ => False) := by
  refine Met.ofW (cc := cX8_suits) (maxL := 3) (ret := (some .boolean)) (by decide) rfl ?_
  intro p e s m args below meth c s₁ B hml hv
  obtain ⟨rfl, hP, hKK⟩ := hv
  have hx := B.exec
  have hb := B.bytes
  have hr := B.returns
  have hts := atoms_spec (ws := wsX8_suits) B.pre
  have hown : s.vm.findClass RX8 = some m.cls := findClass_of_methodNamed B.named
  have hlocks := B.notSynchronized
  have hK := hKK.1
  have hl := lv_entry ([.ref q_t, .int p1, .int p2]) (n := 3) (Nat.le_of_ble_eq_true rfl)
  rw [lg_entry_eq]
  generalize (lg_sl ([.ref q_t, .int p1, .int p2]) ++ List.replicate (3 - (lg_sl ([.ref q_t, .int p1, .int p2])).length) Slot.unset).toArray = ls at hl ⊢
  have hl : lv_has ls 3 [(0, .ref q_t), (1, .int p1), (2, .int p2)] := hl
  unfold X8_suits at h
  refine lv_aload_n hx hb dX8_suits_0 rfl (lv_at hl 0 rfl) ?_
  refine va_get (D := (dC, dI)) (ci := 8) (v := .int v_t_law) (C := RX8) (T := TX8) (N := 4) hx hb hts in_X8_suits_X8 hown hK hP 0 rfl rfl 0 (by decide) (hts (.fieldLink RX8 9 "RightIfAsMany$Rules" "law" "I") (List.mem_of_getElem? (i := 1) rfl)) (fun _ h9 => h9) rfl dX8_suits_1 ?_
  refine lv_if_ne (tgt := 18) hx hb dX8_suits_4 (by decide) (fun c1 => ?_) (fun c1 => ?_)
  · replace h := ite_f h c1
    refine lv_aload_n hx hb dX8_suits_18 rfl (lv_at hl 0 rfl) ?_
    refine va_get (D := (dC, dI)) (ci := 8) (v := .int v_t_law) (C := RX8) (T := TX8) (N := 4) hx hb hts in_X8_suits_X8 hown hK hP 0 rfl rfl 0 (by decide) (hts (.fieldLink RX8 9 "RightIfAsMany$Rules" "law" "I") (List.mem_of_getElem? (i := 1) rfl)) (fun _ h9 => h9) rfl dX8_suits_19 ?_
    refine lv_iconst (v := (1 : Int32)) hx hb dX8_suits_22 (by decide) ?_
    refine lv_icmp_ne (tgt := 39) hx hb dX8_suits_23 (by decide) (fun c2 => ?_) (fun c2 => ?_)
    · replace h := ite_f h c2
      refine lv_iload_n hx hb dX8_suits_39 rfl (lv_at hl 2 rfl) ?_
      refine lv_iload_n hx hb dX8_suits_40 rfl (lv_at hl 1 rfl) ?_
      refine lv_icmp_gt (tgt := 48) hx hb dX8_suits_41 (by decide) (fun c3 => ?_) (fun c3 => ?_)
      · replace h := ite_t h c3
        refine lv_iconst (v := (0 : Int32)) hx hb dX8_suits_48 (by decide) ?_
        have e1 := h
        exact W.zret (v := (0 : Int32)) (ty := .boolean) hx hb hr (congrArg Value.int rfl) (fun t ht hW => ⟨_, rfl, ⟨e1, rfl⟩, ht⟩) (fun q hq => by cases hq) dX8_suits_49
      replace h := ite_f h c3
      refine lv_iconst (v := (1 : Int32)) hx hb dX8_suits_44 (by decide) ?_
      refine lv_goto (tgt := 49) hx hb dX8_suits_45 (by decide) ?_
      have e1 := h
      exact W.zret (v := (1 : Int32)) (ty := .boolean) hx hb hr (congrArg Value.int rfl) (fun t ht hW => ⟨_, rfl, ⟨e1, rfl⟩, ht⟩) (fun q hq => by cases hq) dX8_suits_49
    replace h := ite_t h c2
    refine lv_iload_n hx hb dX8_suits_26 rfl (lv_at hl 2 rfl) ?_
    refine lv_iload_n hx hb dX8_suits_27 rfl (lv_at hl 1 rfl) ?_
    refine lv_icmp_lt (tgt := 35) hx hb dX8_suits_28 (by decide) (fun c4 => ?_) (fun c4 => ?_)
    · replace h := ite_t h c4
      refine lv_iconst (v := (0 : Int32)) hx hb dX8_suits_35 (by decide) ?_
      refine lv_goto (tgt := 49) hx hb dX8_suits_36 (by decide) ?_
      have e1 := h
      exact W.zret (v := (0 : Int32)) (ty := .boolean) hx hb hr (congrArg Value.int rfl) (fun t ht hW => ⟨_, rfl, ⟨e1, rfl⟩, ht⟩) (fun q hq => by cases hq) dX8_suits_49
    replace h := ite_f h c4
    refine lv_iconst (v := (1 : Int32)) hx hb dX8_suits_31 (by decide) ?_
    refine lv_goto (tgt := 49) hx hb dX8_suits_32 (by decide) ?_
    have e1 := h
    exact W.zret (v := (1 : Int32)) (ty := .boolean) hx hb hr (congrArg Value.int rfl) (fun t ht hW => ⟨_, rfl, ⟨e1, rfl⟩, ht⟩) (fun q hq => by cases hq) dX8_suits_49
  replace h := ite_t h c1
  refine lv_iload_n hx hb dX8_suits_7 rfl (lv_at hl 2 rfl) ?_
  refine lv_iload_n hx hb dX8_suits_8 rfl (lv_at hl 1 rfl) ?_
  refine lv_icmp_ne (tgt := 16) hx hb dX8_suits_9 (by decide) (fun c5 => ?_) (fun c5 => ?_)
  · replace h := ite_f h c5
    refine lv_iconst (v := (0 : Int32)) hx hb dX8_suits_16 (by decide) ?_
    have e1 := h
    exact W.zret (v := (0 : Int32)) (ty := .boolean) hx hb hr (congrArg Value.int rfl) (fun t ht hW => ⟨_, rfl, ⟨e1, rfl⟩, ht⟩) (fun q hq => by cases hq) dX8_suits_17
  replace h := ite_t h c5
  refine lv_iconst (v := (1 : Int32)) hx hb dX8_suits_12 (by decide) ?_
  refine lv_goto (tgt := 17) hx hb dX8_suits_13 (by decide) ?_
  have e1 := h
  exact W.zret (v := (1 : Int32)) (ty := .boolean) hx hb hr (congrArg Value.int rfl) (fun t ht hW => ⟨_, rfl, ⟨e1, rfl⟩, ht⟩) (fun q hq => by cases hq) dX8_suits_17
abbrev rm_X0_rightTogether : Room := { frames := 2, cells := 0, slots := 0, locals := 47 }
theorem in_X0_rightTogether_X8 : ∀ w ∈ wsX80, w ∈ wsX0_rightTogether := fun _ h => List.mem_cons_of_mem _ (List.mem_append_right _ h)
theorem in_X0_rightTogether_X0 : ∀ w ∈ wsX00, w ∈ wsX0_rightTogether := fun _ h => List.mem_cons_of_mem _ (List.mem_append_left _ (List.mem_append_right _ h))
set_option maxHeartbeats 4000000 in
set_option maxRecDepth 100000 in
theorem cn_X0_rightTogether (l : Launch) (dC : Nat → ClassId) (dI : Nat → Nat → Nat) (cI cJ cZ : ClassId) (q_t q_p1 q_t_weights : Nat) (f_t_weights : (Nat → Int32)) (v_p1_law : Int32) (v_p1_share : Int32) (v_p1_pot : Int32) (v_p1_barred : Int32) (p2 : Int32) (res : Int64) (h : X0_rightTogether f_t_weights v_p1_law p2 = some res) : Met l yX0_rightTogether wsX0_rightTogether rm_X0_rightTogether (pcR dC dI cI cJ cZ [(q_t, .inr (0, [.ref q_t_weights])), (q_t_weights, .inl (cI, 10, .inl f_t_weights)), (q_p1, .inr (8, [.int v_p1_law, .int v_p1_share, .int v_p1_pot, .int v_p1_barred]))] [.ref q_t, .ref q_p1, .int p2]) (vp_Sl (fun r => r = res)) 0 0 (fun _ => False) := by
  refine Met.ofW (cc := cX0_rightTogether) (maxL := 7) (ret := (some .long)) (by decide) rfl ?_
  intro p e s m args below meth c s₁ B hml hv
  obtain ⟨rfl, hP, hKK⟩ := hv
  have hx := B.exec
  have hb := B.bytes
  have hr := B.returns
  have hts := atoms_spec (ws := wsX0_rightTogether) B.pre
  have hown : s.vm.findClass RX0 = some m.cls := findClass_of_methodNamed B.named
  have hlocks := B.notSynchronized
  have hK := hKK.1
  have hl := lv_entry ([.ref q_t, .ref q_p1, .int p2]) (n := 7) (Nat.le_of_ble_eq_true rfl)
  rw [lg_entry_eq]
  generalize (lg_sl ([.ref q_t, .ref q_p1, .int p2]) ++ List.replicate (7 - (lg_sl ([.ref q_t, .ref q_p1, .int p2])).length) Slot.unset).toArray = ls at hl ⊢
  have hl : lv_has ls 7 [(0, .ref q_t), (1, .ref q_p1), (2, .int p2)] := hl
  have L_5 : ∀ (n5 : Nat) , ∀  (x2 : Int32) (x3 : Int64) (x5 : Int32), X0_rightTogether_b5 n5 f_t_weights v_p1_law x2 x3 x5 = some res → ∀ (ls : Array Slot), lv_has ls 7 [(0, .ref q_t), (1, .ref q_p1), (2, .int x2), (3, .long x3), (5, .int x5)] → W p l e (headSpec wsX0_rightTogether rm_X0_rightTogether).room s m ([.ref q_t, .ref q_p1, .int p2] : List Value).toArray below meth c s.heap [] 0 0 (MQ below (vp_Sl (fun r => r = res)) ([.ref q_t, .ref q_p1, .int p2] : List Value).toArray s 0 0 (fun _ => False)) (F0 m 5 ls []) := by
    intro n5
    induction n5 with
    | zero => intro x2 x3 x5 h ls hl; exact absurd h (fun h => by cases h)
    | succ n5 ih_5 =>
      have B_58 : ∀  (x2 : Int32) (x3 : Int64) (x5 : Int32), X0_rightTogether_b58 (X0_rightTogether_b5 n5) f_t_weights v_p1_law x2 x3 x5 = some res → ∀ (ls : Array Slot), lv_has ls 7 [(0, .ref q_t), (1, .ref q_p1), (2, .int x2), (3, .long x3), (5, .int x5)] → W p l e (headSpec wsX0_rightTogether rm_X0_rightTogether).room s m ([.ref q_t, .ref q_p1, .int p2] : List Value).toArray below meth c s.heap [] 0 0 (MQ below (vp_Sl (fun r => r = res)) ([.ref q_t, .ref q_p1, .int p2] : List Value).toArray s 0 0 (fun _ => False)) (F0 m 58 ls []) := by
        intro x2 x3 x5 h ls hl
        unfold X0_rightTogether_b58 at h
        refine lv_iinc (v := (x5 + (1 : Int32))) (lv' := [(5, .int (x5 + (1 : Int32))), (0, .ref q_t), (1, .ref q_p1), (2, .int x2), (3, .long x3)]) hx hb dX0_rightTogether_58 hl (k := 4) rfl rfl (by decide) rfl (fun ls hl => ?_)
        refine lv_goto (tgt := 5) hx hb dX0_rightTogether_61 (by decide) ?_
        exact ih_5 x2 x3 (x5 + (1 : Int32)) h ls (lv_sub hl [1, 2, 3, 4, 0] rfl)
      have L_15 : ∀ (n15 : Nat) , ∀  (x2 : Int32) (x3 : Int64) (x5 : Int32) (x6 : Int32), X0_rightTogether_b15 (X0_rightTogether_b5 n5) n15 f_t_weights v_p1_law x2 x3 x5 x6 = some res → ∀ (ls : Array Slot), lv_has ls 7 [(0, .ref q_t), (1, .ref q_p1), (2, .int x2), (3, .long x3), (5, .int x5), (6, .int x6)] → W p l e (headSpec wsX0_rightTogether rm_X0_rightTogether).room s m ([.ref q_t, .ref q_p1, .int p2] : List Value).toArray below meth c s.heap [] 0 0 (MQ below (vp_Sl (fun r => r = res)) ([.ref q_t, .ref q_p1, .int p2] : List Value).toArray s 0 0 (fun _ => False)) (F0 m 15 ls []) := by
        intro n15
        induction n15 with
        | zero => intro x2 x3 x5 x6 h ls hl; exact absurd h (fun h => by cases h)
        | succ n15 ih_15 =>
          have B_52 : ∀  (x2 : Int32) (x3 : Int64) (x5 : Int32) (x6 : Int32), X0_rightTogether_b52 (X0_rightTogether_b5 n5) (X0_rightTogether_b15 (X0_rightTogether_b5 n5) n15) f_t_weights v_p1_law x2 x3 x5 x6 = some res → ∀ (ls : Array Slot), lv_has ls 7 [(0, .ref q_t), (1, .ref q_p1), (2, .int x2), (3, .long x3), (5, .int x5), (6, .int x6)] → W p l e (headSpec wsX0_rightTogether rm_X0_rightTogether).room s m ([.ref q_t, .ref q_p1, .int p2] : List Value).toArray below meth c s.heap [] 0 0 (MQ below (vp_Sl (fun r => r = res)) ([.ref q_t, .ref q_p1, .int p2] : List Value).toArray s 0 0 (fun _ => False)) (F0 m 52 ls []) := by
            intro x2 x3 x5 x6 h ls hl
            unfold X0_rightTogether_b52 at h
            refine lv_iinc (v := (x6 + (1 : Int32))) (lv' := [(6, .int (x6 + (1 : Int32))), (0, .ref q_t), (1, .ref q_p1), (2, .int x2), (3, .long x3), (5, .int x5)]) hx hb dX0_rightTogether_52 hl (k := 5) rfl rfl (by decide) rfl (fun ls hl => ?_)
            refine lv_goto (tgt := 15) hx hb dX0_rightTogether_55 (by decide) ?_
            exact ih_15 x2 x3 x5 (x6 + (1 : Int32)) h ls (lv_sub hl [1, 2, 3, 4, 5, 0] rfl)
          intro x2 x3 x5 x6 h ls hl
          replace h : X0_rightTogether_b15_s (X0_rightTogether_b5 n5) (X0_rightTogether_b15 (X0_rightTogether_b5 n5) n15) f_t_weights v_p1_law x2 x3 x5 x6 = some res := h
          unfold X0_rightTogether_b15_s at h
          refine lv_iload hx hb dX0_rightTogether_15 (lv_at hl 5 rfl) ?_
          refine lv_iload_n hx hb dX0_rightTogether_17 rfl (lv_at hl 2 rfl) ?_
          refine lv_icmp_gt (tgt := 58) hx hb dX0_rightTogether_18 (by decide) (fun c1 => ?_) (fun c1 => ?_)
          · replace h := ite_t h c1
            exact B_58 x2 x3 x5 h ls (lv_sub hl [0, 1, 2, 3, 4] rfl)
          replace h := ite_f h c1
          refine lv_aload_n hx hb dX0_rightTogether_21 rfl (lv_at hl 1 rfl) ?_
          refine lv_iload hx hb dX0_rightTogether_22 (lv_at hl 4 rfl) ?_
          refine lv_iload hx hb dX0_rightTogether_24 (lv_at hl 5 rfl) ?_
          refine kRz (res := (X8_suits v_p1_law x5 x6)) (va_runV (As := [.int x5, .int x6]) (rest := []) ⟨hx, hb, hml, hown, hts⟩ (cn_X8_suits l dC dI cI cJ cZ q_p1  v_p1_law v_p1_share v_p1_pot v_p1_barred x5 x6 (X8_suits v_p1_law x5 x6) rfl) (cwV 2 hts gX0_rightTogether_X8_suits rfl rfl rfl (by decide +kernel) ⟨Nat.le_of_ble_eq_true rfl, Nat.le_of_ble_eq_true rfl⟩) (preR hKK (hP.sub (ws' := [(q_p1, .inr (8, [.int v_p1_law, .int v_p1_share, .int v_p1_pot, .int v_p1_barred]))]) [2] rfl) (ci := 8) (q0 := 0) rfl rfl) rfl rfl hl.1 rfl (lv_room (Nat.le_of_ble_eq_true rfl)) dX0_rightTogether_26 ⟨Nat.zero_le _, Nat.zero_le _⟩) (fun hz2 => ?_)
          refine lv_if_eq (tgt := 52) hx hb dX0_rightTogether_29 (by decide) (fun c3 => ?_) (fun c3 => ?_)
          · replace h := ite_t h c3
            exact B_52 x2 x3 x5 x6 h ls (lv_sub hl [0, 1, 2, 3, 4, 5] rfl)
          replace h := ite_f h c3
          refine lv_lload_n hx hb dX0_rightTogether_32 rfl (lv_at hl 3 rfl) ?_
          refine lv_iload hx hb dX0_rightTogether_33 (lv_at hl 5 rfl) ?_
          refine lv_i2l hx hb dX0_rightTogether_35 rfl ?_
          refine lv_iload_n hx hb dX0_rightTogether_36 rfl (lv_at hl 2 rfl) ?_
          refine lv_iload hx hb dX0_rightTogether_37 (lv_at hl 5 rfl) ?_
          refine lv_aload_n hx hb dX0_rightTogether_39 rfl (lv_at hl 0 rfl) ?_
          refine va_get (D := (dC, dI)) (ci := 0) (v := .ref q_t_weights) (C := RX0) (T := TX0) (N := 1) hx hb hts in_X0_rightTogether_X0 hown hK hP 0 rfl rfl 0 (by decide) (hts (.fieldLink RX0 9 "RightIfAsMany$Chances" "weights" "[I") (List.mem_of_getElem? (i := 1) rfl)) (fun _ h9 => h9) rfl dX0_rightTogether_40 ?_
          refine lv_iload hx hb dX0_rightTogether_43 (lv_at hl 4 rfl) ?_
          obtain ⟨hg4, h⟩ := grd_s h
          refine va_iald hx hb hK hP 1 0 rfl rfl hg4 dX0_rightTogether_45 ?_
          obtain ⟨r5, hc5, h⟩ := bnd1_s h
          refine kRl (res := r5) (va_runS (As := [.int x2, .int x6, .int (f_t_weights x5.toNatClampNeg)]) (rest := [.long x6.toInt64, .long x3]) ⟨hx, hb, hml, hown, hts⟩ (cn_X0_cases l dC dI cI cJ cZ    x2 x6 (f_t_weights x5.toNatClampNeg) r5 hc5) (va_cwS 3 hts gX0_rightTogether_X0_cases rfl rfl rfl (by decide +kernel) ⟨Nat.le_of_ble_eq_true rfl, Nat.le_of_ble_eq_true rfl⟩) (preRS hKK (hP.sub (ws' := []) [] rfl)) rfl rfl hl.1 rfl (lv_room (Nat.le_of_ble_eq_true rfl)) dX0_rightTogether_46 ⟨Nat.zero_le _, Nat.zero_le _⟩) ?_
          refine lv_lmul hx hb dX0_rightTogether_49 ?_
          refine lv_ladd hx hb dX0_rightTogether_50 ?_
          refine lv_lstore_n (lv' := [(3, .long (x3 + (x6.toInt64 * r5))), (0, .ref q_t), (1, .ref q_p1), (2, .int x2), (5, .int x5), (6, .int x6)]) hx hb dX0_rightTogether_51 rfl hl (by decide) rfl (fun ls hl => ?_)
          exact B_52 x2 (x3 + (x6.toInt64 * r5)) x5 x6 h ls (lv_sub hl [1, 2, 3, 0, 4, 5] rfl)
      intro x2 x3 x5 h ls hl
      replace h : X0_rightTogether_b5_s (X0_rightTogether_b5 n5) f_t_weights v_p1_law x2 x3 x5 = some res := h
      unfold X0_rightTogether_b5_s at h
      refine lv_iload hx hb dX0_rightTogether_5 (lv_at hl 4 rfl) ?_
      refine lv_bipush (v := (10 : Int32)) hx hb dX0_rightTogether_7 (by decide) ?_
      refine lv_icmp_ge (tgt := 64) hx hb dX0_rightTogether_9 (by decide) (fun c6 => ?_) (fun c6 => ?_)
      · replace h := ite_t h c6
        refine lv_lload_n hx hb dX0_rightTogether_64 rfl (lv_at hl 3 rfl) ?_
        have e1 := Option.some.inj h
        exact W.lret (v := x3) hx hb hr (fun t ht hW => ⟨_, rfl, e1, ht⟩) (fun q hq => by cases hq) dX0_rightTogether_65
      replace h := ite_f h c6
      refine lv_iconst (v := (1 : Int32)) hx hb dX0_rightTogether_12 (by decide) ?_
      refine lv_istore (lv' := [(6, .int (1 : Int32)), (0, .ref q_t), (1, .ref q_p1), (2, .int x2), (3, .long x3), (5, .int x5)]) hx hb dX0_rightTogether_13 hl (by decide) rfl (fun ls hl => ?_)
      exact L_15 fU x2 x3 x5 (1 : Int32) h ls (lv_sub hl [1, 2, 3, 4, 5, 0] rfl)
  unfold X0_rightTogether at h
  refine lv_lconst (v := (0 : Int64)) hx hb dX0_rightTogether_0 (by decide) ?_
  refine lv_lstore_n (lv' := [(3, .long (0 : Int64)), (0, .ref q_t), (1, .ref q_p1), (2, .int p2)]) hx hb dX0_rightTogether_1 rfl hl (by decide) rfl (fun ls hl => ?_)
  refine lv_iconst (v := (0 : Int32)) hx hb dX0_rightTogether_2 (by decide) ?_
  refine lv_istore (lv' := [(5, .int (0 : Int32)), (3, .long (0 : Int64)), (0, .ref q_t), (1, .ref q_p1), (2, .int p2)]) hx hb dX0_rightTogether_3 hl (by decide) rfl (fun ls hl => ?_)
  exact L_5 fU p2 (0 : Int64) (0 : Int32) h ls (lv_sub hl [2, 3, 4, 1, 0] rfl)
abbrev rm_X0_rightThoughForgetting : Room := { frames := 2, cells := 0, slots := 0, locals := 47 }
theorem in_X0_rightThoughForgetting_X8 : ∀ w ∈ wsX80, w ∈ wsX0_rightThoughForgetting := fun _ h => List.mem_cons_of_mem _ (List.mem_append_right _ h)
set_option maxHeartbeats 4000000 in
set_option maxRecDepth 100000 in
theorem cn_X0_rightThoughForgetting (l : Launch) (dC : Nat → ClassId) (dI : Nat → Nat → Nat) (cI cJ cZ : ClassId) (q_t q_p1 q_t_weights : Nat) (v_p1_law : Int32) (v_p1_share : Int32) (v_p1_pot : Int32) (v_p1_barred : Int32) (p2 : Int32) (p3 : Int32) (p4 : Int32) (res : Int64) (h : X0_rightThoughForgetting v_p1_law p2 p3 p4 = some res) : Met l yX0_rightThoughForgetting wsX0_rightThoughForgetting rm_X0_rightThoughForgetting (pcR dC dI cI cJ cZ [(q_t, .inr (0, [.ref q_t_weights])), (q_p1, .inr (8, [.int v_p1_law, .int v_p1_share, .int v_p1_pot, .int v_p1_barred]))] [.ref q_t, .ref q_p1, .int p2, .int p3, .int p4]) (vp_Sl (fun r => r = res)) 0 0 (fun _ => False) := by
  refine Met.ofW (cc := cX0_rightThoughForgetting) (maxL := 9) (ret := (some .long)) (by decide) rfl ?_
  intro p e s m args below meth c s₁ B hml hv
  obtain ⟨rfl, hP, hKK⟩ := hv
  have hx := B.exec
  have hb := B.bytes
  have hr := B.returns
  have hts := atoms_spec (ws := wsX0_rightThoughForgetting) B.pre
  have hown : s.vm.findClass RX0 = some m.cls := findClass_of_methodNamed B.named
  have hlocks := B.notSynchronized
  have hK := hKK.1
  have hl := lv_entry ([.ref q_t, .ref q_p1, .int p2, .int p3, .int p4]) (n := 9) (Nat.le_of_ble_eq_true rfl)
  rw [lg_entry_eq]
  generalize (lg_sl ([.ref q_t, .ref q_p1, .int p2, .int p3, .int p4]) ++ List.replicate (9 - (lg_sl ([.ref q_t, .ref q_p1, .int p2, .int p3, .int p4])).length) Slot.unset).toArray = ls at hl ⊢
  have hl : lv_has ls 9 [(0, .ref q_t), (1, .ref q_p1), (2, .int p2), (3, .int p3), (4, .int p4)] := hl
  have L_13 : ∀ (n13 : Nat) , ∀  (x2 : Int32) (x3 : Int32) (x5 : Int32) (x6 : Int64) (x8 : Int32), X0_rightThoughForgetting_b13 n13 v_p1_law x2 x3 x5 x6 x8 = some res → ∀ (ls : Array Slot), lv_has ls 9 [(1, .ref q_p1), (2, .int x2), (3, .int x3), (5, .int x5), (6, .long x6), (8, .int x8)] → W p l e (headSpec wsX0_rightThoughForgetting rm_X0_rightThoughForgetting).room s m ([.ref q_t, .ref q_p1, .int p2, .int p3, .int p4] : List Value).toArray below meth c s.heap [] 0 0 (MQ below (vp_Sl (fun r => r = res)) ([.ref q_t, .ref q_p1, .int p2, .int p3, .int p4] : List Value).toArray s 0 0 (fun _ => False)) (F0 m 13 ls []) := by
    intro n13
    induction n13 with
    | zero => intro x2 x3 x5 x6 x8 h ls hl; exact absurd h (fun h => by cases h)
    | succ n13 ih_13 =>
      have B_50 : ∀  (x2 : Int32) (x3 : Int32) (x5 : Int32) (x6 : Int64) (x8 : Int32), X0_rightThoughForgetting_b50 (X0_rightThoughForgetting_b13 n13) v_p1_law x2 x3 x5 x6 x8 = some res → ∀ (ls : Array Slot), lv_has ls 9 [(1, .ref q_p1), (2, .int x2), (3, .int x3), (5, .int x5), (6, .long x6), (8, .int x8)] → W p l e (headSpec wsX0_rightThoughForgetting rm_X0_rightThoughForgetting).room s m ([.ref q_t, .ref q_p1, .int p2, .int p3, .int p4] : List Value).toArray below meth c s.heap [] 0 0 (MQ below (vp_Sl (fun r => r = res)) ([.ref q_t, .ref q_p1, .int p2, .int p3, .int p4] : List Value).toArray s 0 0 (fun _ => False)) (F0 m 50 ls []) := by
        intro x2 x3 x5 x6 x8 h ls hl
        unfold X0_rightThoughForgetting_b50 at h
        refine lv_iinc (v := (x8 + (1 : Int32))) (lv' := [(8, .int (x8 + (1 : Int32))), (1, .ref q_p1), (2, .int x2), (3, .int x3), (5, .int x5), (6, .long x6)]) hx hb dX0_rightThoughForgetting_50 hl (k := 5) rfl rfl (by decide) rfl (fun ls hl => ?_)
        refine lv_goto (tgt := 13) hx hb dX0_rightThoughForgetting_53 (by decide) ?_
        exact ih_13 x2 x3 x5 x6 (x8 + (1 : Int32)) h ls (lv_sub hl [1, 2, 3, 4, 5, 0] rfl)
      intro x2 x3 x5 x6 x8 h ls hl
      replace h : X0_rightThoughForgetting_b13_s (X0_rightThoughForgetting_b13 n13) v_p1_law x2 x3 x5 x6 x8 = some res := h
      unfold X0_rightThoughForgetting_b13_s at h
      refine lv_iload hx hb dX0_rightThoughForgetting_13 (lv_at hl 5 rfl) ?_
      refine lv_iload_n hx hb dX0_rightThoughForgetting_15 rfl (lv_at hl 2 rfl) ?_
      refine lv_icmp_ge (tgt := 56) hx hb dX0_rightThoughForgetting_16 (by decide) (fun c1 => ?_) (fun c1 => ?_)
      · replace h := ite_t h c1
        refine lv_lload hx hb dX0_rightThoughForgetting_56 (lv_at hl 4 rfl) ?_
        have e1 := Option.some.inj h
        exact W.lret (v := x6) hx hb hr (fun t ht hW => ⟨_, rfl, e1, ht⟩) (fun q hq => by cases hq) dX0_rightThoughForgetting_58
      replace h := ite_f h c1
      refine lv_aload_n hx hb dX0_rightThoughForgetting_19 rfl (lv_at hl 0 rfl) ?_
      refine lv_iload_n hx hb dX0_rightThoughForgetting_20 rfl (lv_at hl 1 rfl) ?_
      refine lv_iload hx hb dX0_rightThoughForgetting_21 (lv_at hl 5 rfl) ?_
      refine lv_iconst (v := (1 : Int32)) hx hb dX0_rightThoughForgetting_23 (by decide) ?_
      refine lv_iadd hx hb dX0_rightThoughForgetting_24 ?_
      refine kRz (res := (X8_suits v_p1_law x2 (x8 + (1 : Int32)))) (va_runV (As := [.int x2, .int (x8 + (1 : Int32))]) (rest := []) ⟨hx, hb, hml, hown, hts⟩ (cn_X8_suits l dC dI cI cJ cZ q_p1  v_p1_law v_p1_share v_p1_pot v_p1_barred x2 (x8 + (1 : Int32)) (X8_suits v_p1_law x2 (x8 + (1 : Int32))) rfl) (cwV 2 hts gX0_rightThoughForgetting_X8_suits rfl rfl rfl (by decide +kernel) ⟨Nat.le_of_ble_eq_true rfl, Nat.le_of_ble_eq_true rfl⟩) (preR hKK (hP.sub (ws' := [(q_p1, .inr (8, [.int v_p1_law, .int v_p1_share, .int v_p1_pot, .int v_p1_barred]))]) [1] rfl) (ci := 8) (q0 := 0) rfl rfl) rfl rfl hl.1 rfl (lv_room (Nat.le_of_ble_eq_true rfl)) dX0_rightThoughForgetting_25 ⟨Nat.zero_le _, Nat.zero_le _⟩) (fun hz2 => ?_)
      refine lv_if_eq (tgt := 50) hx hb dX0_rightThoughForgetting_28 (by decide) (fun c3 => ?_) (fun c3 => ?_)
      · replace h := ite_t h c3
        exact B_50 x2 x3 x5 x6 x8 h ls (lv_sub hl [0, 1, 2, 3, 4, 5] rfl)
      replace h := ite_f h c3
      refine lv_lload hx hb dX0_rightThoughForgetting_31 (lv_at hl 4 rfl) ?_
      refine lv_iload hx hb dX0_rightThoughForgetting_33 (lv_at hl 3 rfl) ?_
      refine lv_i2l hx hb dX0_rightThoughForgetting_35 rfl ?_
      refine lv_iload_n hx hb dX0_rightThoughForgetting_36 rfl (lv_at hl 2 rfl) ?_
      refine lv_iconst (v := (1 : Int32)) hx hb dX0_rightThoughForgetting_37 (by decide) ?_
      refine lv_isub hx hb dX0_rightThoughForgetting_38 ?_
      refine lv_iload hx hb dX0_rightThoughForgetting_39 (lv_at hl 5 rfl) ?_
      refine lv_iload hx hb dX0_rightThoughForgetting_41 (lv_at hl 3 rfl) ?_
      obtain ⟨r4, hc4, h⟩ := bnd1_s h
      refine kRl (res := r4) (va_runS (As := [.int (x3 - (1 : Int32)), .int x8, .int x5]) (rest := [.long x5.toInt64, .long x6]) ⟨hx, hb, hml, hown, hts⟩ (cn_X0_cases l dC dI cI cJ cZ    (x3 - (1 : Int32)) x8 x5 r4 hc4) (va_cwS 3 hts gX0_rightThoughForgetting_X0_cases rfl rfl rfl (by decide +kernel) ⟨Nat.le_of_ble_eq_true rfl, Nat.le_of_ble_eq_true rfl⟩) (preRS hKK (hP.sub (ws' := []) [] rfl)) rfl rfl hl.1 rfl (lv_room (Nat.le_of_ble_eq_true rfl)) dX0_rightThoughForgetting_43 ⟨Nat.zero_le _, Nat.zero_le _⟩) ?_
      refine lv_lmul hx hb dX0_rightThoughForgetting_46 ?_
      refine lv_ladd hx hb dX0_rightThoughForgetting_47 ?_
      refine lv_lstore (lv' := [(6, .long (x6 + (x5.toInt64 * r4))), (1, .ref q_p1), (2, .int x2), (3, .int x3), (5, .int x5), (8, .int x8)]) hx hb dX0_rightThoughForgetting_48 hl (by decide) rfl (fun ls hl => ?_)
      exact B_50 x2 x3 x5 (x6 + (x5.toInt64 * r4)) x8 h ls (lv_sub hl [1, 2, 3, 4, 0, 5] rfl)
  unfold X0_rightThoughForgetting at h
  refine lv_bipush (v := (10 : Int32)) hx hb dX0_rightThoughForgetting_0 (by decide) ?_
  refine lv_iload hx hb dX0_rightThoughForgetting_2 (lv_at hl 4 rfl) ?_
  refine lv_isub hx hb dX0_rightThoughForgetting_4 ?_
  refine lv_istore (lv' := [(5, .int ((10 : Int32) - p4)), (0, .ref q_t), (1, .ref q_p1), (2, .int p2), (3, .int p3), (4, .int p4)]) hx hb dX0_rightThoughForgetting_5 hl (by decide) rfl (fun ls hl => ?_)
  refine lv_lconst (v := (0 : Int64)) hx hb dX0_rightThoughForgetting_7 (by decide) ?_
  refine lv_lstore (lv' := [(6, .long (0 : Int64)), (5, .int ((10 : Int32) - p4)), (0, .ref q_t), (1, .ref q_p1), (2, .int p2), (3, .int p3), (4, .int p4)]) hx hb dX0_rightThoughForgetting_8 hl (by decide) rfl (fun ls hl => ?_)
  refine lv_iconst (v := (0 : Int32)) hx hb dX0_rightThoughForgetting_10 (by decide) ?_
  refine lv_istore (lv' := [(8, .int (0 : Int32)), (6, .long (0 : Int64)), (5, .int ((10 : Int32) - p4)), (0, .ref q_t), (1, .ref q_p1), (2, .int p2), (3, .int p3), (4, .int p4)]) hx hb dX0_rightThoughForgetting_11 hl (by decide) rfl (fun ls hl => ?_)
  exact L_13 fU p2 p3 ((10 : Int32) - p4) (0 : Int64) (0 : Int32) h ls (lv_sub hl [4, 5, 6, 2, 1, 0] rfl)
abbrev rm_X1_sow : Room := { frames := 0, cells := 0, slots := 0, locals := 0 }
theorem in_X1_sow_X1 : ∀ w ∈ wsX10, w ∈ wsX1_sow := fun _ h => List.mem_cons_of_mem _ (List.mem_append_right _ h)
set_option maxHeartbeats 4000000 in
set_option maxRecDepth 100000 in
theorem cn_X1_sow (l : Launch) (dC : Nat → ClassId) (dI : Nat → Nat → Nat) (cI cJ cZ : ClassId) (q_t q_t_counts : Nat) (sz : Nat) (v_t_state : Int64) (p1 : Int64) (res : Int64) (r_v_t_state : Int64) (h : X1_sow v_t_state p1 = some (res, r_v_t_state)) : Met l yX1_sow wsX1_sow rm_X1_sow (pcW dC dI cI cJ cZ [(q_t, .inr (1, [.ref q_t_counts, .long v_t_state]))] sz [.ref q_t, .long p1]) (va_Ql (fun (r : Int64) (_ : Unit) => r = res) (bW dC dI (va_A [(q_t, .inr (1, [.ref q_t_counts, .long v_t_state]))] sz) [(q_t, .inr (1, [.ref q_t_counts, .long r_v_t_state]))]) (va_A [(q_t, .inr (1, [.ref q_t_counts, .long v_t_state]))] sz)) 0 0 (va_A [(q_t, .inr (1, [.ref q_t_counts, .long v_t_state]))] sz) := by
  refine Met.ofW (cc := cX1_sow) (maxL := 5) (ret := (some .long)) (by decide) rfl ?_
  intro p e s m args below meth c s₁ B hml hv
  obtain ⟨rfl, hsz, hP, hKK, hD0⟩ := hv
  have hx := B.exec
  have hb := B.bytes
  have hr := B.returns
  have hts := atoms_spec (ws := wsX1_sow) B.pre
  have hown : s.vm.findClass RX1 = some m.cls := findClass_of_methodNamed B.named
  have hlocks := B.notSynchronized
  have hK := hKK.1
  subst hsz
  have hD := hD0.self (sz := s.heap.size)
  generalize hAe : va_A [(q_t, .inr (1, [.ref q_t_counts, .long v_t_state]))] s.heap.size = A at hD ⊢
  have hA : ∀ q : Nat, s.heap.size ≤ q → A q := fun q h => by rw [← hAe]; exact Or.inr h
  have hS : va_S A s.heap s.heap [] := va_S.rf
  have hl := lv_entry ([.ref q_t, .long p1]) (n := 5) (Nat.le_of_ble_eq_true rfl)
  rw [lg_entry_eq]
  generalize (lg_sl ([.ref q_t, .long p1]) ++ List.replicate (5 - (lg_sl ([.ref q_t, .long p1])).length) Slot.unset).toArray = ls at hl ⊢
  have hl : lv_has ls 5 [(0, .ref q_t), (1, .long p1)] := hl
  unfold X1_sow at h
  obtain ⟨H, hHe⟩ : ∃ H, H = s.heap := ⟨_, rfl⟩
  obtain ⟨locs, hLe⟩ : ∃ x : List Loc, x = [] := ⟨_, rfl⟩
  rw [← hHe] at hP
  have hS : va_S A s.heap H locs := by rw [hHe, hLe]; exact hS
  suffices hW : W p l e (headSpec wsX1_sow rm_X1_sow).room s m ([.ref q_t, .long p1] : List Value).toArray below meth c H locs 0 0 (MQ below (va_Ql (fun (r : Int64) (_ : Unit) => r = res) (bW dC dI A [(q_t, .inr (1, [.ref q_t_counts, .long r_v_t_state]))]) A) ([.ref q_t, .long p1] : List Value).toArray s 0 0 A) (F0 m 0 ls []) by rw [hHe, hLe] at hW; exact hW
  refine lv_aload_n hx hb dX1_sow_0 rfl (lv_at hl 0 rfl) ?_
  refine va_get (D := (dC, dI)) (ci := 1) (v := .long v_t_state) (C := RX1) (T := TX1) (N := 2) hx hb hts in_X1_sow_X1 hown hK hP 0 rfl rfl 1 (by decide) (hts (.fieldLink RX1 15 "RightIfAsMany$Evenings" "state" "J") (List.mem_of_getElem? (i := 1) rfl)) (fun _ h9 => h9) rfl dX1_sow_1 ?_
  refine lv_lstore_n (lv' := [(3, .long v_t_state), (0, .ref q_t), (1, .long p1)]) hx hb dX1_sow_4 rfl hl (by decide) rfl (fun ls hl => ?_)
  refine lv_aload_n hx hb dX1_sow_5 rfl (lv_at hl 1 rfl) ?_
  refine lv_lload_n hx hb dX1_sow_6 rfl (lv_at hl 2 rfl) ?_
  refine va_put (D := (dC, dI)) (ci := 1) (v := .long p1) (ty := .long) (C := RX1) (T := TX1) (N := 2) hx hb hts in_X1_sow_X1 tyX1 tyX1_ok nmX1 hown hK hP hD hS 0 rfl rfl 1 (by decide) (hts (.fieldLink RX1 15 "RightIfAsMany$Evenings" "state" "J") (List.mem_of_getElem? (i := 1) rfl)) (fun _ h9 => h9) rfl (by decide +kernel) rfl rfl (Nat.le_of_ble_eq_true rfl) dX1_sow_7 (fun H locs hP hD hS => ?_)
  have hP : va_P (dC, dI) vwCl [(q_t, .inr (1, [.ref q_t_counts, .long p1]))] H := hP
  have hD : va_D A [(q_t, .inr (1, [.ref q_t_counts, .long p1]))] := hD
  refine lv_lload_n hx hb dX1_sow_10 rfl (lv_at hl 0 rfl) ?_
  replace h := Option.some.inj h
  obtain ⟨e1, e2⟩ := pr2 h
  exact W.lret (v := v_t_state) hx hb hr (fun t ht hW => ⟨⟨_, (), rfl, e1, (by rw [ht, ← e2]; exact hP), (by rw [← e2]; exact hD)⟩, hS.F ht⟩) hS.2.2 dX1_sow_11
abbrev rm_X8_barredMany : Room := { frames := 1, cells := 0, slots := 0, locals := 20 }
theorem in_X8_barredMany_X8 : ∀ w ∈ wsX80, w ∈ wsX8_barredMany := fun _ h => List.mem_cons_of_mem _ (List.mem_append_right _ h)
set_option maxHeartbeats 4000000 in
set_option maxRecDepth 100000 in
theorem cn_X8_barredMany (l : Launch) (dC : Nat → ClassId) (dI : Nat → Nat → Nat) (cI cJ cZ : ClassId) (q_t : Nat) (v_t_law : Int32) (v_t_share : Int32) (v_t_pot : Int32) (v_t_barred : Int32) (res : Int32) (h : X8_barredMany v_t_barred = res) : Met l yX8_barredMany wsX8_barredMany rm_X8_barredMany (pcR dC dI cI cJ cZ [(q_t, .inr (8, [.int v_t_law, .int v_t_share, .int v_t_pot, .int v_t_barred]))] [.ref q_t]) (vp_Si (fun r => r = res)) 0 0 (fun _ => False) := by
  refine Met.ofW (cc := cX8_barredMany) (maxL := 1) (ret := (some .int)) (by decide) rfl ?_
  intro p e s m args below meth c s₁ B hml hv
  obtain ⟨rfl, hP, hKK⟩ := hv
  have hx := B.exec
  have hb := B.bytes
  have hr := B.returns
  have hts := atoms_spec (ws := wsX8_barredMany) B.pre
  have hown : s.vm.findClass RX8 = some m.cls := findClass_of_methodNamed B.named
  have hlocks := B.notSynchronized
  have hK := hKK.1
  have hl := lv_entry ([.ref q_t]) (n := 1) (Nat.le_of_ble_eq_true rfl)
  rw [lg_entry_eq]
  generalize (lg_sl ([.ref q_t]) ++ List.replicate (1 - (lg_sl ([.ref q_t])).length) Slot.unset).toArray = ls at hl ⊢
  have hl : lv_has ls 1 [(0, .ref q_t)] := hl
  unfold X8_barredMany at h
  refine lv_aload_n hx hb dX8_barredMany_0 rfl (lv_at hl 0 rfl) ?_
  refine va_get (D := (dC, dI)) (ci := 8) (v := .int v_t_barred) (C := RX8) (T := TX8) (N := 4) hx hb hts in_X8_barredMany_X8 hown hK hP 0 rfl rfl 3 (by decide) (hts (.fieldLink RX8 21 "RightIfAsMany$Rules" "barred" "I") (List.mem_of_getElem? (i := 1) rfl)) (fun _ h9 => h9) rfl dX8_barredMany_1 ?_
  refine kRi (res := (J6_bitCount_0f7a4 v_t_barred)) (va_runS (As := [.int v_t_barred]) (rest := []) ⟨hx, hb, hml, hown, hts⟩ (cn_J6_bitCount_0f7a4 l dC dI cI cJ cZ    v_t_barred (J6_bitCount_0f7a4 v_t_barred) rfl) (va_cwS 1 hts gX8_barredMany_J6_bitCount_0f7a4 rfl rfl rfl (by decide +kernel) ⟨Nat.le_of_ble_eq_true rfl, Nat.le_of_ble_eq_true rfl⟩) (preRS hKK (hP.sub (ws' := []) [] rfl)) rfl rfl hl.1 rfl (lv_room (Nat.le_of_ble_eq_true rfl)) dX8_barredMany_4 ⟨Nat.zero_le _, Nat.zero_le _⟩) ?_
  have e1 := h
  exact W.iret (v := (J6_bitCount_0f7a4 v_t_barred)) hx hb hr (fun t ht hW => ⟨_, rfl, e1, ht⟩) (fun q hq => by cases hq) dX8_barredMany_7
abbrev rm_X8_isOpen : Room := { frames := 1, cells := 0, slots := 0, locals := 20 }
theorem in_X8_isOpen_X8 : ∀ w ∈ wsX80, w ∈ wsX8_isOpen := fun _ h => List.mem_cons_of_mem _ (List.mem_append_right _ h)
set_option maxHeartbeats 4000000 in
set_option maxRecDepth 100000 in
theorem cn_X8_isOpen (l : Launch) (dC : Nat → ClassId) (dI : Nat → Nat → Nat) (cI cJ cZ : ClassId) (q_t : Nat) (v_t_law : Int32) (v_t_share : Int32) (v_t_pot : Int32) (v_t_barred : Int32) (p1 : Int32) (res : Int32) (h : X8_isOpen v_t_barred p1 = res) : Met l yX8_isOpen wsX8_isOpen rm_X8_isOpen (pcR dC dI cI cJ cZ [(q_t, .inr (8, [.int v_t_law, .int v_t_share, .int v_t_pot, .int v_t_barred]))] [.ref q_t, .int p1]) (vp_Si (fun r => r = res ∧ r &&& 1 = r)) 0 0 (fun _ => False) := by
  refine Met.ofW (cc := cX8_isOpen) (maxL := 2) (ret := (some .boolean)) (by decide) rfl ?_
  intro p e s m args below meth c s₁ B hml hv
  obtain ⟨rfl, hP, hKK⟩ := hv
  have hx := B.exec
  have hb := B.bytes
  have hr := B.returns
  have hts := atoms_spec (ws := wsX8_isOpen) B.pre
  have hown : s.vm.findClass RX8 = some m.cls := findClass_of_methodNamed B.named
  have hlocks := B.notSynchronized
  have hK := hKK.1
  have hl := lv_entry ([.ref q_t, .int p1]) (n := 2) (Nat.le_of_ble_eq_true rfl)
  rw [lg_entry_eq]
  generalize (lg_sl ([.ref q_t, .int p1]) ++ List.replicate (2 - (lg_sl ([.ref q_t, .int p1])).length) Slot.unset).toArray = ls at hl ⊢
  have hl : lv_has ls 2 [(0, .ref q_t), (1, .int p1)] := hl
  unfold X8_isOpen at h
  refine lv_iload_n hx hb dX8_isOpen_0 rfl (lv_at hl 1 rfl) ?_
  refine kRz (res := (X10_isNumber p1)) (va_runSN (As := [.int p1]) (rest := []) ⟨hx, hb, hml, hown, hts⟩ (cn_X10_isNumber l dC dI cI cJ cZ    p1 (X10_isNumber p1) rfl) ⟨va_cnB 1 hts gX8_isOpen_X10_isNumber_n30 rfl rfl rfl (hKK.nw 12 rfl) (hts (.initialized RX10) (List.mem_of_getElem? (i := 3) rfl)) (by decide +kernel) ⟨Nat.le_of_ble_eq_true rfl, Nat.le_of_ble_eq_true rfl⟩, hts (.static yX10_isNumber) (List.mem_of_getElem? (i := 2) rfl), trivial⟩ (preRS hKK (hP.sub (ws' := []) [] rfl)) rfl rfl hl.1 rfl (lv_room (Nat.le_of_ble_eq_true rfl)) dX8_isOpen_1 ⟨Nat.zero_le _, Nat.zero_le _⟩) (fun hz1 => ?_)
  refine lv_if_eq (tgt := 22) hx hb dX8_isOpen_4 (by decide) (fun c2 => ?_) (fun c2 => ?_)
  · replace h := ite_t h c2
    refine lv_iconst (v := (0 : Int32)) hx hb dX8_isOpen_22 (by decide) ?_
    have e1 := h
    exact W.zret (v := (0 : Int32)) (ty := .boolean) hx hb hr (congrArg Value.int rfl) (fun t ht hW => ⟨_, rfl, ⟨e1, rfl⟩, ht⟩) (fun q hq => by cases hq) dX8_isOpen_23
  replace h := ite_f h c2
  refine lv_aload_n hx hb dX8_isOpen_7 rfl (lv_at hl 0 rfl) ?_
  refine va_get (D := (dC, dI)) (ci := 8) (v := .int v_t_barred) (C := RX8) (T := TX8) (N := 4) hx hb hts in_X8_isOpen_X8 hown hK hP 0 rfl rfl 3 (by decide) (hts (.fieldLink RX8 21 "RightIfAsMany$Rules" "barred" "I") (List.mem_of_getElem? (i := 1) rfl)) (fun _ h9 => h9) rfl dX8_isOpen_8 ?_
  refine lv_iload_n hx hb dX8_isOpen_11 rfl (lv_at hl 1 rfl) ?_
  refine lv_ishr hx hb dX8_isOpen_12 ?_
  refine lv_iconst (v := (1 : Int32)) hx hb dX8_isOpen_13 (by decide) ?_
  refine lv_iand hx hb dX8_isOpen_14 ?_
  refine lv_if_ne (tgt := 22) hx hb dX8_isOpen_15 (by decide) (fun c3 => ?_) (fun c3 => ?_)
  · replace h := ite_f h c3
    refine lv_iconst (v := (0 : Int32)) hx hb dX8_isOpen_22 (by decide) ?_
    have e1 := h
    exact W.zret (v := (0 : Int32)) (ty := .boolean) hx hb hr (congrArg Value.int rfl) (fun t ht hW => ⟨_, rfl, ⟨e1, rfl⟩, ht⟩) (fun q hq => by cases hq) dX8_isOpen_23
  replace h := ite_t h c3
  refine lv_iconst (v := (1 : Int32)) hx hb dX8_isOpen_18 (by decide) ?_
  refine lv_goto (tgt := 23) hx hb dX8_isOpen_19 (by decide) ?_
  have e1 := h
  exact W.zret (v := (1 : Int32)) (ty := .boolean) hx hb hr (congrArg Value.int rfl) (fun t ht hW => ⟨_, rfl, ⟨e1, rfl⟩, ht⟩) (fun q hq => by cases hq) dX8_isOpen_23
abbrev rm_X8_openAt : Room := { frames := 2, cells := 0, slots := 0, locals := 41 }
theorem in_X8_openAt_X8 : ∀ w ∈ wsX80, w ∈ wsX8_openAt := fun _ h => List.mem_cons_of_mem _ (List.mem_append_right _ h)
set_option maxHeartbeats 4000000 in
set_option maxRecDepth 100000 in
theorem cn_X8_openAt (l : Launch) (dC : Nat → ClassId) (dI : Nat → Nat → Nat) (cI cJ cZ : ClassId) (q_t : Nat) (v_t_law : Int32) (v_t_share : Int32) (v_t_pot : Int32) (v_t_barred : Int32) (p1 : Int32) (res : Int32) (h : X8_openAt v_t_barred p1 = some res) : Met l yX8_openAt wsX8_openAt rm_X8_openAt (pcR dC dI cI cJ cZ [(q_t, .inr (8, [.int v_t_law, .int v_t_share, .int v_t_pot, .int v_t_barred]))] [.ref q_t, .int p1]) (vp_Si (fun r => r = res)) 0 0 (fun _ => False) := by
  refine Met.ofW (cc := cX8_openAt) (maxL := 4) (ret := (some .int)) (by decide) rfl ?_
  intro p e s m args below meth c s₁ B hml hv
  obtain ⟨rfl, hP, hKK⟩ := hv
  have hx := B.exec
  have hb := B.bytes
  have hr := B.returns
  have hts := atoms_spec (ws := wsX8_openAt) B.pre
  have hown : s.vm.findClass RX8 = some m.cls := findClass_of_methodNamed B.named
  have hlocks := B.notSynchronized
  have hK := hKK.1
  have hl := lv_entry ([.ref q_t, .int p1]) (n := 4) (Nat.le_of_ble_eq_true rfl)
  rw [lg_entry_eq]
  generalize (lg_sl ([.ref q_t, .int p1]) ++ List.replicate (4 - (lg_sl ([.ref q_t, .int p1])).length) Slot.unset).toArray = ls at hl ⊢
  have hl : lv_has ls 4 [(0, .ref q_t), (1, .int p1)] := hl
  have L_4 : ∀ (n4 : Nat) , ∀  (x1 : Int32) (x2 : Int32) (x3 : Int32), X8_openAt_b4 n4 v_t_barred x1 x2 x3 = some res → ∀ (ls : Array Slot), lv_has ls 4 [(0, .ref q_t), (1, .int x1), (2, .int x2), (3, .int x3)] → W p l e (headSpec wsX8_openAt rm_X8_openAt).room s m ([.ref q_t, .int p1] : List Value).toArray below meth c s.heap [] 0 0 (MQ below (vp_Si (fun r => r = res)) ([.ref q_t, .int p1] : List Value).toArray s 0 0 (fun _ => False)) (F0 m 4 ls []) := by
    intro n4
    induction n4 with
    | zero => intro x1 x2 x3 h ls hl; exact absurd h (fun h => by cases h)
    | succ n4 ih_4 =>
      have B_28 : ∀  (x1 : Int32) (x2 : Int32) (x3 : Int32), X8_openAt_b28 (X8_openAt_b4 n4) v_t_barred x1 x2 x3 = some res → ∀ (ls : Array Slot), lv_has ls 4 [(0, .ref q_t), (1, .int x1), (2, .int x2), (3, .int x3)] → W p l e (headSpec wsX8_openAt rm_X8_openAt).room s m ([.ref q_t, .int p1] : List Value).toArray below meth c s.heap [] 0 0 (MQ below (vp_Si (fun r => r = res)) ([.ref q_t, .int p1] : List Value).toArray s 0 0 (fun _ => False)) (F0 m 28 ls []) := by
        intro x1 x2 x3 h ls hl
        unfold X8_openAt_b28 at h
        refine lv_iinc (v := (x3 + (1 : Int32))) (lv' := [(3, .int (x3 + (1 : Int32))), (0, .ref q_t), (1, .int x1), (2, .int x2)]) hx hb dX8_openAt_28 hl (k := 3) rfl rfl (by decide) rfl (fun ls hl => ?_)
        refine lv_goto (tgt := 4) hx hb dX8_openAt_31 (by decide) ?_
        exact ih_4 x1 x2 (x3 + (1 : Int32)) h ls (lv_sub hl [1, 2, 3, 0] rfl)
      intro x1 x2 x3 h ls hl
      replace h : X8_openAt_b4_s (X8_openAt_b4 n4) v_t_barred x1 x2 x3 = some res := h
      unfold X8_openAt_b4_s at h
      refine lv_iload_n hx hb dX8_openAt_4 rfl (lv_at hl 3 rfl) ?_
      refine lv_bipush (v := (10 : Int32)) hx hb dX8_openAt_5 (by decide) ?_
      refine lv_icmp_ge (tgt := 34) hx hb dX8_openAt_7 (by decide) (fun c1 => ?_) (fun c1 => ?_)
      · replace h := ite_t h c1
        refine lv_bipush (v := (-9 : Int32)) hx hb dX8_openAt_34 (by decide) ?_
        have e1 := Option.some.inj h
        exact W.iret (v := (-9 : Int32)) hx hb hr (fun t ht hW => ⟨_, rfl, e1, ht⟩) (fun q hq => by cases hq) dX8_openAt_36
      replace h := ite_f h c1
      refine lv_aload_n hx hb dX8_openAt_10 rfl (lv_at hl 0 rfl) ?_
      refine lv_iload_n hx hb dX8_openAt_11 rfl (lv_at hl 3 rfl) ?_
      refine kRz (res := (X8_isOpen v_t_barred x3)) (va_runV (As := [.int x3]) (rest := []) ⟨hx, hb, hml, hown, hts⟩ (cn_X8_isOpen l dC dI cI cJ cZ q_t  v_t_law v_t_share v_t_pot v_t_barred x3 (X8_isOpen v_t_barred x3) rfl) (cwV 1 hts gX8_openAt_X8_isOpen rfl rfl rfl (by decide +kernel) ⟨Nat.le_of_ble_eq_true rfl, Nat.le_of_ble_eq_true rfl⟩) (preR hKK (hP.sub (ws' := [(q_t, .inr (8, [.int v_t_law, .int v_t_share, .int v_t_pot, .int v_t_barred]))]) [0] rfl) (ci := 8) (q0 := 0) rfl rfl) rfl rfl hl.1 rfl (lv_room (Nat.le_of_ble_eq_true rfl)) dX8_openAt_12 ⟨Nat.zero_le _, Nat.zero_le _⟩) (fun hz2 => ?_)
      refine lv_if_eq (tgt := 28) hx hb dX8_openAt_15 (by decide) (fun c3 => ?_) (fun c3 => ?_)
      · replace h := ite_t h c3
        exact B_28 x1 x2 x3 h ls (lv_sub hl [0, 1, 2, 3] rfl)
      replace h := ite_f h c3
      refine lv_iload_n hx hb dX8_openAt_18 rfl (lv_at hl 2 rfl) ?_
      refine lv_iload_n hx hb dX8_openAt_19 rfl (lv_at hl 1 rfl) ?_
      refine lv_icmp_ne (tgt := 25) hx hb dX8_openAt_20 (by decide) (fun c4 => ?_) (fun c4 => ?_)
      · replace h := ite_f h c4
        refine lv_iinc (v := (x2 + (1 : Int32))) (lv' := [(2, .int (x2 + (1 : Int32))), (0, .ref q_t), (1, .int x1), (3, .int x3)]) hx hb dX8_openAt_25 hl (k := 2) rfl rfl (by decide) rfl (fun ls hl => ?_)
        exact B_28 x1 (x2 + (1 : Int32)) x3 h ls (lv_sub hl [1, 2, 0, 3] rfl)
      replace h := ite_t h c4
      refine lv_iload_n hx hb dX8_openAt_23 rfl (lv_at hl 3 rfl) ?_
      have e1 := Option.some.inj h
      exact W.iret (v := x3) hx hb hr (fun t ht hW => ⟨_, rfl, e1, ht⟩) (fun q hq => by cases hq) dX8_openAt_24
  unfold X8_openAt at h
  refine lv_iconst (v := (0 : Int32)) hx hb dX8_openAt_0 (by decide) ?_
  refine lv_istore_n (lv' := [(2, .int (0 : Int32)), (0, .ref q_t), (1, .int p1)]) hx hb dX8_openAt_1 rfl hl (by decide) rfl (fun ls hl => ?_)
  refine lv_iconst (v := (0 : Int32)) hx hb dX8_openAt_2 (by decide) ?_
  refine lv_istore_n (lv' := [(3, .int (0 : Int32)), (2, .int (0 : Int32)), (0, .ref q_t), (1, .int p1)]) hx hb dX8_openAt_3 rfl hl (by decide) rfl (fun ls hl => ?_)
  exact L_4 fU p1 (0 : Int32) (0 : Int32) h ls (lv_sub hl [2, 3, 1, 0] rfl)
