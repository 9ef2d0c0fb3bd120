/-! the law's loop -/
set_option maxHeartbeats 4000000 in
set_option maxRecDepth 100000 in
theorem law_loop {p : Program} {l : Launch} {e : Env} {s : State} {m : MethodId} {below : List Frame} {meth : Method} {c : Code} {dC : Nat → ClassId} {dI : Nat → Nat → Nat} {cI cJ cZ : ClassId} {b L : Nat} {xs : Nat → Int32} (hL : L ≤ 2048) (C0 : lw_At p s m meth c b L xs) (hKK : kK dC dI cI cJ cZ s) {a : Nat → Nat} : ∀ (n i : Nat) (x3 : Int32), i ≤ L → L < i + n → x3 = nI i → ∀ (H : Heap) (locs : List Loc), LI2 dC dI cI cJ cZ (fun q : Nat => s.heap.size ≤ q) a H → va_S (fun q : Nat => s.heap.size ≤ q) s.heap H locs → ∀ (ls : Array Slot), lv_has ls 4 [(0, .ref b), (1, .ref (a 0)), (2, .ref (a 29)), (3, .int x3)] → W p l e room_1 s m #[Value.ref b] below meth c H locs 46 609 (lw_Z below #[Value.ref b] s) (F0 m 18 ls []) := by
  obtain ⟨hx, hb, hr, hml, hown, hts0, hX, hbl, hlocks, hgv⟩ := id C0
  have hbA : ¬ (fun q : Nat => s.heap.size ≤ q) b := Nat.not_le.mpr hbl
  intro n
  induction n with
  | zero => intro i x3 h1 h2; omega
  | succ n ih =>
    intro i x3 hi hin ex3 H locs hLI hS ls hl
    refine lv_iload_n hx hb dL_law_18 rfl (lv_at hl 3 rfl) ?_
    refine lv_aload_n hx hb dL_law_19 rfl (lv_at hl 0 rfl) ?_
    refine va_slen hx hb hX hbl hbA hS dL_law_20 ?_
    refine lv_iconst (v := (4 : Int32)) hx hb dL_law_21 (by decide) ?_
    refine lv_isub hx hb dL_law_22 ?_
    have eL : (Int32.ofNat L - (4 : Int32)).toInt = (L : Int) - (4 : Nat) := pk_sub_toInt (a := L) (b := 4) (by omega) (by omega)
    have ei : x3.toInt = (i : Int) := by rw [ex3]; exact nI_toInt (by omega)
    refine lv_icmp_gt (tgt := 959) hx hb dL_law_23 (by decide) (fun c9 => ?_) (fun c9 => ?_)
    · refine lv_iconst (v := (1 : Int32)) hx hb dL_law_959 (by decide) ?_
      refine va_forget (fun q hq => hS.2.2 q hq) ?_
      refine W.widen (k := 600000) (n := 7302250) (Nat.le_of_ble_eq_true rfl) (Nat.le_of_ble_eq_true rfl) ?_
      exact lw_ret hx hb hr hlocks dL_law_960
    · rw [z_lt, eL, ei] at c9
      have hlt : i + 4 ≤ L := by omega
      have h0 : vp_in x3 L := by rw [ex3]; exact vp_in_nI (by omega) (by omega)
      have h1 : vp_in (x3 + (1 : Int32)) L := by rw [ex3, show nI i + (1 : Int32) = nI (i + 1) from nI_add i 1]; exact vp_in_nI (by omega) (by omega)
      have h2 : vp_in (x3 + (2 : Int32)) L := by rw [ex3, show nI i + (2 : Int32) = nI (i + 2) from nI_add i 2]; exact vp_in_nI (by omega) (by omega)
      have h3 : vp_in (x3 + (3 : Int32)) L := by rw [ex3, show nI i + (3 : Int32) = nI (i + 3) from nI_add i 3]; exact vp_in_nI (by omega) (by omega)
      have e4 : x3 + (4 : Int32) = nI (i + 4) := by rw [ex3]; exact nI_add i 4
      have kk : ∀ (H : Heap) (locs : List Loc), LI2 dC dI cI cJ cZ (fun q : Nat => s.heap.size ≤ q) a H → va_S (fun q : Nat => s.heap.size ≤ q) s.heap H locs → W p l e room_1 s m #[Value.ref b] below meth c H locs 46 609 (lw_Z below #[Value.ref b] s) (F0 m 953 ls []) := by
        intro H locs hLI hS
        refine lv_iinc (v := (x3 + (4 : Int32))) (lv' := [(3, .int (x3 + (4 : Int32))), (0, .ref b), (1, .ref (a 0)), (2, .ref (a 29))]) hx hb dL_law_953 hl (k := 3) rfl rfl (by decide) rfl (fun ls hl => ?_)
        refine lv_goto (tgt := 18) hx hb dL_law_956 (by decide) ?_
        exact ih (i + 4) (x3 + (4 : Int32)) hlt (by omega) e4 H locs hLI hS ls (lv_sub hl [1, 2, 3, 0] rfl)
      refine lv_aload_n hx hb dL_law_26 rfl (lv_at hl 0 rfl) ?_
      refine lv_iload_n hx hb dL_law_27 rfl (lv_at hl 3 rfl) ?_
      refine va_sld hx hb hX hbl hbA hS h0 dL_law_28 ?_
      refine lv_bipush (v := (31 : Int32)) hx hb dL_law_29 (by decide) ?_
      refine lv_iand hx hb dL_law_31 ?_
      refine lv_topi (fun y ey => ?_)
      by_cases c0 : y = (0 : Int32)
      · refine lv_tableIn (off := 132) (tgt := 164) hx hb dL_law_32 (by rw [c0]; decide) (by rw [c0]; decide) (by rw [c0]; decide) (by decide) ?_
        exact law_write C0 hKK hLI hS hl h1 h2 h3 kk
      by_cases c1 : y = (1 : Int32)
      · refine lv_tableIn (off := 195) (tgt := 227) hx hb dL_law_32 (by rw [c1]; decide) (by rw [c1]; decide) (by rw [c1]; decide) (by decide) ?_
        exact law_wipe C0 hKK hLI hS hl h1 h2 h3 kk
      by_cases c2 : y = (2 : Int32)
      · refine lv_tableIn (off := 208) (tgt := 240) hx hb dL_law_32 (by rw [c2]; decide) (by rw [c2]; decide) (by rw [c2]; decide) (by decide) ?_
        exact law_fault C0 hKK hLI hS hl h1 h2 h3 kk
      by_cases c3 : y = (3 : Int32)
      · refine lv_tableIn (off := 221) (tgt := 253) hx hb dL_law_32 (by rw [c3]; decide) (by rw [c3]; decide) (by rw [c3]; decide) (by decide) ?_
        exact law_table C0 hKK hLI hS hl h1 h2 h3 kk
      by_cases c4 : y = (4 : Int32)
      · refine lv_tableIn (off := 234) (tgt := 266) hx hb dL_law_32 (by rw [c4]; decide) (by rw [c4]; decide) (by rw [c4]; decide) (by decide) ?_
        exact law_person C0 hKK hLI hS hl h1 h2 h3 kk
      by_cases c5 : y = (5 : Int32)
      · refine lv_tableIn (off := 267) (tgt := 299) hx hb dL_law_32 (by rw [c5]; decide) (by rw [c5]; decide) (by rw [c5]; decide) (by decide) ?_
        exact law_wrote C0 hKK hLI hS hl h1 h2 h3 kk
      by_cases c6 : y = (6 : Int32)
      · refine lv_tableIn (off := 290) (tgt := 322) hx hb dL_law_32 (by rw [c6]; decide) (by rw [c6]; decide) (by rw [c6]; decide) (by decide) ?_
        exact law_slip C0 hKK hLI hS hl h1 h2 h3 kk
      by_cases c7 : y = (7 : Int32)
      · refine lv_tableIn (off := 323) (tgt := 355) hx hb dL_law_32 (by rw [c7]; decide) (by rw [c7]; decide) (by rw [c7]; decide) (by decide) ?_
        exact law_come C0 hKK hLI hS hl h1 h2 h3 kk
      by_cases c8 : y = (8 : Int32)
      · refine lv_tableIn (off := 346) (tgt := 378) hx hb dL_law_32 (by rw [c8]; decide) (by rw [c8]; decide) (by rw [c8]; decide) (by decide) ?_
        exact law_leave C0 hKK hLI hS hl h1 h2 h3 kk
      by_cases c9 : y = (9 : Int32)
      · refine lv_tableIn (off := 369) (tgt := 401) hx hb dL_law_32 (by rw [c9]; decide) (by rw [c9]; decide) (by rw [c9]; decide) (by decide) ?_
        exact law_round C0 hKK hLI hS hl h1 h2 h3 kk
      by_cases c10 : y = (10 : Int32)
      · refine lv_tableIn (off := 382) (tgt := 414) hx hb dL_law_32 (by rw [c10]; decide) (by rw [c10]; decide) (by rw [c10]; decide) (by decide) ?_
        exact law_undo C0 hKK hLI hS hl h1 h2 h3 kk
      by_cases c11 : y = (11 : Int32)
      · refine lv_tableIn (off := 395) (tgt := 427) hx hb dL_law_32 (by rw [c11]; decide) (by rw [c11]; decide) (by rw [c11]; decide) (by decide) ?_
        exact law_settled C0 hKK hLI hS hl h1 h2 h3 kk
      by_cases c12 : y = (12 : Int32)
      · refine lv_tableIn (off := 408) (tgt := 440) hx hb dL_law_32 (by rw [c12]; decide) (by rw [c12]; decide) (by rw [c12]; decide) (by decide) ?_
        exact law_ways C0 hKK hLI hS hl h1 h2 h3 kk
      by_cases c13 : y = (13 : Int32)
      · refine lv_tableIn (off := 431) (tgt := 463) hx hb dL_law_32 (by rw [c13]; decide) (by rw [c13]; decide) (by rw [c13]; decide) (by decide) ?_
        exact law_wrong C0 hKK hLI hS hl h1 h2 h3 kk
      by_cases c14 : y = (14 : Int32)
      · refine lv_tableIn (off := 454) (tgt := 486) hx hb dL_law_32 (by rw [c14]; decide) (by rw [c14]; decide) (by rw [c14]; decide) (by decide) ?_
        exact law_agreed C0 hKK hLI hS hl h1 h2 h3 kk
      by_cases c15 : y = (15 : Int32)
      · refine lv_tableIn (off := 477) (tgt := 509) hx hb dL_law_32 (by rw [c15]; decide) (by rw [c15]; decide) (by rw [c15]; decide) (by decide) ?_
        exact law_late C0 hKK hLI hS hl h1 h2 h3 kk
      by_cases c16 : y = (16 : Int32)
      · refine lv_tableIn (off := 490) (tgt := 522) hx hb dL_law_32 (by rw [c16]; decide) (by rw [c16]; decide) (by rw [c16]; decide) (by decide) ?_
        exact law_tenths C0 hKK hLI hS hl h1 h2 h3 kk
      by_cases c17 : y = (17 : Int32)
      · refine lv_tableIn (off := 523) (tgt := 555) hx hb dL_law_32 (by rw [c17]; decide) (by rw [c17]; decide) (by rw [c17]; decide) (by decide) ?_
        exact law_allRight C0 hKK hLI hS hl h1 h2 h3 kk
      by_cases c18 : y = (18 : Int32)
      · refine lv_tableIn (off := 573) (tgt := 605) hx hb dL_law_32 (by rw [c18]; decide) (by rw [c18]; decide) (by rw [c18]; decide) (by decide) ?_
        exact law_mean C0 hKK hLI hS hl h1 h2 h3 kk
      by_cases c19 : y = (19 : Int32)
      · refine lv_tableIn (off := 623) (tgt := 655) hx hb dL_law_32 (by rw [c19]; decide) (by rw [c19]; decide) (by rw [c19]; decide) (by decide) ?_
        exact law_forget C0 hKK hLI hS hl h1 h2 h3 kk
      by_cases c20 : y = (20 : Int32)
      · refine lv_tableIn (off := 683) (tgt := 715) hx hb dL_law_32 (by rw [c20]; decide) (by rw [c20]; decide) (by rw [c20]; decide) (by decide) ?_
        exact law_rests C0 hKK hLI hS hl h1 h2 h3 kk
      by_cases c21 : y = (21 : Int32)
      · refine lv_tableIn (off := 706) (tgt := 738) hx hb dL_law_32 (by rw [c21]; decide) (by rw [c21]; decide) (by rw [c21]; decide) (by decide) ?_
        exact law_pay C0 hKK hLI hS hl h1 h2 h3 kk
      by_cases c22 : y = (22 : Int32)
      · refine lv_tableIn (off := 739) (tgt := 771) hx hb dL_law_32 (by rw [c22]; decide) (by rw [c22]; decide) (by rw [c22]; decide) (by decide) ?_
        exact law_unpay C0 hKK hLI hS hl h1 h2 h3 kk
      by_cases c23 : y = (23 : Int32)
      · refine lv_tableIn (off := 752) (tgt := 784) hx hb dL_law_32 (by rw [c23]; decide) (by rw [c23]; decide) (by rw [c23]; decide) (by decide) ?_
        exact law_cheated C0 hKK hLI hS hl h1 h2 h3 kk
      by_cases c24 : y = (24 : Int32)
      · refine lv_tableIn (off := 765) (tgt := 797) hx hb dL_law_32 (by rw [c24]; decide) (by rw [c24]; decide) (by rw [c24]; decide) (by decide) ?_
        exact law_seed C0 hKK hLI hS hl h1 h2 h3 kk
      by_cases c25 : y = (25 : Int32)
      · refine lv_tableIn (off := 819) (tgt := 851) hx hb dL_law_32 (by rw [c25]; decide) (by rw [c25]; decide) (by rw [c25]; decide) (by decide) ?_
        exact law_won C0 hKK hLI hS hl h1 h2 h3 kk
      by_cases c26 : y = (26 : Int32)
      · refine lv_tableIn (off := 852) (tgt := 884) hx hb dL_law_32 (by rw [c26]; decide) (by rw [c26]; decide) (by rw [c26]; decide) (by decide) ?_
        exact law_keep C0 hKK hLI hS hl h1 h2 h3 kk
      by_cases c27 : y = (27 : Int32)
      · refine lv_tableIn (off := 875) (tgt := 907) hx hb dL_law_32 (by rw [c27]; decide) (by rw [c27]; decide) (by rw [c27]; decide) (by decide) ?_
        exact law_again C0 hKK hLI hS hl h1 h2 h3 kk
      by_cases c28 : y = (28 : Int32)
      · refine lv_tableIn (off := 898) (tgt := 930) hx hb dL_law_32 (by rw [c28]; decide) (by rw [c28]; decide) (by rw [c28]; decide) (by decide) ?_
        exact law_count C0 hKK hLI hS hl h1 h2 h3 kk
      have e100 := lv_neT (a := 0) c0 (by decide)
      have e101 := lv_neT (a := 1) c1 (by decide)
      have e102 := lv_neT (a := 2) c2 (by decide)
      have e103 := lv_neT (a := 3) c3 (by decide)
      have e104 := lv_neT (a := 4) c4 (by decide)
      have e105 := lv_neT (a := 5) c5 (by decide)
      have e106 := lv_neT (a := 6) c6 (by decide)
      have e107 := lv_neT (a := 7) c7 (by decide)
      have e108 := lv_neT (a := 8) c8 (by decide)
      have e109 := lv_neT (a := 9) c9 (by decide)
      have e110 := lv_neT (a := 10) c10 (by decide)
      have e111 := lv_neT (a := 11) c11 (by decide)
      have e112 := lv_neT (a := 12) c12 (by decide)
      have e113 := lv_neT (a := 13) c13 (by decide)
      have e114 := lv_neT (a := 14) c14 (by decide)
      have e115 := lv_neT (a := 15) c15 (by decide)
      have e116 := lv_neT (a := 16) c16 (by decide)
      have e117 := lv_neT (a := 17) c17 (by decide)
      have e118 := lv_neT (a := 18) c18 (by decide)
      have e119 := lv_neT (a := 19) c19 (by decide)
      have e120 := lv_neT (a := 20) c20 (by decide)
      have e121 := lv_neT (a := 21) c21 (by decide)
      have e122 := lv_neT (a := 22) c22 (by decide)
      have e123 := lv_neT (a := 23) c23 (by decide)
      have e124 := lv_neT (a := 24) c24 (by decide)
      have e125 := lv_neT (a := 25) c25 (by decide)
      have e126 := lv_neT (a := 26) c26 (by decide)
      have e127 := lv_neT (a := 27) c27 (by decide)
      have e128 := lv_neT (a := 28) c28 (by decide)
      refine lv_tableOut (tgt := 953) hx hb dL_law_32 (by omega) (by decide) ?_
      exact kk H locs hLI hS
