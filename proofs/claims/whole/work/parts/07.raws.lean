/-! the methods as functions, by program out of the bytecode -/
def J6_bitCount_0f7a4  (p0 : Int32) : Int32 :=
  ((((((((p0 - ((p0.toUInt32 >>> ((1 : Int32).toUInt32 &&& Int32.toUInt32 31)).toInt32 &&& (1431655765 : Int32))) &&& (858993459 : Int32)) + (((p0 - ((p0.toUInt32 >>> ((1 : Int32).toUInt32 &&& Int32.toUInt32 31)).toInt32 &&& (1431655765 : Int32))).toUInt32 >>> ((2 : Int32).toUInt32 &&& Int32.toUInt32 31)).toInt32 &&& (858993459 : Int32))) + ((((p0 - ((p0.toUInt32 >>> ((1 : Int32).toUInt32 &&& Int32.toUInt32 31)).toInt32 &&& (1431655765 : Int32))) &&& (858993459 : Int32)) + (((p0 - ((p0.toUInt32 >>> ((1 : Int32).toUInt32 &&& Int32.toUInt32 31)).toInt32 &&& (1431655765 : Int32))).toUInt32 >>> ((2 : Int32).toUInt32 &&& Int32.toUInt32 31)).toInt32 &&& (858993459 : Int32))).toUInt32 >>> ((4 : Int32).toUInt32 &&& Int32.toUInt32 31)).toInt32) &&& (252645135 : Int32)) + ((((((p0 - ((p0.toUInt32 >>> ((1 : Int32).toUInt32 &&& Int32.toUInt32 31)).toInt32 &&& (1431655765 : Int32))) &&& (858993459 : Int32)) + (((p0 - ((p0.toUInt32 >>> ((1 : Int32).toUInt32 &&& Int32.toUInt32 31)).toInt32 &&& (1431655765 : Int32))).toUInt32 >>> ((2 : Int32).toUInt32 &&& Int32.toUInt32 31)).toInt32 &&& (858993459 : Int32))) + ((((p0 - ((p0.toUInt32 >>> ((1 : Int32).toUInt32 &&& Int32.toUInt32 31)).toInt32 &&& (1431655765 : Int32))) &&& (858993459 : Int32)) + (((p0 - ((p0.toUInt32 >>> ((1 : Int32).toUInt32 &&& Int32.toUInt32 31)).toInt32 &&& (1431655765 : Int32))).toUInt32 >>> ((2 : Int32).toUInt32 &&& Int32.toUInt32 31)).toInt32 &&& (858993459 : Int32))).toUInt32 >>> ((4 : Int32).toUInt32 &&& Int32.toUInt32 31)).toInt32) &&& (252645135 : Int32)).toUInt32 >>> ((8 : Int32).toUInt32 &&& Int32.toUInt32 31)).toInt32) + (((((((p0 - ((p0.toUInt32 >>> ((1 : Int32).toUInt32 &&& Int32.toUInt32 31)).toInt32 &&& (1431655765 : Int32))) &&& (858993459 : Int32)) + (((p0 - ((p0.toUInt32 >>> ((1 : Int32).toUInt32 &&& Int32.toUInt32 31)).toInt32 &&& (1431655765 : Int32))).toUInt32 >>> ((2 : Int32).toUInt32 &&& Int32.toUInt32 31)).toInt32 &&& (858993459 : Int32))) + ((((p0 - ((p0.toUInt32 >>> ((1 : Int32).toUInt32 &&& Int32.toUInt32 31)).toInt32 &&& (1431655765 : Int32))) &&& (858993459 : Int32)) + (((p0 - ((p0.toUInt32 >>> ((1 : Int32).toUInt32 &&& Int32.toUInt32 31)).toInt32 &&& (1431655765 : Int32))).toUInt32 >>> ((2 : Int32).toUInt32 &&& Int32.toUInt32 31)).toInt32 &&& (858993459 : Int32))).toUInt32 >>> ((4 : Int32).toUInt32 &&& Int32.toUInt32 31)).toInt32) &&& (252645135 : Int32)) + ((((((p0 - ((p0.toUInt32 >>> ((1 : Int32).toUInt32 &&& Int32.toUInt32 31)).toInt32 &&& (1431655765 : Int32))) &&& (858993459 : Int32)) + (((p0 - ((p0.toUInt32 >>> ((1 : Int32).toUInt32 &&& Int32.toUInt32 31)).toInt32 &&& (1431655765 : Int32))).toUInt32 >>> ((2 : Int32).toUInt32 &&& Int32.toUInt32 31)).toInt32 &&& (858993459 : Int32))) + ((((p0 - ((p0.toUInt32 >>> ((1 : Int32).toUInt32 &&& Int32.toUInt32 31)).toInt32 &&& (1431655765 : Int32))) &&& (858993459 : Int32)) + (((p0 - ((p0.toUInt32 >>> ((1 : Int32).toUInt32 &&& Int32.toUInt32 31)).toInt32 &&& (1431655765 : Int32))).toUInt32 >>> ((2 : Int32).toUInt32 &&& Int32.toUInt32 31)).toInt32 &&& (858993459 : Int32))).toUInt32 >>> ((4 : Int32).toUInt32 &&& Int32.toUInt32 31)).toInt32) &&& (252645135 : Int32)).toUInt32 >>> ((8 : Int32).toUInt32 &&& Int32.toUInt32 31)).toInt32).toUInt32 >>> ((16 : Int32).toUInt32 &&& Int32.toUInt32 31)).toInt32) &&& (63 : Int32))
def X10_isNumber  (p0 : Int32) : Int32 :=
  if p0 < 0 then
    (0 : Int32)
  else
    if (10 : Int32) ≤ p0 then
      (0 : Int32)
    else
      (1 : Int32)
def X0_put (f_t_weights : (Nat → Int32)) (p1 : Int32) (p2 : Int32) : Option (Int32 × (Nat → Int32)) :=
  if (X10_isNumber p1) = 0 then
    some ((-9 : Int32), f_t_weights)
  else
    if (p1 < 0 ∨ 10 ≤ p1.toNatClampNeg) then none else
      if (p1 < 0 ∨ 10 ≤ p1.toNatClampNeg) then none else
      some ((f_t_weights p1.toNatClampNeg), (upd f_t_weights p1.toNatClampNeg p2))
def X0_areWhole_b36 (f_t_weights : (Nat → Int32)) (x1 : Int32) : Option (Int32) :=
  if x1 = (10 : Int32) then
    some (1 : Int32)
  else
    some (0 : Int32)
def X0_areWhole_b13_s (self_13 : (Nat → Int32) → Int32 → Int32 → Int32 → Option (Int32)) (f_t_weights : (Nat → Int32)) (x1 : Int32) (x3 : Int32) (x4 : Int32) : Option (Int32) :=
  if x3 ≤ x4 then
    X0_areWhole_b36 f_t_weights x1
  else
    if (x4 < 0 ∨ 10 ≤ x4.toNatClampNeg) then none else
      self_13 f_t_weights (x1 + (f_t_weights x4.toNatClampNeg)) x3 (x4 + (1 : Int32))
def X0_areWhole_b13 : Nat → (Nat → Int32) → Int32 → Int32 → Int32 → Option (Int32)
  | 0 => fun _ _ _ _ => none
  | n + 1 => X0_areWhole_b13_s (X0_areWhole_b13 n)
def X0_areWhole (f_t_weights : (Nat → Int32))  : Option (Int32) :=
  X0_areWhole_b13 fU f_t_weights (0 : Int32) (10 : Int32) (0 : Int32)
def X10_choose_b4_s (self_4 : Int32 → Int32 → Int32 → Int32 → Option (Int32))  (x0 : Int32) (x1 : Int32) (x2 : Int32) (x3 : Int32) : Option (Int32) :=
  if x1 < x3 then
    some x2
  else
    if x3 = 0 then none else
      self_4 x0 x1 ((x2 * ((x0 - x3) + (1 : Int32))) / x3) (x3 + (1 : Int32))
def X10_choose_b4 : Nat → Int32 → Int32 → Int32 → Int32 → Option (Int32)
  | 0 => fun _ _ _ _ => none
  | n + 1 => X10_choose_b4_s (X10_choose_b4 n)
def X10_choose  (p0 : Int32) (p1 : Int32) : Option (Int32) :=
  X10_choose_b4 fU p0 p1 (1 : Int32) (1 : Int32)
def X10_power_b5_s (self_5 : Int64 → Int32 → Int64 → Int32 → Option (Int64))  (x0 : Int64) (x2 : Int32) (x3 : Int64) (x5 : Int32) : Option (Int64) :=
  if x2 ≤ x5 then
    some x3
  else
    self_5 x0 x2 (x3 * x0) (x5 + (1 : Int32))
def X10_power_b5 : Nat → Int64 → Int32 → Int64 → Int32 → Option (Int64)
  | 0 => fun _ _ _ _ => none
  | n + 1 => X10_power_b5_s (X10_power_b5 n)
def X10_power  (p0 : Int64) (p2 : Int32) : Option (Int64) :=
  X10_power_b5 fU p0 p2 (1 : Int64) (0 : Int32)
def X0_cases  (p0 : Int32) (p1 : Int32) (p2 : Int32) : Option (Int64) :=
  bnd1 (X10_choose p0 p1) (fun r1 =>
    bnd1 (X10_power p2.toInt64 p1) (fun r2 =>
      bnd1 (X10_power ((10 : Int32) - p2).toInt64 (p0 - p1)) (fun r3 =>
        some ((r1.toInt64 * r2) * r3))))
def X8_suits (v_t_law : Int32) (p1 : Int32) (p2 : Int32) : Int32 :=
  if v_t_law = 0 then
    if p2 = p1 then
      (1 : Int32)
    else
      (0 : Int32)
  else
    if v_t_law = (1 : Int32) then
      if p2 < p1 then
        (0 : Int32)
      else
        (1 : Int32)
    else
      if p1 < p2 then
        (0 : Int32)
      else
        (1 : Int32)
def X0_rightTogether_b52 (self_5 : (Nat → Int32) → Int32 → Int32 → Int64 → Int32 → Option (Int64)) (self_15 : (Nat → Int32) → Int32 → Int32 → Int64 → Int32 → Int32 → Option (Int64)) (f_t_weights : (Nat → Int32)) (v_p1_law : Int32) (x2 : Int32) (x3 : Int64) (x5 : Int32) (x6 : Int32) : Option (Int64) :=
  self_15 f_t_weights v_p1_law x2 x3 x5 (x6 + (1 : Int32))
def X0_rightTogether_b58 (self_5 : (Nat → Int32) → Int32 → Int32 → Int64 → Int32 → Option (Int64)) (f_t_weights : (Nat → Int32)) (v_p1_law : Int32) (x2 : Int32) (x3 : Int64) (x5 : Int32) : Option (Int64) :=
  self_5 f_t_weights v_p1_law x2 x3 (x5 + (1 : Int32))
def X0_rightTogether_b15_s (self_5 : (Nat → Int32) → Int32 → Int32 → Int64 → Int32 → Option (Int64)) (self_15 : (Nat → Int32) → Int32 → Int32 → Int64 → Int32 → Int32 → Option (Int64)) (f_t_weights : (Nat → Int32)) (v_p1_law : Int32) (x2 : Int32) (x3 : Int64) (x5 : Int32) (x6 : Int32) : Option (Int64) :=
  if x2 < x6 then
    X0_rightTogether_b58 self_5 f_t_weights v_p1_law x2 x3 x5
  else
    if (X8_suits v_p1_law x5 x6) = 0 then
      X0_rightTogether_b52 self_5 self_15 f_t_weights v_p1_law x2 x3 x5 x6
    else
      if (x5 < 0 ∨ 10 ≤ x5.toNatClampNeg) then none else
        bnd1 (X0_cases x2 x6 (f_t_weights x5.toNatClampNeg)) (fun r5 =>
        X0_rightTogether_b52 self_5 self_15 f_t_weights v_p1_law x2 (x3 + (x6.toInt64 * r5)) x5 x6)
def X0_rightTogether_b15 (self_5 : (Nat → Int32) → Int32 → Int32 → Int64 → Int32 → Option (Int64)) : Nat → (Nat → Int32) → Int32 → Int32 → Int64 → Int32 → Int32 → Option (Int64)
  | 0 => fun _ _ _ _ _ _ => none
  | n + 1 => X0_rightTogether_b15_s self_5 (X0_rightTogether_b15 self_5 n)
def X0_rightTogether_b5_s (self_5 : (Nat → Int32) → Int32 → Int32 → Int64 → Int32 → Option (Int64)) (f_t_weights : (Nat → Int32)) (v_p1_law : Int32) (x2 : Int32) (x3 : Int64) (x5 : Int32) : Option (Int64) :=
  if (10 : Int32) ≤ x5 then
    some x3
  else
    X0_rightTogether_b15 self_5 fU f_t_weights v_p1_law x2 x3 x5 (1 : Int32)
def X0_rightTogether_b5 : Nat → (Nat → Int32) → Int32 → Int32 → Int64 → Int32 → Option (Int64)
  | 0 => fun _ _ _ _ _ => none
  | n + 1 => X0_rightTogether_b5_s (X0_rightTogether_b5 n)
def X0_rightTogether (f_t_weights : (Nat → Int32)) (v_p1_law : Int32) (p2 : Int32) : Option (Int64) :=
  X0_rightTogether_b5 fU f_t_weights v_p1_law p2 (0 : Int64) (0 : Int32)
def X0_rightThoughForgetting_b50 (self_13 : Int32 → Int32 → Int32 → Int32 → Int64 → Int32 → Option (Int64)) (v_p1_law : Int32) (x2 : Int32) (x3 : Int32) (x5 : Int32) (x6 : Int64) (x8 : Int32) : Option (Int64) :=
  self_13 v_p1_law x2 x3 x5 x6 (x8 + (1 : Int32))
def X0_rightThoughForgetting_b13_s (self_13 : Int32 → Int32 → Int32 → Int32 → Int64 → Int32 → Option (Int64)) (v_p1_law : Int32) (x2 : Int32) (x3 : Int32) (x5 : Int32) (x6 : Int64) (x8 : Int32) : Option (Int64) :=
  if x3 ≤ x8 then
    some x6
  else
    if (X8_suits v_p1_law x2 (x8 + (1 : Int32))) = 0 then
      X0_rightThoughForgetting_b50 self_13 v_p1_law x2 x3 x5 x6 x8
    else
      bnd1 (X0_cases (x3 - (1 : Int32)) x8 x5) (fun r4 =>
        X0_rightThoughForgetting_b50 self_13 v_p1_law x2 x3 x5 (x6 + (x5.toInt64 * r4)) x8)
def X0_rightThoughForgetting_b13 : Nat → Int32 → Int32 → Int32 → Int32 → Int64 → Int32 → Option (Int64)
  | 0 => fun _ _ _ _ _ _ => none
  | n + 1 => X0_rightThoughForgetting_b13_s (X0_rightThoughForgetting_b13 n)
def X0_rightThoughForgetting (v_p1_law : Int32) (p2 : Int32) (p3 : Int32) (p4 : Int32) : Option (Int64) :=
  X0_rightThoughForgetting_b13 fU v_p1_law p2 p3 ((10 : Int32) - p4) (0 : Int64) (0 : Int32)
def X1_sow (v_t_state : Int64) (p1 : Int64) : Option (Int64 × Int64) :=
  some (v_t_state, p1)
def X8_barredMany (v_t_barred : Int32)  : Int32 :=
  (J6_bitCount_0f7a4 v_t_barred)
def X8_isOpen (v_t_barred : Int32) (p1 : Int32) : Int32 :=
  if (X10_isNumber p1) = 0 then
    (0 : Int32)
  else
    if ((v_t_barred >>> (p1 &&& 31)) &&& (1 : Int32)) = 0 then
      (1 : Int32)
    else
      (0 : Int32)
def X8_openAt_b28 (self_4 : Int32 → Int32 → Int32 → Int32 → Option (Int32)) (v_t_barred : Int32) (x1 : Int32) (x2 : Int32) (x3 : Int32) : Option (Int32) :=
  self_4 v_t_barred x1 x2 (x3 + (1 : Int32))
def X8_openAt_b4_s (self_4 : Int32 → Int32 → Int32 → Int32 → Option (Int32)) (v_t_barred : Int32) (x1 : Int32) (x2 : Int32) (x3 : Int32) : Option (Int32) :=
  if (10 : Int32) ≤ x3 then
    some (-9 : Int32)
  else
    if (X8_isOpen v_t_barred x3) = 0 then
      X8_openAt_b28 self_4 v_t_barred x1 x2 x3
    else
      if x2 = x1 then
        some x3
      else
        X8_openAt_b28 self_4 v_t_barred x1 (x2 + (1 : Int32)) x3
def X8_openAt_b4 : Nat → Int32 → Int32 → Int32 → Int32 → Option (Int32)
  | 0 => fun _ _ _ _ => none
  | n + 1 => X8_openAt_b4_s (X8_openAt_b4 n)
def X8_openAt (v_t_barred : Int32) (p1 : Int32) : Option (Int32) :=
  X8_openAt_b4 fU v_t_barred p1 (0 : Int32) (0 : Int32)
def X1_drawn (v_t_state : Int64) (v_p1_barred : Int32)  : Option (Int32 × Int64) :=
  if ((10 : Int32) - (X8_barredMany v_p1_barred)) ≤ 0 then
    some ((-9 : Int32), ((v_t_state * (6364136223846793005 : Int64)) + (1442695040888963407 : Int64)))
  else
    if ((10 : Int32) - (X8_barredMany v_p1_barred)) = 0 then none else
      bnd1 (X8_openAt v_p1_barred ((((v_t_state * (6364136223846793005 : Int64)) + (1442695040888963407 : Int64)).toUInt64 >>> ((33 : Int32).toInt64.toUInt64 &&& Int64.toUInt64 63)).toInt64.toInt32 - (((v_t_state * (6364136223846793005 : Int64)) + (1442695040888963407 : Int64)).toUInt64 >>> ((33 : Int32).toInt64.toUInt64 &&& Int64.toUInt64 63)).toInt64.toInt32 / ((10 : Int32) - (X8_barredMany v_p1_barred)) * ((10 : Int32) - (X8_barredMany v_p1_barred)))) (fun r3 =>
      some (r3, ((v_t_state * (6364136223846793005 : Int64)) + (1442695040888963407 : Int64))))
def X8_weight (v_t_share : Int32) (p1 : Int32) : Int32 :=
  if v_t_share = 0 then
    (1 : Int32)
  else
    p1
def X8_claim (v_t_law : Int32) (v_t_share : Int32) (p1 : Int32) (p2 : Int32) : Int32 :=
  if (X8_suits v_t_law p1 p2) = 0 then
    (0 : Int32)
  else
    (p2 * (X8_weight v_t_share p1))
def X8_claims_b4_s (self_4 : Int32 → Int32 → (Nat → Int32) → Int32 → Int32 → Option (Int32)) (v_t_law : Int32) (v_t_share : Int32) (f_p1 : (Nat → Int32)) (x2 : Int32) (x3 : Int32) : Option (Int32) :=
  if (10 : Int32) ≤ x3 then
    some x2
  else
    if (10 : Int32) ≤ x3 then
      some x2
    else
      if (x3 < 0 ∨ 10 ≤ x3.toNatClampNeg) then none else
        self_4 v_t_law v_t_share f_p1 (x2 + (X8_claim v_t_law v_t_share x3 (f_p1 x3.toNatClampNeg))) (x3 + (1 : Int32))
def X8_claims_b4 : Nat → Int32 → Int32 → (Nat → Int32) → Int32 → Int32 → Option (Int32)
  | 0 => fun _ _ _ _ _ => none
  | n + 1 => X8_claims_b4_s (X8_claims_b4 n)
def X8_claims (v_t_law : Int32) (v_t_share : Int32) (f_p1 : (Nat → Int32))  : Option (Int32) :=
  X8_claims_b4 fU v_t_law v_t_share f_p1 (0 : Int32) (0 : Int32)
def X8_gain (v_t_law : Int32) (v_t_share : Int32) (v_t_pot : Int32) (p1 : Int32) (p2 : Int32) (p3 : Int32) : Option (Int32) :=
  if p3 ≤ 0 then
    some (0 : Int32)
  else
    if (X8_suits v_t_law p1 p2) = 0 then
      some (0 : Int32)
    else
      if p3 = 0 then none else
        some ((v_t_pot * (X8_weight v_t_share p1)) / p3)
def X1_gain_b57 (self_15 : Int64 → (Nat → Int32) → Int32 → Int32 → Int32 → Int32 → Int32 → Int32 → Int32 → Int32 → Option (Int32 × Int64 × (Nat → Int32))) (v_t_state : Int64) (f_t_counts : (Nat → Int32)) (v_p1_law : Int32) (v_p1_share : Int32) (v_p1_pot : Int32) (v_p1_barred : Int32) (x2 : Int32) (x3 : Int32) (x4 : Int32) (x5 : Int32) : Option (Int32 × Int64 × (Nat → Int32)) :=
  self_15 v_t_state f_t_counts v_p1_law v_p1_share v_p1_pot v_p1_barred x2 x3 x4 (x5 + (1 : Int32))
def X1_gain_b47 (self_15 : Int64 → (Nat → Int32) → Int32 → Int32 → Int32 → Int32 → Int32 → Int32 → Int32 → Int32 → Option (Int32 × Int64 × (Nat → Int32))) (v_t_state : Int64) (f_t_counts : (Nat → Int32)) (v_p1_law : Int32) (v_p1_share : Int32) (v_p1_pot : Int32) (v_p1_barred : Int32) (x2 : Int32) (x3 : Int32) (x4 : Int32) (x5 : Int32) (x6 : Int32) : Option (Int32 × Int64 × (Nat → Int32)) :=
  if x5 = x2 then
    X1_gain_b57 self_15 v_t_state f_t_counts v_p1_law v_p1_share v_p1_pot v_p1_barred x2 x3 x6 x5
  else
    X1_gain_b57 self_15 v_t_state f_t_counts v_p1_law v_p1_share v_p1_pot v_p1_barred x2 x3 x4 x5
def X1_gain_b63 (v_t_state : Int64) (f_t_counts : (Nat → Int32)) (v_p1_law : Int32) (v_p1_share : Int32) (v_p1_pot : Int32) (v_p1_barred : Int32) (x4 : Int32) : Option (Int32 × Int64 × (Nat → Int32)) :=
  if (X10_isNumber x4) = 0 then
    some ((0 : Int32), v_t_state, f_t_counts)
  else
    if (x4 < 0 ∨ 10 ≤ x4.toNatClampNeg) then none else
      bnd1 (X8_claims v_p1_law v_p1_share f_t_counts) (fun r5 =>
      bnd1 (X8_gain v_p1_law v_p1_share v_p1_pot x4 (f_t_counts x4.toNatClampNeg) r5) (fun r6 =>
        some (r6, v_t_state, f_t_counts)))
def X1_gain_b15_s (self_15 : Int64 → (Nat → Int32) → Int32 → Int32 → Int32 → Int32 → Int32 → Int32 → Int32 → Int32 → Option (Int32 × Int64 × (Nat → Int32))) (v_t_state : Int64) (f_t_counts : (Nat → Int32)) (v_p1_law : Int32) (v_p1_share : Int32) (v_p1_pot : Int32) (v_p1_barred : Int32) (x2 : Int32) (x3 : Int32) (x4 : Int32) (x5 : Int32) : Option (Int32 × Int64 × (Nat → Int32)) :=
  if x3 ≤ x5 then
    X1_gain_b63 v_t_state f_t_counts v_p1_law v_p1_share v_p1_pot v_p1_barred x4
  else
    bnd2 (X1_drawn v_t_state v_p1_barred) (fun r8 w8_1 =>
      if (X10_isNumber r8) = 0 then
        X1_gain_b47 self_15 w8_1 f_t_counts v_p1_law v_p1_share v_p1_pot v_p1_barred x2 x3 x4 x5 r8
      else
        if (r8 < 0 ∨ 10 ≤ r8.toNatClampNeg) then none else
          if (r8 < 0 ∨ 10 ≤ r8.toNatClampNeg) then none else
          X1_gain_b47 self_15 w8_1 (upd f_t_counts r8.toNatClampNeg ((f_t_counts r8.toNatClampNeg) + (1 : Int32))) v_p1_law v_p1_share v_p1_pot v_p1_barred x2 x3 x4 x5 r8)
def X1_gain_b15 : Nat → Int64 → (Nat → Int32) → Int32 → Int32 → Int32 → Int32 → Int32 → Int32 → Int32 → Int32 → Option (Int32 × Int64 × (Nat → Int32))
  | 0 => fun _ _ _ _ _ _ _ _ _ _ => none
  | n + 1 => X1_gain_b15_s (X1_gain_b15 n)
def X1_gain (v_t_state : Int64) (f_t_counts : (Nat → Int32)) (v_p1_law : Int32) (v_p1_share : Int32) (v_p1_pot : Int32) (v_p1_barred : Int32) (p2 : Int32) (p3 : Int32) : Option (Int32 × Int64 × (Nat → Int32)) :=
  X1_gain_b15 fU v_t_state (fillI 10 f_t_counts (0 : Int32)) v_p1_law v_p1_share v_p1_pot v_p1_barred p2 p3 (-9 : Int32) (0 : Int32)
def X9_length (v_t_length : Int32)  : Int32 :=
  v_t_length
def X9_add_b5_s (self_5 : Int32 → (Nat → Int32) → Int64 → Int32 → Option (Int32 × (Nat → Int32))) (v_t_length : Int32) (f_t_bytes : (Nat → Int32)) (x2 : Int64) (x4 : Int32) : Option (Int32 × (Nat → Int32)) :=
  if x4 < 0 then
    some (v_t_length, f_t_bytes)
  else
    if (40 : Int32) ≤ v_t_length then
      some (v_t_length, f_t_bytes)
    else
      if (v_t_length < 0 ∨ 40 ≤ v_t_length.toNatClampNeg) then none else
        self_5 (v_t_length + (1 : Int32)) (upd f_t_bytes v_t_length.toNatClampNeg ((x2.toUInt64 >>> (((8 : Int32) * x4).toInt64.toUInt64 &&& Int64.toUInt64 63)).toInt64.toInt32 &&& (255 : Int32))) x2 (x4 + (-1 : Int32))
def X9_add_b5 : Nat → Int32 → (Nat → Int32) → Int64 → Int32 → Option (Int32 × (Nat → Int32))
  | 0 => fun _ _ _ _ => none
  | n + 1 => X9_add_b5_s (X9_add_b5 n)
def X9_add (v_t_length : Int32) (f_t_bytes : (Nat → Int32)) (p1 : Int32) (p2 : Int64) : Option (Int32 × (Nat → Int32)) :=
  X9_add_b5 fU v_t_length f_t_bytes p2 (p1 - (1 : Int32))
def X10_write (v_t_text_length : Int32) (f_t_text_bytes : (Nat → Int32)) (p1 : Int32) (p2 : Int64) : Option (Int32 × Int32 × (Nat → Int32)) :=
  if p1 < (1 : Int32) then
    some ((-2 : Int32), v_t_text_length, f_t_text_bytes)
  else
    if p1 ≤ (8 : Int32) then
      if p1 ≤ ((40 : Int32) - (X9_length v_t_text_length)) then
        bnd2 (X9_add v_t_text_length f_t_text_bytes p1 p2) (fun w4_0 w4_1 =>
          some ((X9_length w4_0), w4_0, w4_1))
      else
        some ((-4 : Int32), v_t_text_length, f_t_text_bytes)
    else
      some ((-2 : Int32), v_t_text_length, f_t_text_bytes)
def X9_clear (v_t_length : Int32)  : Option (Int32) :=
  some (0 : Int32)
def X10_wipe (v_t_text_length : Int32)  : Option (Int32 × Int32) :=
  bnd1 (X9_clear v_t_text_length) (fun w1_0 =>
    some ((X9_length v_t_text_length), w1_0))
def X8_clear (v_t_law : Int32) (v_t_share : Int32) (v_t_pot : Int32) (v_t_barred : Int32)  : Option (Int32 × Int32 × Int32 × Int32) :=
  some ((0 : Int32), (0 : Int32), (0 : Int32), (0 : Int32))
def X5_clear (v_t_size : Int32) (f_t_counts : (Nat → Int32))  : Option (Int32 × (Nat → Int32)) :=
  some ((0 : Int32), (fillI 10 f_t_counts (0 : Int32)))
def X9_at (v_t_length : Int32) (f_t_bytes : (Nat → Int32)) (p1 : Int32) : Option (Int32) :=
  if p1 < 0 then
    some (-9 : Int32)
  else
    if v_t_length ≤ p1 then
      some (-9 : Int32)
    else
      if (p1 < 0 ∨ 40 ≤ p1.toNatClampNeg) then none else
        some (f_t_bytes p1.toNatClampNeg)
def X5_size (v_t_size : Int32)  : Int32 :=
  v_t_size
def X5_many (f_t_counts : (Nat → Int32)) (p1 : Int32) : Option (Int32) :=
  if (X10_isNumber p1) = 0 then
    some (0 : Int32)
  else
    if (p1 < 0 ∨ 10 ≤ p1.toNatClampNeg) then none else
      some (f_t_counts p1.toNatClampNeg)
def X6_canBeBarred (v_t_rules_barred : Int32) (f_t_people_counts : (Nat → Int32)) (p1 : Int32) : Option (Int32) :=
  if (X8_isOpen v_t_rules_barred p1) = 0 then
    some (0 : Int32)
  else
    bnd1 (X5_many f_t_people_counts p1) (fun r3 =>
      if r3 = 0 then
        some (1 : Int32)
      else
        some (0 : Int32))
def X6_someCanBeBarred_b2_s (self_2 : Int32 → (Nat → Int32) → Int32 → Option (Int32)) (v_t_rules_barred : Int32) (f_t_people_counts : (Nat → Int32)) (x1 : Int32) : Option (Int32) :=
  if (10 : Int32) ≤ x1 then
    some (0 : Int32)
  else
    bnd1 (X6_canBeBarred v_t_rules_barred f_t_people_counts x1) (fun r2 =>
      if r2 = 0 then
        self_2 v_t_rules_barred f_t_people_counts (x1 + (1 : Int32))
      else
        some (1 : Int32))
def X6_someCanBeBarred_b2 : Nat → Int32 → (Nat → Int32) → Int32 → Option (Int32)
  | 0 => fun _ _ _ => none
  | n + 1 => X6_someCanBeBarred_b2_s (X6_someCanBeBarred_b2 n)
def X6_someCanBeBarred (v_t_rules_barred : Int32) (f_t_people_counts : (Nat → Int32))  : Option (Int32) :=
  X6_someCanBeBarred_b2 fU v_t_rules_barred f_t_people_counts (0 : Int32)
def X6_takesLetter (v_t_letter : Int32) (v_t_rules_barred : Int32) (v_t_people_size : Int32) (f_t_people_counts : (Nat → Int32)) (p1 : Int32) : Option (Int32 × Int32) :=
  if p1 = (80 : Int32) then
    if (9 : Int32) ≤ (X5_size v_t_people_size) then
      some ((0 : Int32), p1)
    else
      some ((1 : Int32), p1)
  else
    if p1 = (78 : Int32) then
      if (9 : Int32) ≤ (X8_barredMany v_t_rules_barred) then
        some ((0 : Int32), p1)
      else
        bnd1 (X6_someCanBeBarred v_t_rules_barred f_t_people_counts) (fun r4 =>
          if r4 = 0 then
            some ((0 : Int32), p1)
          else
            some ((1 : Int32), p1))
    else
      some ((0 : Int32), p1)
def X8_takeLaw (v_t_law : Int32) (p1 : Int32) : Option (Int32 × Int32) :=
  if p1 < 0 then
    some ((0 : Int32), p1)
  else
    if (2 : Int32) < p1 then
      some ((0 : Int32), p1)
    else
      some ((1 : Int32), p1)
def X8_takeShare (v_t_share : Int32) (p1 : Int32) : Option (Int32 × Int32) :=
  if p1 < 0 then
    some ((0 : Int32), p1)
  else
    if (1 : Int32) < p1 then
      some ((0 : Int32), p1)
    else
      some ((1 : Int32), p1)
def X8_takePotFigure (v_t_pot : Int32) (p1 : Int32) : Option (Int32) :=
  some ((v_t_pot * (10 : Int32)) + p1)
def X6_takesHead (v_t_rules_law : Int32) (v_t_rules_share : Int32) (v_t_rules_pot : Int32) (p1 : Int32) (p2 : Int32) : Option (Int32 × Int32 × Int32 × Int32) :=
  if p1 = (1 : Int32) then
    bnd2 (X8_takeLaw v_t_rules_law p2) (fun r6 w6_1 =>
      some (r6, w6_1, v_t_rules_share, v_t_rules_pot))
  else
    if p1 = (2 : Int32) then
      bnd2 (X8_takeShare v_t_rules_share p2) (fun r4 w4_1 =>
        some (r4, v_t_rules_law, w4_1, v_t_rules_pot))
    else
      bnd1 (X8_takePotFigure v_t_rules_pot p2) (fun w3_0 =>
        some ((1 : Int32), v_t_rules_law, v_t_rules_share, w3_0))
def X5_add (v_t_size : Int32) (f_t_numbers : (Nat → Int32)) (f_t_counts : (Nat → Int32)) (p1 : Int32) : Option (Int32 × (Nat → Int32) × (Nat → Int32)) :=
  if (9 : Int32) ≤ v_t_size then
    some (v_t_size, f_t_numbers, f_t_counts)
  else
    if (X10_isNumber p1) = 0 then
      some (v_t_size, f_t_numbers, f_t_counts)
    else
      if (v_t_size < 0 ∨ 9 ≤ v_t_size.toNatClampNeg) then none else
        if (p1 < 0 ∨ 10 ≤ p1.toNatClampNeg) then none else
        if (p1 < 0 ∨ 10 ≤ p1.toNatClampNeg) then none else
        some ((v_t_size + (1 : Int32)), (upd f_t_numbers v_t_size.toNatClampNeg p1), (upd f_t_counts p1.toNatClampNeg ((f_t_counts p1.toNatClampNeg) + (1 : Int32))))
def X8_bar (v_t_barred : Int32) (p1 : Int32) : Option (Int32) :=
  some (v_t_barred ||| ((1 : Int32) <<< (p1 &&& 31)))
def X6_takesNumber (v_t_letter : Int32) (v_t_rules_barred : Int32) (v_t_people_size : Int32) (f_t_people_numbers : (Nat → Int32)) (f_t_people_counts : (Nat → Int32)) (p1 : Int32) : Option (Int32 × Int32 × Int32 × (Nat → Int32) × (Nat → Int32)) :=
  if v_t_letter = (80 : Int32) then
    if (X8_isOpen v_t_rules_barred p1) = 0 then
      some ((X8_isOpen v_t_rules_barred p1), v_t_rules_barred, v_t_people_size, f_t_people_numbers, f_t_people_counts)
    else
      bnd3 (X5_add v_t_people_size f_t_people_numbers f_t_people_counts p1) (fun w8_0 w8_1 w8_2 =>
        some ((X8_isOpen v_t_rules_barred p1), v_t_rules_barred, w8_0, w8_1, w8_2))
  else
    bnd1 (X6_canBeBarred v_t_rules_barred f_t_people_counts p1) (fun r2 =>
      if r2 = 0 then
        some (r2, v_t_rules_barred, v_t_people_size, f_t_people_numbers, f_t_people_counts)
      else
        bnd1 (X8_bar v_t_rules_barred p1) (fun w5_0 =>
          some (r2, w5_0, v_t_people_size, f_t_people_numbers, f_t_people_counts)))
def X6_takes_b34 (v_t_letter : Int32) (v_t_rules_law : Int32) (v_t_rules_share : Int32) (v_t_rules_pot : Int32) (v_t_rules_barred : Int32) (v_t_people_size : Int32) (f_t_people_numbers : (Nat → Int32)) (f_t_people_counts : (Nat → Int32)) (x1 : Int32) (x2 : Int32) : Option (Int32 × Int32 × Int32 × Int32 × Int32 × Int32 × Int32 × (Nat → Int32) × (Nat → Int32)) :=
  if (X10_isNumber (x2 - (48 : Int32))) = 0 then
    some ((0 : Int32), v_t_letter, v_t_rules_law, v_t_rules_share, v_t_rules_pot, v_t_rules_barred, v_t_people_size, f_t_people_numbers, f_t_people_counts)
  else
    if (6 : Int32) ≤ x1 then
      bnd5 (X6_takesNumber v_t_letter v_t_rules_barred v_t_people_size f_t_people_numbers f_t_people_counts (x2 - (48 : Int32))) (fun r4 w4_1 w4_2 w4_3 w4_4 =>
        some (r4, v_t_letter, v_t_rules_law, v_t_rules_share, v_t_rules_pot, w4_1, w4_2, w4_3, w4_4))
    else
      bnd4 (X6_takesHead v_t_rules_law v_t_rules_share v_t_rules_pot x1 (x2 - (48 : Int32))) (fun r6 w6_1 w6_2 w6_3 =>
        some (r6, v_t_letter, w6_1, w6_2, w6_3, v_t_rules_barred, v_t_people_size, f_t_people_numbers, f_t_people_counts))
def X6_takes (v_t_letter : Int32) (v_t_rules_law : Int32) (v_t_rules_share : Int32) (v_t_rules_pot : Int32) (v_t_rules_barred : Int32) (v_t_people_size : Int32) (f_t_people_numbers : (Nat → Int32)) (f_t_people_counts : (Nat → Int32)) (p1 : Int32) (p2 : Int32) : Option (Int32 × Int32 × Int32 × Int32 × Int32 × Int32 × Int32 × (Nat → Int32) × (Nat → Int32)) :=
  if p1 = 0 then
    if p2 = (84 : Int32) then
      some ((1 : Int32), v_t_letter, v_t_rules_law, v_t_rules_share, v_t_rules_pot, v_t_rules_barred, v_t_people_size, f_t_people_numbers, f_t_people_counts)
    else
      some ((0 : Int32), v_t_letter, v_t_rules_law, v_t_rules_share, v_t_rules_pot, v_t_rules_barred, v_t_people_size, f_t_people_numbers, f_t_people_counts)
  else
    if p1 < (6 : Int32) then
      X6_takes_b34 v_t_letter v_t_rules_law v_t_rules_share v_t_rules_pot v_t_rules_barred v_t_people_size f_t_people_numbers f_t_people_counts p1 p2
    else
      if (p1 - p1 / (2 : Int32) * (2 : Int32)) = 0 then
        bnd2 (X6_takesLetter v_t_letter v_t_rules_barred v_t_people_size f_t_people_counts p2) (fun r11 w11_1 =>
          some (r11, w11_1, v_t_rules_law, v_t_rules_share, v_t_rules_pot, v_t_rules_barred, v_t_people_size, f_t_people_numbers, f_t_people_counts))
      else
        X6_takes_b34 v_t_letter v_t_rules_law v_t_rules_share v_t_rules_pot v_t_rules_barred v_t_people_size f_t_people_numbers f_t_people_counts p1 p2
def X6_firstFault_b47 (v_t_letter : Int32) (v_t_rules_law : Int32) (v_t_rules_share : Int32) (v_t_rules_pot : Int32) (v_t_rules_barred : Int32) (v_t_people_size : Int32) (f_t_people_numbers : (Nat → Int32)) (f_t_people_counts : (Nat → Int32)) (v_p1_length : Int32) (f_p1_bytes : (Nat → Int32)) (x2 : Int32) : Option (Int32 × Int32 × Int32 × Int32 × Int32 × Int32 × Int32 × (Nat → Int32) × (Nat → Int32)) :=
  if x2 < (6 : Int32) then
    some (x2, v_t_letter, v_t_rules_law, v_t_rules_share, v_t_rules_pot, v_t_rules_barred, v_t_people_size, f_t_people_numbers, f_t_people_counts)
  else
    if (x2 - x2 / (2 : Int32) * (2 : Int32)) = 0 then
      some ((-9 : Int32), v_t_letter, v_t_rules_law, v_t_rules_share, v_t_rules_pot, v_t_rules_barred, v_t_people_size, f_t_people_numbers, f_t_people_counts)
    else
      some (x2, v_t_letter, v_t_rules_law, v_t_rules_share, v_t_rules_pot, v_t_rules_barred, v_t_people_size, f_t_people_numbers, f_t_people_counts)
def X6_firstFault_b21_s (self_21 : Int32 → Int32 → Int32 → Int32 → Int32 → Int32 → (Nat → Int32) → (Nat → Int32) → Int32 → (Nat → Int32) → Int32 → Int32 → Option (Int32 × Int32 × Int32 × Int32 × Int32 × Int32 × Int32 × (Nat → Int32) × (Nat → Int32))) (v_t_letter : Int32) (v_t_rules_law : Int32) (v_t_rules_share : Int32) (v_t_rules_pot : Int32) (v_t_rules_barred : Int32) (v_t_people_size : Int32) (f_t_people_numbers : (Nat → Int32)) (f_t_people_counts : (Nat → Int32)) (v_p1_length : Int32) (f_p1_bytes : (Nat → Int32)) (x2 : Int32) (x3 : Int32) : Option (Int32 × Int32 × Int32 × Int32 × Int32 × Int32 × Int32 × (Nat → Int32) × (Nat → Int32)) :=
  if x2 ≤ x3 then
    X6_firstFault_b47 v_t_letter v_t_rules_law v_t_rules_share v_t_rules_pot v_t_rules_barred v_t_people_size f_t_people_numbers f_t_people_counts v_p1_length f_p1_bytes x2
  else
    bnd1 (X9_at v_p1_length f_p1_bytes x3) (fun r4 =>
      bnd9 (X6_takes v_t_letter v_t_rules_law v_t_rules_share v_t_rules_pot v_t_rules_barred v_t_people_size f_t_people_numbers f_t_people_counts x3 r4) (fun r5 w5_1 w5_2 w5_3 w5_4 w5_5 w5_6 w5_7 w5_8 =>
        if r5 = 0 then
          some (x3, w5_1, w5_2, w5_3, w5_4, w5_5, w5_6, w5_7, w5_8)
        else
          self_21 w5_1 w5_2 w5_3 w5_4 w5_5 w5_6 w5_7 w5_8 v_p1_length f_p1_bytes x2 (x3 + (1 : Int32))))
def X6_firstFault_b21 : Nat → Int32 → Int32 → Int32 → Int32 → Int32 → Int32 → (Nat → Int32) → (Nat → Int32) → Int32 → (Nat → Int32) → Int32 → Int32 → Option (Int32 × Int32 × Int32 × Int32 × Int32 × Int32 × Int32 × (Nat → Int32) × (Nat → Int32))
  | 0 => fun _ _ _ _ _ _ _ _ _ _ _ _ => none
  | n + 1 => X6_firstFault_b21_s (X6_firstFault_b21 n)
def X6_firstFault (v_t_letter : Int32) (v_t_rules_law : Int32) (v_t_rules_share : Int32) (v_t_rules_pot : Int32) (v_t_rules_barred : Int32) (v_t_people_size : Int32) (f_t_people_numbers : (Nat → Int32)) (f_t_people_counts : (Nat → Int32)) (v_p1_length : Int32) (f_p1_bytes : (Nat → Int32))  : Option (Int32 × Int32 × Int32 × Int32 × Int32 × Int32 × Int32 × (Nat → Int32) × (Nat → Int32)) :=
  bnd4 (X8_clear v_t_rules_law v_t_rules_share v_t_rules_pot v_t_rules_barred) (fun w8_0 w8_1 w8_2 w8_3 =>
    bnd2 (X5_clear v_t_people_size f_t_people_counts) (fun w9_0 w9_1 =>
      X6_firstFault_b21 fU v_t_letter w8_0 w8_1 w8_2 w8_3 w9_0 f_t_people_numbers w9_1 v_p1_length f_p1_bytes (X9_length v_p1_length) (0 : Int32)))
def X10_fault (v_t_text_length : Int32) (f_t_text_bytes : (Nat → Int32)) (v_t_reader_letter : Int32) (v_t_reader_rules_law : Int32) (v_t_reader_rules_share : Int32) (v_t_reader_rules_pot : Int32) (v_t_reader_rules_barred : Int32) (v_t_reader_people_size : Int32) (f_t_reader_people_numbers : (Nat → Int32)) (f_t_reader_people_counts : (Nat → Int32))  : Option (Int32 × Int32 × Int32 × Int32 × Int32 × Int32 × Int32 × (Nat → Int32) × (Nat → Int32)) :=
  bnd9 (X6_firstFault v_t_reader_letter v_t_reader_rules_law v_t_reader_rules_share v_t_reader_rules_pot v_t_reader_rules_barred v_t_reader_people_size f_t_reader_people_numbers f_t_reader_people_counts v_t_text_length f_t_text_bytes) (fun r1 w1_1 w1_2 w1_3 w1_4 w1_5 w1_6 w1_7 w1_8 =>
    some (r1, w1_1, w1_2, w1_3, w1_4, w1_5, w1_6, w1_7, w1_8))
def X8_become (v_t_law : Int32) (v_t_share : Int32) (v_t_pot : Int32) (v_t_barred : Int32) (v_p1_law : Int32) (v_p1_share : Int32) (v_p1_pot : Int32) (v_p1_barred : Int32)  : Option (Int32 × Int32 × Int32 × Int32) :=
  some (v_p1_law, v_p1_share, v_p1_pot, v_p1_barred)
def X5_pack_b31 (v_t_size : Int32) (f_t_numbers : (Nat → Int32)) (x1 : Int64) : Option (Int64) :=
  some ((x1 <<< ((4 : Int32).toInt64 &&& 63)) ||| v_t_size.toInt64)
def X5_pack_b9_s (self_9 : Int32 → (Nat → Int32) → Int64 → Int32 → Option (Int64)) (v_t_size : Int32) (f_t_numbers : (Nat → Int32)) (x1 : Int64) (x3 : Int32) : Option (Int64) :=
  if x3 < 0 then
    X5_pack_b31 v_t_size f_t_numbers x1
  else
    if (x3 < 0 ∨ 9 ≤ x3.toNatClampNeg) then none else
      self_9 v_t_size f_t_numbers ((x1 <<< ((4 : Int32).toInt64 &&& 63)) ||| (f_t_numbers x3.toNatClampNeg).toInt64) (x3 + (-1 : Int32))
def X5_pack_b9 : Nat → Int32 → (Nat → Int32) → Int64 → Int32 → Option (Int64)
  | 0 => fun _ _ _ _ => none
  | n + 1 => X5_pack_b9_s (X5_pack_b9 n)
def X5_pack (v_t_size : Int32) (f_t_numbers : (Nat → Int32))  : Option (Int64) :=
  X5_pack_b9 fU v_t_size f_t_numbers (0 : Int64) (v_t_size - (1 : Int32))
def X5_unpack_b14_s (self_14 : Int32 → (Nat → Int32) → (Nat → Int32) → Int64 → Int32 → Int32 → Option (Int32 × (Nat → Int32) × (Nat → Int32))) (v_t_size : Int32) (f_t_numbers : (Nat → Int32)) (f_t_counts : (Nat → Int32)) (x1 : Int64) (x3 : Int32) (x4 : Int32) : Option (Int32 × (Nat → Int32) × (Nat → Int32)) :=
  if x3 < x4 then
    some (v_t_size, f_t_numbers, f_t_counts)
  else
    if (9 : Int32) < x4 then
      some (v_t_size, f_t_numbers, f_t_counts)
    else
      bnd3 (X5_add v_t_size f_t_numbers f_t_counts ((x1.toUInt64 >>> (((4 : Int32) * x4).toInt64.toUInt64 &&& Int64.toUInt64 63)).toInt64.toInt32 &&& (15 : Int32))) (fun w3_0 w3_1 w3_2 =>
        self_14 w3_0 w3_1 w3_2 x1 x3 (x4 + (1 : Int32)))
def X5_unpack_b14 : Nat → Int32 → (Nat → Int32) → (Nat → Int32) → Int64 → Int32 → Int32 → Option (Int32 × (Nat → Int32) × (Nat → Int32))
  | 0 => fun _ _ _ _ _ _ => none
  | n + 1 => X5_unpack_b14_s (X5_unpack_b14 n)
def X5_unpack (v_t_size : Int32) (f_t_numbers : (Nat → Int32)) (f_t_counts : (Nat → Int32)) (p1 : Int64) : Option (Int32 × (Nat → Int32) × (Nat → Int32)) :=
  bnd2 (X5_clear v_t_size f_t_counts) (fun w4_0 w4_1 =>
    X5_unpack_b14 fU w4_0 f_t_numbers w4_1 p1 (p1 &&& (15 : Int64)).toInt32 (1 : Int32))
def X2_dropActs (v_t_acts : Int32)  : Option (Int32) :=
  some (0 : Int32)
def X2_dropSlots (f_t_slots : (Nat → Int64))  : Option ((Nat → Int64)) :=
  some (fillJ 2 f_t_slots (-1 : Int64))
def X10_table (v_t_text_length : Int32) (f_t_text_bytes : (Nat → Int32)) (v_t_reader_letter : Int32) (v_t_reader_rules_law : Int32) (v_t_reader_rules_share : Int32) (v_t_reader_rules_pot : Int32) (v_t_reader_rules_barred : Int32) (v_t_reader_people_size : Int32) (f_t_reader_people_numbers : (Nat → Int32)) (f_t_reader_people_counts : (Nat → Int32)) (v_t_rules_law : Int32) (v_t_rules_share : Int32) (v_t_rules_pot : Int32) (v_t_rules_barred : Int32) (v_t_people_size : Int32) (f_t_people_numbers : (Nat → Int32)) (f_t_people_counts : (Nat → Int32)) (v_t_memory_acts : Int32) (f_t_memory_slots : (Nat → Int64))  : Option (Int32 × Int32 × Int32 × Int32 × Int32 × Int32 × Int32 × (Nat → Int32) × (Nat → Int32) × Int32 × Int32 × Int32 × Int32 × Int32 × (Nat → Int32) × (Nat → Int32) × Int32 × (Nat → Int64)) :=
  bnd9 (X6_firstFault v_t_reader_letter v_t_reader_rules_law v_t_reader_rules_share v_t_reader_rules_pot v_t_reader_rules_barred v_t_reader_people_size f_t_reader_people_numbers f_t_reader_people_counts v_t_text_length f_t_text_bytes) (fun r1 w1_1 w1_2 w1_3 w1_4 w1_5 w1_6 w1_7 w1_8 =>
    if r1 = (-9 : Int32) then
      bnd4 (X8_become v_t_rules_law v_t_rules_share v_t_rules_pot v_t_rules_barred w1_2 w1_3 w1_4 w1_5) (fun w3_0 w3_1 w3_2 w3_3 =>
        bnd1 (X5_pack w1_6 w1_7) (fun r4 =>
          bnd3 (X5_unpack v_t_people_size f_t_people_numbers f_t_people_counts r4) (fun w5_0 w5_1 w5_2 =>
            bnd1 (X2_dropActs v_t_memory_acts) (fun w6_0 =>
              bnd1 (X2_dropSlots f_t_memory_slots) (fun w7_0 =>
                some ((X5_size w5_0), w1_1, w1_2, w1_3, w1_4, w1_5, w1_6, w1_7, w1_8, w3_0, w3_1, w3_2, w3_3, w5_0, w5_1, w5_2, w6_0, w7_0))))))
    else
      some ((-3 : Int32), w1_1, w1_2, w1_3, w1_4, w1_5, w1_6, w1_7, w1_8, v_t_rules_law, v_t_rules_share, v_t_rules_pot, v_t_rules_barred, v_t_people_size, f_t_people_numbers, f_t_people_counts, v_t_memory_acts, f_t_memory_slots))
def X5_has (v_t_size : Int32) (p1 : Int32) : Int32 :=
  if p1 < 0 then
    (0 : Int32)
  else
    if v_t_size ≤ p1 then
      (0 : Int32)
    else
      (1 : Int32)
def X5_numberOf (v_t_size : Int32) (f_t_numbers : (Nat → Int32)) (p1 : Int32) : Option (Int32) :=
  if (X5_has v_t_size p1) = 0 then
    some (-9 : Int32)
  else
    if (p1 < 0 ∨ 9 ≤ p1.toNatClampNeg) then none else
      some (f_t_numbers p1.toNatClampNeg)
def X10_gainOf (v_t_rules_law : Int32) (v_t_rules_share : Int32) (v_t_rules_pot : Int32) (v_t_people_size : Int32) (f_t_people_numbers : (Nat → Int32)) (f_t_people_counts : (Nat → Int32)) (p1 : Int32) : Option (Int32) :=
  bnd1 (X5_numberOf v_t_people_size f_t_people_numbers p1) (fun r1 =>
    bnd1 (X5_many f_t_people_counts r1) (fun r2 =>
      bnd1 (X8_claims v_t_rules_law v_t_rules_share f_t_people_counts) (fun r3 =>
        bnd1 (X8_gain v_t_rules_law v_t_rules_share v_t_rules_pot r1 r2 r3) (fun r4 =>
          some r4))))
def X8_others (f_p3 : (Nat → Int32)) (p1 : Int32) (p2 : Int32) : Option (Int32) :=
  if p2 < 0 then
    some (0 : Int32)
  else
    if p2 < (10 : Int32) then
      if p2 = p1 then
        if (p2 < 0 ∨ 10 ≤ p2.toNatClampNeg) then none else
          some ((f_p3 p2.toNatClampNeg) - (1 : Int32))
      else
        if (p2 < 0 ∨ 10 ≤ p2.toNatClampNeg) then none else
          some (f_p3 p2.toNatClampNeg)
    else
      some (0 : Int32)
def X8_gainBy (v_t_law : Int32) (v_t_share : Int32) (v_t_pot : Int32) (p1 : Int32) (p2 : Int32) (p3 : Int32) : Option (Int32) :=
  if (X8_suits v_t_law p1 (p2 + (1 : Int32))) = 0 then
    some (0 : Int32)
  else
    bnd1 (X8_gain v_t_law v_t_share v_t_pot p1 (p2 + (1 : Int32)) ((p3 - (X8_claim v_t_law v_t_share p1 p2)) + (X8_claim v_t_law v_t_share p1 (p2 + (1 : Int32))))) (fun r3 =>
      some r3)
def X8_wanted_b96 (self_47 : Int32 → Int32 → Int32 → Int32 → (Nat → Int32) → Int32 → Int32 → Int32 → Int32 → Int32 → Option (Int32)) (v_t_law : Int32) (v_t_share : Int32) (v_t_pot : Int32) (v_t_barred : Int32) (f_p2 : (Nat → Int32)) (x1 : Int32) (x4 : Int32) (x5 : Int32) (x6 : Int32) (x7 : Int32) : Option (Int32) :=
  self_47 v_t_law v_t_share v_t_pot v_t_barred f_p2 x1 x4 x5 x6 (x7 + (1 : Int32))
def X8_wanted_b47_s (self_47 : Int32 → Int32 → Int32 → Int32 → (Nat → Int32) → Int32 → Int32 → Int32 → Int32 → Int32 → Option (Int32)) (v_t_law : Int32) (v_t_share : Int32) (v_t_pot : Int32) (v_t_barred : Int32) (f_p2 : (Nat → Int32)) (x1 : Int32) (x4 : Int32) (x5 : Int32) (x6 : Int32) (x7 : Int32) : Option (Int32) :=
  if (10 : Int32) ≤ x7 then
    some x5
  else
    if (X8_isOpen v_t_barred x7) = 0 then
      X8_wanted_b96 self_47 v_t_law v_t_share v_t_pot v_t_barred f_p2 x1 x4 x5 x6 x7
    else
      bnd1 (X8_others f_p2 x1 x7) (fun r4 =>
        bnd1 (X8_gainBy v_t_law v_t_share v_t_pot x7 r4 x4) (fun r5 =>
          if r5 ≤ x6 then
            X8_wanted_b96 self_47 v_t_law v_t_share v_t_pot v_t_barred f_p2 x1 x4 x5 x6 x7
          else
            X8_wanted_b96 self_47 v_t_law v_t_share v_t_pot v_t_barred f_p2 x1 x4 x7 r5 x7))
def X8_wanted_b47 : Nat → Int32 → Int32 → Int32 → Int32 → (Nat → Int32) → Int32 → Int32 → Int32 → Int32 → Int32 → Option (Int32)
  | 0 => fun _ _ _ _ _ _ _ _ _ _ => none
  | n + 1 => X8_wanted_b47_s (X8_wanted_b47 n)
def X8_wanted (v_t_law : Int32) (v_t_share : Int32) (v_t_pot : Int32) (v_t_barred : Int32) (f_p2 : (Nat → Int32)) (p1 : Int32) : Option (Int32) :=
  bnd1 (X8_others f_p2 p1 p1) (fun r7 =>
    bnd1 (X8_claims v_t_law v_t_share f_p2) (fun r8 =>
      bnd1 (X8_gainBy v_t_law v_t_share v_t_pot p1 r7 ((r8 - (X8_claim v_t_law v_t_share p1 (r7 + (1 : Int32)))) + (X8_claim v_t_law v_t_share p1 r7))) (fun r9 =>
        X8_wanted_b47 fU v_t_law v_t_share v_t_pot v_t_barred f_p2 p1 ((r8 - (X8_claim v_t_law v_t_share p1 (r7 + (1 : Int32)))) + (X8_claim v_t_law v_t_share p1 r7)) p1 r9 (0 : Int32))))
def X10_person (v_t_rules_law : Int32) (v_t_rules_share : Int32) (v_t_rules_pot : Int32) (v_t_rules_barred : Int32) (v_t_people_size : Int32) (f_t_people_numbers : (Nat → Int32)) (f_t_people_counts : (Nat → Int32)) (p1 : Int32) (p2 : Int32) : Option (Int32) :=
  if (X5_has v_t_people_size p1) = 0 then
    some (-1 : Int32)
  else
    bnd1 (X5_numberOf v_t_people_size f_t_people_numbers p1) (fun r3 =>
      if p2 = (0 : Int32) then
        some r3
      else
        if p2 = (1 : Int32) then
          bnd1 (X5_many f_t_people_counts r3) (fun r6 =>
            if (X8_suits v_t_rules_law r3 r6) = 0 then
              some (0 : Int32)
            else
              some (1 : Int32))
        else
          if p2 = (2 : Int32) then
            bnd1 (X10_gainOf v_t_rules_law v_t_rules_share v_t_rules_pot v_t_people_size f_t_people_numbers f_t_people_counts p1) (fun r10 =>
              some r10)
          else
            if p2 = (3 : Int32) then
              bnd1 (X8_wanted v_t_rules_law v_t_rules_share v_t_rules_pot v_t_rules_barred f_t_people_counts r3) (fun r12 =>
                some r12)
            else
              some (-2 : Int32))
def X10_wrote (f_t_people_counts : (Nat → Int32)) (p1 : Int32) : Option (Int32) :=
  if (X10_isNumber p1) = 0 then
    some (-2 : Int32)
  else
    bnd1 (X5_many f_t_people_counts p1) (fun r3 =>
      some r3)
def X10_refusalOfNumber (v_t_rules_barred : Int32) (p1 : Int32) : Int32 :=
  if (X10_isNumber p1) = 0 then
    (-2 : Int32)
  else
    if (X8_isOpen v_t_rules_barred p1) = 0 then
      (-3 : Int32)
    else
      (0 : Int32)
def X2_addAct_b30 (v_t_acts : Int32) (f_t_row : (Nat → Int64)) (x1 : Int64) : Option (Int32 × (Nat → Int64)) :=
  if (v_t_acts < 0 ∨ 16 ≤ v_t_acts.toNatClampNeg) then none else
    some ((v_t_acts + (1 : Int32)), (vp_updL f_t_row v_t_acts.toNatClampNeg x1))
def X2_addAct (v_t_acts : Int32) (f_t_row : (Nat → Int64)) (p1 : Int64) : Option (Int32 × (Nat → Int64)) :=
  if v_t_acts < (16 : Int32) then
    X2_addAct_b30 v_t_acts f_t_row p1
  else
    X2_addAct_b30 (15 : Int32) (va_cpy f_t_row f_t_row (1 : Int32).toNatClampNeg (0 : Int32).toNatClampNeg (15 : Int32).toNatClampNeg) p1
def X5_rewrite (v_t_size : Int32) (f_t_numbers : (Nat → Int32)) (f_t_counts : (Nat → Int32)) (p1 : Int32) (p2 : Int32) : Option ((Nat → Int32) × (Nat → Int32)) :=
  if (X5_has v_t_size p1) = 0 then
    some (f_t_numbers, f_t_counts)
  else
    if (X10_isNumber p2) = 0 then
      some (f_t_numbers, f_t_counts)
    else
      if (p1 < 0 ∨ 9 ≤ p1.toNatClampNeg) then none else
        if ((f_t_numbers p1.toNatClampNeg) < 0 ∨ 10 ≤ (f_t_numbers p1.toNatClampNeg).toNatClampNeg) then none else
        if ((f_t_numbers p1.toNatClampNeg) < 0 ∨ 10 ≤ (f_t_numbers p1.toNatClampNeg).toNatClampNeg) then none else
        if (p2 < 0 ∨ 10 ≤ p2.toNatClampNeg) then none else
        if (p2 < 0 ∨ 10 ≤ p2.toNatClampNeg) then none else
        if (p1 < 0 ∨ 9 ≤ p1.toNatClampNeg) then none else
        some ((upd f_t_numbers p1.toNatClampNeg p2), (upd (upd f_t_counts (f_t_numbers p1.toNatClampNeg).toNatClampNeg ((f_t_counts (f_t_numbers p1.toNatClampNeg).toNatClampNeg) - (1 : Int32))) p2.toNatClampNeg (((upd f_t_counts (f_t_numbers p1.toNatClampNeg).toNatClampNeg ((f_t_counts (f_t_numbers p1.toNatClampNeg).toNatClampNeg) - (1 : Int32))) p2.toNatClampNeg) + (1 : Int32))))
def X10_slip (v_t_rules_barred : Int32) (v_t_people_size : Int32) (f_t_people_numbers : (Nat → Int32)) (f_t_people_counts : (Nat → Int32)) (v_t_memory_acts : Int32) (f_t_memory_row : (Nat → Int64)) (p1 : Int32) (p2 : Int32) : Option (Int32 × (Nat → Int32) × (Nat → Int32) × Int32 × (Nat → Int64)) :=
  if (X5_has v_t_people_size p1) = 0 then
    some ((-1 : Int32), f_t_people_numbers, f_t_people_counts, v_t_memory_acts, f_t_memory_row)
  else
    if (X10_refusalOfNumber v_t_rules_barred p2) = 0 then
      bnd1 (X5_numberOf v_t_people_size f_t_people_numbers p1) (fun r4 =>
        bnd1 (X5_pack v_t_people_size f_t_people_numbers) (fun r5 =>
          bnd2 (X2_addAct v_t_memory_acts f_t_memory_row r5) (fun w6_0 w6_1 =>
            bnd2 (X5_rewrite v_t_people_size f_t_people_numbers f_t_people_counts p1 p2) (fun w7_0 w7_1 =>
              some (r4, w7_0, w7_1, w6_0, w6_1)))))
    else
      some ((X10_refusalOfNumber v_t_rules_barred p2), f_t_people_numbers, f_t_people_counts, v_t_memory_acts, f_t_memory_row)
def X10_come (v_t_rules_barred : Int32) (v_t_people_size : Int32) (f_t_people_numbers : (Nat → Int32)) (f_t_people_counts : (Nat → Int32)) (v_t_memory_acts : Int32) (f_t_memory_row : (Nat → Int64)) (p1 : Int32) : Option (Int32 × Int32 × (Nat → Int32) × (Nat → Int32) × Int32 × (Nat → Int64)) :=
  if (X10_refusalOfNumber v_t_rules_barred p1) = 0 then
    if (X5_size v_t_people_size) < (9 : Int32) then
      bnd1 (X5_pack v_t_people_size f_t_people_numbers) (fun r3 =>
        bnd2 (X2_addAct v_t_memory_acts f_t_memory_row r3) (fun w4_0 w4_1 =>
          bnd3 (X5_add v_t_people_size f_t_people_numbers f_t_people_counts p1) (fun w5_0 w5_1 w5_2 =>
            some (((X5_size w5_0) - (1 : Int32)), w5_0, w5_1, w5_2, w4_0, w4_1))))
    else
      some ((-4 : Int32), v_t_people_size, f_t_people_numbers, f_t_people_counts, v_t_memory_acts, f_t_memory_row)
  else
    some ((X10_refusalOfNumber v_t_rules_barred p1), v_t_people_size, f_t_people_numbers, f_t_people_counts, v_t_memory_acts, f_t_memory_row)
def X5_drop_b35_s (self_35 : Int32 → (Nat → Int32) → (Nat → Int32) → Int32 → Option (Int32 × (Nat → Int32) × (Nat → Int32))) (v_t_size : Int32) (f_t_numbers : (Nat → Int32)) (f_t_counts : (Nat → Int32)) (x2 : Int32) : Option (Int32 × (Nat → Int32) × (Nat → Int32)) :=
  if v_t_size ≤ x2 then
    some (v_t_size, f_t_numbers, f_t_counts)
  else
    if ((x2 + (1 : Int32)) < 0 ∨ 9 ≤ (x2 + (1 : Int32)).toNatClampNeg) then none else
      if (x2 < 0 ∨ 9 ≤ x2.toNatClampNeg) then none else
      self_35 v_t_size (upd f_t_numbers x2.toNatClampNeg (f_t_numbers (x2 + (1 : Int32)).toNatClampNeg)) f_t_counts (x2 + (1 : Int32))
def X5_drop_b35 : Nat → Int32 → (Nat → Int32) → (Nat → Int32) → Int32 → Option (Int32 × (Nat → Int32) × (Nat → Int32))
  | 0 => fun _ _ _ _ => none
  | n + 1 => X5_drop_b35_s (X5_drop_b35 n)
def X5_drop (v_t_size : Int32) (f_t_numbers : (Nat → Int32)) (f_t_counts : (Nat → Int32)) (p1 : Int32) : Option (Int32 × (Nat → Int32) × (Nat → Int32)) :=
  if (X5_has v_t_size p1) = 0 then
    some (v_t_size, f_t_numbers, f_t_counts)
  else
    if (p1 < 0 ∨ 9 ≤ p1.toNatClampNeg) then none else
      if ((f_t_numbers p1.toNatClampNeg) < 0 ∨ 10 ≤ (f_t_numbers p1.toNatClampNeg).toNatClampNeg) then none else
      if ((f_t_numbers p1.toNatClampNeg) < 0 ∨ 10 ≤ (f_t_numbers p1.toNatClampNeg).toNatClampNeg) then none else
      X5_drop_b35 fU (v_t_size - (1 : Int32)) f_t_numbers (upd f_t_counts (f_t_numbers p1.toNatClampNeg).toNatClampNeg ((f_t_counts (f_t_numbers p1.toNatClampNeg).toNatClampNeg) - (1 : Int32))) p1
def X10_leave (v_t_people_size : Int32) (f_t_people_numbers : (Nat → Int32)) (f_t_people_counts : (Nat → Int32)) (v_t_memory_acts : Int32) (f_t_memory_row : (Nat → Int64)) (p1 : Int32) : Option (Int32 × Int32 × (Nat → Int32) × (Nat → Int32) × Int32 × (Nat → Int64)) :=
  if (X5_has v_t_people_size p1) = 0 then
    some ((-1 : Int32), v_t_people_size, f_t_people_numbers, f_t_people_counts, v_t_memory_acts, f_t_memory_row)
  else
    bnd1 (X5_numberOf v_t_people_size f_t_people_numbers p1) (fun r3 =>
      bnd1 (X5_pack v_t_people_size f_t_people_numbers) (fun r4 =>
        bnd2 (X2_addAct v_t_memory_acts f_t_memory_row r4) (fun w5_0 w5_1 =>
          bnd3 (X5_drop v_t_people_size f_t_people_numbers f_t_people_counts p1) (fun w6_0 w6_1 w6_2 =>
            some (r3, w6_0, w6_1, w6_2, w5_0, w5_1)))))
def X8_corrected_b54 (self_21 : Int32 → Int32 → (Nat → Int32) → Int32 → Int32 → Option (Int32)) (v_t_law : Int32) (v_t_barred : Int32) (f_p2 : (Nat → Int32)) (x1 : Int32) (x3 : Int32) : Option (Int32) :=
  self_21 v_t_law v_t_barred f_p2 x1 (x3 + (1 : Int32))
def X8_corrected_b21_s (self_21 : Int32 → Int32 → (Nat → Int32) → Int32 → Int32 → Option (Int32)) (v_t_law : Int32) (v_t_barred : Int32) (f_p2 : (Nat → Int32)) (x1 : Int32) (x3 : Int32) : Option (Int32) :=
  if (10 : Int32) ≤ x3 then
    some x1
  else
    if (X8_isOpen v_t_barred x3) = 0 then
      X8_corrected_b54 self_21 v_t_law v_t_barred f_p2 x1 x3
    else
      bnd1 (X8_others f_p2 x1 x3) (fun r4 =>
        if (X8_suits v_t_law x3 (r4 + (1 : Int32))) = 0 then
          X8_corrected_b54 self_21 v_t_law v_t_barred f_p2 x1 x3
        else
          some x3)
def X8_corrected_b21 : Nat → Int32 → Int32 → (Nat → Int32) → Int32 → Int32 → Option (Int32)
  | 0 => fun _ _ _ _ _ => none
  | n + 1 => X8_corrected_b21_s (X8_corrected_b21 n)
def X8_corrected (v_t_law : Int32) (v_t_barred : Int32) (f_p2 : (Nat → Int32)) (p1 : Int32) : Option (Int32) :=
  bnd1 (X8_others f_p2 p1 p1) (fun r7 =>
    if (X8_suits v_t_law p1 (r7 + (1 : Int32))) = 0 then
      X8_corrected_b21 fU v_t_law v_t_barred f_p2 p1 (0 : Int32)
    else
      some p1)
def X3_correct_b67 (self_20 : (Nat → Int32) → Int32 → Int32 → Int32 → (Nat → Int32) → (Nat → Int32) → Int32 → Int32 → Option (Int32 × (Nat → Int32) × (Nat → Int32) × (Nat → Int32))) (f_t_now : (Nat → Int32)) (v_p1_law : Int32) (v_p1_barred : Int32) (v_p2_size : Int32) (f_p2_numbers : (Nat → Int32)) (f_p2_counts : (Nat → Int32)) (x3 : Int32) (x4 : Int32) : Option (Int32 × (Nat → Int32) × (Nat → Int32) × (Nat → Int32)) :=
  self_20 f_t_now v_p1_law v_p1_barred v_p2_size f_p2_numbers f_p2_counts x3 (x4 + (1 : Int32))
def X3_correct_b20_s (self_20 : (Nat → Int32) → Int32 → Int32 → Int32 → (Nat → Int32) → (Nat → Int32) → Int32 → Int32 → Option (Int32 × (Nat → Int32) × (Nat → Int32) × (Nat → Int32))) (f_t_now : (Nat → Int32)) (v_p1_law : Int32) (v_p1_barred : Int32) (v_p2_size : Int32) (f_p2_numbers : (Nat → Int32)) (f_p2_counts : (Nat → Int32)) (x3 : Int32) (x4 : Int32) : Option (Int32 × (Nat → Int32) × (Nat → Int32) × (Nat → Int32)) :=
  if (X5_size v_p2_size) ≤ x4 then
    some (x3, f_t_now, f_p2_numbers, f_p2_counts)
  else
    bnd1 (X5_numberOf v_p2_size f_p2_numbers x4) (fun r2 =>
      bnd1 (X8_corrected v_p1_law v_p1_barred f_t_now r2) (fun r3 =>
        if r3 = r2 then
          X3_correct_b67 self_20 f_t_now v_p1_law v_p1_barred v_p2_size f_p2_numbers f_p2_counts x3 x4
        else
          bnd2 (X5_rewrite v_p2_size f_p2_numbers f_p2_counts x4 r3) (fun w5_0 w5_1 =>
            X3_correct_b67 self_20 f_t_now v_p1_law v_p1_barred v_p2_size w5_0 w5_1 (x3 + (1 : Int32)) x4)))
def X3_correct_b20 : Nat → (Nat → Int32) → Int32 → Int32 → Int32 → (Nat → Int32) → (Nat → Int32) → Int32 → Int32 → Option (Int32 × (Nat → Int32) × (Nat → Int32) × (Nat → Int32))
  | 0 => fun _ _ _ _ _ _ _ _ => none
  | n + 1 => X3_correct_b20_s (X3_correct_b20 n)
def X3_correct (f_t_now : (Nat → Int32)) (v_p1_law : Int32) (v_p1_barred : Int32) (v_p2_size : Int32) (f_p2_numbers : (Nat → Int32)) (f_p2_counts : (Nat → Int32))  : Option (Int32 × (Nat → Int32) × (Nat → Int32) × (Nat → Int32)) :=
  X3_correct_b20 fU (va_cpy f_p2_counts f_t_now (0 : Int32).toNatClampNeg (0 : Int32).toNatClampNeg (10 : Int32).toNatClampNeg) v_p1_law v_p1_barred v_p2_size f_p2_numbers f_p2_counts (0 : Int32) (0 : Int32)
def X10_round (v_t_rules_law : Int32) (v_t_rules_barred : Int32) (v_t_people_size : Int32) (f_t_people_numbers : (Nat → Int32)) (f_t_people_counts : (Nat → Int32)) (v_t_memory_acts : Int32) (f_t_memory_row : (Nat → Int64)) (f_t_moves_now : (Nat → Int32))  : Option (Int32 × (Nat → Int32) × (Nat → Int32) × Int32 × (Nat → Int64) × (Nat → Int32)) :=
  bnd1 (X5_pack v_t_people_size f_t_people_numbers) (fun r1 =>
    bnd2 (X2_addAct v_t_memory_acts f_t_memory_row r1) (fun w2_0 w2_1 =>
      bnd4 (X3_correct f_t_moves_now v_t_rules_law v_t_rules_barred v_t_people_size f_t_people_numbers f_t_people_counts) (fun r3 w3_1 w3_2 w3_3 =>
        some (r3, w3_2, w3_3, w2_0, w2_1, w3_1))))
def X2_acts (v_t_acts : Int32)  : Int32 :=
  v_t_acts
def X2_takeAct (v_t_acts : Int32) (f_t_row : (Nat → Int64))  : Option (Int64 × Int32) :=
  if (1 : Int32) ≤ v_t_acts then
    if ((v_t_acts - (1 : Int32)) < 0 ∨ 16 ≤ (v_t_acts - (1 : Int32)).toNatClampNeg) then none else
      some ((f_t_row (v_t_acts - (1 : Int32)).toNatClampNeg), (v_t_acts - (1 : Int32)))
  else
    some ((0 : Int64), v_t_acts)
def X10_undo (v_t_people_size : Int32) (f_t_people_numbers : (Nat → Int32)) (f_t_people_counts : (Nat → Int32)) (v_t_memory_acts : Int32) (f_t_memory_row : (Nat → Int64))  : Option (Int32 × Int32 × (Nat → Int32) × (Nat → Int32) × Int32) :=
  if (X2_acts v_t_memory_acts) = 0 then
    some ((-3 : Int32), v_t_people_size, f_t_people_numbers, f_t_people_counts, v_t_memory_acts)
  else
    bnd2 (X2_takeAct v_t_memory_acts f_t_memory_row) (fun r2 w2_1 =>
      bnd3 (X5_unpack v_t_people_size f_t_people_numbers f_t_people_counts r2) (fun w3_0 w3_1 w3_2 =>
        some ((X2_acts w2_1), w3_0, w3_1, w3_2, w2_1)))
def X3_changes_b78 (self_12 : (Nat → Int32) → (Nat → Int32) → Int32 → Int32 → Int32 → Int32 → Option (Int32 × (Nat → Int32))) (f_t_now : (Nat → Int32)) (f_t_next : (Nat → Int32)) (v_p1_law : Int32) (v_p1_barred : Int32) (x2 : Int32) (x3 : Int32) : Option (Int32 × (Nat → Int32)) :=
  self_12 f_t_now f_t_next v_p1_law v_p1_barred x2 (x3 + (1 : Int32))
def X3_changes_b77 (self_12 : (Nat → Int32) → (Nat → Int32) → Int32 → Int32 → Int32 → Int32 → Option (Int32 × (Nat → Int32))) (f_t_now : (Nat → Int32)) (f_t_next : (Nat → Int32)) (v_p1_law : Int32) (v_p1_barred : Int32) (x3 : Int32) (s0 : Int32) : Option (Int32 × (Nat → Int32)) :=
  X3_changes_b78 self_12 f_t_now f_t_next v_p1_law v_p1_barred s0 x3
def X3_changes_b72 (self_12 : (Nat → Int32) → (Nat → Int32) → Int32 → Int32 → Int32 → Int32 → Option (Int32 × (Nat → Int32))) (f_t_now : (Nat → Int32)) (f_t_next : (Nat → Int32)) (v_p1_law : Int32) (v_p1_barred : Int32) (x3 : Int32) : Option (Int32 × (Nat → Int32)) :=
  X3_changes_b77 self_12 f_t_now f_t_next v_p1_law v_p1_barred x3 (1 : Int32)
def X3_changes_b12_s (self_12 : (Nat → Int32) → (Nat → Int32) → Int32 → Int32 → Int32 → Int32 → Option (Int32 × (Nat → Int32))) (f_t_now : (Nat → Int32)) (f_t_next : (Nat → Int32)) (v_p1_law : Int32) (v_p1_barred : Int32) (x2 : Int32) (x3 : Int32) : Option (Int32 × (Nat → Int32)) :=
  if (10 : Int32) ≤ x3 then
    if ¬ (x2 &&& 1 = x2) then none else
      some (x2, f_t_next)
  else
    if (x3 < 0 ∨ 10 ≤ x3.toNatClampNeg) then none else
      if (f_t_now x3.toNatClampNeg) ≤ 0 then
      X3_changes_b78 self_12 f_t_now f_t_next v_p1_law v_p1_barred x2 x3
    else
      bnd1 (X8_corrected v_p1_law v_p1_barred f_t_now x3) (fun r5 =>
        if (X10_isNumber r5) = 0 then
          X3_changes_b78 self_12 f_t_now f_t_next v_p1_law v_p1_barred x2 x3
        else
          if (r5 < 0 ∨ 10 ≤ r5.toNatClampNeg) then none else
            if (x3 < 0 ∨ 10 ≤ x3.toNatClampNeg) then none else
            if (r5 < 0 ∨ 10 ≤ r5.toNatClampNeg) then none else
            if x2 = 0 then
            if r5 = x3 then
              X3_changes_b77 self_12 f_t_now (upd f_t_next r5.toNatClampNeg ((f_t_next r5.toNatClampNeg) + (f_t_now x3.toNatClampNeg))) v_p1_law v_p1_barred x3 (0 : Int32)
            else
              X3_changes_b72 self_12 f_t_now (upd f_t_next r5.toNatClampNeg ((f_t_next r5.toNatClampNeg) + (f_t_now x3.toNatClampNeg))) v_p1_law v_p1_barred x3
          else
            X3_changes_b72 self_12 f_t_now (upd f_t_next r5.toNatClampNeg ((f_t_next r5.toNatClampNeg) + (f_t_now x3.toNatClampNeg))) v_p1_law v_p1_barred x3)
def X3_changes_b12 : Nat → (Nat → Int32) → (Nat → Int32) → Int32 → Int32 → Int32 → Int32 → Option (Int32 × (Nat → Int32))
  | 0 => fun _ _ _ _ _ _ => none
  | n + 1 => X3_changes_b12_s (X3_changes_b12 n)
def X3_changes (f_t_now : (Nat → Int32)) (f_t_next : (Nat → Int32)) (v_p1_law : Int32) (v_p1_barred : Int32)  : Option (Int32 × (Nat → Int32)) :=
  X3_changes_b12 fU f_t_now (fillI 10 f_t_next (0 : Int32)) v_p1_law v_p1_barred (0 : Int32) (0 : Int32)
def X3_roundsTillRest_b14_s (self_14 : (Nat → Int32) → (Nat → Int32) → Int32 → Int32 → (Nat → Int32) → Int32 → Option (Int32 × (Nat → Int32) × (Nat → Int32))) (f_t_now : (Nat → Int32)) (f_t_next : (Nat → Int32)) (v_p1_law : Int32) (v_p1_barred : Int32) (f_p2 : (Nat → Int32)) (x3 : Int32) : Option (Int32 × (Nat → Int32) × (Nat → Int32)) :=
  if (60 : Int32) < x3 then
    some ((-9 : Int32), f_t_now, f_t_next)
  else
    bnd2 (X3_changes f_t_now f_t_next v_p1_law v_p1_barred) (fun r2 w2_1 =>
      if r2 = 0 then
        some (x3, f_t_now, w2_1)
      else
        self_14 (va_cpy w2_1 f_t_now (0 : Int32).toNatClampNeg (0 : Int32).toNatClampNeg (10 : Int32).toNatClampNeg) w2_1 v_p1_law v_p1_barred f_p2 (x3 + (1 : Int32)))
def X3_roundsTillRest_b14 : Nat → (Nat → Int32) → (Nat → Int32) → Int32 → Int32 → (Nat → Int32) → Int32 → Option (Int32 × (Nat → Int32) × (Nat → Int32))
  | 0 => fun _ _ _ _ _ _ => none
  | n + 1 => X3_roundsTillRest_b14_s (X3_roundsTillRest_b14 n)
def X3_roundsTillRest (f_t_now : (Nat → Int32)) (f_t_next : (Nat → Int32)) (v_p1_law : Int32) (v_p1_barred : Int32) (f_p2 : (Nat → Int32))  : Option (Int32 × (Nat → Int32) × (Nat → Int32)) :=
  X3_roundsTillRest_b14 fU (va_cpy f_p2 f_t_now (0 : Int32).toNatClampNeg (0 : Int32).toNatClampNeg (10 : Int32).toNatClampNeg) f_t_next v_p1_law v_p1_barred f_p2 (0 : Int32)
def X10_settled (v_t_rules_law : Int32) (v_t_rules_barred : Int32) (f_t_people_counts : (Nat → Int32)) (f_t_moves_now : (Nat → Int32)) (f_t_moves_next : (Nat → Int32))  : Option (Int32 × (Nat → Int32) × (Nat → Int32)) :=
  bnd3 (X3_roundsTillRest f_t_moves_now f_t_moves_next v_t_rules_law v_t_rules_barred f_t_people_counts) (fun r1 w1_1 w1_2 =>
    some (r1, w1_1, w1_2))
def X10_isCrowd  (p0 : Int32) : Int32 :=
  if p0 < 0 then
    (0 : Int32)
  else
    if (9 : Int32) < p0 then
      (0 : Int32)
    else
      (1 : Int32)
def X7_weightedWith_b64 (self_9 : (Nat → Int64) → Int32 → Int32 → Int32 → Int32 → Int64 → Int64 → Int32 → Option (Int64)) (f_t_sums : (Nat → Int64)) (v_p1_law : Int32) (x2 : Int32) (x3 : Int32) (x4 : Int32) (x5 : Int64) (x7 : Int64) (x9 : Int32) : Option (Int64) :=
  self_9 f_t_sums v_p1_law x2 x3 x4 x5 x7 (x9 + (1 : Int32))
def X7_weightedWith_b9_s (self_9 : (Nat → Int64) → Int32 → Int32 → Int32 → Int32 → Int64 → Int64 → Int32 → Option (Int64)) (f_t_sums : (Nat → Int64)) (v_p1_law : Int32) (x2 : Int32) (x3 : Int32) (x4 : Int32) (x5 : Int64) (x7 : Int64) (x9 : Int32) : Option (Int64) :=
  if x4 < x9 then
    some x5
  else
    if x9.toInt64 = 0 then none else
      if (X8_suits v_p1_law x2 x9) = 0 then
      X7_weightedWith_b64 self_9 f_t_sums v_p1_law x2 x3 x4 x5 (((x7 * x3.toInt64) * ((x4 - x9) + (1 : Int32)).toInt64) / x9.toInt64) x9
    else
      if ((x4 - x9) < 0 ∨ 10 ≤ (x4 - x9).toNatClampNeg) then none else
        X7_weightedWith_b64 self_9 f_t_sums v_p1_law x2 x3 x4 (x5 + ((((x7 * x3.toInt64) * ((x4 - x9) + (1 : Int32)).toInt64) / x9.toInt64) * (f_t_sums (x4 - x9).toNatClampNeg))) (((x7 * x3.toInt64) * ((x4 - x9) + (1 : Int32)).toInt64) / x9.toInt64) x9
def X7_weightedWith_b9 : Nat → (Nat → Int64) → Int32 → Int32 → Int32 → Int32 → Int64 → Int64 → Int32 → Option (Int64)
  | 0 => fun _ _ _ _ _ _ _ _ => none
  | n + 1 => X7_weightedWith_b9_s (X7_weightedWith_b9 n)
def X7_weightedWith (f_t_sums : (Nat → Int64)) (v_p1_law : Int32) (p2 : Int32) (p3 : Int32) (p4 : Int32) : Option (Int64) :=
  X7_weightedWith_b9 fU f_t_sums v_p1_law p2 p3 p4 (0 : Int64) (1 : Int64) (1 : Int32)
def X7_weighted_b79 (self_27 : (Nat → Int64) → Int32 → (Nat → Int32) → Int32 → Int32 → Option (Int64 × (Nat → Int64))) (f_t_sums : (Nat → Int64)) (v_p1_law : Int32) (f_p2 : (Nat → Int32)) (x3 : Int32) (x4 : Int32) : Option (Int64 × (Nat → Int64)) :=
  self_27 f_t_sums v_p1_law f_p2 x3 (x4 + (1 : Int32))
def X7_weighted_b44_s (self_27 : (Nat → Int64) → Int32 → (Nat → Int32) → Int32 → Int32 → Option (Int64 × (Nat → Int64))) (self_44 : (Nat → Int64) → Int32 → (Nat → Int32) → Int32 → Int32 → Int32 → Option (Int64 × (Nat → Int64))) (f_t_sums : (Nat → Int64)) (v_p1_law : Int32) (f_p2 : (Nat → Int32)) (x3 : Int32) (x4 : Int32) (x5 : Int32) : Option (Int64 × (Nat → Int64)) :=
  if x5 < (1 : Int32) then
    X7_weighted_b79 self_27 f_t_sums v_p1_law f_p2 x3 x4
  else
    if (x5 < 0 ∨ 10 ≤ x5.toNatClampNeg) then none else
      if (x4 < 0 ∨ 10 ≤ x4.toNatClampNeg) then none else
      bnd1 (X7_weightedWith f_t_sums v_p1_law x4 (f_p2 x4.toNatClampNeg) x5) (fun r4 =>
      if (x5 < 0 ∨ 10 ≤ x5.toNatClampNeg) then none else
        self_44 (vp_updL f_t_sums x5.toNatClampNeg ((f_t_sums x5.toNatClampNeg) + r4)) v_p1_law f_p2 x3 x4 (x5 + (-1 : Int32)))
def X7_weighted_b44 (self_27 : (Nat → Int64) → Int32 → (Nat → Int32) → Int32 → Int32 → Option (Int64 × (Nat → Int64))) : Nat → (Nat → Int64) → Int32 → (Nat → Int32) → Int32 → Int32 → Int32 → Option (Int64 × (Nat → Int64))
  | 0 => fun _ _ _ _ _ _ => none
  | n + 1 => X7_weighted_b44_s self_27 (X7_weighted_b44 self_27 n)
def X7_weighted_b85 (f_t_sums : (Nat → Int64)) (v_p1_law : Int32) (f_p2 : (Nat → Int32)) (x3 : Int32) : Option (Int64 × (Nat → Int64)) :=
  if (x3 < 0 ∨ 10 ≤ x3.toNatClampNeg) then none else
    some ((f_t_sums x3.toNatClampNeg), f_t_sums)
def X7_weighted_b27_s (self_27 : (Nat → Int64) → Int32 → (Nat → Int32) → Int32 → Int32 → Option (Int64 × (Nat → Int64))) (f_t_sums : (Nat → Int64)) (v_p1_law : Int32) (f_p2 : (Nat → Int32)) (x3 : Int32) (x4 : Int32) : Option (Int64 × (Nat → Int64)) :=
  if (10 : Int32) ≤ x4 then
    X7_weighted_b85 f_t_sums v_p1_law f_p2 x3
  else
    if (10 : Int32) ≤ x4 then
      X7_weighted_b85 f_t_sums v_p1_law f_p2 x3
    else
      X7_weighted_b44 self_27 fU f_t_sums v_p1_law f_p2 x3 x4 x3
def X7_weighted_b27 : Nat → (Nat → Int64) → Int32 → (Nat → Int32) → Int32 → Int32 → Option (Int64 × (Nat → Int64))
  | 0 => fun _ _ _ _ _ => none
  | n + 1 => X7_weighted_b27_s (X7_weighted_b27 n)
def X7_weighted (f_t_sums : (Nat → Int64)) (v_p1_law : Int32) (f_p2 : (Nat → Int32)) (p3 : Int32) : Option (Int64 × (Nat → Int64)) :=
  if (X10_isCrowd p3) = 0 then
    some ((0 : Int64), f_t_sums)
  else
    if ((0 : Int32) < 0 ∨ 10 ≤ (0 : Int32).toNatClampNeg) then none else
      X7_weighted_b27 fU (vp_updL (fillJ 10 f_t_sums (0 : Int64)) (0 : Int32).toNatClampNeg (1 : Int64)) v_p1_law f_p2 p3 (0 : Int32)
def X7_allRightRows_b26 (self_2 : (Nat → Int64) → (Nat → Int32) → Int32 → Int32 → Int32 → Int32 → Option (Int32 × (Nat → Int64) × (Nat → Int32))) (f_t_sums : (Nat → Int64)) (f_t_weights : (Nat → Int32)) (v_p1_law : Int32) (v_p1_barred : Int32) (x2 : Int32) (x3 : Int32) (s1 : Int32) (s2 : Int32) : Option (Int32 × (Nat → Int64) × (Nat → Int32)) :=
  if (s1 < 0 ∨ 10 ≤ s1.toNatClampNeg) then none else
    self_2 f_t_sums (upd f_t_weights s1.toNatClampNeg s2) v_p1_law v_p1_barred x2 (x3 + (1 : Int32))
def X7_allRightRows_b33 (f_t_sums : (Nat → Int64)) (f_t_weights : (Nat → Int32)) (v_p1_law : Int32) (v_p1_barred : Int32) (x2 : Int32) : Option (Int32 × (Nat → Int64) × (Nat → Int32)) :=
  bnd2 (X7_weighted f_t_sums v_p1_law f_t_weights x2) (fun r2 w2_1 =>
    some (r2.toInt32, w2_1, f_t_weights))
def X7_allRightRows_b2_s (self_2 : (Nat → Int64) → (Nat → Int32) → Int32 → Int32 → Int32 → Int32 → Option (Int32 × (Nat → Int64) × (Nat → Int32))) (f_t_sums : (Nat → Int64)) (f_t_weights : (Nat → Int32)) (v_p1_law : Int32) (v_p1_barred : Int32) (x2 : Int32) (x3 : Int32) : Option (Int32 × (Nat → Int64) × (Nat → Int32)) :=
  if (10 : Int32) ≤ x3 then
    X7_allRightRows_b33 f_t_sums f_t_weights v_p1_law v_p1_barred x2
  else
    if (X8_isOpen v_p1_barred x3) = 0 then
      X7_allRightRows_b26 self_2 f_t_sums f_t_weights v_p1_law v_p1_barred x2 x3 x3 (0 : Int32)
    else
      X7_allRightRows_b26 self_2 f_t_sums f_t_weights v_p1_law v_p1_barred x2 x3 x3 (1 : Int32)
def X7_allRightRows_b2 : Nat → (Nat → Int64) → (Nat → Int32) → Int32 → Int32 → Int32 → Int32 → Option (Int32 × (Nat → Int64) × (Nat → Int32))
  | 0 => fun _ _ _ _ _ _ => none
  | n + 1 => X7_allRightRows_b2_s (X7_allRightRows_b2 n)
def X7_allRightRows (f_t_sums : (Nat → Int64)) (f_t_weights : (Nat → Int32)) (v_p1_law : Int32) (v_p1_barred : Int32) (p2 : Int32) : Option (Int32 × (Nat → Int64) × (Nat → Int32)) :=
  X7_allRightRows_b2 fU f_t_sums f_t_weights v_p1_law v_p1_barred p2 (0 : Int32)
def X10_ways (v_t_rules_law : Int32) (v_t_rules_barred : Int32) (f_t_rows_sums : (Nat → Int64)) (f_t_rows_weights : (Nat → Int32)) (p1 : Int32) : Option (Int32 × (Nat → Int64) × (Nat → Int32)) :=
  if (X10_isCrowd p1) = 0 then
    some ((-2 : Int32), f_t_rows_sums, f_t_rows_weights)
  else
    bnd3 (X7_allRightRows f_t_rows_sums f_t_rows_weights v_t_rules_law v_t_rules_barred p1) (fun r3 w3_1 w3_2 =>
      some (r3, w3_1, w3_2))
def X7_startCosts (f_t_costs : (Nat → Int32))  : Option ((Nat → Int32)) :=
  if ((0 : Int32) < 0 ∨ 10 ≤ (0 : Int32).toNatClampNeg) then none else
    some (upd (fillI 10 f_t_costs (1000 : Int32)) (0 : Int32).toNatClampNeg (0 : Int32))
def X7_leastNotRight_b33 (self_11 : (Nat → Int32) → Int32 → Int32 → Int32 → Int32 → Int32 → Option (Int32)) (f_t_costs : (Nat → Int32)) (v_p1_law : Int32) (x2 : Int32) (x3 : Int32) (x4 : Int32) (x5 : Int32) (s0 : Int32) : Option (Int32) :=
  if ((x3 - x5) < 0 ∨ 10 ≤ (x3 - x5).toNatClampNeg) then none else
    self_11 f_t_costs v_p1_law x2 x3 (if ((f_t_costs (x3 - x5).toNatClampNeg) + s0) < x4 then ((f_t_costs (x3 - x5).toNatClampNeg) + s0) else x4) (x5 + (1 : Int32))
def X7_leastNotRight_b11_s (self_11 : (Nat → Int32) → Int32 → Int32 → Int32 → Int32 → Int32 → Option (Int32)) (f_t_costs : (Nat → Int32)) (v_p1_law : Int32) (x2 : Int32) (x3 : Int32) (x4 : Int32) (x5 : Int32) : Option (Int32) :=
  if x3 < x5 then
    some x4
  else
    if (X8_suits v_p1_law x2 x5) = 0 then
      X7_leastNotRight_b33 self_11 f_t_costs v_p1_law x2 x3 x4 x5 x5
    else
      X7_leastNotRight_b33 self_11 f_t_costs v_p1_law x2 x3 x4 x5 (0 : Int32)
def X7_leastNotRight_b11 : Nat → (Nat → Int32) → Int32 → Int32 → Int32 → Int32 → Int32 → Option (Int32)
  | 0 => fun _ _ _ _ _ _ => none
  | n + 1 => X7_leastNotRight_b11_s (X7_leastNotRight_b11 n)
def X7_leastNotRight (f_t_costs : (Nat → Int32)) (v_p1_law : Int32) (p2 : Int32) (p3 : Int32) : Option (Int32) :=
  if (p3 < 0 ∨ 10 ≤ p3.toNatClampNeg) then none else
    X7_leastNotRight_b11 fU f_t_costs v_p1_law p2 p3 (f_t_costs p3.toNatClampNeg) (1 : Int32)
def X7_fewestNotRight_b60 (self_16 : (Nat → Int32) → Int32 → Int32 → Int32 → Int32 → Option (Int32 × (Nat → Int32))) (f_t_costs : (Nat → Int32)) (v_p1_law : Int32) (v_p1_barred : Int32) (x2 : Int32) (x3 : Int32) : Option (Int32 × (Nat → Int32)) :=
  self_16 f_t_costs v_p1_law v_p1_barred x2 (x3 + (1 : Int32))
def X7_fewestNotRight_b33_s (self_16 : (Nat → Int32) → Int32 → Int32 → Int32 → Int32 → Option (Int32 × (Nat → Int32))) (self_33 : (Nat → Int32) → Int32 → Int32 → Int32 → Int32 → Int32 → Option (Int32 × (Nat → Int32))) (f_t_costs : (Nat → Int32)) (v_p1_law : Int32) (v_p1_barred : Int32) (x2 : Int32) (x3 : Int32) (x4 : Int32) : Option (Int32 × (Nat → Int32)) :=
  if x4 < (1 : Int32) then
    X7_fewestNotRight_b60 self_16 f_t_costs v_p1_law v_p1_barred x2 x3
  else
    bnd1 (X7_leastNotRight f_t_costs v_p1_law x3 x4) (fun r2 =>
      if (x4 < 0 ∨ 10 ≤ x4.toNatClampNeg) then none else
        self_33 (upd f_t_costs x4.toNatClampNeg r2) v_p1_law v_p1_barred x2 x3 (x4 + (-1 : Int32)))
def X7_fewestNotRight_b33 (self_16 : (Nat → Int32) → Int32 → Int32 → Int32 → Int32 → Option (Int32 × (Nat → Int32))) : Nat → (Nat → Int32) → Int32 → Int32 → Int32 → Int32 → Int32 → Option (Int32 × (Nat → Int32))
  | 0 => fun _ _ _ _ _ _ => none
  | n + 1 => X7_fewestNotRight_b33_s self_16 (X7_fewestNotRight_b33 self_16 n)
def X7_fewestNotRight_b66 (f_t_costs : (Nat → Int32)) (v_p1_law : Int32) (v_p1_barred : Int32) (x2 : Int32) : Option (Int32 × (Nat → Int32)) :=
  if (x2 < 0 ∨ 10 ≤ x2.toNatClampNeg) then none else
    some ((f_t_costs x2.toNatClampNeg), f_t_costs)
def X7_fewestNotRight_b16_s (self_16 : (Nat → Int32) → Int32 → Int32 → Int32 → Int32 → Option (Int32 × (Nat → Int32))) (f_t_costs : (Nat → Int32)) (v_p1_law : Int32) (v_p1_barred : Int32) (x2 : Int32) (x3 : Int32) : Option (Int32 × (Nat → Int32)) :=
  if (10 : Int32) ≤ x3 then
    X7_fewestNotRight_b66 f_t_costs v_p1_law v_p1_barred x2
  else
    if (X8_isOpen v_p1_barred x3) = 0 then
      X7_fewestNotRight_b60 self_16 f_t_costs v_p1_law v_p1_barred x2 x3
    else
      X7_fewestNotRight_b33 self_16 fU f_t_costs v_p1_law v_p1_barred x2 x3 x2
def X7_fewestNotRight_b16 : Nat → (Nat → Int32) → Int32 → Int32 → Int32 → Int32 → Option (Int32 × (Nat → Int32))
  | 0 => fun _ _ _ _ _ => none
  | n + 1 => X7_fewestNotRight_b16_s (X7_fewestNotRight_b16 n)
def X7_fewestNotRight (f_t_costs : (Nat → Int32)) (v_p1_law : Int32) (v_p1_barred : Int32) (p2 : Int32) : Option (Int32 × (Nat → Int32)) :=
  if (X10_isCrowd p2) = 0 then
    some ((-9 : Int32), f_t_costs)
  else
    bnd1 (X7_startCosts f_t_costs) (fun w10_0 =>
      X7_fewestNotRight_b16 fU w10_0 v_p1_law v_p1_barred p2 (0 : Int32))
def X10_wrong (v_t_rules_law : Int32) (v_t_rules_barred : Int32) (f_t_rows_costs : (Nat → Int32)) (p1 : Int32) : Option (Int32 × (Nat → Int32)) :=
  if (X10_isCrowd p1) = 0 then
    some ((-2 : Int32), f_t_rows_costs)
  else
    bnd2 (X7_fewestNotRight f_t_rows_costs v_t_rules_law v_t_rules_barred p1) (fun r3 w3_1 =>
      some (r3, w3_1))
def X7_reachedWith_b66 (self_40 : (Nat → Int32) → Int32 → Int32 → Int32 → Int32 → Int32 → Int32 → Option (Int32)) (f_t_needed : (Nat → Int32)) (v_p1_law : Int32) (x2 : Int32) (x3 : Int32) (x4 : Int32) (x6 : Int32) (x7 : Int32) : Option (Int32) :=
  self_40 f_t_needed v_p1_law x2 x3 x4 x6 (x7 + (1 : Int32))
def X7_reachedWith_b40_s (self_40 : (Nat → Int32) → Int32 → Int32 → Int32 → Int32 → Int32 → Int32 → Option (Int32)) (f_t_needed : (Nat → Int32)) (v_p1_law : Int32) (x2 : Int32) (x3 : Int32) (x4 : Int32) (x6 : Int32) (x7 : Int32) : Option (Int32) :=
  if x3 < x7 then
    some x6
  else
    if (X8_suits v_p1_law x2 x7) = 0 then
      X7_reachedWith_b66 self_40 f_t_needed v_p1_law x2 x3 x4 x6 x7
    else
      X7_reachedWith_b66 self_40 f_t_needed v_p1_law x2 x3 x4 (x6 ||| (x4 <<< (x7 &&& 31))) x7
def X7_reachedWith_b40 : Nat → (Nat → Int32) → Int32 → Int32 → Int32 → Int32 → Int32 → Int32 → Option (Int32)
  | 0 => fun _ _ _ _ _ _ _ => none
  | n + 1 => X7_reachedWith_b40_s (X7_reachedWith_b40 n)
def X7_reachedWith_b30 (f_t_needed : (Nat → Int32)) (v_p1_law : Int32) (x2 : Int32) (x3 : Int32) (x4 : Int32) (x5 : Int32) (s0 : Int32) : Option (Int32) :=
  X7_reachedWith_b40 fU f_t_needed v_p1_law x2 x3 x4 s0 (if (1 : Int32) < x5 then x5 else (1 : Int32))
def X7_reachedWith_b17 (f_t_needed : (Nat → Int32)) (v_p1_law : Int32) (x2 : Int32) (x3 : Int32) (x4 : Int32) (s0 : Int32) : Option (Int32) :=
  if s0 = 0 then
    X7_reachedWith_b30 f_t_needed v_p1_law x2 x3 x4 s0 x4
  else
    X7_reachedWith_b30 f_t_needed v_p1_law x2 x3 x4 s0 (0 : Int32)
def X7_reachedWith (f_t_needed : (Nat → Int32)) (v_p1_law : Int32) (p2 : Int32) (p3 : Int32) (p4 : Int32) : Option (Int32) :=
  if (X10_isNumber p2) = 0 then
    X7_reachedWith_b17 f_t_needed v_p1_law p2 p3 p4 (0 : Int32)
  else
    if (p2 < 0 ∨ 10 ≤ p2.toNatClampNeg) then none else
      X7_reachedWith_b17 f_t_needed v_p1_law p2 p3 p4 (f_t_needed p2.toNatClampNeg)
def X7_canBeFilled_b31 (self_5 : (Nat → Int32) → Int32 → Int32 → Int32 → Int32 → Int32 → Option (Int32)) (f_t_needed : (Nat → Int32)) (v_p1_law : Int32) (v_p1_barred : Int32) (x2 : Int32) (x3 : Int32) (x4 : Int32) : Option (Int32) :=
  self_5 f_t_needed v_p1_law v_p1_barred x2 x3 (x4 + (1 : Int32))
def X7_canBeFilled_b37 (f_t_needed : (Nat → Int32)) (v_p1_law : Int32) (v_p1_barred : Int32) (x2 : Int32) (x3 : Int32) : Option (Int32) :=
  if ((x3 >>> (x2 &&& 31)) &&& (1 : Int32)) = (1 : Int32) then
    some (1 : Int32)
  else
    some (0 : Int32)
def X7_canBeFilled_b5_s (self_5 : (Nat → Int32) → Int32 → Int32 → Int32 → Int32 → Int32 → Option (Int32)) (f_t_needed : (Nat → Int32)) (v_p1_law : Int32) (v_p1_barred : Int32) (x2 : Int32) (x3 : Int32) (x4 : Int32) : Option (Int32) :=
  if (10 : Int32) ≤ x4 then
    X7_canBeFilled_b37 f_t_needed v_p1_law v_p1_barred x2 x3
  else
    if (X8_isOpen v_p1_barred x4) = 0 then
      X7_canBeFilled_b31 self_5 f_t_needed v_p1_law v_p1_barred x2 x3 x4
    else
      bnd1 (X7_reachedWith f_t_needed v_p1_law x4 x2 x3) (fun r5 =>
        X7_canBeFilled_b31 self_5 f_t_needed v_p1_law v_p1_barred x2 r5 x4)
def X7_canBeFilled_b5 : Nat → (Nat → Int32) → Int32 → Int32 → Int32 → Int32 → Int32 → Option (Int32)
  | 0 => fun _ _ _ _ _ _ => none
  | n + 1 => X7_canBeFilled_b5_s (X7_canBeFilled_b5 n)
def X7_canBeFilled (f_t_needed : (Nat → Int32)) (v_p1_law : Int32) (v_p1_barred : Int32) (p2 : Int32) : Option (Int32) :=
  X7_canBeFilled_b5 fU f_t_needed v_p1_law v_p1_barred p2 (1 : Int32) (0 : Int32)
def X7_leastFrom_b57 (self_7 : (Nat → Int32) → Int32 → Int32 → Int32 → Int32 → Option (Int32 × (Nat → Int32))) (f_t_needed : (Nat → Int32)) (v_p1_law : Int32) (v_p1_barred : Int32) (x3 : Int32) (x4 : Int32) : Option (Int32 × (Nat → Int32)) :=
  self_7 f_t_needed v_p1_law v_p1_barred x3 (x4 + (1 : Int32))
def X7_leastFrom_b7_s (self_7 : (Nat → Int32) → Int32 → Int32 → Int32 → Int32 → Option (Int32 × (Nat → Int32))) (f_t_needed : (Nat → Int32)) (v_p1_law : Int32) (v_p1_barred : Int32) (x3 : Int32) (x4 : Int32) : Option (Int32 × (Nat → Int32)) :=
  if (10 : Int32) ≤ x4 then
    some ((10 : Int32), f_t_needed)
  else
    if (X8_isOpen v_p1_barred x4) = 0 then
      X7_leastFrom_b57 self_7 f_t_needed v_p1_law v_p1_barred x3 x4
    else
      if (x4 < 0 ∨ 10 ≤ x4.toNatClampNeg) then none else
        if (x4 < 0 ∨ 10 ≤ x4.toNatClampNeg) then none else
        bnd1 (X7_canBeFilled (upd f_t_needed x4.toNatClampNeg ((f_t_needed x4.toNatClampNeg) + (1 : Int32))) v_p1_law v_p1_barred x3) (fun r6 =>
        if r6 = 0 then
          if (x4 < 0 ∨ 10 ≤ x4.toNatClampNeg) then none else
            if (x4 < 0 ∨ 10 ≤ x4.toNatClampNeg) then none else
            X7_leastFrom_b57 self_7 (upd (upd f_t_needed x4.toNatClampNeg ((f_t_needed x4.toNatClampNeg) + (1 : Int32))) x4.toNatClampNeg (((upd f_t_needed x4.toNatClampNeg ((f_t_needed x4.toNatClampNeg) + (1 : Int32))) x4.toNatClampNeg) - (1 : Int32))) v_p1_law v_p1_barred x3 x4
        else
          some (x4, (upd f_t_needed x4.toNatClampNeg ((f_t_needed x4.toNatClampNeg) + (1 : Int32)))))
def X7_leastFrom_b7 : Nat → (Nat → Int32) → Int32 → Int32 → Int32 → Int32 → Option (Int32 × (Nat → Int32))
  | 0 => fun _ _ _ _ _ => none
  | n + 1 => X7_leastFrom_b7_s (X7_leastFrom_b7 n)
def X7_leastFrom (f_t_needed : (Nat → Int32)) (v_p1_law : Int32) (v_p1_barred : Int32) (p2 : Int32) (p3 : Int32) : Option (Int32 × (Nat → Int32)) :=
  X7_leastFrom_b7 fU f_t_needed v_p1_law v_p1_barred p3 (if (0 : Int32) < p2 then p2 else (0 : Int32))
def X7_firstAllRight_b42 (f_t_needed : (Nat → Int32)) (v_p1_law : Int32) (v_p1_barred : Int32) (x4 : Int32) : Option (Int32 × (Nat → Int32)) :=
  if (10 : Int32) ≤ x4 then
    some ((-9 : Int32), f_t_needed)
  else
    some (x4, f_t_needed)
def X7_firstAllRight_b14_s (self_14 : (Nat → Int32) → Int32 → Int32 → Int32 → Int32 → Int32 → Int32 → Option (Int32 × (Nat → Int32))) (f_t_needed : (Nat → Int32)) (v_p1_law : Int32) (v_p1_barred : Int32) (x2 : Int32) (x3 : Int32) (x4 : Int32) (x5 : Int32) : Option (Int32 × (Nat → Int32)) :=
  if x2 < x5 then
    X7_firstAllRight_b42 f_t_needed v_p1_law v_p1_barred x4
  else
    if x3 ≤ x5 then
      X7_firstAllRight_b42 f_t_needed v_p1_law v_p1_barred x4
    else
      bnd2 (X7_leastFrom f_t_needed v_p1_law v_p1_barred x4 x3) (fun r4 w4_1 =>
        self_14 w4_1 v_p1_law v_p1_barred x2 x3 r4 (x5 + (1 : Int32)))
def X7_firstAllRight_b14 : Nat → (Nat → Int32) → Int32 → Int32 → Int32 → Int32 → Int32 → Int32 → Option (Int32 × (Nat → Int32))
  | 0 => fun _ _ _ _ _ _ _ => none
  | n + 1 => X7_firstAllRight_b14_s (X7_firstAllRight_b14 n)
def X7_firstAllRight (f_t_needed : (Nat → Int32)) (v_p1_law : Int32) (v_p1_barred : Int32) (p2 : Int32) (p3 : Int32) : Option (Int32 × (Nat → Int32)) :=
  X7_firstAllRight_b14 fU (fillI 10 f_t_needed (0 : Int32)) v_p1_law v_p1_barred p2 p3 (0 : Int32) (0 : Int32)
def X10_agreed (v_t_rules_law : Int32) (v_t_rules_barred : Int32) (v_t_people_size : Int32) (f_t_rows_needed : (Nat → Int32)) (p1 : Int32) : Option (Int32 × (Nat → Int32)) :=
  if (X5_has v_t_people_size p1) = 0 then
    some ((-1 : Int32), f_t_rows_needed)
  else
    bnd2 (X7_firstAllRight f_t_rows_needed v_t_rules_law v_t_rules_barred p1 (X5_size v_t_people_size)) (fun r3 w3_1 =>
      some (r3, w3_1))
def X7_leastAnew_b57 (self_14 : (Nat → Int32) → Int32 → Int32 → Int32 → Int32 → Int32 → Int32 → Option (Int32)) (f_t_costs : (Nat → Int32)) (v_p1_law : Int32) (x2 : Int32) (x3 : Int32) (x4 : Int32) (x5 : Int32) (x6 : Int32) : Option (Int32) :=
  self_14 f_t_costs v_p1_law x2 x3 x4 x5 (x6 + (1 : Int32))
def X7_leastAnew_b14_s (self_14 : (Nat → Int32) → Int32 → Int32 → Int32 → Int32 → Int32 → Int32 → Option (Int32)) (f_t_costs : (Nat → Int32)) (v_p1_law : Int32) (x2 : Int32) (x3 : Int32) (x4 : Int32) (x5 : Int32) (x6 : Int32) : Option (Int32) :=
  if x4 < x6 then
    some x5
  else
    if (X8_suits v_p1_law x2 x6) = 0 then
      X7_leastAnew_b57 self_14 f_t_costs v_p1_law x2 x3 x4 x5 x6
    else
      if ((x4 - x6) < 0 ∨ 10 ≤ (x4 - x6).toNatClampNeg) then none else
        X7_leastAnew_b57 self_14 f_t_costs v_p1_law x2 x3 x4 (if ((f_t_costs (x4 - x6).toNatClampNeg) + (if (0 : Int32) < (x3 - x6) then (x3 - x6) else (0 : Int32))) < x5 then ((f_t_costs (x4 - x6).toNatClampNeg) + (if (0 : Int32) < (x3 - x6) then (x3 - x6) else (0 : Int32))) else x5) x6
def X7_leastAnew_b14 : Nat → (Nat → Int32) → Int32 → Int32 → Int32 → Int32 → Int32 → Int32 → Option (Int32)
  | 0 => fun _ _ _ _ _ _ _ => none
  | n + 1 => X7_leastAnew_b14_s (X7_leastAnew_b14 n)
def X7_leastAnew (f_t_costs : (Nat → Int32)) (v_p1_law : Int32) (p2 : Int32) (p3 : Int32) (p4 : Int32) : Option (Int32) :=
  if (p4 < 0 ∨ 10 ≤ p4.toNatClampNeg) then none else
    X7_leastAnew_b14 fU f_t_costs v_p1_law p2 p3 p4 ((f_t_costs p4.toNatClampNeg) + p3) (1 : Int32)
def X7_fewestAnew_b79 (self_20 : (Nat → Int32) → Int32 → Int32 → (Nat → Int32) → Int32 → Int32 → Option (Int32 × (Nat → Int32))) (f_t_costs : (Nat → Int32)) (v_p1_law : Int32) (v_p1_barred : Int32) (f_p2 : (Nat → Int32)) (x3 : Int32) (x4 : Int32) : Option (Int32 × (Nat → Int32)) :=
  self_20 f_t_costs v_p1_law v_p1_barred f_p2 x3 (x4 + (1 : Int32))
def X7_fewestAnew_b48_s (self_20 : (Nat → Int32) → Int32 → Int32 → (Nat → Int32) → Int32 → Int32 → Option (Int32 × (Nat → Int32))) (self_48 : (Nat → Int32) → Int32 → Int32 → (Nat → Int32) → Int32 → Int32 → Int32 → Option (Int32 × (Nat → Int32))) (f_t_costs : (Nat → Int32)) (v_p1_law : Int32) (v_p1_barred : Int32) (f_p2 : (Nat → Int32)) (x3 : Int32) (x4 : Int32) (x5 : Int32) : Option (Int32 × (Nat → Int32)) :=
  if x5 < 0 then
    X7_fewestAnew_b79 self_20 f_t_costs v_p1_law v_p1_barred f_p2 x3 x4
  else
    if (x4 < 0 ∨ 10 ≤ x4.toNatClampNeg) then none else
      bnd1 (X7_leastAnew f_t_costs v_p1_law x4 (f_p2 x4.toNatClampNeg) x5) (fun r3 =>
      if (x5 < 0 ∨ 10 ≤ x5.toNatClampNeg) then none else
        self_48 (upd f_t_costs x5.toNatClampNeg r3) v_p1_law v_p1_barred f_p2 x3 x4 (x5 + (-1 : Int32)))
def X7_fewestAnew_b48 (self_20 : (Nat → Int32) → Int32 → Int32 → (Nat → Int32) → Int32 → Int32 → Option (Int32 × (Nat → Int32))) : Nat → (Nat → Int32) → Int32 → Int32 → (Nat → Int32) → Int32 → Int32 → Int32 → Option (Int32 × (Nat → Int32))
  | 0 => fun _ _ _ _ _ _ _ => none
  | n + 1 => X7_fewestAnew_b48_s self_20 (X7_fewestAnew_b48 self_20 n)
def X7_fewestAnew_b85 (f_t_costs : (Nat → Int32)) (v_p1_law : Int32) (v_p1_barred : Int32) (f_p2 : (Nat → Int32)) (x3 : Int32) : Option (Int32 × (Nat → Int32)) :=
  if ((x3 + (1 : Int32)) < 0 ∨ 10 ≤ (x3 + (1 : Int32)).toNatClampNeg) then none else
    if (1000 : Int32) ≤ (f_t_costs (x3 + (1 : Int32)).toNatClampNeg) then
    some ((-9 : Int32), f_t_costs)
  else
    if ((x3 + (1 : Int32)) < 0 ∨ 10 ≤ (x3 + (1 : Int32)).toNatClampNeg) then none else
      some ((f_t_costs (x3 + (1 : Int32)).toNatClampNeg), f_t_costs)
def X7_fewestAnew_b20_s (self_20 : (Nat → Int32) → Int32 → Int32 → (Nat → Int32) → Int32 → Int32 → Option (Int32 × (Nat → Int32))) (f_t_costs : (Nat → Int32)) (v_p1_law : Int32) (v_p1_barred : Int32) (f_p2 : (Nat → Int32)) (x3 : Int32) (x4 : Int32) : Option (Int32 × (Nat → Int32)) :=
  if (10 : Int32) ≤ x4 then
    X7_fewestAnew_b85 f_t_costs v_p1_law v_p1_barred f_p2 x3
  else
    if (10 : Int32) ≤ x4 then
      X7_fewestAnew_b85 f_t_costs v_p1_law v_p1_barred f_p2 x3
    else
      if (X8_isOpen v_p1_barred x4) = 0 then
        X7_fewestAnew_b79 self_20 f_t_costs v_p1_law v_p1_barred f_p2 x3 x4
      else
        X7_fewestAnew_b48 self_20 fU f_t_costs v_p1_law v_p1_barred f_p2 x3 x4 (x3 + (1 : Int32))
def X7_fewestAnew_b20 : Nat → (Nat → Int32) → Int32 → Int32 → (Nat → Int32) → Int32 → Int32 → Option (Int32 × (Nat → Int32))
  | 0 => fun _ _ _ _ _ _ => none
  | n + 1 => X7_fewestAnew_b20_s (X7_fewestAnew_b20 n)
def X7_fewestAnew (f_t_costs : (Nat → Int32)) (v_p1_law : Int32) (v_p1_barred : Int32) (f_p2 : (Nat → Int32)) (p3 : Int32) : Option (Int32 × (Nat → Int32)) :=
  if p3 < 0 then
    some ((-9 : Int32), f_t_costs)
  else
    if p3 < (9 : Int32) then
      bnd1 (X7_startCosts f_t_costs) (fun w14_0 =>
        X7_fewestAnew_b20 fU w14_0 v_p1_law v_p1_barred f_p2 p3 (0 : Int32))
    else
      some ((-9 : Int32), f_t_costs)
def X10_late (v_t_rules_law : Int32) (v_t_rules_barred : Int32) (v_t_people_size : Int32) (f_t_people_counts : (Nat → Int32)) (f_t_rows_costs : (Nat → Int32))  : Option (Int32 × (Nat → Int32)) :=
  if (X5_size v_t_people_size) < (9 : Int32) then
    bnd2 (X7_fewestAnew f_t_rows_costs v_t_rules_law v_t_rules_barred f_t_people_counts (X5_size v_t_people_size)) (fun r2 w2_1 =>
      some (r2, w2_1))
  else
    some ((-4 : Int32), f_t_rows_costs)
def X10_tenths (f_t_chances_weights : (Nat → Int32)) (p1 : Int32) (p2 : Int32) : Option (Int32 × (Nat → Int32)) :=
  if (X10_isNumber p1) = 0 then
    some ((-2 : Int32), f_t_chances_weights)
  else
    if p2 < 0 then
      some ((-2 : Int32), f_t_chances_weights)
    else
      if p2 ≤ (10 : Int32) then
        bnd2 (X0_put f_t_chances_weights p1 p2) (fun r5 w5_1 =>
          some (r5, w5_1))
      else
        some ((-2 : Int32), f_t_chances_weights)
def X10_refusalOfChances (f_t_chances_weights : (Nat → Int32)) (p1 : Int32) : Option (Int32) :=
  if (X10_isCrowd p1) = 0 then
    some (-2 : Int32)
  else
    bnd1 (X0_areWhole f_t_chances_weights) (fun r3 =>
      if r3 = 0 then
        some (-3 : Int32)
      else
        some (0 : Int32))
def X10_commonDivisor_b9_s (self_9 : Int64 → Int64 → Int32 → Option (Int64))  (x4 : Int64) (x6 : Int64) (x8 : Int32) : Option (Int64) :=
  if (128 : Int32) ≤ x8 then
    some x4
  else
    if (lg_cmp x6 (0 : Int64)) = 0 then
      some x4
    else
      if x6 = 0 then none else
        self_9 x6 (x4 - x4 / x6 * x6) (x8 + (1 : Int32))
def X10_commonDivisor_b9 : Nat → Int64 → Int64 → Int32 → Option (Int64)
  | 0 => fun _ _ _ => none
  | n + 1 => X10_commonDivisor_b9_s (X10_commonDivisor_b9 n)
def X10_commonDivisor  (p0 : Int64) (p2 : Int64) : Option (Int64) :=
  X10_commonDivisor_b9 fU p0 p2 (0 : Int32)
def X10_leastTerms_b28  (x5 : Int64) (s0 : Int64) : Option (Int64) :=
  if x5 = 0 then none else
    some (s0 / x5)
def X10_leastTerms  (p0 : Int64) (p2 : Int64) (p4 : Int32) : Option (Int64) :=
  bnd1 (X10_commonDivisor p0 p2) (fun r2 =>
    if 0 ≤ (lg_cmp r2 (1 : Int64)) then
      if p4 = 0 then
        X10_leastTerms_b28 r2 p2
      else
        X10_leastTerms_b28 r2 p0
    else
      some (-9 : Int64))
def X10_allRight (v_t_rules_law : Int32) (f_t_rows_sums : (Nat → Int64)) (f_t_chances_weights : (Nat → Int32)) (p1 : Int32) (p2 : Int32) : Option (Int64 × (Nat → Int64)) :=
  bnd1 (X10_refusalOfChances f_t_chances_weights p1) (fun r1 =>
    if r1 = 0 then
      bnd2 (X7_weighted f_t_rows_sums v_t_rules_law f_t_chances_weights p1) (fun r3 w3_1 =>
        bnd1 (X10_power (10 : Int64) p1) (fun r4 =>
          bnd1 (X10_leastTerms r3 r4 p2) (fun r5 =>
            some (r5, w3_1))))
    else
      some (r1.toInt64, f_t_rows_sums))
def X10_mean (v_t_rules_law : Int32) (f_t_chances_weights : (Nat → Int32)) (p1 : Int32) (p2 : Int32) : Option (Int64) :=
  bnd1 (X10_refusalOfChances f_t_chances_weights p1) (fun r1 =>
    if r1 = 0 then
      bnd1 (X0_rightTogether f_t_chances_weights v_t_rules_law p1) (fun r3 =>
        bnd1 (X10_power (10 : Int64) p1) (fun r4 =>
          bnd1 (X10_leastTerms r3 r4 p2) (fun r5 =>
            some r5)))
    else
      some r1.toInt64)
def X10_forget (v_t_rules_law : Int32) (v_t_people_size : Int32) (f_t_people_numbers : (Nat → Int32)) (f_t_people_counts : (Nat → Int32)) (p1 : Int32) (p2 : Int32) (p3 : Int32) : Option (Int64) :=
  if (X5_has v_t_people_size p1) = 0 then
    some (-1 : Int64)
  else
    if p2 < 0 then
      some (-2 : Int64)
    else
      if p2 ≤ (10 : Int32) then
        bnd1 (X5_numberOf v_t_people_size f_t_people_numbers p1) (fun r5 =>
          bnd1 (X5_many f_t_people_counts r5) (fun r6 =>
            bnd1 (X0_rightThoughForgetting v_t_rules_law r5 r6 p2) (fun r7 =>
              bnd1 (X10_power (10 : Int64) r6) (fun r8 =>
                bnd1 (X10_leastTerms r7 r8 p3) (fun r9 =>
                  some r9)))))
      else
        some (-2 : Int64)
def X8_areAtRest_b32 (self_2 : Int32 → Int32 → Int32 → Int32 → (Nat → Int32) → Int32 → Option (Int32)) (v_t_law : Int32) (v_t_share : Int32) (v_t_pot : Int32) (v_t_barred : Int32) (f_p1 : (Nat → Int32)) (x2 : Int32) : Option (Int32) :=
  self_2 v_t_law v_t_share v_t_pot v_t_barred f_p1 (x2 + (1 : Int32))
def X8_areAtRest_b2_s (self_2 : Int32 → Int32 → Int32 → Int32 → (Nat → Int32) → Int32 → Option (Int32)) (v_t_law : Int32) (v_t_share : Int32) (v_t_pot : Int32) (v_t_barred : Int32) (f_p1 : (Nat → Int32)) (x2 : Int32) : Option (Int32) :=
  if (10 : Int32) ≤ x2 then
    some (1 : Int32)
  else
    if (10 : Int32) ≤ x2 then
      some (1 : Int32)
    else
      if (x2 < 0 ∨ 10 ≤ x2.toNatClampNeg) then none else
        if (f_p1 x2.toNatClampNeg) ≤ 0 then
        X8_areAtRest_b32 self_2 v_t_law v_t_share v_t_pot v_t_barred f_p1 x2
      else
        bnd1 (X8_wanted v_t_law v_t_share v_t_pot v_t_barred f_p1 x2) (fun r5 =>
          if r5 = x2 then
            X8_areAtRest_b32 self_2 v_t_law v_t_share v_t_pot v_t_barred f_p1 x2
          else
            some (0 : Int32))
def X8_areAtRest_b2 : Nat → Int32 → Int32 → Int32 → Int32 → (Nat → Int32) → Int32 → Option (Int32)
  | 0 => fun _ _ _ _ _ _ => none
  | n + 1 => X8_areAtRest_b2_s (X8_areAtRest_b2 n)
def X8_areAtRest (v_t_law : Int32) (v_t_share : Int32) (v_t_pot : Int32) (v_t_barred : Int32) (f_p1 : (Nat → Int32))  : Option (Int32) :=
  X8_areAtRest_b2 fU v_t_law v_t_share v_t_pot v_t_barred f_p1 (0 : Int32)
def X3_restingRows_b96 (selfd : Int32 → Int32 → Int32 → Int32 → (Nat → Int32) → Int32 → Int32 → Option (Int32 × (Nat → Int32))) (v_p0_law : Int32) (v_p0_share : Int32) (v_p0_pot : Int32) (v_p0_barred : Int32) (f_p1 : (Nat → Int32)) (x2 : Int32) (x4 : Int32) : Option (Int32 × (Nat → Int32)) :=
  if (x2 < 0 ∨ 10 ≤ x2.toNatClampNeg) then none else
    some (x4, (upd f_p1 x2.toNatClampNeg (0 : Int32)))
def X3_restingRows_b55_s (selfd : Int32 → Int32 → Int32 → Int32 → (Nat → Int32) → Int32 → Int32 → Option (Int32 × (Nat → Int32))) (self_55 : Int32 → Int32 → Int32 → Int32 → (Nat → Int32) → Int32 → Int32 → Int32 → Int32 → Option (Int32 × (Nat → Int32))) (v_p0_law : Int32) (v_p0_share : Int32) (v_p0_pot : Int32) (v_p0_barred : Int32) (f_p1 : (Nat → Int32)) (x2 : Int32) (x3 : Int32) (x4 : Int32) (x5 : Int32) : Option (Int32 × (Nat → Int32)) :=
  if x3 < x5 then
    X3_restingRows_b96 selfd v_p0_law v_p0_share v_p0_pot v_p0_barred f_p1 x2 x4
  else
    if (x2 < 0 ∨ 10 ≤ x2.toNatClampNeg) then none else
      bnd1 (X10_choose x3 x5) (fun r4 =>
      bnd2 (selfd v_p0_law v_p0_share v_p0_pot v_p0_barred (upd f_p1 x2.toNatClampNeg x5) (x2 + (1 : Int32)) (x3 - x5)) (fun r5 w5_1 =>
        self_55 v_p0_law v_p0_share v_p0_pot v_p0_barred w5_1 x2 x3 (x4 + (r4 * r5)) (x5 + (1 : Int32))))
def X3_restingRows_b55 (selfd : Int32 → Int32 → Int32 → Int32 → (Nat → Int32) → Int32 → Int32 → Option (Int32 × (Nat → Int32))) : Nat → Int32 → Int32 → Int32 → Int32 → (Nat → Int32) → Int32 → Int32 → Int32 → Int32 → Option (Int32 × (Nat → Int32))
  | 0 => fun _ _ _ _ _ _ _ _ _ => none
  | n + 1 => X3_restingRows_b55_s selfd (X3_restingRows_b55 selfd n)
def X3_restingRows_r (selfd : Int32 → Int32 → Int32 → Int32 → (Nat → Int32) → Int32 → Int32 → Option (Int32 × (Nat → Int32))) (v_p0_law : Int32) (v_p0_share : Int32) (v_p0_pot : Int32) (v_p0_barred : Int32) (f_p1 : (Nat → Int32)) (p2 : Int32) (p3 : Int32) : Option (Int32 × (Nat → Int32)) :=
  if 0 < p3 then
    if (X10_isNumber p2) = 0 then
      some ((0 : Int32), f_p1)
    else
      if p2 < (10 : Int32) then
        bnd2 (selfd v_p0_law v_p0_share v_p0_pot v_p0_barred f_p1 (p2 + (1 : Int32)) p3) (fun r10 w10_1 =>
          if (X8_isOpen v_p0_barred p2) = 0 then
            some (r10, w10_1)
          else
            X3_restingRows_b55 selfd fU v_p0_law v_p0_share v_p0_pot v_p0_barred w10_1 p2 p3 r10 (1 : Int32))
      else
        some ((0 : Int32), f_p1)
  else
    bnd1 (X8_areAtRest v_p0_law v_p0_share v_p0_pot v_p0_barred f_p1) (fun r13 =>
      if r13 = 0 then
        some ((0 : Int32), f_p1)
      else
        some ((1 : Int32), f_p1))
def X3_restingRows : Nat → Int32 → Int32 → Int32 → Int32 → (Nat → Int32) → Int32 → Int32 → Option (Int32 × (Nat → Int32))
  | 0 => fun _ _ _ _ _ _ _ => none
  | d + 1 => X3_restingRows_r (X3_restingRows d)
def X3_rowsAtRest (f_t_now : (Nat → Int32)) (v_p1_law : Int32) (v_p1_share : Int32) (v_p1_pot : Int32) (v_p1_barred : Int32) (p2 : Int32) : Option (Int32 × (Nat → Int32)) :=
  bnd2 (X3_restingRows 12 v_p1_law v_p1_share v_p1_pot v_p1_barred (fillI 10 f_t_now (0 : Int32)) (0 : Int32) p2) (fun r1 w1_1 =>
    some (r1, w1_1))
def X10_rests (v_t_rules_law : Int32) (v_t_rules_share : Int32) (v_t_rules_pot : Int32) (v_t_rules_barred : Int32) (f_t_moves_now : (Nat → Int32)) (p1 : Int32) : Option (Int32 × (Nat → Int32)) :=
  if p1 < 0 then
    some ((-2 : Int32), f_t_moves_now)
  else
    if p1 ≤ (4 : Int32) then
      bnd2 (X3_rowsAtRest f_t_moves_now v_t_rules_law v_t_rules_share v_t_rules_pot v_t_rules_barred p1) (fun r3 w3_1 =>
        some (r3, w3_1))
    else
      some ((-2 : Int32), f_t_moves_now)
def X4_told (v_t_told : Int32)  : Int32 :=
  v_t_told
def X4_tell (v_t_told : Int32) (f_t_last : (Nat → Int32)) (p1 : Int32) (p2 : Int32) : Option (Int32 × (Nat → Int32)) :=
  if p1 < 0 then
    some (v_t_told, f_t_last)
  else
    if (9 : Int32) ≤ p1 then
      some (v_t_told, f_t_last)
    else
      if (p1 < 0 ∨ 9 ≤ p1.toNatClampNeg) then none else
        some ((v_t_told + (1 : Int32)), (upd f_t_last p1.toNatClampNeg p2))
def X10_pay (v_t_payments_told : Int32) (f_t_payments_last : (Nat → Int32)) (p1 : Int32) (p2 : Int32) : Option (Int32 × Int32 × (Nat → Int32)) :=
  if p1 < 0 then
    some ((-2 : Int32), v_t_payments_told, f_t_payments_last)
  else
    if (9 : Int32) ≤ p1 then
      some ((-2 : Int32), v_t_payments_told, f_t_payments_last)
    else
      if p2 < 0 then
        some ((-2 : Int32), v_t_payments_told, f_t_payments_last)
      else
        if p2 ≤ (999 : Int32) then
          if (X4_told v_t_payments_told) < (12 : Int32) then
            bnd2 (X4_tell v_t_payments_told f_t_payments_last p1 p2) (fun w6_0 w6_1 =>
              some ((X4_told w6_0), w6_0, w6_1))
          else
            some ((-4 : Int32), v_t_payments_told, f_t_payments_last)
        else
          some ((-2 : Int32), v_t_payments_told, f_t_payments_last)
def X4_clear (v_t_told : Int32) (f_t_last : (Nat → Int32))  : Option (Int32 × (Nat → Int32)) :=
  some ((0 : Int32), (fillI 9 f_t_last (-9 : Int32)))
def X10_unpay (v_t_payments_told : Int32) (f_t_payments_last : (Nat → Int32))  : Option (Int32 × Int32 × (Nat → Int32)) :=
  bnd2 (X4_clear v_t_payments_told f_t_payments_last) (fun w1_0 w1_1 =>
    some ((X4_told v_t_payments_told), w1_0, w1_1))
def X4_differs (f_t_last : (Nat → Int32)) (p1 : Int32) (p2 : Int32) : Option (Int32) :=
  if p1 < 0 then
    some (0 : Int32)
  else
    if (9 : Int32) ≤ p1 then
      some (0 : Int32)
    else
      if (p1 < 0 ∨ 9 ≤ p1.toNatClampNeg) then none else
        if (f_t_last p1.toNatClampNeg) = (-9 : Int32) then
        some (0 : Int32)
      else
        if (p1 < 0 ∨ 9 ≤ p1.toNatClampNeg) then none else
          if (f_t_last p1.toNatClampNeg) = p2 then
          some (0 : Int32)
        else
          some (1 : Int32)
def X10_cheated_b2_s (self_2 : Int32 → Int32 → Int32 → Int32 → (Nat → Int32) → (Nat → Int32) → (Nat → Int32) → Int32 → Option (Int32)) (v_t_rules_law : Int32) (v_t_rules_share : Int32) (v_t_rules_pot : Int32) (v_t_people_size : Int32) (f_t_people_numbers : (Nat → Int32)) (f_t_people_counts : (Nat → Int32)) (f_t_payments_last : (Nat → Int32)) (x1 : Int32) : Option (Int32) :=
  if (X5_size v_t_people_size) ≤ x1 then
    some (-9 : Int32)
  else
    bnd1 (X10_gainOf v_t_rules_law v_t_rules_share v_t_rules_pot v_t_people_size f_t_people_numbers f_t_people_counts x1) (fun r2 =>
      bnd1 (X4_differs f_t_payments_last x1 r2) (fun r3 =>
        if r3 = 0 then
          self_2 v_t_rules_law v_t_rules_share v_t_rules_pot v_t_people_size f_t_people_numbers f_t_people_counts f_t_payments_last (x1 + (1 : Int32))
        else
          some x1))
def X10_cheated_b2 : Nat → Int32 → Int32 → Int32 → Int32 → (Nat → Int32) → (Nat → Int32) → (Nat → Int32) → Int32 → Option (Int32)
  | 0 => fun _ _ _ _ _ _ _ _ => none
  | n + 1 => X10_cheated_b2_s (X10_cheated_b2 n)
def X10_cheated (v_t_rules_law : Int32) (v_t_rules_share : Int32) (v_t_rules_pot : Int32) (v_t_people_size : Int32) (f_t_people_numbers : (Nat → Int32)) (f_t_people_counts : (Nat → Int32)) (f_t_payments_last : (Nat → Int32))  : Option (Int32) :=
  X10_cheated_b2 fU v_t_rules_law v_t_rules_share v_t_rules_pot v_t_people_size f_t_people_numbers f_t_people_counts f_t_payments_last (0 : Int32)
def X10_seed (v_t_evenings_state : Int64) (p1 : Int64) : Option (Int64 × Int64) :=
  bnd2 (X1_sow v_t_evenings_state p1) (fun r1 w1_1 =>
    some (r1, w1_1))
def X10_won_b32_s (self_32 : Int32 → Int32 → Int32 → Int32 → Int32 → Int64 → (Nat → Int32) → Int32 → Int32 → Int32 → Int32 → Option (Int32 × Int64 × (Nat → Int32))) (v_t_rules_law : Int32) (v_t_rules_share : Int32) (v_t_rules_pot : Int32) (v_t_rules_barred : Int32) (v_t_people_size : Int32) (v_t_evenings_state : Int64) (f_t_evenings_counts : (Nat → Int32)) (x1 : Int32) (x2 : Int32) (x3 : Int32) (x4 : Int32) : Option (Int32 × Int64 × (Nat → Int32)) :=
  if x2 ≤ x4 then
    some (x3, v_t_evenings_state, f_t_evenings_counts)
  else
    bnd3 (X1_gain v_t_evenings_state f_t_evenings_counts v_t_rules_law v_t_rules_share v_t_rules_pot v_t_rules_barred x1 (X5_size v_t_people_size)) (fun r2 w2_1 w2_2 =>
      self_32 v_t_rules_law v_t_rules_share v_t_rules_pot v_t_rules_barred v_t_people_size w2_1 w2_2 x1 x2 (x3 + r2) (x4 + (1 : Int32)))
def X10_won_b32 : Nat → Int32 → Int32 → Int32 → Int32 → Int32 → Int64 → (Nat → Int32) → Int32 → Int32 → Int32 → Int32 → Option (Int32 × Int64 × (Nat → Int32))
  | 0 => fun _ _ _ _ _ _ _ _ _ _ _ => none
  | n + 1 => X10_won_b32_s (X10_won_b32 n)
def X10_won (v_t_rules_law : Int32) (v_t_rules_share : Int32) (v_t_rules_pot : Int32) (v_t_rules_barred : Int32) (v_t_people_size : Int32) (v_t_evenings_state : Int64) (f_t_evenings_counts : (Nat → Int32)) (p1 : Int32) (p2 : Int32) : Option (Int32 × Int64 × (Nat → Int32)) :=
  if (X5_has v_t_people_size p1) = 0 then
    some ((-1 : Int32), v_t_evenings_state, f_t_evenings_counts)
  else
    if p2 < (1 : Int32) then
      some ((-2 : Int32), v_t_evenings_state, f_t_evenings_counts)
    else
      if p2 ≤ (40 : Int32) then
        X10_won_b32 fU v_t_rules_law v_t_rules_share v_t_rules_pot v_t_rules_barred v_t_people_size v_t_evenings_state f_t_evenings_counts p1 p2 (0 : Int32) (0 : Int32)
      else
        some ((-2 : Int32), v_t_evenings_state, f_t_evenings_counts)
def X10_isSlot  (p0 : Int32) : Int32 :=
  if p0 < 0 then
    (0 : Int32)
  else
    if (2 : Int32) ≤ p0 then
      (0 : Int32)
    else
      (1 : Int32)
def X2_putSlot (f_t_slots : (Nat → Int64)) (p1 : Int32) (p2 : Int64) : Option ((Nat → Int64)) :=
  if (X10_isSlot p1) = 0 then
    some f_t_slots
  else
    if (p1 < 0 ∨ 2 ≤ p1.toNatClampNeg) then none else
      some (vp_updL f_t_slots p1.toNatClampNeg p2)
def X10_keep (v_t_people_size : Int32) (f_t_people_numbers : (Nat → Int32)) (f_t_memory_slots : (Nat → Int64)) (p1 : Int32) : Option (Int32 × (Nat → Int64)) :=
  if (X10_isSlot p1) = 0 then
    some ((-1 : Int32), f_t_memory_slots)
  else
    bnd1 (X5_pack v_t_people_size f_t_people_numbers) (fun r3 =>
      bnd1 (X2_putSlot f_t_memory_slots p1 r3) (fun w4_0 =>
        some ((X5_size v_t_people_size), w4_0)))
def X2_slot (f_t_slots : (Nat → Int64)) (p1 : Int32) : Option (Int64) :=
  if (X10_isSlot p1) = 0 then
    some (-1 : Int64)
  else
    if (p1 < 0 ∨ 2 ≤ p1.toNatClampNeg) then none else
      some (f_t_slots p1.toNatClampNeg)
def X10_again (v_t_people_size : Int32) (f_t_people_numbers : (Nat → Int32)) (f_t_people_counts : (Nat → Int32)) (v_t_memory_acts : Int32) (f_t_memory_slots : (Nat → Int64)) (p1 : Int32) : Option (Int32 × Int32 × (Nat → Int32) × (Nat → Int32) × Int32) :=
  if (X10_isSlot p1) = 0 then
    some ((-1 : Int32), v_t_people_size, f_t_people_numbers, f_t_people_counts, v_t_memory_acts)
  else
    bnd1 (X2_slot f_t_memory_slots p1) (fun r3 =>
      if (lg_cmp r3 (-1 : Int64)) = 0 then
        some ((-3 : Int32), v_t_people_size, f_t_people_numbers, f_t_people_counts, v_t_memory_acts)
      else
        bnd1 (X2_slot f_t_memory_slots p1) (fun r5 =>
          bnd3 (X5_unpack v_t_people_size f_t_people_numbers f_t_people_counts r5) (fun w6_0 w6_1 w6_2 =>
            bnd1 (X2_dropActs v_t_memory_acts) (fun w7_0 =>
              some ((X5_size w6_0), w6_0, w6_1, w6_2, w7_0)))))
def X10_rightBits_b49 (self_4 : Int32 → Int32 → (Nat → Int32) → (Nat → Int32) → Int32 → Int32 → Option (Int32)) (v_t_rules_law : Int32) (v_t_people_size : Int32) (f_t_people_numbers : (Nat → Int32)) (f_t_people_counts : (Nat → Int32)) (x1 : Int32) (x2 : Int32) : Option (Int32) :=
  self_4 v_t_rules_law v_t_people_size f_t_people_numbers f_t_people_counts x1 (x2 + (1 : Int32))
def X10_rightBits_b4_s (self_4 : Int32 → Int32 → (Nat → Int32) → (Nat → Int32) → Int32 → Int32 → Option (Int32)) (v_t_rules_law : Int32) (v_t_people_size : Int32) (f_t_people_numbers : (Nat → Int32)) (f_t_people_counts : (Nat → Int32)) (x1 : Int32) (x2 : Int32) : Option (Int32) :=
  if (X5_size v_t_people_size) ≤ x2 then
    some x1
  else
    bnd1 (X5_numberOf v_t_people_size f_t_people_numbers x2) (fun r2 =>
      bnd1 (X5_many f_t_people_counts r2) (fun r3 =>
        if (X8_suits v_t_rules_law r2 r3) = 0 then
          X10_rightBits_b49 self_4 v_t_rules_law v_t_people_size f_t_people_numbers f_t_people_counts x1 x2
        else
          X10_rightBits_b49 self_4 v_t_rules_law v_t_people_size f_t_people_numbers f_t_people_counts (x1 ||| ((1 : Int32) <<< (x2 &&& 31))) x2))
def X10_rightBits_b4 : Nat → Int32 → Int32 → (Nat → Int32) → (Nat → Int32) → Int32 → Int32 → Option (Int32)
  | 0 => fun _ _ _ _ _ _ => none
  | n + 1 => X10_rightBits_b4_s (X10_rightBits_b4 n)
def X10_rightBits (v_t_rules_law : Int32) (v_t_people_size : Int32) (f_t_people_numbers : (Nat → Int32)) (f_t_people_counts : (Nat → Int32))  : Option (Int32) :=
  X10_rightBits_b4 fU v_t_rules_law v_t_people_size f_t_people_numbers f_t_people_counts (0 : Int32) (0 : Int32)
def X8_barredBits (v_t_barred : Int32)  : Int32 :=
  v_t_barred
def X8_potWhole (v_t_pot : Int32)  : Int32 :=
  v_t_pot
def X8_lawKind (v_t_law : Int32)  : Int32 :=
  v_t_law
def X8_shareKind (v_t_share : Int32)  : Int32 :=
  v_t_share
def X10_leftOfPot_b10_s (self_10 : Int32 → Int32 → Int32 → Int32 → (Nat → Int32) → (Nat → Int32) → Int32 → Int32 → Option (Int32)) (v_t_rules_law : Int32) (v_t_rules_share : Int32) (v_t_rules_pot : Int32) (v_t_people_size : Int32) (f_t_people_numbers : (Nat → Int32)) (f_t_people_counts : (Nat → Int32)) (x1 : Int32) (x2 : Int32) : Option (Int32) :=
  if (X5_size v_t_people_size) ≤ x2 then
    some x1
  else
    bnd1 (X10_gainOf v_t_rules_law v_t_rules_share v_t_rules_pot v_t_people_size f_t_people_numbers f_t_people_counts x2) (fun r2 =>
      self_10 v_t_rules_law v_t_rules_share v_t_rules_pot v_t_people_size f_t_people_numbers f_t_people_counts (x1 - r2) (x2 + (1 : Int32)))
def X10_leftOfPot_b10 : Nat → Int32 → Int32 → Int32 → Int32 → (Nat → Int32) → (Nat → Int32) → Int32 → Int32 → Option (Int32)
  | 0 => fun _ _ _ _ _ _ _ _ => none
  | n + 1 => X10_leftOfPot_b10_s (X10_leftOfPot_b10 n)
def X10_leftOfPot (v_t_rules_law : Int32) (v_t_rules_share : Int32) (v_t_rules_pot : Int32) (v_t_people_size : Int32) (f_t_people_numbers : (Nat → Int32)) (f_t_people_counts : (Nat → Int32))  : Option (Int32) :=
  X10_leftOfPot_b10 fU v_t_rules_law v_t_rules_share v_t_rules_pot v_t_people_size f_t_people_numbers f_t_people_counts (X8_potWhole v_t_rules_pot) (0 : Int32)
def X10_count (v_t_text_length : Int32) (v_t_rules_law : Int32) (v_t_rules_share : Int32) (v_t_rules_pot : Int32) (v_t_rules_barred : Int32) (v_t_people_size : Int32) (f_t_people_numbers : (Nat → Int32)) (f_t_people_counts : (Nat → Int32)) (v_t_memory_acts : Int32) (v_t_payments_told : Int32) (p1 : Int32) : Option (Int32) :=
  if p1 = (0 : Int32) then
    some (X9_length v_t_text_length)
  else
    if p1 = (1 : Int32) then
      some (X5_size v_t_people_size)
    else
      if p1 = (2 : Int32) then
        bnd1 (X10_rightBits v_t_rules_law v_t_people_size f_t_people_numbers f_t_people_counts) (fun r4 =>
          some r4)
      else
        if p1 = (3 : Int32) then
          some (X8_barredBits v_t_rules_barred)
        else
          if p1 = (4 : Int32) then
            some (X2_acts v_t_memory_acts)
          else
            if p1 = (5 : Int32) then
              some (X4_told v_t_payments_told)
            else
              if p1 = (6 : Int32) then
                some (X8_potWhole v_t_rules_pot)
              else
                if p1 = (7 : Int32) then
                  some (X8_lawKind v_t_rules_law)
                else
                  if p1 = (8 : Int32) then
                    some (X8_shareKind v_t_rules_share)
                  else
                    if p1 = (9 : Int32) then
                      bnd1 (X10_leftOfPot v_t_rules_law v_t_rules_share v_t_rules_pot v_t_people_size f_t_people_numbers f_t_people_counts) (fun r12 =>
                        some r12)
                    else
                      some (-2 : Int32)
def X11_in  (p0 : Int64) (p2 : Int64) (p4 : Int64) : Int32 :=
  if (lg_cmp p0 p2) < 0 then
    (0 : Int32)
  else
    if 0 < (lg_cmp p0 p4) then
      (0 : Int32)
    else
      (1 : Int32)
def X11_write_b76 (v_t_length : Int32) (f_t_text : (Nat → Int32))  : Option (Int32 × Int32 × (Nat → Int32)) :=
  some (v_t_length, v_t_length, f_t_text)
def X11_write_b34_s (self_34 : Int32 → (Nat → Int32) → Int64 → Int32 → Option (Int32 × Int32 × (Nat → Int32))) (v_t_length : Int32) (f_t_text : (Nat → Int32)) (x2 : Int64) (x4 : Int32) : Option (Int32 × Int32 × (Nat → Int32)) :=
  if x4 < 0 then
    X11_write_b76 v_t_length f_t_text
  else
    if (v_t_length < 0 ∨ 40 ≤ v_t_length.toNatClampNeg) then none else
      self_34 (v_t_length + (1 : Int32)) (upd f_t_text v_t_length.toNatClampNeg ((x2 >>> (((8 : Int32) * x4).toInt64 &&& 63)) &&& (255 : Int64)).toInt32) x2 (x4 + (-1 : Int32))
def X11_write_b34 : Nat → Int32 → (Nat → Int32) → Int64 → Int32 → Option (Int32 × Int32 × (Nat → Int32))
  | 0 => fun _ _ _ _ => none
  | n + 1 => X11_write_b34_s (X11_write_b34 n)
def X11_write (v_t_length : Int32) (f_t_text : (Nat → Int32)) (p1 : Int32) (p2 : Int64) : Option (Int32 × Int32 × (Nat → Int32)) :=
  if (X11_in p1.toInt64 (1 : Int64) (8 : Int64)) = 0 then
    some ((-2 : Int32), v_t_length, f_t_text)
  else
    if (v_t_length + p1) ≤ (40 : Int32) then
      X11_write_b34 fU v_t_length f_t_text p2 (p1 - (1 : Int32))
    else
      some ((-4 : Int32), v_t_length, f_t_text)
def X11_wipe (v_t_length : Int32)  : Option (Int32 × Int32) :=
  some (v_t_length, (0 : Int32))
def X11_figure_b78 (v_t_length : Int32) (v_t_at : Int32) (v_t_faultAt : Int32) (f_t_text : (Nat → Int32)) (s1 : Int32) : Option (Int32 × Int32 × Int32) :=
  some ((0 : Int32), v_t_at, s1)
def X11_figure_b57 (v_t_length : Int32) (v_t_at : Int32) (v_t_faultAt : Int32) (f_t_text : (Nat → Int32))  : Option (Int32 × Int32 × Int32) :=
  if v_t_faultAt = (-9 : Int32) then
    X11_figure_b78 v_t_length v_t_at v_t_faultAt f_t_text v_t_at
  else
    X11_figure_b78 v_t_length v_t_at v_t_faultAt f_t_text v_t_faultAt
def X11_figure_b36 (v_t_length : Int32) (v_t_at : Int32) (v_t_faultAt : Int32) (f_t_text : (Nat → Int32)) (x1 : Int32) (s0 : Int32) : Option (Int32 × Int32 × Int32) :=
  if (X11_in s0.toInt64 (0 : Int64) (9 : Int64)) = 0 then
    X11_figure_b57 v_t_length v_t_at v_t_faultAt f_t_text
  else
    if ((x1 >>> (s0 &&& 31)) &&& (1 : Int32)) = 0 then
      X11_figure_b57 v_t_length v_t_at v_t_faultAt f_t_text
    else
      some (s0, (v_t_at + (1 : Int32)), v_t_faultAt)
def X11_figure_b35 (v_t_length : Int32) (v_t_at : Int32) (v_t_faultAt : Int32) (f_t_text : (Nat → Int32)) (x1 : Int32) : Option (Int32 × Int32 × Int32) :=
  X11_figure_b36 v_t_length v_t_at v_t_faultAt f_t_text x1 (-1 : Int32)
def X11_figure (v_t_length : Int32) (v_t_at : Int32) (v_t_faultAt : Int32) (f_t_text : (Nat → Int32)) (p1 : Int32) : Option (Int32 × Int32 × Int32) :=
  if v_t_faultAt = (-9 : Int32) then
    if v_t_length ≤ v_t_at then
      X11_figure_b35 v_t_length v_t_at v_t_faultAt f_t_text p1
    else
      if (v_t_at < 0 ∨ 40 ≤ v_t_at.toNatClampNeg) then none else
        X11_figure_b36 v_t_length v_t_at v_t_faultAt f_t_text p1 ((f_t_text v_t_at.toNatClampNeg) - (48 : Int32))
  else
    X11_figure_b35 v_t_length v_t_at v_t_faultAt f_t_text p1
def X11_ones_b4_s (self_4 : Int32 → Int32 → Int32 → Option (Int32))  (x0 : Int32) (x1 : Int32) (x2 : Int32) : Option (Int32) :=
  if (10 : Int32) ≤ x2 then
    some x1
  else
    self_4 x0 (x1 + ((x0 >>> (x2 &&& 31)) &&& (1 : Int32))) (x2 + (1 : Int32))
def X11_ones_b4 : Nat → Int32 → Int32 → Int32 → Option (Int32)
  | 0 => fun _ _ _ => none
  | n + 1 => X11_ones_b4_s (X11_ones_b4 n)
def X11_ones  (p0 : Int32) : Option (Int32) :=
  X11_ones_b4 fU p0 (0 : Int32) (0 : Int32)
def X11_free_b40 (v_t_readMany : Int32) (v_t_readBarred : Int32) (f_t_readSlips : (Nat → Int32)) (x1 : Int32) : Option (Int32) :=
  bnd1 (X11_ones v_t_readBarred) (fun r1 =>
    if r1 = (9 : Int32) then
      some (0 : Int32)
    else
      some x1)
def X11_free_b13_s (self_13 : Int32 → Int32 → (Nat → Int32) → Int32 → Int32 → Option (Int32)) (v_t_readMany : Int32) (v_t_readBarred : Int32) (f_t_readSlips : (Nat → Int32)) (x1 : Int32) (x2 : Int32) : Option (Int32) :=
  if v_t_readMany ≤ x2 then
    X11_free_b40 v_t_readMany v_t_readBarred f_t_readSlips x1
  else
    if (x2 < 0 ∨ 9 ≤ x2.toNatClampNeg) then none else
      self_13 v_t_readMany v_t_readBarred f_t_readSlips (x1 &&& (((1 : Int32) <<< ((f_t_readSlips x2.toNatClampNeg) &&& 31)) ^^^ (-1 : Int32))) (x2 + (1 : Int32))
def X11_free_b13 : Nat → Int32 → Int32 → (Nat → Int32) → Int32 → Int32 → Option (Int32)
  | 0 => fun _ _ _ _ _ => none
  | n + 1 => X11_free_b13_s (X11_free_b13 n)
def X11_free (v_t_readMany : Int32) (v_t_readBarred : Int32) (f_t_readSlips : (Nat → Int32))  : Option (Int32) :=
  X11_free_b13 fU v_t_readMany v_t_readBarred f_t_readSlips ((1023 : Int32) &&& (v_t_readBarred ^^^ (-1 : Int32))) (0 : Int32)
def X11_readText_b183 (self_102 : Int32 → Int32 → Int32 → Int32 → Int32 → Int32 → Int32 → Int32 → (Nat → Int32) → (Nat → Int32) → Option (Int32 × Int32 × Int32 × Int32 × Int32 × Int32 × Int32 × Int32 × (Nat → Int32))) (v_t_readMany : Int32) (v_t_readBarred : Int32) (v_t_readRule : Int32) (v_t_readShare : Int32) (v_t_readPot : Int32) (v_t_length : Int32) (v_t_at : Int32) (v_t_faultAt : Int32) (f_t_readSlips : (Nat → Int32)) (f_t_text : (Nat → Int32)) (s1 : Int32) (s2 : Int32) : Option (Int32 × Int32 × Int32 × Int32 × Int32 × Int32 × Int32 × Int32 × (Nat → Int32)) :=
  self_102 v_t_readMany (s1 ||| s2) v_t_readRule v_t_readShare v_t_readPot v_t_length v_t_at v_t_faultAt f_t_readSlips f_t_text
def X11_readText_b259 (self_102 : Int32 → Int32 → Int32 → Int32 → Int32 → Int32 → Int32 → Int32 → (Nat → Int32) → (Nat → Int32) → Option (Int32 × Int32 × Int32 × Int32 × Int32 × Int32 × Int32 × Int32 × (Nat → Int32))) (v_t_readMany : Int32) (v_t_readBarred : Int32) (v_t_readRule : Int32) (v_t_readShare : Int32) (v_t_readPot : Int32) (v_t_length : Int32) (v_t_at : Int32) (v_t_faultAt : Int32) (f_t_readSlips : (Nat → Int32)) (f_t_text : (Nat → Int32))  : Option (Int32 × Int32 × Int32 × Int32 × Int32 × Int32 × Int32 × Int32 × (Nat → Int32)) :=
  self_102 v_t_readMany v_t_readBarred v_t_readRule v_t_readShare v_t_readPot v_t_length v_t_at v_t_at f_t_readSlips f_t_text
def X11_readText_b190 (self_102 : Int32 → Int32 → Int32 → Int32 → Int32 → Int32 → Int32 → Int32 → (Nat → Int32) → (Nat → Int32) → Option (Int32 × Int32 × Int32 × Int32 × Int32 × Int32 × Int32 × Int32 × (Nat → Int32))) (v_t_readMany : Int32) (v_t_readBarred : Int32) (v_t_readRule : Int32) (v_t_readShare : Int32) (v_t_readPot : Int32) (v_t_length : Int32) (v_t_at : Int32) (v_t_faultAt : Int32) (f_t_readSlips : (Nat → Int32)) (f_t_text : (Nat → Int32))  : Option (Int32 × Int32 × Int32 × Int32 × Int32 × Int32 × Int32 × Int32 × (Nat → Int32)) :=
  if (v_t_at < 0 ∨ 40 ≤ v_t_at.toNatClampNeg) then none else
    if (f_t_text v_t_at.toNatClampNeg) = (80 : Int32) then
    if (9 : Int32) ≤ v_t_readMany then
      X11_readText_b259 self_102 v_t_readMany v_t_readBarred v_t_readRule v_t_readShare v_t_readPot v_t_length v_t_at v_t_faultAt f_t_readSlips f_t_text
    else
      bnd3 (X11_figure v_t_length (v_t_at + (1 : Int32)) v_t_faultAt f_t_text ((1023 : Int32) &&& (v_t_readBarred ^^^ (-1 : Int32)))) (fun r4 w4_1 w4_2 =>
        if (v_t_readMany < 0 ∨ 9 ≤ v_t_readMany.toNatClampNeg) then none else
          self_102 (v_t_readMany + (1 : Int32)) v_t_readBarred v_t_readRule v_t_readShare v_t_readPot v_t_length w4_1 w4_2 (upd f_t_readSlips v_t_readMany.toNatClampNeg r4) f_t_text)
  else
    X11_readText_b259 self_102 v_t_readMany v_t_readBarred v_t_readRule v_t_readShare v_t_readPot v_t_length v_t_at v_t_faultAt f_t_readSlips f_t_text
def X11_readText_b270 (v_t_readMany : Int32) (v_t_readBarred : Int32) (v_t_readRule : Int32) (v_t_readShare : Int32) (v_t_readPot : Int32) (v_t_length : Int32) (v_t_at : Int32) (v_t_faultAt : Int32) (f_t_readSlips : (Nat → Int32)) (f_t_text : (Nat → Int32))  : Option (Int32 × Int32 × Int32 × Int32 × Int32 × Int32 × Int32 × Int32 × (Nat → Int32)) :=
  some (v_t_faultAt, v_t_readMany, v_t_readBarred, v_t_readRule, v_t_readShare, v_t_readPot, v_t_at, v_t_faultAt, f_t_readSlips)
def X11_readText_b102_s (self_102 : Int32 → Int32 → Int32 → Int32 → Int32 → Int32 → Int32 → Int32 → (Nat → Int32) → (Nat → Int32) → Option (Int32 × Int32 × Int32 × Int32 × Int32 × Int32 × Int32 × Int32 × (Nat → Int32))) (v_t_readMany : Int32) (v_t_readBarred : Int32) (v_t_readRule : Int32) (v_t_readShare : Int32) (v_t_readPot : Int32) (v_t_length : Int32) (v_t_at : Int32) (v_t_faultAt : Int32) (f_t_readSlips : (Nat → Int32)) (f_t_text : (Nat → Int32))  : Option (Int32 × Int32 × Int32 × Int32 × Int32 × Int32 × Int32 × Int32 × (Nat → Int32)) :=
  if v_t_faultAt = (-9 : Int32) then
    if v_t_length ≤ v_t_at then
      X11_readText_b270 v_t_readMany v_t_readBarred v_t_readRule v_t_readShare v_t_readPot v_t_length v_t_at v_t_faultAt f_t_readSlips f_t_text
    else
      if (v_t_at < 0 ∨ 40 ≤ v_t_at.toNatClampNeg) then none else
        if (f_t_text v_t_at.toNatClampNeg) = (78 : Int32) then
        bnd1 (X11_free v_t_readMany v_t_readBarred f_t_readSlips) (fun r10 =>
          if r10 = 0 then
            X11_readText_b190 self_102 v_t_readMany v_t_readBarred v_t_readRule v_t_readShare v_t_readPot v_t_length v_t_at v_t_faultAt f_t_readSlips f_t_text
          else
            bnd1 (X11_free v_t_readMany v_t_readBarred f_t_readSlips) (fun r12 =>
              bnd3 (X11_figure v_t_length (v_t_at + (1 : Int32)) v_t_faultAt f_t_text r12) (fun r13 w13_1 w13_2 =>
                if w13_2 = (-9 : Int32) then
                  X11_readText_b183 self_102 v_t_readMany v_t_readBarred v_t_readRule v_t_readShare v_t_readPot v_t_length w13_1 w13_2 f_t_readSlips f_t_text v_t_readBarred ((1 : Int32) <<< (r13 &&& 31))
                else
                  X11_readText_b183 self_102 v_t_readMany v_t_readBarred v_t_readRule v_t_readShare v_t_readPot v_t_length w13_1 w13_2 f_t_readSlips f_t_text v_t_readBarred (0 : Int32))))
      else
        X11_readText_b190 self_102 v_t_readMany v_t_readBarred v_t_readRule v_t_readShare v_t_readPot v_t_length v_t_at v_t_faultAt f_t_readSlips f_t_text
  else
    X11_readText_b270 v_t_readMany v_t_readBarred v_t_readRule v_t_readShare v_t_readPot v_t_length v_t_at v_t_faultAt f_t_readSlips f_t_text
def X11_readText_b102 : Nat → Int32 → Int32 → Int32 → Int32 → Int32 → Int32 → Int32 → Int32 → (Nat → Int32) → (Nat → Int32) → Option (Int32 × Int32 × Int32 × Int32 × Int32 × Int32 × Int32 × Int32 × (Nat → Int32))
  | 0 => fun _ _ _ _ _ _ _ _ _ _ => none
  | n + 1 => X11_readText_b102_s (X11_readText_b102 n)
def X11_readText (v_t_readMany : Int32) (v_t_readBarred : Int32) (v_t_readRule : Int32) (v_t_readShare : Int32) (v_t_readPot : Int32) (v_t_length : Int32) (v_t_at : Int32) (v_t_faultAt : Int32) (f_t_readSlips : (Nat → Int32)) (f_t_text : (Nat → Int32))  : Option (Int32 × Int32 × Int32 × Int32 × Int32 × Int32 × Int32 × Int32 × (Nat → Int32)) :=
  if v_t_length = 0 then
    some ((0 : Int32), (0 : Int32), (0 : Int32), v_t_readRule, v_t_readShare, v_t_readPot, (0 : Int32), (-9 : Int32), f_t_readSlips)
  else
    if ((0 : Int32) < 0 ∨ 40 ≤ (0 : Int32).toNatClampNeg) then none else
      if (f_t_text (0 : Int32).toNatClampNeg) = (84 : Int32) then
      bnd3 (X11_figure v_t_length (1 : Int32) (-9 : Int32) f_t_text (7 : Int32)) (fun r18 w18_1 w18_2 =>
        bnd3 (X11_figure v_t_length w18_1 w18_2 f_t_text (3 : Int32)) (fun r19 w19_1 w19_2 =>
          bnd3 (X11_figure v_t_length w19_1 w19_2 f_t_text (1023 : Int32)) (fun r20 w20_1 w20_2 =>
            bnd3 (X11_figure v_t_length w20_1 w20_2 f_t_text (1023 : Int32)) (fun r21 w21_1 w21_2 =>
              bnd3 (X11_figure v_t_length w21_1 w21_2 f_t_text (1023 : Int32)) (fun r22 w22_1 w22_2 =>
                X11_readText_b102 fU (0 : Int32) (0 : Int32) r18 r19 ((((100 : Int32) * r20) + ((10 : Int32) * r21)) + r22) v_t_length w22_1 w22_2 f_t_readSlips f_t_text)))))
    else
      some ((0 : Int32), (0 : Int32), (0 : Int32), v_t_readRule, v_t_readShare, v_t_readPot, (0 : Int32), (-9 : Int32), f_t_readSlips)
def X11_fault (v_t_readMany : Int32) (v_t_readBarred : Int32) (v_t_readRule : Int32) (v_t_readShare : Int32) (v_t_readPot : Int32) (v_t_length : Int32) (v_t_at : Int32) (v_t_faultAt : Int32) (f_t_readSlips : (Nat → Int32)) (f_t_text : (Nat → Int32))  : Option (Int32 × Int32 × Int32 × Int32 × Int32 × Int32 × Int32 × Int32 × (Nat → Int32)) :=
  bnd9 (X11_readText v_t_readMany v_t_readBarred v_t_readRule v_t_readShare v_t_readPot v_t_length v_t_at v_t_faultAt f_t_readSlips f_t_text) (fun r1 w1_1 w1_2 w1_3 w1_4 w1_5 w1_6 w1_7 w1_8 =>
    some (r1, w1_1, w1_2, w1_3, w1_4, w1_5, w1_6, w1_7, w1_8))
def X11_table_b78 (v_t_readMany : Int32) (v_t_readBarred : Int32) (v_t_readRule : Int32) (v_t_readShare : Int32) (v_t_readPot : Int32) (v_t_many : Int32) (v_t_barred : Int32) (v_t_rule : Int32) (v_t_share : Int32) (v_t_pot : Int32) (v_t_length : Int32) (v_t_at : Int32) (v_t_faultAt : Int32) (v_t_acts : Int32) (f_t_readSlips : (Nat → Int32)) (f_t_slips : (Nat → Int32)) (f_t_text : (Nat → Int32)) (f_t_isKept : (Nat → Int32))  : Option (Int32 × Int32 × Int32 × Int32 × Int32 × Int32 × Int32 × Int32 × Int32 × Int32 × Int32 × Int32 × Int32 × Int32 × (Nat → Int32) × (Nat → Int32) × (Nat → Int32)) :=
  if ((0 : Int32) < 0 ∨ 2 ≤ (0 : Int32).toNatClampNeg) then none else
    if ((1 : Int32) < 0 ∨ 2 ≤ (1 : Int32).toNatClampNeg) then none else
    some (v_t_many, v_t_readMany, v_t_readBarred, v_t_readRule, v_t_readShare, v_t_readPot, v_t_many, v_t_barred, v_t_rule, v_t_share, v_t_pot, v_t_at, v_t_faultAt, (0 : Int32), f_t_readSlips, f_t_slips, (upd (upd f_t_isKept (0 : Int32).toNatClampNeg (vp_nar .boolean (0 : Int32))) (1 : Int32).toNatClampNeg (vp_nar .boolean (0 : Int32))))
def X11_table_b54_s (self_54 : Int32 → Int32 → Int32 → Int32 → Int32 → Int32 → Int32 → Int32 → Int32 → Int32 → Int32 → Int32 → Int32 → Int32 → (Nat → Int32) → (Nat → Int32) → (Nat → Int32) → (Nat → Int32) → Int32 → Option (Int32 × Int32 × Int32 × Int32 × Int32 × Int32 × Int32 × Int32 × Int32 × Int32 × Int32 × Int32 × Int32 × Int32 × (Nat → Int32) × (Nat → Int32) × (Nat → Int32))) (v_t_readMany : Int32) (v_t_readBarred : Int32) (v_t_readRule : Int32) (v_t_readShare : Int32) (v_t_readPot : Int32) (v_t_many : Int32) (v_t_barred : Int32) (v_t_rule : Int32) (v_t_share : Int32) (v_t_pot : Int32) (v_t_length : Int32) (v_t_at : Int32) (v_t_faultAt : Int32) (v_t_acts : Int32) (f_t_readSlips : (Nat → Int32)) (f_t_slips : (Nat → Int32)) (f_t_text : (Nat → Int32)) (f_t_isKept : (Nat → Int32)) (x1 : Int32) : Option (Int32 × Int32 × Int32 × Int32 × Int32 × Int32 × Int32 × Int32 × Int32 × Int32 × Int32 × Int32 × Int32 × Int32 × (Nat → Int32) × (Nat → Int32) × (Nat → Int32)) :=
  if (9 : Int32) ≤ x1 then
    X11_table_b78 v_t_readMany v_t_readBarred v_t_readRule v_t_readShare v_t_readPot v_t_many v_t_barred v_t_rule v_t_share v_t_pot v_t_length v_t_at v_t_faultAt v_t_acts f_t_readSlips f_t_slips f_t_text f_t_isKept
  else
    if (x1 < 0 ∨ 9 ≤ x1.toNatClampNeg) then none else
      if (x1 < 0 ∨ 9 ≤ x1.toNatClampNeg) then none else
      self_54 v_t_readMany v_t_readBarred v_t_readRule v_t_readShare v_t_readPot v_t_many v_t_barred v_t_rule v_t_share v_t_pot v_t_length v_t_at v_t_faultAt v_t_acts f_t_readSlips (upd f_t_slips x1.toNatClampNeg (f_t_readSlips x1.toNatClampNeg)) f_t_text f_t_isKept (x1 + (1 : Int32))
def X11_table_b54 : Nat → Int32 → Int32 → Int32 → Int32 → Int32 → Int32 → Int32 → Int32 → Int32 → Int32 → Int32 → Int32 → Int32 → Int32 → (Nat → Int32) → (Nat → Int32) → (Nat → Int32) → (Nat → Int32) → Int32 → Option (Int32 × Int32 × Int32 × Int32 × Int32 × Int32 × Int32 × Int32 × Int32 × Int32 × Int32 × Int32 × Int32 × Int32 × (Nat → Int32) × (Nat → Int32) × (Nat → Int32))
  | 0 => fun _ _ _ _ _ _ _ _ _ _ _ _ _ _ _ _ _ _ _ => none
  | n + 1 => X11_table_b54_s (X11_table_b54 n)
def X11_table (v_t_readMany : Int32) (v_t_readBarred : Int32) (v_t_readRule : Int32) (v_t_readShare : Int32) (v_t_readPot : Int32) (v_t_many : Int32) (v_t_barred : Int32) (v_t_rule : Int32) (v_t_share : Int32) (v_t_pot : Int32) (v_t_length : Int32) (v_t_at : Int32) (v_t_faultAt : Int32) (v_t_acts : Int32) (f_t_readSlips : (Nat → Int32)) (f_t_slips : (Nat → Int32)) (f_t_text : (Nat → Int32)) (f_t_isKept : (Nat → Int32))  : Option (Int32 × Int32 × Int32 × Int32 × Int32 × Int32 × Int32 × Int32 × Int32 × Int32 × Int32 × Int32 × Int32 × Int32 × (Nat → Int32) × (Nat → Int32) × (Nat → Int32)) :=
  bnd9 (X11_readText v_t_readMany v_t_readBarred v_t_readRule v_t_readShare v_t_readPot v_t_length v_t_at v_t_faultAt f_t_readSlips f_t_text) (fun r6 w6_1 w6_2 w6_3 w6_4 w6_5 w6_6 w6_7 w6_8 =>
    if r6 = (-9 : Int32) then
      X11_table_b54 fU w6_1 w6_2 w6_3 w6_4 w6_5 w6_1 w6_2 w6_3 w6_4 w6_5 v_t_length w6_6 w6_7 v_t_acts w6_8 f_t_slips f_t_text f_t_isKept (0 : Int32)
    else
      some ((-3 : Int32), w6_1, w6_2, w6_3, w6_4, w6_5, v_t_many, v_t_barred, v_t_rule, v_t_share, v_t_pot, w6_6, w6_7, v_t_acts, w6_8, f_t_slips, f_t_isKept))
def X11_isPerson (v_t_many : Int32) (p1 : Int32) : Int32 :=
  (X11_in p1.toInt64 (0 : Int64) (v_t_many - (1 : Int32)).toInt64)
def X11_isBarred (v_t_barred : Int32) (p1 : Int32) : Int32 :=
  if ((v_t_barred >>> (p1 &&& 31)) &&& (1 : Int32)) = (1 : Int32) then
    (1 : Int32)
  else
    (0 : Int32)
def X11_takeSlips_b10_s (self_10 : Int32 → Int32 → (Nat → Int32) → (Nat → Int32) → Int32 → Option (Int32 × (Nat → Int32))) (v_t_many : Int32) (v_t_rowMany : Int32) (f_t_slips : (Nat → Int32)) (f_t_row : (Nat → Int32)) (x1 : Int32) : Option (Int32 × (Nat → Int32)) :=
  if v_t_many ≤ x1 then
    some (v_t_rowMany, f_t_row)
  else
    if (x1 < 0 ∨ 9 ≤ x1.toNatClampNeg) then none else
      if (x1 < 0 ∨ 10 ≤ x1.toNatClampNeg) then none else
      self_10 v_t_many v_t_rowMany f_t_slips (upd f_t_row x1.toNatClampNeg (f_t_slips x1.toNatClampNeg)) (x1 + (1 : Int32))
def X11_takeSlips_b10 : Nat → Int32 → Int32 → (Nat → Int32) → (Nat → Int32) → Int32 → Option (Int32 × (Nat → Int32))
  | 0 => fun _ _ _ _ _ => none
  | n + 1 => X11_takeSlips_b10_s (X11_takeSlips_b10 n)
def X11_takeSlips (v_t_many : Int32) (v_t_rowMany : Int32) (f_t_slips : (Nat → Int32)) (f_t_row : (Nat → Int32))  : Option (Int32 × (Nat → Int32)) :=
  X11_takeSlips_b10 fU v_t_many v_t_many f_t_slips f_t_row (0 : Int32)
def X11_isFine (v_t_rule : Int32) (p1 : Int32) (p2 : Int32) : Int32 :=
  if v_t_rule = 0 then
    if p2 = p1 then
      (1 : Int32)
    else
      (0 : Int32)
  else
    if v_t_rule = (1 : Int32) then
      if p2 < p1 then
        (0 : Int32)
      else
        (1 : Int32)
    else
      if p1 < p2 then
        (0 : Int32)
      else
        (1 : Int32)
def X11_wroteIn_b28 (self_4 : Int32 → (Nat → Int32) → Int32 → Int32 → Int32 → Option (Int32)) (v_t_rowMany : Int32) (f_t_row : (Nat → Int32)) (x1 : Int32) (x3 : Int32) (s0 : Int32) (s1 : Int32) : Option (Int32) :=
  self_4 v_t_rowMany f_t_row x1 (s0 + s1) (x3 + (1 : Int32))
def X11_wroteIn_b4_s (self_4 : Int32 → (Nat → Int32) → Int32 → Int32 → Int32 → Option (Int32)) (v_t_rowMany : Int32) (f_t_row : (Nat → Int32)) (x1 : Int32) (x2 : Int32) (x3 : Int32) : Option (Int32) :=
  if v_t_rowMany ≤ x3 then
    some x2
  else
    if (x3 < 0 ∨ 10 ≤ x3.toNatClampNeg) then none else
      if (f_t_row x3.toNatClampNeg) = x1 then
      X11_wroteIn_b28 self_4 v_t_rowMany f_t_row x1 x3 x2 (1 : Int32)
    else
      X11_wroteIn_b28 self_4 v_t_rowMany f_t_row x1 x3 x2 (0 : Int32)
def X11_wroteIn_b4 : Nat → Int32 → (Nat → Int32) → Int32 → Int32 → Int32 → Option (Int32)
  | 0 => fun _ _ _ _ _ => none
  | n + 1 => X11_wroteIn_b4_s (X11_wroteIn_b4 n)
def X11_wroteIn (v_t_rowMany : Int32) (f_t_row : (Nat → Int32)) (p1 : Int32) : Option (Int32) :=
  X11_wroteIn_b4 fU v_t_rowMany f_t_row p1 (0 : Int32) (0 : Int32)
def X11_isRight (v_t_rule : Int32) (v_t_rowMany : Int32) (f_t_row : (Nat → Int32)) (p1 : Int32) : Option (Int32) :=
  if (p1 < 0 ∨ 10 ≤ p1.toNatClampNeg) then none else
    if (p1 < 0 ∨ 10 ≤ p1.toNatClampNeg) then none else
    bnd1 (X11_wroteIn v_t_rowMany f_t_row (f_t_row p1.toNatClampNeg)) (fun r3 =>
    some (X11_isFine v_t_rule (f_t_row p1.toNatClampNeg) r3))
def X11_getsOf_b64 (self_17 : Int32 → Int32 → Int32 → Int32 → (Nat → Int32) → Int32 → Int32 → Int32 → Int32 → Option (Int32)) (v_t_rule : Int32) (v_t_share : Int32) (v_t_pot : Int32) (v_t_rowMany : Int32) (f_t_row : (Nat → Int32)) (x1 : Int32) (x2 : Int32) (x4 : Int32) (s0 : Int32) (s1 : Int32) : Option (Int32) :=
  self_17 v_t_rule v_t_share v_t_pot v_t_rowMany f_t_row x1 x2 (s0 + s1) (x4 + (1 : Int32))
def X11_getsOf_b41 (self_17 : Int32 → Int32 → Int32 → Int32 → (Nat → Int32) → Int32 → Int32 → Int32 → Int32 → Option (Int32)) (v_t_rule : Int32) (v_t_share : Int32) (v_t_pot : Int32) (v_t_rowMany : Int32) (f_t_row : (Nat → Int32)) (x1 : Int32) (x3 : Int32) (x4 : Int32) (s0 : Int32) (s1 : Int32) : Option (Int32) :=
  bnd1 (X11_isRight v_t_rule v_t_rowMany f_t_row x4) (fun r1 =>
    if r1 = 0 then
      X11_getsOf_b64 self_17 v_t_rule v_t_share v_t_pot v_t_rowMany f_t_row x1 (s0 + s1) x4 x3 (0 : Int32)
    else
      if (x4 < 0 ∨ 10 ≤ x4.toNatClampNeg) then none else
        X11_getsOf_b64 self_17 v_t_rule v_t_share v_t_pot v_t_rowMany f_t_row x1 (s0 + s1) x4 x3 (f_t_row x4.toNatClampNeg))
def X11_getsOf_b72 (v_t_rule : Int32) (v_t_share : Int32) (v_t_pot : Int32) (v_t_rowMany : Int32) (f_t_row : (Nat → Int32)) (x1 : Int32) (x2 : Int32) (x3 : Int32) : Option (Int32) :=
  if v_t_share = 0 then
    if x2 = 0 then none else
      some (v_t_pot / x2)
  else
    if x3 = 0 then
      some (0 : Int32)
    else
      if (x1 < 0 ∨ 10 ≤ x1.toNatClampNeg) then none else
        if x3 = 0 then none else
        some ((v_t_pot * (f_t_row x1.toNatClampNeg)) / x3)
def X11_getsOf_b17_s (self_17 : Int32 → Int32 → Int32 → Int32 → (Nat → Int32) → Int32 → Int32 → Int32 → Int32 → Option (Int32)) (v_t_rule : Int32) (v_t_share : Int32) (v_t_pot : Int32) (v_t_rowMany : Int32) (f_t_row : (Nat → Int32)) (x1 : Int32) (x2 : Int32) (x3 : Int32) (x4 : Int32) : Option (Int32) :=
  if v_t_rowMany ≤ x4 then
    X11_getsOf_b72 v_t_rule v_t_share v_t_pot v_t_rowMany f_t_row x1 x2 x3
  else
    bnd1 (X11_isRight v_t_rule v_t_rowMany f_t_row x4) (fun r11 =>
      if r11 = 0 then
        X11_getsOf_b41 self_17 v_t_rule v_t_share v_t_pot v_t_rowMany f_t_row x1 x3 x4 x2 (0 : Int32)
      else
        X11_getsOf_b41 self_17 v_t_rule v_t_share v_t_pot v_t_rowMany f_t_row x1 x3 x4 x2 (1 : Int32))
def X11_getsOf_b17 : Nat → Int32 → Int32 → Int32 → Int32 → (Nat → Int32) → Int32 → Int32 → Int32 → Int32 → Option (Int32)
  | 0 => fun _ _ _ _ _ _ _ _ _ => none
  | n + 1 => X11_getsOf_b17_s (X11_getsOf_b17 n)
def X11_getsOf (v_t_rule : Int32) (v_t_share : Int32) (v_t_pot : Int32) (v_t_rowMany : Int32) (f_t_row : (Nat → Int32)) (p1 : Int32) : Option (Int32) :=
  bnd1 (X11_isRight v_t_rule v_t_rowMany f_t_row p1) (fun r14 =>
    if r14 = 0 then
      some (0 : Int32)
    else
      X11_getsOf_b17 fU v_t_rule v_t_share v_t_pot v_t_rowMany f_t_row p1 (0 : Int32) (0 : Int32) (0 : Int32))
def X11_wantOf_b80 (self_19 : Int32 → Int32 → Int32 → Int32 → Int32 → (Nat → Int32) → Int32 → Int32 → Int32 → Int32 → Int32 → Option (Int32 × (Nat → Int32))) (v_t_barred : Int32) (v_t_rule : Int32) (v_t_share : Int32) (v_t_pot : Int32) (v_t_rowMany : Int32) (f_t_row : (Nat → Int32)) (x1 : Int32) (x2 : Int32) (x3 : Int32) (x4 : Int32) (x5 : Int32) : Option (Int32 × (Nat → Int32)) :=
  self_19 v_t_barred v_t_rule v_t_share v_t_pot v_t_rowMany f_t_row x1 x2 x3 x4 (x5 + (1 : Int32))
def X11_wantOf_b78 (self_19 : Int32 → Int32 → Int32 → Int32 → Int32 → (Nat → Int32) → Int32 → Int32 → Int32 → Int32 → Int32 → Option (Int32 × (Nat → Int32))) (v_t_barred : Int32) (v_t_rule : Int32) (v_t_share : Int32) (v_t_pot : Int32) (v_t_rowMany : Int32) (f_t_row : (Nat → Int32)) (x1 : Int32) (x2 : Int32) (x3 : Int32) (x5 : Int32) (s0 : Int32) : Option (Int32 × (Nat → Int32)) :=
  X11_wantOf_b80 self_19 v_t_barred v_t_rule v_t_share v_t_pot v_t_rowMany f_t_row x1 x2 x3 s0 x5
def X11_wantOf_b63 (self_19 : Int32 → Int32 → Int32 → Int32 → Int32 → (Nat → Int32) → Int32 → Int32 → Int32 → Int32 → Int32 → Option (Int32 × (Nat → Int32))) (v_t_barred : Int32) (v_t_rule : Int32) (v_t_share : Int32) (v_t_pot : Int32) (v_t_rowMany : Int32) (f_t_row : (Nat → Int32)) (x1 : Int32) (x2 : Int32) (x4 : Int32) (x5 : Int32) (x6 : Int32) (s0 : Int32) : Option (Int32 × (Nat → Int32)) :=
  if x6 ≤ x4 then
    X11_wantOf_b78 self_19 v_t_barred v_t_rule v_t_share v_t_pot v_t_rowMany f_t_row x1 x2 s0 x5 x4
  else
    X11_wantOf_b78 self_19 v_t_barred v_t_rule v_t_share v_t_pot v_t_rowMany f_t_row x1 x2 s0 x5 x6
def X11_wantOf_b86 (v_t_barred : Int32) (v_t_rule : Int32) (v_t_share : Int32) (v_t_pot : Int32) (v_t_rowMany : Int32) (f_t_row : (Nat → Int32)) (x1 : Int32) (x2 : Int32) (x3 : Int32) : Option (Int32 × (Nat → Int32)) :=
  if (x1 < 0 ∨ 10 ≤ x1.toNatClampNeg) then none else
    some (x3, (upd f_t_row x1.toNatClampNeg x2))
def X11_wantOf_b19_s (self_19 : Int32 → Int32 → Int32 → Int32 → Int32 → (Nat → Int32) → Int32 → Int32 → Int32 → Int32 → Int32 → Option (Int32 × (Nat → Int32))) (v_t_barred : Int32) (v_t_rule : Int32) (v_t_share : Int32) (v_t_pot : Int32) (v_t_rowMany : Int32) (f_t_row : (Nat → Int32)) (x1 : Int32) (x2 : Int32) (x3 : Int32) (x4 : Int32) (x5 : Int32) : Option (Int32 × (Nat → Int32)) :=
  if (10 : Int32) ≤ x5 then
    X11_wantOf_b86 v_t_barred v_t_rule v_t_share v_t_pot v_t_rowMany f_t_row x1 x2 x3
  else
    if (X11_isBarred v_t_barred x5) = 0 then
      if (x1 < 0 ∨ 10 ≤ x1.toNatClampNeg) then none else
        bnd1 (X11_getsOf v_t_rule v_t_share v_t_pot v_t_rowMany (upd f_t_row x1.toNatClampNeg x5) x1) (fun r7 =>
        if r7 ≤ x4 then
          X11_wantOf_b63 self_19 v_t_barred v_t_rule v_t_share v_t_pot v_t_rowMany (upd f_t_row x1.toNatClampNeg x5) x1 x2 x4 x5 r7 x3
        else
          X11_wantOf_b63 self_19 v_t_barred v_t_rule v_t_share v_t_pot v_t_rowMany (upd f_t_row x1.toNatClampNeg x5) x1 x2 x4 x5 r7 x5)
    else
      X11_wantOf_b80 self_19 v_t_barred v_t_rule v_t_share v_t_pot v_t_rowMany f_t_row x1 x2 x3 x4 x5
def X11_wantOf_b19 : Nat → Int32 → Int32 → Int32 → Int32 → Int32 → (Nat → Int32) → Int32 → Int32 → Int32 → Int32 → Int32 → Option (Int32 × (Nat → Int32))
  | 0 => fun _ _ _ _ _ _ _ _ _ _ _ => none
  | n + 1 => X11_wantOf_b19_s (X11_wantOf_b19 n)
def X11_wantOf (v_t_barred : Int32) (v_t_rule : Int32) (v_t_share : Int32) (v_t_pot : Int32) (v_t_rowMany : Int32) (f_t_row : (Nat → Int32)) (p1 : Int32) : Option (Int32 × (Nat → Int32)) :=
  if (p1 < 0 ∨ 10 ≤ p1.toNatClampNeg) then none else
    bnd1 (X11_getsOf v_t_rule v_t_share v_t_pot v_t_rowMany f_t_row p1) (fun r10 =>
    X11_wantOf_b19 fU v_t_barred v_t_rule v_t_share v_t_pot v_t_rowMany f_t_row p1 (f_t_row p1.toNatClampNeg) (f_t_row p1.toNatClampNeg) r10 (0 : Int32))
def X11_person (v_t_many : Int32) (v_t_barred : Int32) (v_t_rule : Int32) (v_t_share : Int32) (v_t_pot : Int32) (v_t_rowMany : Int32) (f_t_slips : (Nat → Int32)) (f_t_row : (Nat → Int32)) (p1 : Int32) (p2 : Int32) : Option (Int32 × Int32 × (Nat → Int32)) :=
  if (X11_isPerson v_t_many p1) = 0 then
    some ((-1 : Int32), v_t_rowMany, f_t_row)
  else
    bnd2 (X11_takeSlips v_t_many v_t_rowMany f_t_slips f_t_row) (fun w3_0 w3_1 =>
      if p2 = (0 : Int32) then
        if (p1 < 0 ∨ 9 ≤ p1.toNatClampNeg) then none else
          some ((f_t_slips p1.toNatClampNeg), w3_0, w3_1)
      else
        if p2 = (1 : Int32) then
          bnd1 (X11_isRight v_t_rule w3_0 w3_1 p1) (fun r7 =>
            if r7 = 0 then
              some ((0 : Int32), w3_0, w3_1)
            else
              some ((1 : Int32), w3_0, w3_1))
        else
          if p2 = (2 : Int32) then
            bnd1 (X11_getsOf v_t_rule v_t_share v_t_pot w3_0 w3_1 p1) (fun r11 =>
              some (r11, w3_0, w3_1))
          else
            if p2 = (3 : Int32) then
              bnd2 (X11_wantOf v_t_barred v_t_rule v_t_share v_t_pot w3_0 w3_1 p1) (fun r13 w13_1 =>
                some (r13, w3_0, w13_1))
            else
              some ((-2 : Int32), w3_0, w3_1))
def X11_wrote (v_t_many : Int32) (v_t_rowMany : Int32) (f_t_slips : (Nat → Int32)) (f_t_row : (Nat → Int32)) (p1 : Int32) : Option (Int32 × Int32 × (Nat → Int32)) :=
  if (X11_in p1.toInt64 (0 : Int64) (9 : Int64)) = 0 then
    some ((-2 : Int32), v_t_rowMany, f_t_row)
  else
    bnd2 (X11_takeSlips v_t_many v_t_rowMany f_t_slips f_t_row) (fun w3_0 w3_1 =>
      bnd1 (X11_wroteIn w3_0 w3_1 p1) (fun r4 =>
        some (r4, w3_0, w3_1)))
def X11_keepAct_b87 (v_t_many : Int32) (v_t_acts : Int32) (v_t_next : Int32) (f_t_slips : (Nat → Int32)) (f_t_before : (Nat → Int32)) (s1 : Int32) : Option (Int32 × Int32 × (Nat → Int32)) :=
  some (s1, v_t_next, f_t_before)
def X11_keepAct_b34 (v_t_many : Int32) (v_t_acts : Int32) (v_t_next : Int32) (f_t_slips : (Nat → Int32)) (f_t_before : (Nat → Int32))  : Option (Int32 × Int32 × (Nat → Int32)) :=
  if ((((10 : Int32) * v_t_next) + (9 : Int32)) < 0 ∨ 160 ≤ (((10 : Int32) * v_t_next) + (9 : Int32)).toNatClampNeg) then none else
    if (16 : Int32) ≤ v_t_acts then
    X11_keepAct_b87 v_t_many v_t_acts ((v_t_next + (1 : Int32)) - (v_t_next + (1 : Int32)) / (16 : Int32) * (16 : Int32)) f_t_slips (upd f_t_before (((10 : Int32) * v_t_next) + (9 : Int32)).toNatClampNeg v_t_many) (16 : Int32)
  else
    X11_keepAct_b87 v_t_many v_t_acts ((v_t_next + (1 : Int32)) - (v_t_next + (1 : Int32)) / (16 : Int32) * (16 : Int32)) f_t_slips (upd f_t_before (((10 : Int32) * v_t_next) + (9 : Int32)).toNatClampNeg v_t_many) (v_t_acts + (1 : Int32))
def X11_keepAct_b2_s (self_2 : Int32 → Int32 → Int32 → (Nat → Int32) → (Nat → Int32) → Int32 → Option (Int32 × Int32 × (Nat → Int32))) (v_t_many : Int32) (v_t_acts : Int32) (v_t_next : Int32) (f_t_slips : (Nat → Int32)) (f_t_before : (Nat → Int32)) (x1 : Int32) : Option (Int32 × Int32 × (Nat → Int32)) :=
  if (9 : Int32) ≤ x1 then
    X11_keepAct_b34 v_t_many v_t_acts v_t_next f_t_slips f_t_before
  else
    if (x1 < 0 ∨ 9 ≤ x1.toNatClampNeg) then none else
      if ((((10 : Int32) * v_t_next) + x1) < 0 ∨ 160 ≤ (((10 : Int32) * v_t_next) + x1).toNatClampNeg) then none else
      self_2 v_t_many v_t_acts v_t_next f_t_slips (upd f_t_before (((10 : Int32) * v_t_next) + x1).toNatClampNeg (f_t_slips x1.toNatClampNeg)) (x1 + (1 : Int32))
def X11_keepAct_b2 : Nat → Int32 → Int32 → Int32 → (Nat → Int32) → (Nat → Int32) → Int32 → Option (Int32 × Int32 × (Nat → Int32))
  | 0 => fun _ _ _ _ _ _ => none
  | n + 1 => X11_keepAct_b2_s (X11_keepAct_b2 n)
def X11_keepAct (v_t_many : Int32) (v_t_acts : Int32) (v_t_next : Int32) (f_t_slips : (Nat → Int32)) (f_t_before : (Nat → Int32))  : Option (Int32 × Int32 × (Nat → Int32)) :=
  X11_keepAct_b2 fU v_t_many v_t_acts v_t_next f_t_slips f_t_before (0 : Int32)
def X11_slip (v_t_many : Int32) (v_t_barred : Int32) (v_t_acts : Int32) (v_t_next : Int32) (f_t_slips : (Nat → Int32)) (f_t_before : (Nat → Int32)) (p1 : Int32) (p2 : Int32) : Option (Int32 × Int32 × Int32 × (Nat → Int32) × (Nat → Int32)) :=
  if (X11_isPerson v_t_many p1) = 0 then
    some ((-1 : Int32), v_t_acts, v_t_next, f_t_slips, f_t_before)
  else
    if (X11_in p2.toInt64 (0 : Int64) (9 : Int64)) = 0 then
      some ((-2 : Int32), v_t_acts, v_t_next, f_t_slips, f_t_before)
    else
      if (X11_isBarred v_t_barred p2) = 0 then
        bnd3 (X11_keepAct v_t_many v_t_acts v_t_next f_t_slips f_t_before) (fun w7_0 w7_1 w7_2 =>
          if (p1 < 0 ∨ 9 ≤ p1.toNatClampNeg) then none else
            if (p1 < 0 ∨ 9 ≤ p1.toNatClampNeg) then none else
            some ((f_t_slips p1.toNatClampNeg), w7_0, w7_1, (upd f_t_slips p1.toNatClampNeg p2), w7_2))
      else
        some ((-3 : Int32), v_t_acts, v_t_next, f_t_slips, f_t_before)
def X11_come (v_t_many : Int32) (v_t_barred : Int32) (v_t_acts : Int32) (v_t_next : Int32) (f_t_slips : (Nat → Int32)) (f_t_before : (Nat → Int32)) (p1 : Int32) : Option (Int32 × Int32 × Int32 × Int32 × (Nat → Int32) × (Nat → Int32)) :=
  if (X11_in p1.toInt64 (0 : Int64) (9 : Int64)) = 0 then
    some ((-2 : Int32), v_t_many, v_t_acts, v_t_next, f_t_slips, f_t_before)
  else
    if (X11_isBarred v_t_barred p1) = 0 then
      if v_t_many = (9 : Int32) then
        some ((-4 : Int32), v_t_many, v_t_acts, v_t_next, f_t_slips, f_t_before)
      else
        bnd3 (X11_keepAct v_t_many v_t_acts v_t_next f_t_slips f_t_before) (fun w6_0 w6_1 w6_2 =>
          if (v_t_many < 0 ∨ 9 ≤ v_t_many.toNatClampNeg) then none else
            some (((v_t_many + (1 : Int32)) - (1 : Int32)), (v_t_many + (1 : Int32)), w6_0, w6_1, (upd f_t_slips v_t_many.toNatClampNeg p1), w6_2))
    else
      some ((-3 : Int32), v_t_many, v_t_acts, v_t_next, f_t_slips, f_t_before)
def X11_leave_b33_s (self_33 : Int32 → Int32 → Int32 → (Nat → Int32) → (Nat → Int32) → Int32 → Int32 → Option (Int32 × Int32 × Int32 × Int32 × (Nat → Int32) × (Nat → Int32))) (v_t_many : Int32) (v_t_acts : Int32) (v_t_next : Int32) (f_t_slips : (Nat → Int32)) (f_t_before : (Nat → Int32)) (x2 : Int32) (x3 : Int32) : Option (Int32 × Int32 × Int32 × Int32 × (Nat → Int32) × (Nat → Int32)) :=
  if v_t_many ≤ x3 then
    some (x2, v_t_many, v_t_acts, v_t_next, f_t_slips, f_t_before)
  else
    if ((x3 + (1 : Int32)) < 0 ∨ 9 ≤ (x3 + (1 : Int32)).toNatClampNeg) then none else
      if (x3 < 0 ∨ 9 ≤ x3.toNatClampNeg) then none else
      self_33 v_t_many v_t_acts v_t_next (upd f_t_slips x3.toNatClampNeg (f_t_slips (x3 + (1 : Int32)).toNatClampNeg)) f_t_before x2 (x3 + (1 : Int32))
def X11_leave_b33 : Nat → Int32 → Int32 → Int32 → (Nat → Int32) → (Nat → Int32) → Int32 → Int32 → Option (Int32 × Int32 × Int32 × Int32 × (Nat → Int32) × (Nat → Int32))
  | 0 => fun _ _ _ _ _ _ _ => none
  | n + 1 => X11_leave_b33_s (X11_leave_b33 n)
def X11_leave (v_t_many : Int32) (v_t_acts : Int32) (v_t_next : Int32) (f_t_slips : (Nat → Int32)) (f_t_before : (Nat → Int32)) (p1 : Int32) : Option (Int32 × Int32 × Int32 × Int32 × (Nat → Int32) × (Nat → Int32)) :=
  if (X11_isPerson v_t_many p1) = 0 then
    some ((-1 : Int32), v_t_many, v_t_acts, v_t_next, f_t_slips, f_t_before)
  else
    bnd3 (X11_keepAct v_t_many v_t_acts v_t_next f_t_slips f_t_before) (fun w6_0 w6_1 w6_2 =>
      if (p1 < 0 ∨ 9 ≤ p1.toNatClampNeg) then none else
        X11_leave_b33 fU (v_t_many - (1 : Int32)) w6_0 w6_1 f_t_slips w6_2 (f_t_slips p1.toNatClampNeg) p1)
def X11_rightFor_b49 (self_13 : Int32 → Int32 → Int32 → (Nat → Int32) → Int32 → Int32 → Int32 → Int32 → Option (Int32 × (Nat → Int32))) (v_t_barred : Int32) (v_t_rule : Int32) (v_t_rowMany : Int32) (f_t_row : (Nat → Int32)) (x1 : Int32) (x2 : Int32) (x4 : Int32) (s0 : Int32) : Option (Int32 × (Nat → Int32)) :=
  self_13 v_t_barred v_t_rule v_t_rowMany f_t_row x1 x2 s0 (x4 + (-1 : Int32))
def X11_rightFor_b48 (self_13 : Int32 → Int32 → Int32 → (Nat → Int32) → Int32 → Int32 → Int32 → Int32 → Option (Int32 × (Nat → Int32))) (v_t_barred : Int32) (v_t_rule : Int32) (v_t_rowMany : Int32) (f_t_row : (Nat → Int32)) (x1 : Int32) (x2 : Int32) (x3 : Int32) (x4 : Int32) : Option (Int32 × (Nat → Int32)) :=
  X11_rightFor_b49 self_13 v_t_barred v_t_rule v_t_rowMany f_t_row x1 x2 x4 x3
def X11_rightFor_b56 (v_t_barred : Int32) (v_t_rule : Int32) (v_t_rowMany : Int32) (f_t_row : (Nat → Int32)) (x1 : Int32) (x2 : Int32) (x3 : Int32) : Option (Int32 × (Nat → Int32)) :=
  if (x1 < 0 ∨ 10 ≤ x1.toNatClampNeg) then none else
    some (x3, (upd f_t_row x1.toNatClampNeg x2))
def X11_rightFor_b13_s (self_13 : Int32 → Int32 → Int32 → (Nat → Int32) → Int32 → Int32 → Int32 → Int32 → Option (Int32 × (Nat → Int32))) (v_t_barred : Int32) (v_t_rule : Int32) (v_t_rowMany : Int32) (f_t_row : (Nat → Int32)) (x1 : Int32) (x2 : Int32) (x3 : Int32) (x4 : Int32) : Option (Int32 × (Nat → Int32)) :=
  if x4 < 0 then
    X11_rightFor_b56 v_t_barred v_t_rule v_t_rowMany f_t_row x1 x2 x3
  else
    if (x1 < 0 ∨ 10 ≤ x1.toNatClampNeg) then none else
      if (X11_isBarred v_t_barred x4) = 0 then
      bnd1 (X11_isRight v_t_rule v_t_rowMany (upd f_t_row x1.toNatClampNeg x4) x1) (fun r6 =>
        if r6 = 0 then
          X11_rightFor_b48 self_13 v_t_barred v_t_rule v_t_rowMany (upd f_t_row x1.toNatClampNeg x4) x1 x2 x3 x4
        else
          X11_rightFor_b49 self_13 v_t_barred v_t_rule v_t_rowMany (upd f_t_row x1.toNatClampNeg x4) x1 x2 x4 x4)
    else
      X11_rightFor_b48 self_13 v_t_barred v_t_rule v_t_rowMany (upd f_t_row x1.toNatClampNeg x4) x1 x2 x3 x4
def X11_rightFor_b13 : Nat → Int32 → Int32 → Int32 → (Nat → Int32) → Int32 → Int32 → Int32 → Int32 → Option (Int32 × (Nat → Int32))
  | 0 => fun _ _ _ _ _ _ _ _ => none
  | n + 1 => X11_rightFor_b13_s (X11_rightFor_b13 n)
def X11_rightFor (v_t_barred : Int32) (v_t_rule : Int32) (v_t_rowMany : Int32) (f_t_row : (Nat → Int32)) (p1 : Int32) : Option (Int32 × (Nat → Int32)) :=
  if (p1 < 0 ∨ 10 ≤ p1.toNatClampNeg) then none else
    X11_rightFor_b13 fU v_t_barred v_t_rule v_t_rowMany f_t_row p1 (f_t_row p1.toNatClampNeg) (f_t_row p1.toNatClampNeg) (9 : Int32)
def X11_goRound_b66 (self_4 : Int32 → Int32 → Int32 → (Nat → Int32) → (Nat → Int32) → Int32 → Int32 → Option (Int32 × (Nat → Int32) × (Nat → Int32))) (v_t_barred : Int32) (v_t_rule : Int32) (v_t_rowMany : Int32) (f_t_row : (Nat → Int32)) (f_t_anew : (Nat → Int32)) (x1 : Int32) (x2 : Int32) : Option (Int32 × (Nat → Int32) × (Nat → Int32)) :=
  self_4 v_t_barred v_t_rule v_t_rowMany f_t_row f_t_anew x1 (x2 + (1 : Int32))
def X11_goRound_b64 (self_4 : Int32 → Int32 → Int32 → (Nat → Int32) → (Nat → Int32) → Int32 → Int32 → Option (Int32 × (Nat → Int32) × (Nat → Int32))) (v_t_barred : Int32) (v_t_rule : Int32) (v_t_rowMany : Int32) (f_t_row : (Nat → Int32)) (f_t_anew : (Nat → Int32)) (x2 : Int32) (s0 : Int32) (s1 : Int32) : Option (Int32 × (Nat → Int32) × (Nat → Int32)) :=
  X11_goRound_b66 self_4 v_t_barred v_t_rule v_t_rowMany f_t_row f_t_anew (s0 + s1) x2
def X11_goRound_b74_s (self_74 : Int32 → Int32 → Int32 → (Nat → Int32) → (Nat → Int32) → Int32 → Int32 → Option (Int32 × (Nat → Int32) × (Nat → Int32))) (v_t_barred : Int32) (v_t_rule : Int32) (v_t_rowMany : Int32) (f_t_row : (Nat → Int32)) (f_t_anew : (Nat → Int32)) (x1 : Int32) (x2 : Int32) : Option (Int32 × (Nat → Int32) × (Nat → Int32)) :=
  if v_t_rowMany ≤ x2 then
    some (x1, f_t_row, f_t_anew)
  else
    if (x2 < 0 ∨ 9 ≤ x2.toNatClampNeg) then none else
      if (x2 < 0 ∨ 10 ≤ x2.toNatClampNeg) then none else
      self_74 v_t_barred v_t_rule v_t_rowMany (upd f_t_row x2.toNatClampNeg (f_t_anew x2.toNatClampNeg)) f_t_anew x1 (x2 + (1 : Int32))
def X11_goRound_b74 : Nat → Int32 → Int32 → Int32 → (Nat → Int32) → (Nat → Int32) → Int32 → Int32 → Option (Int32 × (Nat → Int32) × (Nat → Int32))
  | 0 => fun _ _ _ _ _ _ _ => none
  | n + 1 => X11_goRound_b74_s (X11_goRound_b74 n)
def X11_goRound_b72 (v_t_barred : Int32) (v_t_rule : Int32) (v_t_rowMany : Int32) (f_t_row : (Nat → Int32)) (f_t_anew : (Nat → Int32)) (x1 : Int32) : Option (Int32 × (Nat → Int32) × (Nat → Int32)) :=
  X11_goRound_b74 fU v_t_barred v_t_rule v_t_rowMany f_t_row f_t_anew x1 (0 : Int32)
def X11_goRound_b4_s (self_4 : Int32 → Int32 → Int32 → (Nat → Int32) → (Nat → Int32) → Int32 → Int32 → Option (Int32 × (Nat → Int32) × (Nat → Int32))) (v_t_barred : Int32) (v_t_rule : Int32) (v_t_rowMany : Int32) (f_t_row : (Nat → Int32)) (f_t_anew : (Nat → Int32)) (x1 : Int32) (x2 : Int32) : Option (Int32 × (Nat → Int32) × (Nat → Int32)) :=
  if v_t_rowMany ≤ x2 then
    X11_goRound_b72 v_t_barred v_t_rule v_t_rowMany f_t_row f_t_anew x1
  else
    if (x2 < 0 ∨ 10 ≤ x2.toNatClampNeg) then none else
      if (x2 < 0 ∨ 9 ≤ x2.toNatClampNeg) then none else
      bnd1 (X11_isRight v_t_rule v_t_rowMany f_t_row x2) (fun r7 =>
      if r7 = 0 then
        bnd2 (X11_rightFor v_t_barred v_t_rule v_t_rowMany f_t_row x2) (fun r10 w10_1 =>
          if (x2 < 0 ∨ 9 ≤ x2.toNatClampNeg) then none else
            if (x2 < 0 ∨ 9 ≤ x2.toNatClampNeg) then none else
            if (x2 < 0 ∨ 10 ≤ x2.toNatClampNeg) then none else
            if ((upd (upd f_t_anew x2.toNatClampNeg (f_t_row x2.toNatClampNeg)) x2.toNatClampNeg r10) x2.toNatClampNeg) = (w10_1 x2.toNatClampNeg) then
            X11_goRound_b64 self_4 v_t_barred v_t_rule v_t_rowMany w10_1 (upd (upd f_t_anew x2.toNatClampNeg (f_t_row x2.toNatClampNeg)) x2.toNatClampNeg r10) x2 x1 (0 : Int32)
          else
            X11_goRound_b64 self_4 v_t_barred v_t_rule v_t_rowMany w10_1 (upd (upd f_t_anew x2.toNatClampNeg (f_t_row x2.toNatClampNeg)) x2.toNatClampNeg r10) x2 x1 (1 : Int32))
      else
        X11_goRound_b66 self_4 v_t_barred v_t_rule v_t_rowMany f_t_row (upd f_t_anew x2.toNatClampNeg (f_t_row x2.toNatClampNeg)) x1 x2)
def X11_goRound_b4 : Nat → Int32 → Int32 → Int32 → (Nat → Int32) → (Nat → Int32) → Int32 → Int32 → Option (Int32 × (Nat → Int32) × (Nat → Int32))
  | 0 => fun _ _ _ _ _ _ _ => none
  | n + 1 => X11_goRound_b4_s (X11_goRound_b4 n)
def X11_goRound (v_t_barred : Int32) (v_t_rule : Int32) (v_t_rowMany : Int32) (f_t_row : (Nat → Int32)) (f_t_anew : (Nat → Int32))  : Option (Int32 × (Nat → Int32) × (Nat → Int32)) :=
  X11_goRound_b4 fU v_t_barred v_t_rule v_t_rowMany f_t_row f_t_anew (0 : Int32) (0 : Int32)
def X11_round_b15_s (self_15 : Int32 → Int32 → Int32 → Int32 → Int32 → Int32 → (Nat → Int32) → (Nat → Int32) → (Nat → Int32) → (Nat → Int32) → Int32 → Int32 → Option (Int32 × Int32 × Int32 × Int32 × (Nat → Int32) × (Nat → Int32) × (Nat → Int32) × (Nat → Int32))) (v_t_many : Int32) (v_t_barred : Int32) (v_t_rule : Int32) (v_t_rowMany : Int32) (v_t_acts : Int32) (v_t_next : Int32) (f_t_slips : (Nat → Int32)) (f_t_row : (Nat → Int32)) (f_t_before : (Nat → Int32)) (f_t_anew : (Nat → Int32)) (x1 : Int32) (x2 : Int32) : Option (Int32 × Int32 × Int32 × Int32 × (Nat → Int32) × (Nat → Int32) × (Nat → Int32) × (Nat → Int32)) :=
  if v_t_many ≤ x2 then
    some (x1, v_t_rowMany, v_t_acts, v_t_next, f_t_slips, f_t_row, f_t_before, f_t_anew)
  else
    if (x2 < 0 ∨ 10 ≤ x2.toNatClampNeg) then none else
      if (x2 < 0 ∨ 9 ≤ x2.toNatClampNeg) then none else
      self_15 v_t_many v_t_barred v_t_rule v_t_rowMany v_t_acts v_t_next (upd f_t_slips x2.toNatClampNeg (f_t_row x2.toNatClampNeg)) f_t_row f_t_before f_t_anew x1 (x2 + (1 : Int32))
def X11_round_b15 : Nat → Int32 → Int32 → Int32 → Int32 → Int32 → Int32 → (Nat → Int32) → (Nat → Int32) → (Nat → Int32) → (Nat → Int32) → Int32 → Int32 → Option (Int32 × Int32 × Int32 × Int32 × (Nat → Int32) × (Nat → Int32) × (Nat → Int32) × (Nat → Int32))
  | 0 => fun _ _ _ _ _ _ _ _ _ _ _ _ => none
  | n + 1 => X11_round_b15_s (X11_round_b15 n)
def X11_round (v_t_many : Int32) (v_t_barred : Int32) (v_t_rule : Int32) (v_t_rowMany : Int32) (v_t_acts : Int32) (v_t_next : Int32) (f_t_slips : (Nat → Int32)) (f_t_row : (Nat → Int32)) (f_t_before : (Nat → Int32)) (f_t_anew : (Nat → Int32))  : Option (Int32 × Int32 × Int32 × Int32 × (Nat → Int32) × (Nat → Int32) × (Nat → Int32) × (Nat → Int32)) :=
  bnd3 (X11_keepAct v_t_many v_t_acts v_t_next f_t_slips f_t_before) (fun w4_0 w4_1 w4_2 =>
    bnd2 (X11_takeSlips v_t_many v_t_rowMany f_t_slips f_t_row) (fun w5_0 w5_1 =>
      bnd3 (X11_goRound v_t_barred v_t_rule w5_0 w5_1 f_t_anew) (fun r6 w6_1 w6_2 =>
        X11_round_b15 fU v_t_many v_t_barred v_t_rule w5_0 w4_0 w4_1 f_t_slips w6_1 w4_2 w6_2 r6 (0 : Int32))))
def X11_undo_b68 (v_t_many : Int32) (v_t_acts : Int32) (v_t_next : Int32) (f_t_slips : (Nat → Int32)) (f_t_before : (Nat → Int32))  : Option (Int32 × Int32 × Int32 × Int32 × (Nat → Int32)) :=
  if ((((10 : Int32) * v_t_next) + (9 : Int32)) < 0 ∨ 160 ≤ (((10 : Int32) * v_t_next) + (9 : Int32)).toNatClampNeg) then none else
    some (v_t_acts, (f_t_before (((10 : Int32) * v_t_next) + (9 : Int32)).toNatClampNeg), v_t_acts, v_t_next, f_t_slips)
def X11_undo_b36_s (self_36 : Int32 → Int32 → Int32 → (Nat → Int32) → (Nat → Int32) → Int32 → Option (Int32 × Int32 × Int32 × Int32 × (Nat → Int32))) (v_t_many : Int32) (v_t_acts : Int32) (v_t_next : Int32) (f_t_slips : (Nat → Int32)) (f_t_before : (Nat → Int32)) (x1 : Int32) : Option (Int32 × Int32 × Int32 × Int32 × (Nat → Int32)) :=
  if (9 : Int32) ≤ x1 then
    X11_undo_b68 v_t_many v_t_acts v_t_next f_t_slips f_t_before
  else
    if ((((10 : Int32) * v_t_next) + x1) < 0 ∨ 160 ≤ (((10 : Int32) * v_t_next) + x1).toNatClampNeg) then none else
      if (x1 < 0 ∨ 9 ≤ x1.toNatClampNeg) then none else
      self_36 v_t_many v_t_acts v_t_next (upd f_t_slips x1.toNatClampNeg (f_t_before (((10 : Int32) * v_t_next) + x1).toNatClampNeg)) f_t_before (x1 + (1 : Int32))
def X11_undo_b36 : Nat → Int32 → Int32 → Int32 → (Nat → Int32) → (Nat → Int32) → Int32 → Option (Int32 × Int32 × Int32 × Int32 × (Nat → Int32))
  | 0 => fun _ _ _ _ _ _ => none
  | n + 1 => X11_undo_b36_s (X11_undo_b36 n)
def X11_undo (v_t_many : Int32) (v_t_acts : Int32) (v_t_next : Int32) (f_t_slips : (Nat → Int32)) (f_t_before : (Nat → Int32))  : Option (Int32 × Int32 × Int32 × Int32 × (Nat → Int32)) :=
  if v_t_acts = 0 then
    some ((-3 : Int32), v_t_many, v_t_acts, v_t_next, f_t_slips)
  else
    X11_undo_b36 fU v_t_many (v_t_acts - (1 : Int32)) ((v_t_next + (15 : Int32)) - (v_t_next + (15 : Int32)) / (16 : Int32) * (16 : Int32)) f_t_slips f_t_before (0 : Int32)
def X11_settled_b6_s (self_6 : Int32 → Int32 → Int32 → Int32 → (Nat → Int32) → (Nat → Int32) → (Nat → Int32) → Int32 → Option (Int32 × Int32 × (Nat → Int32) × (Nat → Int32))) (v_t_many : Int32) (v_t_barred : Int32) (v_t_rule : Int32) (v_t_rowMany : Int32) (f_t_slips : (Nat → Int32)) (f_t_row : (Nat → Int32)) (f_t_anew : (Nat → Int32)) (x1 : Int32) : Option (Int32 × Int32 × (Nat → Int32) × (Nat → Int32)) :=
  if (60 : Int32) < x1 then
    some ((-9 : Int32), v_t_rowMany, f_t_row, f_t_anew)
  else
    bnd3 (X11_goRound v_t_barred v_t_rule v_t_rowMany f_t_row f_t_anew) (fun r2 w2_1 w2_2 =>
      if r2 = 0 then
        some (x1, v_t_rowMany, w2_1, w2_2)
      else
        self_6 v_t_many v_t_barred v_t_rule v_t_rowMany f_t_slips w2_1 w2_2 (x1 + (1 : Int32)))
def X11_settled_b6 : Nat → Int32 → Int32 → Int32 → Int32 → (Nat → Int32) → (Nat → Int32) → (Nat → Int32) → Int32 → Option (Int32 × Int32 × (Nat → Int32) × (Nat → Int32))
  | 0 => fun _ _ _ _ _ _ _ _ => none
  | n + 1 => X11_settled_b6_s (X11_settled_b6 n)
def X11_settled (v_t_many : Int32) (v_t_barred : Int32) (v_t_rule : Int32) (v_t_rowMany : Int32) (f_t_slips : (Nat → Int32)) (f_t_row : (Nat → Int32)) (f_t_anew : (Nat → Int32))  : Option (Int32 × Int32 × (Nat → Int32) × (Nat → Int32)) :=
  bnd2 (X11_takeSlips v_t_many v_t_rowMany f_t_slips f_t_row) (fun w4_0 w4_1 =>
    X11_settled_b6 fU v_t_many v_t_barred v_t_rule w4_0 f_t_slips w4_1 f_t_anew (0 : Int32))
def X11_over_b5_s (self_5 : Int32 → Int32 → Int64 → Int32 → Option (Int64))  (x0 : Int32) (x1 : Int32) (x2 : Int64) (x4 : Int32) : Option (Int64) :=
  if x1 ≤ x4 then
    some x2
  else
    if (x4 + (1 : Int32)).toInt64 = 0 then none else
      self_5 x0 x1 ((x2 * (x0 - x4).toInt64) / (x4 + (1 : Int32)).toInt64) (x4 + (1 : Int32))
def X11_over_b5 : Nat → Int32 → Int32 → Int64 → Int32 → Option (Int64)
  | 0 => fun _ _ _ _ => none
  | n + 1 => X11_over_b5_s (X11_over_b5 n)
def X11_over  (p0 : Int32) (p1 : Int32) : Option (Int64) :=
  X11_over_b5 fU p0 p1 (1 : Int64) (0 : Int32)
def X11_power_b5_s (self_5 : Int32 → Int32 → Int64 → Int32 → Option (Int64))  (x0 : Int32) (x1 : Int32) (x2 : Int64) (x4 : Int32) : Option (Int64) :=
  if x1 ≤ x4 then
    some x2
  else
    self_5 x0 x1 (x2 * x0.toInt64) (x4 + (1 : Int32))
def X11_power_b5 : Nat → Int32 → Int32 → Int64 → Int32 → Option (Int64)
  | 0 => fun _ _ _ _ => none
  | n + 1 => X11_power_b5_s (X11_power_b5 n)
def X11_power  (p0 : Int32) (p1 : Int32) : Option (Int64) :=
  X11_power_b5 fU p0 p1 (1 : Int64) (0 : Int32)
def X11_layWays_b22 (self_2 : Int32 → Int32 → (Nat → Int64) → (Nat → Int64) → (Nat → Int32) → Int32 → Int32 → Int32 → Option (Int64 × (Nat → Int64) × (Nat → Int64))) (v_t_barred : Int32) (v_t_rule : Int32) (f_t_sums : (Nat → Int64)) (f_t_spare : (Nat → Int64)) (f_t_tens : (Nat → Int32)) (x1 : Int32) (x2 : Int32) (x3 : Int32) (s1 : Int32) (s2 : Int64) : Option (Int64 × (Nat → Int64) × (Nat → Int64)) :=
  if (s1 < 0 ∨ 11 ≤ s1.toNatClampNeg) then none else
    self_2 v_t_barred v_t_rule (vp_updL f_t_sums s1.toNatClampNeg s2) f_t_spare f_t_tens x1 x2 (x3 + (1 : Int32))
def X11_layWays_b176 (self_31 : Int32 → Int32 → (Nat → Int64) → (Nat → Int64) → (Nat → Int32) → Int32 → Int32 → Int32 → Option (Int64 × (Nat → Int64) × (Nat → Int64))) (self_91 : Int32 → Int32 → (Nat → Int64) → (Nat → Int64) → (Nat → Int32) → Int32 → Int32 → Int32 → Int32 → Int32 → Option (Int64 × (Nat → Int64) × (Nat → Int64))) (self_100 : Int32 → Int32 → (Nat → Int64) → (Nat → Int64) → (Nat → Int32) → Int32 → Int32 → Int32 → Int32 → Int32 → Int32 → Option (Int64 × (Nat → Int64) × (Nat → Int64))) (v_t_barred : Int32) (v_t_rule : Int32) (f_t_sums : (Nat → Int64)) (f_t_spare : (Nat → Int64)) (f_t_tens : (Nat → Int32)) (x1 : Int32) (x2 : Int32) (x3 : Int32) (x4 : Int32) (x5 : Int32) (x6 : Int32) (s1 : Int32) (s2 : Int64) (s3 : Int64) : Option (Int64 × (Nat → Int64) × (Nat → Int64)) :=
  if (s1 < 0 ∨ 11 ≤ s1.toNatClampNeg) then none else
    self_100 v_t_barred v_t_rule f_t_sums (vp_updL f_t_spare s1.toNatClampNeg (s2 + s3)) f_t_tens x1 x2 x3 x4 x5 (x6 + (1 : Int32))
def X11_layWays_b129 (self_31 : Int32 → Int32 → (Nat → Int64) → (Nat → Int64) → (Nat → Int32) → Int32 → Int32 → Int32 → Option (Int64 × (Nat → Int64) × (Nat → Int64))) (self_91 : Int32 → Int32 → (Nat → Int64) → (Nat → Int64) → (Nat → Int32) → Int32 → Int32 → Int32 → Int32 → Int32 → Option (Int64 × (Nat → Int64) × (Nat → Int64))) (self_100 : Int32 → Int32 → (Nat → Int64) → (Nat → Int64) → (Nat → Int32) → Int32 → Int32 → Int32 → Int32 → Int32 → Int32 → Option (Int64 × (Nat → Int64) × (Nat → Int64))) (v_t_barred : Int32) (v_t_rule : Int32) (f_t_sums : (Nat → Int64)) (f_t_spare : (Nat → Int64)) (f_t_tens : (Nat → Int32)) (x1 : Int32) (x2 : Int32) (x3 : Int32) (x4 : Int32) (x5 : Int32) (x6 : Int32) (s0 : Int32) : Option (Int64 × (Nat → Int64) × (Nat → Int64)) :=
  if ((x5 + x6) < 0 ∨ 11 ≤ (x5 + x6).toNatClampNeg) then none else
    if s0 = 0 then
    X11_layWays_b176 self_31 self_91 self_100 v_t_barred v_t_rule f_t_sums f_t_spare f_t_tens x1 x2 x3 x4 x5 x6 (x5 + x6) (f_t_spare (x5 + x6).toNatClampNeg) (0 : Int64)
  else
    if (x5 < 0 ∨ 11 ≤ x5.toNatClampNeg) then none else
      bnd1 (X11_over (x1 - x5) x6) (fun r6 =>
      bnd1 (X11_power x4 x6) (fun r7 =>
        X11_layWays_b176 self_31 self_91 self_100 v_t_barred v_t_rule f_t_sums f_t_spare f_t_tens x1 x2 x3 x4 x5 x6 (x5 + x6) (f_t_spare (x5 + x6).toNatClampNeg) (((f_t_sums x5.toNatClampNeg) * r6) * r7)))
def X11_layWays_b124 (self_31 : Int32 → Int32 → (Nat → Int64) → (Nat → Int64) → (Nat → Int32) → Int32 → Int32 → Int32 → Option (Int64 × (Nat → Int64) × (Nat → Int64))) (self_91 : Int32 → Int32 → (Nat → Int64) → (Nat → Int64) → (Nat → Int32) → Int32 → Int32 → Int32 → Int32 → Int32 → Option (Int64 × (Nat → Int64) × (Nat → Int64))) (self_100 : Int32 → Int32 → (Nat → Int64) → (Nat → Int64) → (Nat → Int32) → Int32 → Int32 → Int32 → Int32 → Int32 → Int32 → Option (Int64 × (Nat → Int64) × (Nat → Int64))) (v_t_barred : Int32) (v_t_rule : Int32) (f_t_sums : (Nat → Int64)) (f_t_spare : (Nat → Int64)) (f_t_tens : (Nat → Int32)) (x1 : Int32) (x2 : Int32) (x3 : Int32) (x4 : Int32) (x5 : Int32) (x6 : Int32) : Option (Int64 × (Nat → Int64) × (Nat → Int64)) :=
  X11_layWays_b129 self_31 self_91 self_100 v_t_barred v_t_rule f_t_sums f_t_spare f_t_tens x1 x2 x3 x4 x5 x6 (1 : Int32)
def X11_layWays_b184 (self_31 : Int32 → Int32 → (Nat → Int64) → (Nat → Int64) → (Nat → Int32) → Int32 → Int32 → Int32 → Option (Int64 × (Nat → Int64) × (Nat → Int64))) (self_91 : Int32 → Int32 → (Nat → Int64) → (Nat → Int64) → (Nat → Int32) → Int32 → Int32 → Int32 → Int32 → Int32 → Option (Int64 × (Nat → Int64) × (Nat → Int64))) (v_t_barred : Int32) (v_t_rule : Int32) (f_t_sums : (Nat → Int64)) (f_t_spare : (Nat → Int64)) (f_t_tens : (Nat → Int32)) (x1 : Int32) (x2 : Int32) (x3 : Int32) (x4 : Int32) (x5 : Int32) : Option (Int64 × (Nat → Int64) × (Nat → Int64)) :=
  self_91 v_t_barred v_t_rule f_t_sums f_t_spare f_t_tens x1 x2 x3 x4 (x5 + (1 : Int32))
def X11_layWays_b100_s (self_31 : Int32 → Int32 → (Nat → Int64) → (Nat → Int64) → (Nat → Int32) → Int32 → Int32 → Int32 → Option (Int64 × (Nat → Int64) × (Nat → Int64))) (self_91 : Int32 → Int32 → (Nat → Int64) → (Nat → Int64) → (Nat → Int32) → Int32 → Int32 → Int32 → Int32 → Int32 → Option (Int64 × (Nat → Int64) × (Nat → Int64))) (self_100 : Int32 → Int32 → (Nat → Int64) → (Nat → Int64) → (Nat → Int32) → Int32 → Int32 → Int32 → Int32 → Int32 → Int32 → Option (Int64 × (Nat → Int64) × (Nat → Int64))) (v_t_barred : Int32) (v_t_rule : Int32) (f_t_sums : (Nat → Int64)) (f_t_spare : (Nat → Int64)) (f_t_tens : (Nat → Int32)) (x1 : Int32) (x2 : Int32) (x3 : Int32) (x4 : Int32) (x5 : Int32) (x6 : Int32) : Option (Int64 × (Nat → Int64) × (Nat → Int64)) :=
  if (x1 - x5) < x6 then
    X11_layWays_b184 self_31 self_91 v_t_barred v_t_rule f_t_sums f_t_spare f_t_tens x1 x2 x3 x4 x5
  else
    if x6 = 0 then
      X11_layWays_b124 self_31 self_91 self_100 v_t_barred v_t_rule f_t_sums f_t_spare f_t_tens x1 x2 x3 x4 x5 x6
    else
      if (X11_isFine v_t_rule x3 x6) = 0 then
        X11_layWays_b129 self_31 self_91 self_100 v_t_barred v_t_rule f_t_sums f_t_spare f_t_tens x1 x2 x3 x4 x5 x6 (0 : Int32)
      else
        X11_layWays_b124 self_31 self_91 self_100 v_t_barred v_t_rule f_t_sums f_t_spare f_t_tens x1 x2 x3 x4 x5 x6
def X11_layWays_b100 (self_31 : Int32 → Int32 → (Nat → Int64) → (Nat → Int64) → (Nat → Int32) → Int32 → Int32 → Int32 → Option (Int64 × (Nat → Int64) × (Nat → Int64))) (self_91 : Int32 → Int32 → (Nat → Int64) → (Nat → Int64) → (Nat → Int32) → Int32 → Int32 → Int32 → Int32 → Int32 → Option (Int64 × (Nat → Int64) × (Nat → Int64))) : Nat → Int32 → Int32 → (Nat → Int64) → (Nat → Int64) → (Nat → Int32) → Int32 → Int32 → Int32 → Int32 → Int32 → Int32 → Option (Int64 × (Nat → Int64) × (Nat → Int64))
  | 0 => fun _ _ _ _ _ _ _ _ _ _ _ => none
  | n + 1 => X11_layWays_b100_s self_31 self_91 (X11_layWays_b100 self_31 self_91 n)
def X11_layWays_b219 (self_31 : Int32 → Int32 → (Nat → Int64) → (Nat → Int64) → (Nat → Int32) → Int32 → Int32 → Int32 → Option (Int64 × (Nat → Int64) × (Nat → Int64))) (v_t_barred : Int32) (v_t_rule : Int32) (f_t_sums : (Nat → Int64)) (f_t_spare : (Nat → Int64)) (f_t_tens : (Nat → Int32)) (x1 : Int32) (x2 : Int32) (x3 : Int32) : Option (Int64 × (Nat → Int64) × (Nat → Int64)) :=
  self_31 v_t_barred v_t_rule f_t_sums f_t_spare f_t_tens x1 x2 (x3 + (1 : Int32))
def X11_layWays_b193_s (self_31 : Int32 → Int32 → (Nat → Int64) → (Nat → Int64) → (Nat → Int32) → Int32 → Int32 → Int32 → Option (Int64 × (Nat → Int64) × (Nat → Int64))) (self_193 : Int32 → Int32 → (Nat → Int64) → (Nat → Int64) → (Nat → Int32) → Int32 → Int32 → Int32 → Int32 → Option (Int64 × (Nat → Int64) × (Nat → Int64))) (v_t_barred : Int32) (v_t_rule : Int32) (f_t_sums : (Nat → Int64)) (f_t_spare : (Nat → Int64)) (f_t_tens : (Nat → Int32)) (x1 : Int32) (x2 : Int32) (x3 : Int32) (x5 : Int32) : Option (Int64 × (Nat → Int64) × (Nat → Int64)) :=
  if x1 < x5 then
    X11_layWays_b219 self_31 v_t_barred v_t_rule f_t_sums f_t_spare f_t_tens x1 x2 x3
  else
    if (x5 < 0 ∨ 11 ≤ x5.toNatClampNeg) then none else
      if (x5 < 0 ∨ 11 ≤ x5.toNatClampNeg) then none else
      self_193 v_t_barred v_t_rule (vp_updL f_t_sums x5.toNatClampNeg (f_t_spare x5.toNatClampNeg)) f_t_spare f_t_tens x1 x2 x3 (x5 + (1 : Int32))
def X11_layWays_b193 (self_31 : Int32 → Int32 → (Nat → Int64) → (Nat → Int64) → (Nat → Int32) → Int32 → Int32 → Int32 → Option (Int64 × (Nat → Int64) × (Nat → Int64))) : Nat → Int32 → Int32 → (Nat → Int64) → (Nat → Int64) → (Nat → Int32) → Int32 → Int32 → Int32 → Int32 → Option (Int64 × (Nat → Int64) × (Nat → Int64))
  | 0 => fun _ _ _ _ _ _ _ _ _ => none
  | n + 1 => X11_layWays_b193_s self_31 (X11_layWays_b193 self_31 n)
def X11_layWays_b190 (self_31 : Int32 → Int32 → (Nat → Int64) → (Nat → Int64) → (Nat → Int32) → Int32 → Int32 → Int32 → Option (Int64 × (Nat → Int64) × (Nat → Int64))) (v_t_barred : Int32) (v_t_rule : Int32) (f_t_sums : (Nat → Int64)) (f_t_spare : (Nat → Int64)) (f_t_tens : (Nat → Int32)) (x1 : Int32) (x2 : Int32) (x3 : Int32) : Option (Int64 × (Nat → Int64) × (Nat → Int64)) :=
  X11_layWays_b193 self_31 fU v_t_barred v_t_rule f_t_sums f_t_spare f_t_tens x1 x2 x3 (0 : Int32)
def X11_layWays_b91_s (self_31 : Int32 → Int32 → (Nat → Int64) → (Nat → Int64) → (Nat → Int32) → Int32 → Int32 → Int32 → Option (Int64 × (Nat → Int64) × (Nat → Int64))) (self_91 : Int32 → Int32 → (Nat → Int64) → (Nat → Int64) → (Nat → Int32) → Int32 → Int32 → Int32 → Int32 → Int32 → Option (Int64 × (Nat → Int64) × (Nat → Int64))) (v_t_barred : Int32) (v_t_rule : Int32) (f_t_sums : (Nat → Int64)) (f_t_spare : (Nat → Int64)) (f_t_tens : (Nat → Int32)) (x1 : Int32) (x2 : Int32) (x3 : Int32) (x4 : Int32) (x5 : Int32) : Option (Int64 × (Nat → Int64) × (Nat → Int64)) :=
  if x1 < x5 then
    X11_layWays_b190 self_31 v_t_barred v_t_rule f_t_sums f_t_spare f_t_tens x1 x2 x3
  else
    X11_layWays_b100 self_31 self_91 fU v_t_barred v_t_rule f_t_sums f_t_spare f_t_tens x1 x2 x3 x4 x5 (0 : Int32)
def X11_layWays_b91 (self_31 : Int32 → Int32 → (Nat → Int64) → (Nat → Int64) → (Nat → Int32) → Int32 → Int32 → Int32 → Option (Int64 × (Nat → Int64) × (Nat → Int64))) : Nat → Int32 → Int32 → (Nat → Int64) → (Nat → Int64) → (Nat → Int32) → Int32 → Int32 → Int32 → Int32 → Int32 → Option (Int64 × (Nat → Int64) × (Nat → Int64))
  | 0 => fun _ _ _ _ _ _ _ _ _ _ => none
  | n + 1 => X11_layWays_b91_s self_31 (X11_layWays_b91 self_31 n)
def X11_layWays_b86 (self_31 : Int32 → Int32 → (Nat → Int64) → (Nat → Int64) → (Nat → Int32) → Int32 → Int32 → Int32 → Option (Int64 × (Nat → Int64) × (Nat → Int64))) (v_t_barred : Int32) (v_t_rule : Int32) (f_t_sums : (Nat → Int64)) (f_t_spare : (Nat → Int64)) (f_t_tens : (Nat → Int32)) (x1 : Int32) (x2 : Int32) (x3 : Int32) (s0 : Int32) : Option (Int64 × (Nat → Int64) × (Nat → Int64)) :=
  X11_layWays_b91 self_31 fU v_t_barred v_t_rule f_t_sums f_t_spare f_t_tens x1 x2 x3 s0 (0 : Int32)
def X11_layWays_b60 (self_31 : Int32 → Int32 → (Nat → Int64) → (Nat → Int64) → (Nat → Int32) → Int32 → Int32 → Int32 → Option (Int64 × (Nat → Int64) × (Nat → Int64))) (v_t_barred : Int32) (v_t_rule : Int32) (f_t_sums : (Nat → Int64)) (f_t_spare : (Nat → Int64)) (f_t_tens : (Nat → Int32)) (x1 : Int32) (x2 : Int32) (x3 : Int32) : Option (Int64 × (Nat → Int64) × (Nat → Int64)) :=
  if x2 = 0 then
    if (X11_isBarred v_t_barred x3) = 0 then
      X11_layWays_b86 self_31 v_t_barred v_t_rule f_t_sums f_t_spare f_t_tens x1 x2 x3 (1 : Int32)
    else
      X11_layWays_b86 self_31 v_t_barred v_t_rule f_t_sums f_t_spare f_t_tens x1 x2 x3 (0 : Int32)
  else
    if (x3 < 0 ∨ 10 ≤ x3.toNatClampNeg) then none else
      X11_layWays_b86 self_31 v_t_barred v_t_rule f_t_sums f_t_spare f_t_tens x1 x2 x3 (f_t_tens x3.toNatClampNeg)
def X11_layWays_b40_s (self_31 : Int32 → Int32 → (Nat → Int64) → (Nat → Int64) → (Nat → Int32) → Int32 → Int32 → Int32 → Option (Int64 × (Nat → Int64) × (Nat → Int64))) (self_40 : Int32 → Int32 → (Nat → Int64) → (Nat → Int64) → (Nat → Int32) → Int32 → Int32 → Int32 → Int32 → Option (Int64 × (Nat → Int64) × (Nat → Int64))) (v_t_barred : Int32) (v_t_rule : Int32) (f_t_sums : (Nat → Int64)) (f_t_spare : (Nat → Int64)) (f_t_tens : (Nat → Int32)) (x1 : Int32) (x2 : Int32) (x3 : Int32) (x4 : Int32) : Option (Int64 × (Nat → Int64) × (Nat → Int64)) :=
  if x1 < x4 then
    X11_layWays_b60 self_31 v_t_barred v_t_rule f_t_sums f_t_spare f_t_tens x1 x2 x3
  else
    if (x4 < 0 ∨ 11 ≤ x4.toNatClampNeg) then none else
      self_40 v_t_barred v_t_rule f_t_sums (vp_updL f_t_spare x4.toNatClampNeg (0 : Int64)) f_t_tens x1 x2 x3 (x4 + (1 : Int32))
def X11_layWays_b40 (self_31 : Int32 → Int32 → (Nat → Int64) → (Nat → Int64) → (Nat → Int32) → Int32 → Int32 → Int32 → Option (Int64 × (Nat → Int64) × (Nat → Int64))) : Nat → Int32 → Int32 → (Nat → Int64) → (Nat → Int64) → (Nat → Int32) → Int32 → Int32 → Int32 → Int32 → Option (Int64 × (Nat → Int64) × (Nat → Int64))
  | 0 => fun _ _ _ _ _ _ _ _ _ => none
  | n + 1 => X11_layWays_b40_s self_31 (X11_layWays_b40 self_31 n)
def X11_layWays_b225 (v_t_barred : Int32) (v_t_rule : Int32) (f_t_sums : (Nat → Int64)) (f_t_spare : (Nat → Int64)) (f_t_tens : (Nat → Int32)) (x1 : Int32) : Option (Int64 × (Nat → Int64) × (Nat → Int64)) :=
  if (x1 < 0 ∨ 11 ≤ x1.toNatClampNeg) then none else
    some ((f_t_sums x1.toNatClampNeg), f_t_sums, f_t_spare)
def X11_layWays_b31_s (self_31 : Int32 → Int32 → (Nat → Int64) → (Nat → Int64) → (Nat → Int32) → Int32 → Int32 → Int32 → Option (Int64 × (Nat → Int64) × (Nat → Int64))) (v_t_barred : Int32) (v_t_rule : Int32) (f_t_sums : (Nat → Int64)) (f_t_spare : (Nat → Int64)) (f_t_tens : (Nat → Int32)) (x1 : Int32) (x2 : Int32) (x3 : Int32) : Option (Int64 × (Nat → Int64) × (Nat → Int64)) :=
  if (10 : Int32) ≤ x3 then
    X11_layWays_b225 v_t_barred v_t_rule f_t_sums f_t_spare f_t_tens x1
  else
    X11_layWays_b40 self_31 fU v_t_barred v_t_rule f_t_sums f_t_spare f_t_tens x1 x2 x3 (0 : Int32)
def X11_layWays_b31 : Nat → Int32 → Int32 → (Nat → Int64) → (Nat → Int64) → (Nat → Int32) → Int32 → Int32 → Int32 → Option (Int64 × (Nat → Int64) × (Nat → Int64))
  | 0 => fun _ _ _ _ _ _ _ _ => none
  | n + 1 => X11_layWays_b31_s (X11_layWays_b31 n)
def X11_layWays_b29 (v_t_barred : Int32) (v_t_rule : Int32) (f_t_sums : (Nat → Int64)) (f_t_spare : (Nat → Int64)) (f_t_tens : (Nat → Int32)) (x1 : Int32) (x2 : Int32) : Option (Int64 × (Nat → Int64) × (Nat → Int64)) :=
  X11_layWays_b31 fU v_t_barred v_t_rule f_t_sums f_t_spare f_t_tens x1 x2 (0 : Int32)
def X11_layWays_b2_s (self_2 : Int32 → Int32 → (Nat → Int64) → (Nat → Int64) → (Nat → Int32) → Int32 → Int32 → Int32 → Option (Int64 × (Nat → Int64) × (Nat → Int64))) (v_t_barred : Int32) (v_t_rule : Int32) (f_t_sums : (Nat → Int64)) (f_t_spare : (Nat → Int64)) (f_t_tens : (Nat → Int32)) (x1 : Int32) (x2 : Int32) (x3 : Int32) : Option (Int64 × (Nat → Int64) × (Nat → Int64)) :=
  if (11 : Int32) ≤ x3 then
    X11_layWays_b29 v_t_barred v_t_rule f_t_sums f_t_spare f_t_tens x1 x2
  else
    if x3 = 0 then
      X11_layWays_b22 self_2 v_t_barred v_t_rule f_t_sums f_t_spare f_t_tens x1 x2 x3 x3 (1 : Int64)
    else
      X11_layWays_b22 self_2 v_t_barred v_t_rule f_t_sums f_t_spare f_t_tens x1 x2 x3 x3 (0 : Int64)
def X11_layWays_b2 : Nat → Int32 → Int32 → (Nat → Int64) → (Nat → Int64) → (Nat → Int32) → Int32 → Int32 → Int32 → Option (Int64 × (Nat → Int64) × (Nat → Int64))
  | 0 => fun _ _ _ _ _ _ _ _ => none
  | n + 1 => X11_layWays_b2_s (X11_layWays_b2 n)
def X11_layWays (v_t_barred : Int32) (v_t_rule : Int32) (f_t_sums : (Nat → Int64)) (f_t_spare : (Nat → Int64)) (f_t_tens : (Nat → Int32)) (p1 : Int32) (p2 : Int32) : Option (Int64 × (Nat → Int64) × (Nat → Int64)) :=
  X11_layWays_b2 fU v_t_barred v_t_rule f_t_sums f_t_spare f_t_tens p1 p2 (0 : Int32)
def X11_ways (v_t_barred : Int32) (v_t_rule : Int32) (f_t_sums : (Nat → Int64)) (f_t_spare : (Nat → Int64)) (f_t_tens : (Nat → Int32)) (p1 : Int32) : Option (Int32 × (Nat → Int64) × (Nat → Int64)) :=
  if (X11_in p1.toInt64 (0 : Int64) (9 : Int64)) = 0 then
    some ((-2 : Int32), f_t_sums, f_t_spare)
  else
    bnd3 (X11_layWays v_t_barred v_t_rule f_t_sums f_t_spare f_t_tens p1 (0 : Int32)) (fun r3 w3_1 w3_2 =>
      some (r3.toInt32, w3_1, w3_2))
def X11_wrong_b38 (self_17 : Int32 → Int32 → (Nat → Int32) → (Nat → Int32) → Int32 → Int32 → Option (Int32 × (Nat → Int32) × (Nat → Int32))) (v_t_barred : Int32) (v_t_rule : Int32) (f_t_least : (Nat → Int32)) (f_t_then : (Nat → Int32)) (x1 : Int32) (x2 : Int32) (s1 : Int32) (s2 : Int32) : Option (Int32 × (Nat → Int32) × (Nat → Int32)) :=
  if (s1 < 0 ∨ 11 ≤ s1.toNatClampNeg) then none else
    self_17 v_t_barred v_t_rule (upd f_t_least s1.toNatClampNeg s2) f_t_then x1 (x2 + (1 : Int32))
def X11_wrong_b144 (self_47 : Int32 → Int32 → (Nat → Int32) → (Nat → Int32) → Int32 → Int32 → Option (Int32 × (Nat → Int32) × (Nat → Int32))) (self_55 : Int32 → Int32 → (Nat → Int32) → (Nat → Int32) → Int32 → Int32 → Int32 → Option (Int32 × (Nat → Int32) × (Nat → Int32))) (self_75 : Int32 → Int32 → (Nat → Int32) → (Nat → Int32) → Int32 → Int32 → Int32 → Int32 → Option (Int32 × (Nat → Int32) × (Nat → Int32))) (v_t_barred : Int32) (v_t_rule : Int32) (f_t_least : (Nat → Int32)) (f_t_then : (Nat → Int32)) (x1 : Int32) (x2 : Int32) (x3 : Int32) (x4 : Int32) (s1 : Int32) (s2 : Int32) : Option (Int32 × (Nat → Int32) × (Nat → Int32)) :=
  if (s1 < 0 ∨ 11 ≤ s1.toNatClampNeg) then none else
    self_75 v_t_barred v_t_rule f_t_least (upd f_t_then s1.toNatClampNeg s2) x1 x2 x3 (x4 + (1 : Int32))
def X11_wrong_b114 (self_47 : Int32 → Int32 → (Nat → Int32) → (Nat → Int32) → Int32 → Int32 → Option (Int32 × (Nat → Int32) × (Nat → Int32))) (self_55 : Int32 → Int32 → (Nat → Int32) → (Nat → Int32) → Int32 → Int32 → Int32 → Option (Int32 × (Nat → Int32) × (Nat → Int32))) (self_75 : Int32 → Int32 → (Nat → Int32) → (Nat → Int32) → Int32 → Int32 → Int32 → Int32 → Option (Int32 × (Nat → Int32) × (Nat → Int32))) (v_t_barred : Int32) (v_t_rule : Int32) (f_t_least : (Nat → Int32)) (f_t_then : (Nat → Int32)) (x1 : Int32) (x2 : Int32) (x3 : Int32) (x4 : Int32) (s0 : Int32) (s1 : Int32) : Option (Int32 × (Nat → Int32) × (Nat → Int32)) :=
  if (x3 < 0 ∨ 11 ≤ x3.toNatClampNeg) then none else
    if (f_t_then x3.toNatClampNeg) ≤ (s0 + s1) then
    if (x3 < 0 ∨ 11 ≤ x3.toNatClampNeg) then none else
      X11_wrong_b144 self_47 self_55 self_75 v_t_barred v_t_rule f_t_least f_t_then x1 x2 x3 x4 x3 (f_t_then x3.toNatClampNeg)
  else
    X11_wrong_b144 self_47 self_55 self_75 v_t_barred v_t_rule f_t_least f_t_then x1 x2 x3 x4 x3 (s0 + s1)
def X11_wrong_b151 (self_47 : Int32 → Int32 → (Nat → Int32) → (Nat → Int32) → Int32 → Int32 → Option (Int32 × (Nat → Int32) × (Nat → Int32))) (self_55 : Int32 → Int32 → (Nat → Int32) → (Nat → Int32) → Int32 → Int32 → Int32 → Option (Int32 × (Nat → Int32) × (Nat → Int32))) (v_t_barred : Int32) (v_t_rule : Int32) (f_t_least : (Nat → Int32)) (f_t_then : (Nat → Int32)) (x1 : Int32) (x2 : Int32) (x3 : Int32) : Option (Int32 × (Nat → Int32) × (Nat → Int32)) :=
  self_55 v_t_barred v_t_rule f_t_least f_t_then x1 x2 (x3 + (1 : Int32))
def X11_wrong_b75_s (self_47 : Int32 → Int32 → (Nat → Int32) → (Nat → Int32) → Int32 → Int32 → Option (Int32 × (Nat → Int32) × (Nat → Int32))) (self_55 : Int32 → Int32 → (Nat → Int32) → (Nat → Int32) → Int32 → Int32 → Int32 → Option (Int32 × (Nat → Int32) × (Nat → Int32))) (self_75 : Int32 → Int32 → (Nat → Int32) → (Nat → Int32) → Int32 → Int32 → Int32 → Int32 → Option (Int32 × (Nat → Int32) × (Nat → Int32))) (v_t_barred : Int32) (v_t_rule : Int32) (f_t_least : (Nat → Int32)) (f_t_then : (Nat → Int32)) (x1 : Int32) (x2 : Int32) (x3 : Int32) (x4 : Int32) : Option (Int32 × (Nat → Int32) × (Nat → Int32)) :=
  if x3 < x4 then
    X11_wrong_b151 self_47 self_55 v_t_barred v_t_rule f_t_least f_t_then x1 x2 x3
  else
    if (X11_isBarred v_t_barred x2) = 0 then
      if ((x3 - x4) < 0 ∨ 11 ≤ (x3 - x4).toNatClampNeg) then none else
        if (X11_isFine v_t_rule x2 x4) = 0 then
        X11_wrong_b114 self_47 self_55 self_75 v_t_barred v_t_rule f_t_least f_t_then x1 x2 x3 x4 (f_t_least (x3 - x4).toNatClampNeg) x4
      else
        X11_wrong_b114 self_47 self_55 self_75 v_t_barred v_t_rule f_t_least f_t_then x1 x2 x3 x4 (f_t_least (x3 - x4).toNatClampNeg) (0 : Int32)
    else
      X11_wrong_b151 self_47 self_55 v_t_barred v_t_rule f_t_least f_t_then x1 x2 x3
def X11_wrong_b75 (self_47 : Int32 → Int32 → (Nat → Int32) → (Nat → Int32) → Int32 → Int32 → Option (Int32 × (Nat → Int32) × (Nat → Int32))) (self_55 : Int32 → Int32 → (Nat → Int32) → (Nat → Int32) → Int32 → Int32 → Int32 → Option (Int32 × (Nat → Int32) × (Nat → Int32))) : Nat → Int32 → Int32 → (Nat → Int32) → (Nat → Int32) → Int32 → Int32 → Int32 → Int32 → Option (Int32 × (Nat → Int32) × (Nat → Int32))
  | 0 => fun _ _ _ _ _ _ _ _ => none
  | n + 1 => X11_wrong_b75_s self_47 self_55 (X11_wrong_b75 self_47 self_55 n)
def X11_wrong_b182 (self_47 : Int32 → Int32 → (Nat → Int32) → (Nat → Int32) → Int32 → Int32 → Option (Int32 × (Nat → Int32) × (Nat → Int32))) (v_t_barred : Int32) (v_t_rule : Int32) (f_t_least : (Nat → Int32)) (f_t_then : (Nat → Int32)) (x1 : Int32) (x2 : Int32) : Option (Int32 × (Nat → Int32) × (Nat → Int32)) :=
  self_47 v_t_barred v_t_rule f_t_least f_t_then x1 (x2 + (1 : Int32))
def X11_wrong_b159_s (self_47 : Int32 → Int32 → (Nat → Int32) → (Nat → Int32) → Int32 → Int32 → Option (Int32 × (Nat → Int32) × (Nat → Int32))) (self_159 : Int32 → Int32 → (Nat → Int32) → (Nat → Int32) → Int32 → Int32 → Int32 → Option (Int32 × (Nat → Int32) × (Nat → Int32))) (v_t_barred : Int32) (v_t_rule : Int32) (f_t_least : (Nat → Int32)) (f_t_then : (Nat → Int32)) (x1 : Int32) (x2 : Int32) (x3 : Int32) : Option (Int32 × (Nat → Int32) × (Nat → Int32)) :=
  if x1 < x3 then
    X11_wrong_b182 self_47 v_t_barred v_t_rule f_t_least f_t_then x1 x2
  else
    if (x3 < 0 ∨ 11 ≤ x3.toNatClampNeg) then none else
      if (x3 < 0 ∨ 11 ≤ x3.toNatClampNeg) then none else
      self_159 v_t_barred v_t_rule (upd f_t_least x3.toNatClampNeg (f_t_then x3.toNatClampNeg)) f_t_then x1 x2 (x3 + (1 : Int32))
def X11_wrong_b159 (self_47 : Int32 → Int32 → (Nat → Int32) → (Nat → Int32) → Int32 → Int32 → Option (Int32 × (Nat → Int32) × (Nat → Int32))) : Nat → Int32 → Int32 → (Nat → Int32) → (Nat → Int32) → Int32 → Int32 → Int32 → Option (Int32 × (Nat → Int32) × (Nat → Int32))
  | 0 => fun _ _ _ _ _ _ _ => none
  | n + 1 => X11_wrong_b159_s self_47 (X11_wrong_b159 self_47 n)
def X11_wrong_b157 (self_47 : Int32 → Int32 → (Nat → Int32) → (Nat → Int32) → Int32 → Int32 → Option (Int32 × (Nat → Int32) × (Nat → Int32))) (v_t_barred : Int32) (v_t_rule : Int32) (f_t_least : (Nat → Int32)) (f_t_then : (Nat → Int32)) (x1 : Int32) (x2 : Int32) : Option (Int32 × (Nat → Int32) × (Nat → Int32)) :=
  X11_wrong_b159 self_47 fU v_t_barred v_t_rule f_t_least f_t_then x1 x2 (0 : Int32)
def X11_wrong_b55_s (self_47 : Int32 → Int32 → (Nat → Int32) → (Nat → Int32) → Int32 → Int32 → Option (Int32 × (Nat → Int32) × (Nat → Int32))) (self_55 : Int32 → Int32 → (Nat → Int32) → (Nat → Int32) → Int32 → Int32 → Int32 → Option (Int32 × (Nat → Int32) × (Nat → Int32))) (v_t_barred : Int32) (v_t_rule : Int32) (f_t_least : (Nat → Int32)) (f_t_then : (Nat → Int32)) (x1 : Int32) (x2 : Int32) (x3 : Int32) : Option (Int32 × (Nat → Int32) × (Nat → Int32)) :=
  if x1 < x3 then
    X11_wrong_b157 self_47 v_t_barred v_t_rule f_t_least f_t_then x1 x2
  else
    if (x3 < 0 ∨ 11 ≤ x3.toNatClampNeg) then none else
      if (x3 < 0 ∨ 11 ≤ x3.toNatClampNeg) then none else
      X11_wrong_b75 self_47 self_55 fU v_t_barred v_t_rule f_t_least (upd f_t_then x3.toNatClampNeg (f_t_least x3.toNatClampNeg)) x1 x2 x3 (1 : Int32)
def X11_wrong_b55 (self_47 : Int32 → Int32 → (Nat → Int32) → (Nat → Int32) → Int32 → Int32 → Option (Int32 × (Nat → Int32) × (Nat → Int32))) : Nat → Int32 → Int32 → (Nat → Int32) → (Nat → Int32) → Int32 → Int32 → Int32 → Option (Int32 × (Nat → Int32) × (Nat → Int32))
  | 0 => fun _ _ _ _ _ _ _ => none
  | n + 1 => X11_wrong_b55_s self_47 (X11_wrong_b55 self_47 n)
def X11_wrong_b188 (v_t_barred : Int32) (v_t_rule : Int32) (f_t_least : (Nat → Int32)) (f_t_then : (Nat → Int32)) (x1 : Int32) : Option (Int32 × (Nat → Int32) × (Nat → Int32)) :=
  if (x1 < 0 ∨ 11 ≤ x1.toNatClampNeg) then none else
    some ((f_t_least x1.toNatClampNeg), f_t_least, f_t_then)
def X11_wrong_b47_s (self_47 : Int32 → Int32 → (Nat → Int32) → (Nat → Int32) → Int32 → Int32 → Option (Int32 × (Nat → Int32) × (Nat → Int32))) (v_t_barred : Int32) (v_t_rule : Int32) (f_t_least : (Nat → Int32)) (f_t_then : (Nat → Int32)) (x1 : Int32) (x2 : Int32) : Option (Int32 × (Nat → Int32) × (Nat → Int32)) :=
  if (10 : Int32) ≤ x2 then
    X11_wrong_b188 v_t_barred v_t_rule f_t_least f_t_then x1
  else
    X11_wrong_b55 self_47 fU v_t_barred v_t_rule f_t_least f_t_then x1 x2 (0 : Int32)
def X11_wrong_b47 : Nat → Int32 → Int32 → (Nat → Int32) → (Nat → Int32) → Int32 → Int32 → Option (Int32 × (Nat → Int32) × (Nat → Int32))
  | 0 => fun _ _ _ _ _ _ => none
  | n + 1 => X11_wrong_b47_s (X11_wrong_b47 n)
def X11_wrong_b45 (v_t_barred : Int32) (v_t_rule : Int32) (f_t_least : (Nat → Int32)) (f_t_then : (Nat → Int32)) (x1 : Int32) : Option (Int32 × (Nat → Int32) × (Nat → Int32)) :=
  X11_wrong_b47 fU v_t_barred v_t_rule f_t_least f_t_then x1 (0 : Int32)
def X11_wrong_b17_s (self_17 : Int32 → Int32 → (Nat → Int32) → (Nat → Int32) → Int32 → Int32 → Option (Int32 × (Nat → Int32) × (Nat → Int32))) (v_t_barred : Int32) (v_t_rule : Int32) (f_t_least : (Nat → Int32)) (f_t_then : (Nat → Int32)) (x1 : Int32) (x2 : Int32) : Option (Int32 × (Nat → Int32) × (Nat → Int32)) :=
  if (11 : Int32) ≤ x2 then
    X11_wrong_b45 v_t_barred v_t_rule f_t_least f_t_then x1
  else
    if x2 = 0 then
      X11_wrong_b38 self_17 v_t_barred v_t_rule f_t_least f_t_then x1 x2 x2 (0 : Int32)
    else
      X11_wrong_b38 self_17 v_t_barred v_t_rule f_t_least f_t_then x1 x2 x2 (99 : Int32)
def X11_wrong_b17 : Nat → Int32 → Int32 → (Nat → Int32) → (Nat → Int32) → Int32 → Int32 → Option (Int32 × (Nat → Int32) × (Nat → Int32))
  | 0 => fun _ _ _ _ _ _ => none
  | n + 1 => X11_wrong_b17_s (X11_wrong_b17 n)
def X11_wrong (v_t_barred : Int32) (v_t_rule : Int32) (f_t_least : (Nat → Int32)) (f_t_then : (Nat → Int32)) (p1 : Int32) : Option (Int32 × (Nat → Int32) × (Nat → Int32)) :=
  if (X11_in p1.toInt64 (0 : Int64) (9 : Int64)) = 0 then
    some ((-2 : Int32), f_t_least, f_t_then)
  else
    X11_wrong_b17 fU v_t_barred v_t_rule f_t_least f_t_then p1 (0 : Int32)
def X11_canBe_b23 (self_2 : Int32 → Int32 → (Nat → Int32) → (Nat → Int32) → (Nat → Int32) → Int32 → Int32 → Option (Int32 × (Nat → Int32) × (Nat → Int32))) (v_t_barred : Int32) (v_t_rule : Int32) (f_t_least : (Nat → Int32)) (f_t_then : (Nat → Int32)) (f_t_told : (Nat → Int32)) (x1 : Int32) (x2 : Int32) (s1 : Int32) (s2 : Int32) : Option (Int32 × (Nat → Int32) × (Nat → Int32)) :=
  if (s1 < 0 ∨ 11 ≤ s1.toNatClampNeg) then none else
    self_2 v_t_barred v_t_rule (upd f_t_least s1.toNatClampNeg s2) f_t_then f_t_told x1 (x2 + (1 : Int32))
def X11_canBe_b129 (self_32 : Int32 → Int32 → (Nat → Int32) → (Nat → Int32) → (Nat → Int32) → Int32 → Int32 → Option (Int32 × (Nat → Int32) × (Nat → Int32))) (self_40 : Int32 → Int32 → (Nat → Int32) → (Nat → Int32) → (Nat → Int32) → Int32 → Int32 → Int32 → Option (Int32 × (Nat → Int32) × (Nat → Int32))) (self_61 : Int32 → Int32 → (Nat → Int32) → (Nat → Int32) → (Nat → Int32) → Int32 → Int32 → Int32 → Int32 → Option (Int32 × (Nat → Int32) × (Nat → Int32))) (v_t_barred : Int32) (v_t_rule : Int32) (f_t_least : (Nat → Int32)) (f_t_then : (Nat → Int32)) (f_t_told : (Nat → Int32)) (x1 : Int32) (x2 : Int32) (x3 : Int32) (x4 : Int32) (s1 : Int32) (s2 : Int32) : Option (Int32 × (Nat → Int32) × (Nat → Int32)) :=
  if (s1 < 0 ∨ 11 ≤ s1.toNatClampNeg) then none else
    self_61 v_t_barred v_t_rule f_t_least (upd f_t_then s1.toNatClampNeg s2) f_t_told x1 x2 x3 (x4 + (1 : Int32))
def X11_canBe_b123 (self_32 : Int32 → Int32 → (Nat → Int32) → (Nat → Int32) → (Nat → Int32) → Int32 → Int32 → Option (Int32 × (Nat → Int32) × (Nat → Int32))) (self_40 : Int32 → Int32 → (Nat → Int32) → (Nat → Int32) → (Nat → Int32) → Int32 → Int32 → Int32 → Option (Int32 × (Nat → Int32) × (Nat → Int32))) (self_61 : Int32 → Int32 → (Nat → Int32) → (Nat → Int32) → (Nat → Int32) → Int32 → Int32 → Int32 → Int32 → Option (Int32 × (Nat → Int32) × (Nat → Int32))) (v_t_barred : Int32) (v_t_rule : Int32) (f_t_least : (Nat → Int32)) (f_t_then : (Nat → Int32)) (f_t_told : (Nat → Int32)) (x1 : Int32) (x2 : Int32) (x3 : Int32) (x4 : Int32) (s1 : Int32) : Option (Int32 × (Nat → Int32) × (Nat → Int32)) :=
  if (x3 < 0 ∨ 11 ≤ x3.toNatClampNeg) then none else
    X11_canBe_b129 self_32 self_40 self_61 v_t_barred v_t_rule f_t_least f_t_then f_t_told x1 x2 x3 x4 s1 (f_t_then x3.toNatClampNeg)
def X11_canBe_b95 (self_32 : Int32 → Int32 → (Nat → Int32) → (Nat → Int32) → (Nat → Int32) → Int32 → Int32 → Option (Int32 × (Nat → Int32) × (Nat → Int32))) (self_40 : Int32 → Int32 → (Nat → Int32) → (Nat → Int32) → (Nat → Int32) → Int32 → Int32 → Int32 → Option (Int32 × (Nat → Int32) × (Nat → Int32))) (self_61 : Int32 → Int32 → (Nat → Int32) → (Nat → Int32) → (Nat → Int32) → Int32 → Int32 → Int32 → Int32 → Option (Int32 × (Nat → Int32) × (Nat → Int32))) (v_t_barred : Int32) (v_t_rule : Int32) (f_t_least : (Nat → Int32)) (f_t_then : (Nat → Int32)) (f_t_told : (Nat → Int32)) (x1 : Int32) (x2 : Int32) (x3 : Int32) (x4 : Int32) (s0 : Int32) : Option (Int32 × (Nat → Int32) × (Nat → Int32)) :=
  if s0 = 0 then
    X11_canBe_b123 self_32 self_40 self_61 v_t_barred v_t_rule f_t_least f_t_then f_t_told x1 x2 x3 x4 x3
  else
    if ((x3 - x4) < 0 ∨ 11 ≤ (x3 - x4).toNatClampNeg) then none else
      if (f_t_least (x3 - x4).toNatClampNeg) = 0 then
      X11_canBe_b129 self_32 self_40 self_61 v_t_barred v_t_rule f_t_least f_t_then f_t_told x1 x2 x3 x4 x3 (0 : Int32)
    else
      X11_canBe_b123 self_32 self_40 self_61 v_t_barred v_t_rule f_t_least f_t_then f_t_told x1 x2 x3 x4 x3
def X11_canBe_b90 (self_32 : Int32 → Int32 → (Nat → Int32) → (Nat → Int32) → (Nat → Int32) → Int32 → Int32 → Option (Int32 × (Nat → Int32) × (Nat → Int32))) (self_40 : Int32 → Int32 → (Nat → Int32) → (Nat → Int32) → (Nat → Int32) → Int32 → Int32 → Int32 → Option (Int32 × (Nat → Int32) × (Nat → Int32))) (self_61 : Int32 → Int32 → (Nat → Int32) → (Nat → Int32) → (Nat → Int32) → Int32 → Int32 → Int32 → Int32 → Option (Int32 × (Nat → Int32) × (Nat → Int32))) (v_t_barred : Int32) (v_t_rule : Int32) (f_t_least : (Nat → Int32)) (f_t_then : (Nat → Int32)) (f_t_told : (Nat → Int32)) (x1 : Int32) (x2 : Int32) (x3 : Int32) (x4 : Int32) : Option (Int32 × (Nat → Int32) × (Nat → Int32)) :=
  X11_canBe_b95 self_32 self_40 self_61 v_t_barred v_t_rule f_t_least f_t_then f_t_told x1 x2 x3 x4 (1 : Int32)
def X11_canBe_b94 (self_32 : Int32 → Int32 → (Nat → Int32) → (Nat → Int32) → (Nat → Int32) → Int32 → Int32 → Option (Int32 × (Nat → Int32) × (Nat → Int32))) (self_40 : Int32 → Int32 → (Nat → Int32) → (Nat → Int32) → (Nat → Int32) → Int32 → Int32 → Int32 → Option (Int32 × (Nat → Int32) × (Nat → Int32))) (self_61 : Int32 → Int32 → (Nat → Int32) → (Nat → Int32) → (Nat → Int32) → Int32 → Int32 → Int32 → Int32 → Option (Int32 × (Nat → Int32) × (Nat → Int32))) (v_t_barred : Int32) (v_t_rule : Int32) (f_t_least : (Nat → Int32)) (f_t_then : (Nat → Int32)) (f_t_told : (Nat → Int32)) (x1 : Int32) (x2 : Int32) (x3 : Int32) (x4 : Int32) : Option (Int32 × (Nat → Int32) × (Nat → Int32)) :=
  X11_canBe_b95 self_32 self_40 self_61 v_t_barred v_t_rule f_t_least f_t_then f_t_told x1 x2 x3 x4 (0 : Int32)
def X11_canBe_b136 (self_32 : Int32 → Int32 → (Nat → Int32) → (Nat → Int32) → (Nat → Int32) → Int32 → Int32 → Option (Int32 × (Nat → Int32) × (Nat → Int32))) (self_40 : Int32 → Int32 → (Nat → Int32) → (Nat → Int32) → (Nat → Int32) → Int32 → Int32 → Int32 → Option (Int32 × (Nat → Int32) × (Nat → Int32))) (v_t_barred : Int32) (v_t_rule : Int32) (f_t_least : (Nat → Int32)) (f_t_then : (Nat → Int32)) (f_t_told : (Nat → Int32)) (x1 : Int32) (x2 : Int32) (x3 : Int32) : Option (Int32 × (Nat → Int32) × (Nat → Int32)) :=
  self_40 v_t_barred v_t_rule f_t_least f_t_then f_t_told x1 x2 (x3 + (1 : Int32))
def X11_canBe_b61_s (self_32 : Int32 → Int32 → (Nat → Int32) → (Nat → Int32) → (Nat → Int32) → Int32 → Int32 → Option (Int32 × (Nat → Int32) × (Nat → Int32))) (self_40 : Int32 → Int32 → (Nat → Int32) → (Nat → Int32) → (Nat → Int32) → Int32 → Int32 → Int32 → Option (Int32 × (Nat → Int32) × (Nat → Int32))) (self_61 : Int32 → Int32 → (Nat → Int32) → (Nat → Int32) → (Nat → Int32) → Int32 → Int32 → Int32 → Int32 → Option (Int32 × (Nat → Int32) × (Nat → Int32))) (v_t_barred : Int32) (v_t_rule : Int32) (f_t_least : (Nat → Int32)) (f_t_then : (Nat → Int32)) (f_t_told : (Nat → Int32)) (x1 : Int32) (x2 : Int32) (x3 : Int32) (x4 : Int32) : Option (Int32 × (Nat → Int32) × (Nat → Int32)) :=
  if x3 < x4 then
    X11_canBe_b136 self_32 self_40 v_t_barred v_t_rule f_t_least f_t_then f_t_told x1 x2 x3
  else
    if x4 = 0 then
      X11_canBe_b90 self_32 self_40 self_61 v_t_barred v_t_rule f_t_least f_t_then f_t_told x1 x2 x3 x4
    else
      if (X11_isBarred v_t_barred x2) = 0 then
        if (X11_isFine v_t_rule x2 x4) = 0 then
          X11_canBe_b94 self_32 self_40 self_61 v_t_barred v_t_rule f_t_least f_t_then f_t_told x1 x2 x3 x4
        else
          X11_canBe_b90 self_32 self_40 self_61 v_t_barred v_t_rule f_t_least f_t_then f_t_told x1 x2 x3 x4
      else
        X11_canBe_b94 self_32 self_40 self_61 v_t_barred v_t_rule f_t_least f_t_then f_t_told x1 x2 x3 x4
def X11_canBe_b61 (self_32 : Int32 → Int32 → (Nat → Int32) → (Nat → Int32) → (Nat → Int32) → Int32 → Int32 → Option (Int32 × (Nat → Int32) × (Nat → Int32))) (self_40 : Int32 → Int32 → (Nat → Int32) → (Nat → Int32) → (Nat → Int32) → Int32 → Int32 → Int32 → Option (Int32 × (Nat → Int32) × (Nat → Int32))) : Nat → Int32 → Int32 → (Nat → Int32) → (Nat → Int32) → (Nat → Int32) → Int32 → Int32 → Int32 → Int32 → Option (Int32 × (Nat → Int32) × (Nat → Int32))
  | 0 => fun _ _ _ _ _ _ _ _ _ => none
  | n + 1 => X11_canBe_b61_s self_32 self_40 (X11_canBe_b61 self_32 self_40 n)
def X11_canBe_b167 (self_32 : Int32 → Int32 → (Nat → Int32) → (Nat → Int32) → (Nat → Int32) → Int32 → Int32 → Option (Int32 × (Nat → Int32) × (Nat → Int32))) (v_t_barred : Int32) (v_t_rule : Int32) (f_t_least : (Nat → Int32)) (f_t_then : (Nat → Int32)) (f_t_told : (Nat → Int32)) (x1 : Int32) (x2 : Int32) : Option (Int32 × (Nat → Int32) × (Nat → Int32)) :=
  self_32 v_t_barred v_t_rule f_t_least f_t_then f_t_told x1 (x2 + (1 : Int32))
def X11_canBe_b144_s (self_32 : Int32 → Int32 → (Nat → Int32) → (Nat → Int32) → (Nat → Int32) → Int32 → Int32 → Option (Int32 × (Nat → Int32) × (Nat → Int32))) (self_144 : Int32 → Int32 → (Nat → Int32) → (Nat → Int32) → (Nat → Int32) → Int32 → Int32 → Int32 → Option (Int32 × (Nat → Int32) × (Nat → Int32))) (v_t_barred : Int32) (v_t_rule : Int32) (f_t_least : (Nat → Int32)) (f_t_then : (Nat → Int32)) (f_t_told : (Nat → Int32)) (x1 : Int32) (x2 : Int32) (x3 : Int32) : Option (Int32 × (Nat → Int32) × (Nat → Int32)) :=
  if x1 < x3 then
    X11_canBe_b167 self_32 v_t_barred v_t_rule f_t_least f_t_then f_t_told x1 x2
  else
    if (x3 < 0 ∨ 11 ≤ x3.toNatClampNeg) then none else
      if (x3 < 0 ∨ 11 ≤ x3.toNatClampNeg) then none else
      self_144 v_t_barred v_t_rule (upd f_t_least x3.toNatClampNeg (f_t_then x3.toNatClampNeg)) f_t_then f_t_told x1 x2 (x3 + (1 : Int32))
def X11_canBe_b144 (self_32 : Int32 → Int32 → (Nat → Int32) → (Nat → Int32) → (Nat → Int32) → Int32 → Int32 → Option (Int32 × (Nat → Int32) × (Nat → Int32))) : Nat → Int32 → Int32 → (Nat → Int32) → (Nat → Int32) → (Nat → Int32) → Int32 → Int32 → Int32 → Option (Int32 × (Nat → Int32) × (Nat → Int32))
  | 0 => fun _ _ _ _ _ _ _ _ => none
  | n + 1 => X11_canBe_b144_s self_32 (X11_canBe_b144 self_32 n)
def X11_canBe_b142 (self_32 : Int32 → Int32 → (Nat → Int32) → (Nat → Int32) → (Nat → Int32) → Int32 → Int32 → Option (Int32 × (Nat → Int32) × (Nat → Int32))) (v_t_barred : Int32) (v_t_rule : Int32) (f_t_least : (Nat → Int32)) (f_t_then : (Nat → Int32)) (f_t_told : (Nat → Int32)) (x1 : Int32) (x2 : Int32) : Option (Int32 × (Nat → Int32) × (Nat → Int32)) :=
  X11_canBe_b144 self_32 fU v_t_barred v_t_rule f_t_least f_t_then f_t_told x1 x2 (0 : Int32)
def X11_canBe_b40_s (self_32 : Int32 → Int32 → (Nat → Int32) → (Nat → Int32) → (Nat → Int32) → Int32 → Int32 → Option (Int32 × (Nat → Int32) × (Nat → Int32))) (self_40 : Int32 → Int32 → (Nat → Int32) → (Nat → Int32) → (Nat → Int32) → Int32 → Int32 → Int32 → Option (Int32 × (Nat → Int32) × (Nat → Int32))) (v_t_barred : Int32) (v_t_rule : Int32) (f_t_least : (Nat → Int32)) (f_t_then : (Nat → Int32)) (f_t_told : (Nat → Int32)) (x1 : Int32) (x2 : Int32) (x3 : Int32) : Option (Int32 × (Nat → Int32) × (Nat → Int32)) :=
  if x1 < x3 then
    X11_canBe_b142 self_32 v_t_barred v_t_rule f_t_least f_t_then f_t_told x1 x2
  else
    if (x3 < 0 ∨ 11 ≤ x3.toNatClampNeg) then none else
      if (x2 < 0 ∨ 10 ≤ x2.toNatClampNeg) then none else
      X11_canBe_b61 self_32 self_40 fU v_t_barred v_t_rule f_t_least (upd f_t_then x3.toNatClampNeg (99 : Int32)) f_t_told x1 x2 x3 (f_t_told x2.toNatClampNeg)
def X11_canBe_b40 (self_32 : Int32 → Int32 → (Nat → Int32) → (Nat → Int32) → (Nat → Int32) → Int32 → Int32 → Option (Int32 × (Nat → Int32) × (Nat → Int32))) : Nat → Int32 → Int32 → (Nat → Int32) → (Nat → Int32) → (Nat → Int32) → Int32 → Int32 → Int32 → Option (Int32 × (Nat → Int32) × (Nat → Int32))
  | 0 => fun _ _ _ _ _ _ _ _ => none
  | n + 1 => X11_canBe_b40_s self_32 (X11_canBe_b40 self_32 n)
def X11_canBe_b173 (v_t_barred : Int32) (v_t_rule : Int32) (f_t_least : (Nat → Int32)) (f_t_then : (Nat → Int32)) (f_t_told : (Nat → Int32)) (x1 : Int32) : Option (Int32 × (Nat → Int32) × (Nat → Int32)) :=
  if (x1 < 0 ∨ 11 ≤ x1.toNatClampNeg) then none else
    if (f_t_least x1.toNatClampNeg) = 0 then
    some ((1 : Int32), f_t_least, f_t_then)
  else
    some ((0 : Int32), f_t_least, f_t_then)
def X11_canBe_b32_s (self_32 : Int32 → Int32 → (Nat → Int32) → (Nat → Int32) → (Nat → Int32) → Int32 → Int32 → Option (Int32 × (Nat → Int32) × (Nat → Int32))) (v_t_barred : Int32) (v_t_rule : Int32) (f_t_least : (Nat → Int32)) (f_t_then : (Nat → Int32)) (f_t_told : (Nat → Int32)) (x1 : Int32) (x2 : Int32) : Option (Int32 × (Nat → Int32) × (Nat → Int32)) :=
  if (10 : Int32) ≤ x2 then
    X11_canBe_b173 v_t_barred v_t_rule f_t_least f_t_then f_t_told x1
  else
    X11_canBe_b40 self_32 fU v_t_barred v_t_rule f_t_least f_t_then f_t_told x1 x2 (0 : Int32)
def X11_canBe_b32 : Nat → Int32 → Int32 → (Nat → Int32) → (Nat → Int32) → (Nat → Int32) → Int32 → Int32 → Option (Int32 × (Nat → Int32) × (Nat → Int32))
  | 0 => fun _ _ _ _ _ _ _ => none
  | n + 1 => X11_canBe_b32_s (X11_canBe_b32 n)
def X11_canBe_b30 (v_t_barred : Int32) (v_t_rule : Int32) (f_t_least : (Nat → Int32)) (f_t_then : (Nat → Int32)) (f_t_told : (Nat → Int32)) (x1 : Int32) : Option (Int32 × (Nat → Int32) × (Nat → Int32)) :=
  X11_canBe_b32 fU v_t_barred v_t_rule f_t_least f_t_then f_t_told x1 (0 : Int32)
def X11_canBe_b2_s (self_2 : Int32 → Int32 → (Nat → Int32) → (Nat → Int32) → (Nat → Int32) → Int32 → Int32 → Option (Int32 × (Nat → Int32) × (Nat → Int32))) (v_t_barred : Int32) (v_t_rule : Int32) (f_t_least : (Nat → Int32)) (f_t_then : (Nat → Int32)) (f_t_told : (Nat → Int32)) (x1 : Int32) (x2 : Int32) : Option (Int32 × (Nat → Int32) × (Nat → Int32)) :=
  if (11 : Int32) ≤ x2 then
    X11_canBe_b30 v_t_barred v_t_rule f_t_least f_t_then f_t_told x1
  else
    if x2 = 0 then
      X11_canBe_b23 self_2 v_t_barred v_t_rule f_t_least f_t_then f_t_told x1 x2 x2 (0 : Int32)
    else
      X11_canBe_b23 self_2 v_t_barred v_t_rule f_t_least f_t_then f_t_told x1 x2 x2 (99 : Int32)
def X11_canBe_b2 : Nat → Int32 → Int32 → (Nat → Int32) → (Nat → Int32) → (Nat → Int32) → Int32 → Int32 → Option (Int32 × (Nat → Int32) × (Nat → Int32))
  | 0 => fun _ _ _ _ _ _ _ => none
  | n + 1 => X11_canBe_b2_s (X11_canBe_b2 n)
def X11_canBe (v_t_barred : Int32) (v_t_rule : Int32) (f_t_least : (Nat → Int32)) (f_t_then : (Nat → Int32)) (f_t_told : (Nat → Int32)) (p1 : Int32) : Option (Int32 × (Nat → Int32) × (Nat → Int32)) :=
  X11_canBe_b2 fU v_t_barred v_t_rule f_t_least f_t_then f_t_told p1 (0 : Int32)
def X11_agreed_b107 (self_50 : Int32 → Int32 → Int32 → (Nat → Int32) → (Nat → Int32) → (Nat → Int32) → Int32 → Int32 → Int32 → Option (Int32 × (Nat → Int32) × (Nat → Int32) × (Nat → Int32))) (v_t_many : Int32) (v_t_barred : Int32) (v_t_rule : Int32) (f_t_least : (Nat → Int32)) (f_t_then : (Nat → Int32)) (f_t_told : (Nat → Int32)) (x1 : Int32) (x3 : Int32) (x4 : Int32) : Option (Int32 × (Nat → Int32) × (Nat → Int32) × (Nat → Int32)) :=
  self_50 v_t_many v_t_barred v_t_rule f_t_least f_t_then f_t_told x1 x4 (x3 + (1 : Int32))
def X11_agreed_b68_s (self_50 : Int32 → Int32 → Int32 → (Nat → Int32) → (Nat → Int32) → (Nat → Int32) → Int32 → Int32 → Int32 → Option (Int32 × (Nat → Int32) × (Nat → Int32) × (Nat → Int32))) (self_68 : Int32 → Int32 → Int32 → (Nat → Int32) → (Nat → Int32) → (Nat → Int32) → Int32 → Int32 → Int32 → Option (Int32 × (Nat → Int32) × (Nat → Int32) × (Nat → Int32))) (v_t_many : Int32) (v_t_barred : Int32) (v_t_rule : Int32) (f_t_least : (Nat → Int32)) (f_t_then : (Nat → Int32)) (f_t_told : (Nat → Int32)) (x1 : Int32) (x3 : Int32) (x4 : Int32) : Option (Int32 × (Nat → Int32) × (Nat → Int32) × (Nat → Int32)) :=
  bnd3 (X11_canBe v_t_barred v_t_rule f_t_least f_t_then f_t_told v_t_many) (fun r1 w1_1 w1_2 =>
    if r1 = 0 then
      if (x4 < 0 ∨ 10 ≤ x4.toNatClampNeg) then none else
        if (x4 < 0 ∨ 10 ≤ x4.toNatClampNeg) then none else
        if ((x4 + (1 : Int32)) < 0 ∨ 10 ≤ (x4 + (1 : Int32)).toNatClampNeg) then none else
        if ((x4 + (1 : Int32)) < 0 ∨ 10 ≤ (x4 + (1 : Int32)).toNatClampNeg) then none else
        self_68 v_t_many v_t_barred v_t_rule w1_1 w1_2 (upd (upd f_t_told x4.toNatClampNeg ((f_t_told x4.toNatClampNeg) - (1 : Int32))) (x4 + (1 : Int32)).toNatClampNeg (((upd f_t_told x4.toNatClampNeg ((f_t_told x4.toNatClampNeg) - (1 : Int32))) (x4 + (1 : Int32)).toNatClampNeg) + (1 : Int32))) x1 x3 (x4 + (1 : Int32))
    else
      X11_agreed_b107 self_50 v_t_many v_t_barred v_t_rule w1_1 w1_2 f_t_told x1 x3 x4)
def X11_agreed_b68 (self_50 : Int32 → Int32 → Int32 → (Nat → Int32) → (Nat → Int32) → (Nat → Int32) → Int32 → Int32 → Int32 → Option (Int32 × (Nat → Int32) × (Nat → Int32) × (Nat → Int32))) : Nat → Int32 → Int32 → Int32 → (Nat → Int32) → (Nat → Int32) → (Nat → Int32) → Int32 → Int32 → Int32 → Option (Int32 × (Nat → Int32) × (Nat → Int32) × (Nat → Int32))
  | 0 => fun _ _ _ _ _ _ _ _ _ => none
  | n + 1 => X11_agreed_b68_s self_50 (X11_agreed_b68 self_50 n)
def X11_agreed_b50_s (self_50 : Int32 → Int32 → Int32 → (Nat → Int32) → (Nat → Int32) → (Nat → Int32) → Int32 → Int32 → Int32 → Option (Int32 × (Nat → Int32) × (Nat → Int32) × (Nat → Int32))) (v_t_many : Int32) (v_t_barred : Int32) (v_t_rule : Int32) (f_t_least : (Nat → Int32)) (f_t_then : (Nat → Int32)) (f_t_told : (Nat → Int32)) (x1 : Int32) (x2 : Int32) (x3 : Int32) : Option (Int32 × (Nat → Int32) × (Nat → Int32) × (Nat → Int32)) :=
  if x1 < x3 then
    some (x2, f_t_least, f_t_then, f_t_told)
  else
    if ((0 : Int32) < 0 ∨ 10 ≤ (0 : Int32).toNatClampNeg) then none else
      if ((0 : Int32) < 0 ∨ 10 ≤ (0 : Int32).toNatClampNeg) then none else
      X11_agreed_b68 self_50 fU v_t_many v_t_barred v_t_rule f_t_least f_t_then (upd f_t_told (0 : Int32).toNatClampNeg ((f_t_told (0 : Int32).toNatClampNeg) + (1 : Int32))) x1 x3 (0 : Int32)
def X11_agreed_b50 : Nat → Int32 → Int32 → Int32 → (Nat → Int32) → (Nat → Int32) → (Nat → Int32) → Int32 → Int32 → Int32 → Option (Int32 × (Nat → Int32) × (Nat → Int32) × (Nat → Int32))
  | 0 => fun _ _ _ _ _ _ _ _ _ => none
  | n + 1 => X11_agreed_b50_s (X11_agreed_b50 n)
def X11_agreed_b31 (v_t_many : Int32) (v_t_barred : Int32) (v_t_rule : Int32) (f_t_least : (Nat → Int32)) (f_t_then : (Nat → Int32)) (f_t_told : (Nat → Int32)) (x1 : Int32) : Option (Int32 × (Nat → Int32) × (Nat → Int32) × (Nat → Int32)) :=
  bnd3 (X11_canBe v_t_barred v_t_rule f_t_least f_t_then f_t_told v_t_many) (fun r11 w11_1 w11_2 =>
    if r11 = 0 then
      some ((-9 : Int32), w11_1, w11_2, f_t_told)
    else
      X11_agreed_b50 fU v_t_many v_t_barred v_t_rule w11_1 w11_2 f_t_told x1 (-9 : Int32) (0 : Int32))
def X11_agreed_b12_s (self_12 : Int32 → Int32 → Int32 → (Nat → Int32) → (Nat → Int32) → (Nat → Int32) → Int32 → Int32 → Option (Int32 × (Nat → Int32) × (Nat → Int32) × (Nat → Int32))) (v_t_many : Int32) (v_t_barred : Int32) (v_t_rule : Int32) (f_t_least : (Nat → Int32)) (f_t_then : (Nat → Int32)) (f_t_told : (Nat → Int32)) (x1 : Int32) (x2 : Int32) : Option (Int32 × (Nat → Int32) × (Nat → Int32) × (Nat → Int32)) :=
  if (10 : Int32) ≤ x2 then
    X11_agreed_b31 v_t_many v_t_barred v_t_rule f_t_least f_t_then f_t_told x1
  else
    if (x2 < 0 ∨ 10 ≤ x2.toNatClampNeg) then none else
      self_12 v_t_many v_t_barred v_t_rule f_t_least f_t_then (upd f_t_told x2.toNatClampNeg (0 : Int32)) x1 (x2 + (1 : Int32))
def X11_agreed_b12 : Nat → Int32 → Int32 → Int32 → (Nat → Int32) → (Nat → Int32) → (Nat → Int32) → Int32 → Int32 → Option (Int32 × (Nat → Int32) × (Nat → Int32) × (Nat → Int32))
  | 0 => fun _ _ _ _ _ _ _ _ => none
  | n + 1 => X11_agreed_b12_s (X11_agreed_b12 n)
def X11_agreed (v_t_many : Int32) (v_t_barred : Int32) (v_t_rule : Int32) (f_t_least : (Nat → Int32)) (f_t_then : (Nat → Int32)) (f_t_told : (Nat → Int32)) (p1 : Int32) : Option (Int32 × (Nat → Int32) × (Nat → Int32) × (Nat → Int32)) :=
  if (X11_isPerson v_t_many p1) = 0 then
    some ((-1 : Int32), f_t_least, f_t_then, f_t_told)
  else
    X11_agreed_b12 fU v_t_many v_t_barred v_t_rule f_t_least f_t_then f_t_told p1 (0 : Int32)
def X11_late_b39 (self_18 : Int32 → Int32 → Int32 → Int32 → (Nat → Int32) → (Nat → Int32) → (Nat → Int32) → (Nat → Int32) → Int32 → Option (Int32 × Int32 × (Nat → Int32) × (Nat → Int32) × (Nat → Int32))) (v_t_many : Int32) (v_t_barred : Int32) (v_t_rule : Int32) (v_t_rowMany : Int32) (f_t_slips : (Nat → Int32)) (f_t_row : (Nat → Int32)) (f_t_least : (Nat → Int32)) (f_t_then : (Nat → Int32)) (x1 : Int32) (s1 : Int32) (s2 : Int32) : Option (Int32 × Int32 × (Nat → Int32) × (Nat → Int32) × (Nat → Int32)) :=
  if (s1 < 0 ∨ 11 ≤ s1.toNatClampNeg) then none else
    self_18 v_t_many v_t_barred v_t_rule v_t_rowMany f_t_slips f_t_row (upd f_t_least s1.toNatClampNeg s2) f_t_then (x1 + (1 : Int32))
def X11_late_b205 (self_55 : Int32 → Int32 → Int32 → Int32 → (Nat → Int32) → (Nat → Int32) → (Nat → Int32) → (Nat → Int32) → Int32 → Int32 → Option (Int32 × Int32 × (Nat → Int32) × (Nat → Int32) × (Nat → Int32))) (self_70 : Int32 → Int32 → Int32 → Int32 → (Nat → Int32) → (Nat → Int32) → (Nat → Int32) → (Nat → Int32) → Int32 → Int32 → Int32 → Int32 → Option (Int32 × Int32 × (Nat → Int32) × (Nat → Int32) × (Nat → Int32))) (self_93 : Int32 → Int32 → Int32 → Int32 → (Nat → Int32) → (Nat → Int32) → (Nat → Int32) → (Nat → Int32) → Int32 → Int32 → Int32 → Int32 → Int32 → Option (Int32 × Int32 × (Nat → Int32) × (Nat → Int32) × (Nat → Int32))) (v_t_many : Int32) (v_t_barred : Int32) (v_t_rule : Int32) (v_t_rowMany : Int32) (f_t_slips : (Nat → Int32)) (f_t_row : (Nat → Int32)) (f_t_least : (Nat → Int32)) (f_t_then : (Nat → Int32)) (x1 : Int32) (x2 : Int32) (x3 : Int32) (x4 : Int32) (x5 : Int32) (s1 : Int32) (s2 : Int32) : Option (Int32 × Int32 × (Nat → Int32) × (Nat → Int32) × (Nat → Int32)) :=
  if (s1 < 0 ∨ 11 ≤ s1.toNatClampNeg) then none else
    self_93 v_t_many v_t_barred v_t_rule v_t_rowMany f_t_slips f_t_row f_t_least (upd f_t_then s1.toNatClampNeg s2) x1 x2 x3 x4 (x5 + (1 : Int32))
def X11_late_b173 (self_55 : Int32 → Int32 → Int32 → Int32 → (Nat → Int32) → (Nat → Int32) → (Nat → Int32) → (Nat → Int32) → Int32 → Int32 → Option (Int32 × Int32 × (Nat → Int32) × (Nat → Int32) × (Nat → Int32))) (self_70 : Int32 → Int32 → Int32 → Int32 → (Nat → Int32) → (Nat → Int32) → (Nat → Int32) → (Nat → Int32) → Int32 → Int32 → Int32 → Int32 → Option (Int32 × Int32 × (Nat → Int32) × (Nat → Int32) × (Nat → Int32))) (self_93 : Int32 → Int32 → Int32 → Int32 → (Nat → Int32) → (Nat → Int32) → (Nat → Int32) → (Nat → Int32) → Int32 → Int32 → Int32 → Int32 → Int32 → Option (Int32 × Int32 × (Nat → Int32) × (Nat → Int32) × (Nat → Int32))) (v_t_many : Int32) (v_t_barred : Int32) (v_t_rule : Int32) (v_t_rowMany : Int32) (f_t_slips : (Nat → Int32)) (f_t_row : (Nat → Int32)) (f_t_least : (Nat → Int32)) (f_t_then : (Nat → Int32)) (x1 : Int32) (x2 : Int32) (x3 : Int32) (x4 : Int32) (x5 : Int32) (s0 : Int32) : Option (Int32 × Int32 × (Nat → Int32) × (Nat → Int32) × (Nat → Int32)) :=
  if (x4 < 0 ∨ 11 ≤ x4.toNatClampNeg) then none else
    if s0 ≤ (f_t_then x4.toNatClampNeg) then
    if (x4 < 0 ∨ 11 ≤ x4.toNatClampNeg) then none else
      X11_late_b205 self_55 self_70 self_93 v_t_many v_t_barred v_t_rule v_t_rowMany f_t_slips f_t_row f_t_least f_t_then x1 x2 x3 x4 x5 x4 (f_t_then x4.toNatClampNeg)
  else
    X11_late_b205 self_55 self_70 self_93 v_t_many v_t_barred v_t_rule v_t_rowMany f_t_slips f_t_row f_t_least f_t_then x1 x2 x3 x4 x5 x4 s0
def X11_late_b167 (self_55 : Int32 → Int32 → Int32 → Int32 → (Nat → Int32) → (Nat → Int32) → (Nat → Int32) → (Nat → Int32) → Int32 → Int32 → Option (Int32 × Int32 × (Nat → Int32) × (Nat → Int32) × (Nat → Int32))) (self_70 : Int32 → Int32 → Int32 → Int32 → (Nat → Int32) → (Nat → Int32) → (Nat → Int32) → (Nat → Int32) → Int32 → Int32 → Int32 → Int32 → Option (Int32 × Int32 × (Nat → Int32) × (Nat → Int32) × (Nat → Int32))) (self_93 : Int32 → Int32 → Int32 → Int32 → (Nat → Int32) → (Nat → Int32) → (Nat → Int32) → (Nat → Int32) → Int32 → Int32 → Int32 → Int32 → Int32 → Option (Int32 × Int32 × (Nat → Int32) × (Nat → Int32) × (Nat → Int32))) (v_t_many : Int32) (v_t_barred : Int32) (v_t_rule : Int32) (v_t_rowMany : Int32) (f_t_slips : (Nat → Int32)) (f_t_row : (Nat → Int32)) (f_t_least : (Nat → Int32)) (f_t_then : (Nat → Int32)) (x1 : Int32) (x2 : Int32) (x3 : Int32) (x4 : Int32) (x5 : Int32) (s0 : Int32) (s1 : Int32) : Option (Int32 × Int32 × (Nat → Int32) × (Nat → Int32) × (Nat → Int32)) :=
  X11_late_b173 self_55 self_70 self_93 v_t_many v_t_barred v_t_rule v_t_rowMany f_t_slips f_t_row f_t_least f_t_then x1 x2 x3 x4 x5 (s0 + s1)
def X11_late_b138 (self_55 : Int32 → Int32 → Int32 → Int32 → (Nat → Int32) → (Nat → Int32) → (Nat → Int32) → (Nat → Int32) → Int32 → Int32 → Option (Int32 × Int32 × (Nat → Int32) × (Nat → Int32) × (Nat → Int32))) (self_70 : Int32 → Int32 → Int32 → Int32 → (Nat → Int32) → (Nat → Int32) → (Nat → Int32) → (Nat → Int32) → Int32 → Int32 → Int32 → Int32 → Option (Int32 × Int32 × (Nat → Int32) × (Nat → Int32) × (Nat → Int32))) (self_93 : Int32 → Int32 → Int32 → Int32 → (Nat → Int32) → (Nat → Int32) → (Nat → Int32) → (Nat → Int32) → Int32 → Int32 → Int32 → Int32 → Int32 → Option (Int32 × Int32 × (Nat → Int32) × (Nat → Int32) × (Nat → Int32))) (v_t_many : Int32) (v_t_barred : Int32) (v_t_rule : Int32) (v_t_rowMany : Int32) (f_t_slips : (Nat → Int32)) (f_t_row : (Nat → Int32)) (f_t_least : (Nat → Int32)) (f_t_then : (Nat → Int32)) (x1 : Int32) (x2 : Int32) (x3 : Int32) (x4 : Int32) (x5 : Int32) (s0 : Int32) : Option (Int32 × Int32 × (Nat → Int32) × (Nat → Int32) × (Nat → Int32)) :=
  if s0 = 0 then
    X11_late_b173 self_55 self_70 self_93 v_t_many v_t_barred v_t_rule v_t_rowMany f_t_slips f_t_row f_t_least f_t_then x1 x2 x3 x4 x5 (-9 : Int32)
  else
    if ((x4 - x5) < 0 ∨ 11 ≤ (x4 - x5).toNatClampNeg) then none else
      if x3 ≤ x5 then
      X11_late_b167 self_55 self_70 self_93 v_t_many v_t_barred v_t_rule v_t_rowMany f_t_slips f_t_row f_t_least f_t_then x1 x2 x3 x4 x5 (f_t_least (x4 - x5).toNatClampNeg) x3
    else
      X11_late_b167 self_55 self_70 self_93 v_t_many v_t_barred v_t_rule v_t_rowMany f_t_slips f_t_row f_t_least f_t_then x1 x2 x3 x4 x5 (f_t_least (x4 - x5).toNatClampNeg) x5
def X11_late_b137 (self_55 : Int32 → Int32 → Int32 → Int32 → (Nat → Int32) → (Nat → Int32) → (Nat → Int32) → (Nat → Int32) → Int32 → Int32 → Option (Int32 × Int32 × (Nat → Int32) × (Nat → Int32) × (Nat → Int32))) (self_70 : Int32 → Int32 → Int32 → Int32 → (Nat → Int32) → (Nat → Int32) → (Nat → Int32) → (Nat → Int32) → Int32 → Int32 → Int32 → Int32 → Option (Int32 × Int32 × (Nat → Int32) × (Nat → Int32) × (Nat → Int32))) (self_93 : Int32 → Int32 → Int32 → Int32 → (Nat → Int32) → (Nat → Int32) → (Nat → Int32) → (Nat → Int32) → Int32 → Int32 → Int32 → Int32 → Int32 → Option (Int32 × Int32 × (Nat → Int32) × (Nat → Int32) × (Nat → Int32))) (v_t_many : Int32) (v_t_barred : Int32) (v_t_rule : Int32) (v_t_rowMany : Int32) (f_t_slips : (Nat → Int32)) (f_t_row : (Nat → Int32)) (f_t_least : (Nat → Int32)) (f_t_then : (Nat → Int32)) (x1 : Int32) (x2 : Int32) (x3 : Int32) (x4 : Int32) (x5 : Int32) : Option (Int32 × Int32 × (Nat → Int32) × (Nat → Int32) × (Nat → Int32)) :=
  X11_late_b138 self_55 self_70 self_93 v_t_many v_t_barred v_t_rule v_t_rowMany f_t_slips f_t_row f_t_least f_t_then x1 x2 x3 x4 x5 (0 : Int32)
def X11_late_b212 (self_55 : Int32 → Int32 → Int32 → Int32 → (Nat → Int32) → (Nat → Int32) → (Nat → Int32) → (Nat → Int32) → Int32 → Int32 → Option (Int32 × Int32 × (Nat → Int32) × (Nat → Int32) × (Nat → Int32))) (self_70 : Int32 → Int32 → Int32 → Int32 → (Nat → Int32) → (Nat → Int32) → (Nat → Int32) → (Nat → Int32) → Int32 → Int32 → Int32 → Int32 → Option (Int32 × Int32 × (Nat → Int32) × (Nat → Int32) × (Nat → Int32))) (v_t_many : Int32) (v_t_barred : Int32) (v_t_rule : Int32) (v_t_rowMany : Int32) (f_t_slips : (Nat → Int32)) (f_t_row : (Nat → Int32)) (f_t_least : (Nat → Int32)) (f_t_then : (Nat → Int32)) (x1 : Int32) (x2 : Int32) (x3 : Int32) (x4 : Int32) : Option (Int32 × Int32 × (Nat → Int32) × (Nat → Int32) × (Nat → Int32)) :=
  self_70 v_t_many v_t_barred v_t_rule v_t_rowMany f_t_slips f_t_row f_t_least f_t_then x1 x2 x3 (x4 + (1 : Int32))
def X11_late_b93_s (self_55 : Int32 → Int32 → Int32 → Int32 → (Nat → Int32) → (Nat → Int32) → (Nat → Int32) → (Nat → Int32) → Int32 → Int32 → Option (Int32 × Int32 × (Nat → Int32) × (Nat → Int32) × (Nat → Int32))) (self_70 : Int32 → Int32 → Int32 → Int32 → (Nat → Int32) → (Nat → Int32) → (Nat → Int32) → (Nat → Int32) → Int32 → Int32 → Int32 → Int32 → Option (Int32 × Int32 × (Nat → Int32) × (Nat → Int32) × (Nat → Int32))) (self_93 : Int32 → Int32 → Int32 → Int32 → (Nat → Int32) → (Nat → Int32) → (Nat → Int32) → (Nat → Int32) → Int32 → Int32 → Int32 → Int32 → Int32 → Option (Int32 × Int32 × (Nat → Int32) × (Nat → Int32) × (Nat → Int32))) (v_t_many : Int32) (v_t_barred : Int32) (v_t_rule : Int32) (v_t_rowMany : Int32) (f_t_slips : (Nat → Int32)) (f_t_row : (Nat → Int32)) (f_t_least : (Nat → Int32)) (f_t_then : (Nat → Int32)) (x1 : Int32) (x2 : Int32) (x3 : Int32) (x4 : Int32) (x5 : Int32) : Option (Int32 × Int32 × (Nat → Int32) × (Nat → Int32) × (Nat → Int32)) :=
  if x4 < x5 then
    X11_late_b212 self_55 self_70 v_t_many v_t_barred v_t_rule v_t_rowMany f_t_slips f_t_row f_t_least f_t_then x1 x2 x3 x4
  else
    if (X11_isBarred v_t_barred x2) = 0 then
      if (X11_isFine v_t_rule x2 x5) = 0 then
        X11_late_b137 self_55 self_70 self_93 v_t_many v_t_barred v_t_rule v_t_rowMany f_t_slips f_t_row f_t_least f_t_then x1 x2 x3 x4 x5
      else
        if ((x4 - x5) < 0 ∨ 11 ≤ (x4 - x5).toNatClampNeg) then none else
          if (f_t_least (x4 - x5).toNatClampNeg) = (-9 : Int32) then
          X11_late_b137 self_55 self_70 self_93 v_t_many v_t_barred v_t_rule v_t_rowMany f_t_slips f_t_row f_t_least f_t_then x1 x2 x3 x4 x5
        else
          X11_late_b138 self_55 self_70 self_93 v_t_many v_t_barred v_t_rule v_t_rowMany f_t_slips f_t_row f_t_least f_t_then x1 x2 x3 x4 x5 (1 : Int32)
    else
      X11_late_b212 self_55 self_70 v_t_many v_t_barred v_t_rule v_t_rowMany f_t_slips f_t_row f_t_least f_t_then x1 x2 x3 x4
def X11_late_b93 (self_55 : Int32 → Int32 → Int32 → Int32 → (Nat → Int32) → (Nat → Int32) → (Nat → Int32) → (Nat → Int32) → Int32 → Int32 → Option (Int32 × Int32 × (Nat → Int32) × (Nat → Int32) × (Nat → Int32))) (self_70 : Int32 → Int32 → Int32 → Int32 → (Nat → Int32) → (Nat → Int32) → (Nat → Int32) → (Nat → Int32) → Int32 → Int32 → Int32 → Int32 → Option (Int32 × Int32 × (Nat → Int32) × (Nat → Int32) × (Nat → Int32))) : Nat → Int32 → Int32 → Int32 → Int32 → (Nat → Int32) → (Nat → Int32) → (Nat → Int32) → (Nat → Int32) → Int32 → Int32 → Int32 → Int32 → Int32 → Option (Int32 × Int32 × (Nat → Int32) × (Nat → Int32) × (Nat → Int32))
  | 0 => fun _ _ _ _ _ _ _ _ _ _ _ _ _ => none
  | n + 1 => X11_late_b93_s self_55 self_70 (X11_late_b93 self_55 self_70 n)
def X11_late_b247 (self_55 : Int32 → Int32 → Int32 → Int32 → (Nat → Int32) → (Nat → Int32) → (Nat → Int32) → (Nat → Int32) → Int32 → Int32 → Option (Int32 × Int32 × (Nat → Int32) × (Nat → Int32) × (Nat → Int32))) (v_t_many : Int32) (v_t_barred : Int32) (v_t_rule : Int32) (v_t_rowMany : Int32) (f_t_slips : (Nat → Int32)) (f_t_row : (Nat → Int32)) (f_t_least : (Nat → Int32)) (f_t_then : (Nat → Int32)) (x1 : Int32) (x2 : Int32) : Option (Int32 × Int32 × (Nat → Int32) × (Nat → Int32) × (Nat → Int32)) :=
  self_55 v_t_many v_t_barred v_t_rule v_t_rowMany f_t_slips f_t_row f_t_least f_t_then x1 (x2 + (1 : Int32))
def X11_late_b221_s (self_55 : Int32 → Int32 → Int32 → Int32 → (Nat → Int32) → (Nat → Int32) → (Nat → Int32) → (Nat → Int32) → Int32 → Int32 → Option (Int32 × Int32 × (Nat → Int32) × (Nat → Int32) × (Nat → Int32))) (self_221 : Int32 → Int32 → Int32 → Int32 → (Nat → Int32) → (Nat → Int32) → (Nat → Int32) → (Nat → Int32) → Int32 → Int32 → Int32 → Option (Int32 × Int32 × (Nat → Int32) × (Nat → Int32) × (Nat → Int32))) (v_t_many : Int32) (v_t_barred : Int32) (v_t_rule : Int32) (v_t_rowMany : Int32) (f_t_slips : (Nat → Int32)) (f_t_row : (Nat → Int32)) (f_t_least : (Nat → Int32)) (f_t_then : (Nat → Int32)) (x1 : Int32) (x2 : Int32) (x4 : Int32) : Option (Int32 × Int32 × (Nat → Int32) × (Nat → Int32) × (Nat → Int32)) :=
  if x1 < x4 then
    X11_late_b247 self_55 v_t_many v_t_barred v_t_rule v_t_rowMany f_t_slips f_t_row f_t_least f_t_then x1 x2
  else
    if (x4 < 0 ∨ 11 ≤ x4.toNatClampNeg) then none else
      if (x4 < 0 ∨ 11 ≤ x4.toNatClampNeg) then none else
      self_221 v_t_many v_t_barred v_t_rule v_t_rowMany f_t_slips f_t_row (upd f_t_least x4.toNatClampNeg (f_t_then x4.toNatClampNeg)) f_t_then x1 x2 (x4 + (1 : Int32))
def X11_late_b221 (self_55 : Int32 → Int32 → Int32 → Int32 → (Nat → Int32) → (Nat → Int32) → (Nat → Int32) → (Nat → Int32) → Int32 → Int32 → Option (Int32 × Int32 × (Nat → Int32) × (Nat → Int32) × (Nat → Int32))) : Nat → Int32 → Int32 → Int32 → Int32 → (Nat → Int32) → (Nat → Int32) → (Nat → Int32) → (Nat → Int32) → Int32 → Int32 → Int32 → Option (Int32 × Int32 × (Nat → Int32) × (Nat → Int32) × (Nat → Int32))
  | 0 => fun _ _ _ _ _ _ _ _ _ _ _ => none
  | n + 1 => X11_late_b221_s self_55 (X11_late_b221 self_55 n)
def X11_late_b218 (self_55 : Int32 → Int32 → Int32 → Int32 → (Nat → Int32) → (Nat → Int32) → (Nat → Int32) → (Nat → Int32) → Int32 → Int32 → Option (Int32 × Int32 × (Nat → Int32) × (Nat → Int32) × (Nat → Int32))) (v_t_many : Int32) (v_t_barred : Int32) (v_t_rule : Int32) (v_t_rowMany : Int32) (f_t_slips : (Nat → Int32)) (f_t_row : (Nat → Int32)) (f_t_least : (Nat → Int32)) (f_t_then : (Nat → Int32)) (x1 : Int32) (x2 : Int32) : Option (Int32 × Int32 × (Nat → Int32) × (Nat → Int32) × (Nat → Int32)) :=
  X11_late_b221 self_55 fU v_t_many v_t_barred v_t_rule v_t_rowMany f_t_slips f_t_row f_t_least f_t_then x1 x2 (0 : Int32)
def X11_late_b70_s (self_55 : Int32 → Int32 → Int32 → Int32 → (Nat → Int32) → (Nat → Int32) → (Nat → Int32) → (Nat → Int32) → Int32 → Int32 → Option (Int32 × Int32 × (Nat → Int32) × (Nat → Int32) × (Nat → Int32))) (self_70 : Int32 → Int32 → Int32 → Int32 → (Nat → Int32) → (Nat → Int32) → (Nat → Int32) → (Nat → Int32) → Int32 → Int32 → Int32 → Int32 → Option (Int32 × Int32 × (Nat → Int32) × (Nat → Int32) × (Nat → Int32))) (v_t_many : Int32) (v_t_barred : Int32) (v_t_rule : Int32) (v_t_rowMany : Int32) (f_t_slips : (Nat → Int32)) (f_t_row : (Nat → Int32)) (f_t_least : (Nat → Int32)) (f_t_then : (Nat → Int32)) (x1 : Int32) (x2 : Int32) (x3 : Int32) (x4 : Int32) : Option (Int32 × Int32 × (Nat → Int32) × (Nat → Int32) × (Nat → Int32)) :=
  if x1 < x4 then
    X11_late_b218 self_55 v_t_many v_t_barred v_t_rule v_t_rowMany f_t_slips f_t_row f_t_least f_t_then x1 x2
  else
    if (x4 < 0 ∨ 11 ≤ x4.toNatClampNeg) then none else
      if (x4 < 0 ∨ 11 ≤ x4.toNatClampNeg) then none else
      X11_late_b93 self_55 self_70 fU v_t_many v_t_barred v_t_rule v_t_rowMany f_t_slips f_t_row f_t_least (upd f_t_then x4.toNatClampNeg (f_t_least x4.toNatClampNeg)) x1 x2 x3 x4 (1 : Int32)
def X11_late_b70 (self_55 : Int32 → Int32 → Int32 → Int32 → (Nat → Int32) → (Nat → Int32) → (Nat → Int32) → (Nat → Int32) → Int32 → Int32 → Option (Int32 × Int32 × (Nat → Int32) × (Nat → Int32) × (Nat → Int32))) : Nat → Int32 → Int32 → Int32 → Int32 → (Nat → Int32) → (Nat → Int32) → (Nat → Int32) → (Nat → Int32) → Int32 → Int32 → Int32 → Int32 → Option (Int32 × Int32 × (Nat → Int32) × (Nat → Int32) × (Nat → Int32))
  | 0 => fun _ _ _ _ _ _ _ _ _ _ _ _ => none
  | n + 1 => X11_late_b70_s self_55 (X11_late_b70 self_55 n)
def X11_late_b253 (v_t_many : Int32) (v_t_barred : Int32) (v_t_rule : Int32) (v_t_rowMany : Int32) (f_t_slips : (Nat → Int32)) (f_t_row : (Nat → Int32)) (f_t_least : (Nat → Int32)) (f_t_then : (Nat → Int32)) (x1 : Int32) : Option (Int32 × Int32 × (Nat → Int32) × (Nat → Int32) × (Nat → Int32)) :=
  if (x1 < 0 ∨ 11 ≤ x1.toNatClampNeg) then none else
    if (f_t_least x1.toNatClampNeg) = (-9 : Int32) then
    some ((-9 : Int32), v_t_rowMany, f_t_row, f_t_least, f_t_then)
  else
    if (x1 < 0 ∨ 11 ≤ x1.toNatClampNeg) then none else
      some ((v_t_many - (f_t_least x1.toNatClampNeg)), v_t_rowMany, f_t_row, f_t_least, f_t_then)
def X11_late_b55_s (self_55 : Int32 → Int32 → Int32 → Int32 → (Nat → Int32) → (Nat → Int32) → (Nat → Int32) → (Nat → Int32) → Int32 → Int32 → Option (Int32 × Int32 × (Nat → Int32) × (Nat → Int32) × (Nat → Int32))) (v_t_many : Int32) (v_t_barred : Int32) (v_t_rule : Int32) (v_t_rowMany : Int32) (f_t_slips : (Nat → Int32)) (f_t_row : (Nat → Int32)) (f_t_least : (Nat → Int32)) (f_t_then : (Nat → Int32)) (x1 : Int32) (x2 : Int32) : Option (Int32 × Int32 × (Nat → Int32) × (Nat → Int32) × (Nat → Int32)) :=
  if (10 : Int32) ≤ x2 then
    X11_late_b253 v_t_many v_t_barred v_t_rule v_t_rowMany f_t_slips f_t_row f_t_least f_t_then x1
  else
    bnd1 (X11_wroteIn v_t_rowMany f_t_row x2) (fun r26 =>
      X11_late_b70 self_55 fU v_t_many v_t_barred v_t_rule v_t_rowMany f_t_slips f_t_row f_t_least f_t_then x1 x2 r26 (0 : Int32))
def X11_late_b55 : Nat → Int32 → Int32 → Int32 → Int32 → (Nat → Int32) → (Nat → Int32) → (Nat → Int32) → (Nat → Int32) → Int32 → Int32 → Option (Int32 × Int32 × (Nat → Int32) × (Nat → Int32) × (Nat → Int32))
  | 0 => fun _ _ _ _ _ _ _ _ _ _ => none
  | n + 1 => X11_late_b55_s (X11_late_b55 n)
def X11_late_b46 (v_t_many : Int32) (v_t_barred : Int32) (v_t_rule : Int32) (v_t_rowMany : Int32) (f_t_slips : (Nat → Int32)) (f_t_row : (Nat → Int32)) (f_t_least : (Nat → Int32)) (f_t_then : (Nat → Int32))  : Option (Int32 × Int32 × (Nat → Int32) × (Nat → Int32) × (Nat → Int32)) :=
  X11_late_b55 fU v_t_many v_t_barred v_t_rule v_t_rowMany f_t_slips f_t_row f_t_least f_t_then (v_t_many + (1 : Int32)) (0 : Int32)
def X11_late_b18_s (self_18 : Int32 → Int32 → Int32 → Int32 → (Nat → Int32) → (Nat → Int32) → (Nat → Int32) → (Nat → Int32) → Int32 → Option (Int32 × Int32 × (Nat → Int32) × (Nat → Int32) × (Nat → Int32))) (v_t_many : Int32) (v_t_barred : Int32) (v_t_rule : Int32) (v_t_rowMany : Int32) (f_t_slips : (Nat → Int32)) (f_t_row : (Nat → Int32)) (f_t_least : (Nat → Int32)) (f_t_then : (Nat → Int32)) (x1 : Int32) : Option (Int32 × Int32 × (Nat → Int32) × (Nat → Int32) × (Nat → Int32)) :=
  if (11 : Int32) ≤ x1 then
    X11_late_b46 v_t_many v_t_barred v_t_rule v_t_rowMany f_t_slips f_t_row f_t_least f_t_then
  else
    if x1 = 0 then
      X11_late_b39 self_18 v_t_many v_t_barred v_t_rule v_t_rowMany f_t_slips f_t_row f_t_least f_t_then x1 x1 (0 : Int32)
    else
      X11_late_b39 self_18 v_t_many v_t_barred v_t_rule v_t_rowMany f_t_slips f_t_row f_t_least f_t_then x1 x1 (-9 : Int32)
def X11_late_b18 : Nat → Int32 → Int32 → Int32 → Int32 → (Nat → Int32) → (Nat → Int32) → (Nat → Int32) → (Nat → Int32) → Int32 → Option (Int32 × Int32 × (Nat → Int32) × (Nat → Int32) × (Nat → Int32))
  | 0 => fun _ _ _ _ _ _ _ _ _ => none
  | n + 1 => X11_late_b18_s (X11_late_b18 n)
def X11_late (v_t_many : Int32) (v_t_barred : Int32) (v_t_rule : Int32) (v_t_rowMany : Int32) (f_t_slips : (Nat → Int32)) (f_t_row : (Nat → Int32)) (f_t_least : (Nat → Int32)) (f_t_then : (Nat → Int32))  : Option (Int32 × Int32 × (Nat → Int32) × (Nat → Int32) × (Nat → Int32)) :=
  if v_t_many = (9 : Int32) then
    some ((-4 : Int32), v_t_rowMany, f_t_row, f_t_least, f_t_then)
  else
    bnd2 (X11_takeSlips v_t_many v_t_rowMany f_t_slips f_t_row) (fun w30_0 w30_1 =>
      X11_late_b18 fU v_t_many v_t_barred v_t_rule w30_0 f_t_slips w30_1 f_t_least f_t_then (0 : Int32))
def X11_tenths (f_t_tens : (Nat → Int32)) (p1 : Int32) (p2 : Int32) : Option (Int32 × (Nat → Int32)) :=
  if (X11_in p1.toInt64 (0 : Int64) (9 : Int64)) = 0 then
    some ((-2 : Int32), f_t_tens)
  else
    if (X11_in p2.toInt64 (0 : Int64) (10 : Int64)) = 0 then
      some ((-2 : Int32), f_t_tens)
    else
      if (p1 < 0 ∨ 10 ≤ p1.toNatClampNeg) then none else
        if (p1 < 0 ∨ 10 ≤ p1.toNatClampNeg) then none else
        some ((f_t_tens p1.toNatClampNeg), (upd f_t_tens p1.toNatClampNeg p2))
def X11_areTen_b25 (f_t_tens : (Nat → Int32)) (x1 : Int32) : Option (Int32) :=
  if x1 = (10 : Int32) then
    some (1 : Int32)
  else
    some (0 : Int32)
def X11_areTen_b4_s (self_4 : (Nat → Int32) → Int32 → Int32 → Option (Int32)) (f_t_tens : (Nat → Int32)) (x1 : Int32) (x2 : Int32) : Option (Int32) :=
  if (10 : Int32) ≤ x2 then
    X11_areTen_b25 f_t_tens x1
  else
    if (x2 < 0 ∨ 10 ≤ x2.toNatClampNeg) then none else
      self_4 f_t_tens (x1 + (f_t_tens x2.toNatClampNeg)) (x2 + (1 : Int32))
def X11_areTen_b4 : Nat → (Nat → Int32) → Int32 → Int32 → Option (Int32)
  | 0 => fun _ _ _ => none
  | n + 1 => X11_areTen_b4_s (X11_areTen_b4 n)
def X11_areTen (f_t_tens : (Nat → Int32))  : Option (Int32) :=
  X11_areTen_b4 fU f_t_tens (0 : Int32) (0 : Int32)
def X11_part_b31  (x0 : Int64) (x2 : Int64) (x4 : Int32) (x5 : Int64) : Option (Int64) :=
  if x4 = 0 then
    if x5 = 0 then none else
      some (x2 / x5)
  else
    if x5 = 0 then none else
      some (x0 / x5)
def X11_part_b6_s (self_6 : Int64 → Int64 → Int32 → Int64 → Int64 → Option (Int64))  (x0 : Int64) (x2 : Int64) (x4 : Int32) (x5 : Int64) (x7 : Int64) : Option (Int64) :=
  if (lg_cmp x7 (0 : Int64)) = 0 then
    X11_part_b31 x0 x2 x4 x5
  else
    if x7 = 0 then none else
      self_6 x0 x2 x4 x7 (x5 - x5 / x7 * x7)
def X11_part_b6 : Nat → Int64 → Int64 → Int32 → Int64 → Int64 → Option (Int64)
  | 0 => fun _ _ _ _ _ => none
  | n + 1 => X11_part_b6_s (X11_part_b6 n)
def X11_part  (p0 : Int64) (p2 : Int64) (p4 : Int32) : Option (Int64) :=
  X11_part_b6 fU p0 p2 p4 p0 p2
def X11_allRight (v_t_barred : Int32) (v_t_rule : Int32) (f_t_sums : (Nat → Int64)) (f_t_spare : (Nat → Int64)) (f_t_tens : (Nat → Int32)) (p1 : Int32) (p2 : Int32) : Option (Int64 × (Nat → Int64) × (Nat → Int64)) :=
  if (X11_in p1.toInt64 (0 : Int64) (9 : Int64)) = 0 then
    some ((-2 : Int64), f_t_sums, f_t_spare)
  else
    bnd1 (X11_areTen f_t_tens) (fun r3 =>
      if r3 = 0 then
        some ((-3 : Int64), f_t_sums, f_t_spare)
      else
        bnd3 (X11_layWays v_t_barred v_t_rule f_t_sums f_t_spare f_t_tens p1 (1 : Int32)) (fun r6 w6_1 w6_2 =>
          bnd1 (X11_power (10 : Int32) p1) (fun r7 =>
            bnd1 (X11_part r6 r7 p2) (fun r8 =>
              some (r8, w6_1, w6_2)))))
def X11_mean_b105 (self_32 : Int32 → (Nat → Int32) → Int32 → Int32 → Int64 → Int32 → Option (Int64)) (self_42 : Int32 → (Nat → Int32) → Int32 → Int32 → Int64 → Int32 → Int32 → Option (Int64)) (v_t_rule : Int32) (f_t_tens : (Nat → Int32)) (x1 : Int32) (x2 : Int32) (x5 : Int32) (x6 : Int32) (s0 : Int64) (s1 : Int64) : Option (Int64) :=
  self_42 v_t_rule f_t_tens x1 x2 (s0 + s1) x5 (x6 + (1 : Int32))
def X11_mean_b113 (self_32 : Int32 → (Nat → Int32) → Int32 → Int32 → Int64 → Int32 → Option (Int64)) (v_t_rule : Int32) (f_t_tens : (Nat → Int32)) (x1 : Int32) (x2 : Int32) (x3 : Int64) (x5 : Int32) : Option (Int64) :=
  self_32 v_t_rule f_t_tens x1 x2 x3 (x5 + (1 : Int32))
def X11_mean_b42_s (self_32 : Int32 → (Nat → Int32) → Int32 → Int32 → Int64 → Int32 → Option (Int64)) (self_42 : Int32 → (Nat → Int32) → Int32 → Int32 → Int64 → Int32 → Int32 → Option (Int64)) (v_t_rule : Int32) (f_t_tens : (Nat → Int32)) (x1 : Int32) (x2 : Int32) (x3 : Int64) (x5 : Int32) (x6 : Int32) : Option (Int64) :=
  if x1 < x6 then
    X11_mean_b113 self_32 v_t_rule f_t_tens x1 x2 x3 x5
  else
    if (X11_isFine v_t_rule x5 x6) = 0 then
      X11_mean_b105 self_32 self_42 v_t_rule f_t_tens x1 x2 x5 x6 x3 (0 : Int64)
    else
      bnd1 (X11_over x1 x6) (fun r4 =>
        if (x5 < 0 ∨ 10 ≤ x5.toNatClampNeg) then none else
          bnd1 (X11_power (f_t_tens x5.toNatClampNeg) x6) (fun r6 =>
          if (x5 < 0 ∨ 10 ≤ x5.toNatClampNeg) then none else
            bnd1 (X11_power ((10 : Int32) - (f_t_tens x5.toNatClampNeg)) (x1 - x6)) (fun r8 =>
            X11_mean_b105 self_32 self_42 v_t_rule f_t_tens x1 x2 x5 x6 x3 (((x6.toInt64 * r4) * r6) * r8))))
def X11_mean_b42 (self_32 : Int32 → (Nat → Int32) → Int32 → Int32 → Int64 → Int32 → Option (Int64)) : Nat → Int32 → (Nat → Int32) → Int32 → Int32 → Int64 → Int32 → Int32 → Option (Int64)
  | 0 => fun _ _ _ _ _ _ _ => none
  | n + 1 => X11_mean_b42_s self_32 (X11_mean_b42 self_32 n)
def X11_mean_b119 (v_t_rule : Int32) (f_t_tens : (Nat → Int32)) (x1 : Int32) (x2 : Int32) (x3 : Int64) : Option (Int64) :=
  bnd1 (X11_power (10 : Int32) x1) (fun r9 =>
    bnd1 (X11_part x3 r9 x2) (fun r10 =>
      some r10))
def X11_mean_b32_s (self_32 : Int32 → (Nat → Int32) → Int32 → Int32 → Int64 → Int32 → Option (Int64)) (v_t_rule : Int32) (f_t_tens : (Nat → Int32)) (x1 : Int32) (x2 : Int32) (x3 : Int64) (x5 : Int32) : Option (Int64) :=
  if (10 : Int32) ≤ x5 then
    X11_mean_b119 v_t_rule f_t_tens x1 x2 x3
  else
    X11_mean_b42 self_32 fU v_t_rule f_t_tens x1 x2 x3 x5 (1 : Int32)
def X11_mean_b32 : Nat → Int32 → (Nat → Int32) → Int32 → Int32 → Int64 → Int32 → Option (Int64)
  | 0 => fun _ _ _ _ _ _ => none
  | n + 1 => X11_mean_b32_s (X11_mean_b32 n)
def X11_mean (v_t_rule : Int32) (f_t_tens : (Nat → Int32)) (p1 : Int32) (p2 : Int32) : Option (Int64) :=
  if (X11_in p1.toInt64 (0 : Int64) (9 : Int64)) = 0 then
    some (-2 : Int64)
  else
    bnd1 (X11_areTen f_t_tens) (fun r14 =>
      if r14 = 0 then
        some (-3 : Int64)
      else
        X11_mean_b32 fU v_t_rule f_t_tens p1 p2 (0 : Int64) (0 : Int32))
def X11_forget_b111 (self_52 : Int32 → Int32 → Int32 → (Nat → Int32) → (Nat → Int32) → Int32 → Int32 → Int32 → Int32 → Int64 → Int32 → Option (Int64 × Int32 × (Nat → Int32))) (v_t_many : Int32) (v_t_rule : Int32) (v_t_rowMany : Int32) (f_t_slips : (Nat → Int32)) (f_t_row : (Nat → Int32)) (x1 : Int32) (x2 : Int32) (x3 : Int32) (x4 : Int32) (x7 : Int32) (s0 : Int64) (s1 : Int64) : Option (Int64 × Int32 × (Nat → Int32)) :=
  self_52 v_t_many v_t_rule v_t_rowMany f_t_slips f_t_row x1 x2 x3 x4 (s0 + s1) (x7 + (1 : Int32))
def X11_forget_b120 (v_t_many : Int32) (v_t_rule : Int32) (v_t_rowMany : Int32) (f_t_slips : (Nat → Int32)) (f_t_row : (Nat → Int32)) (x3 : Int32) (x4 : Int32) (x5 : Int64) : Option (Int64 × Int32 × (Nat → Int32)) :=
  bnd1 (X11_power (10 : Int32) (x4 + (1 : Int32))) (fun r1 =>
    bnd1 (X11_part x5 r1 x3) (fun r2 =>
      some (r2, v_t_rowMany, f_t_row)))
def X11_forget_b52_s (self_52 : Int32 → Int32 → Int32 → (Nat → Int32) → (Nat → Int32) → Int32 → Int32 → Int32 → Int32 → Int64 → Int32 → Option (Int64 × Int32 × (Nat → Int32))) (v_t_many : Int32) (v_t_rule : Int32) (v_t_rowMany : Int32) (f_t_slips : (Nat → Int32)) (f_t_row : (Nat → Int32)) (x1 : Int32) (x2 : Int32) (x3 : Int32) (x4 : Int32) (x5 : Int64) (x7 : Int32) : Option (Int64 × Int32 × (Nat → Int32)) :=
  if x4 < x7 then
    X11_forget_b120 v_t_many v_t_rule v_t_rowMany f_t_slips f_t_row x3 x4 x5
  else
    if (x1 < 0 ∨ 9 ≤ x1.toNatClampNeg) then none else
      if (X11_isFine v_t_rule (f_t_slips x1.toNatClampNeg) (x7 + (1 : Int32))) = 0 then
      X11_forget_b111 self_52 v_t_many v_t_rule v_t_rowMany f_t_slips f_t_row x1 x2 x3 x4 x7 x5 (0 : Int64)
    else
      bnd1 (X11_over x4 x7) (fun r7 =>
        bnd1 (X11_power ((10 : Int32) - x2) (x7 + (1 : Int32))) (fun r8 =>
          bnd1 (X11_power x2 (x4 - x7)) (fun r9 =>
            X11_forget_b111 self_52 v_t_many v_t_rule v_t_rowMany f_t_slips f_t_row x1 x2 x3 x4 x7 x5 ((r7 * r8) * r9))))
def X11_forget_b52 : Nat → Int32 → Int32 → Int32 → (Nat → Int32) → (Nat → Int32) → Int32 → Int32 → Int32 → Int32 → Int64 → Int32 → Option (Int64 × Int32 × (Nat → Int32))
  | 0 => fun _ _ _ _ _ _ _ _ _ _ _ => none
  | n + 1 => X11_forget_b52_s (X11_forget_b52 n)
def X11_forget (v_t_many : Int32) (v_t_rule : Int32) (v_t_rowMany : Int32) (f_t_slips : (Nat → Int32)) (f_t_row : (Nat → Int32)) (p1 : Int32) (p2 : Int32) (p3 : Int32) : Option (Int64 × Int32 × (Nat → Int32)) :=
  if (X11_isPerson v_t_many p1) = 0 then
    some ((-1 : Int64), v_t_rowMany, f_t_row)
  else
    if (X11_in p2.toInt64 (0 : Int64) (10 : Int64)) = 0 then
      some ((-2 : Int64), v_t_rowMany, f_t_row)
    else
      bnd2 (X11_takeSlips v_t_many v_t_rowMany f_t_slips f_t_row) (fun w14_0 w14_1 =>
        if (p1 < 0 ∨ 9 ≤ p1.toNatClampNeg) then none else
          bnd1 (X11_wroteIn w14_0 w14_1 (f_t_slips p1.toNatClampNeg)) (fun r16 =>
          X11_forget_b52 fU v_t_many v_t_rule w14_0 f_t_slips w14_1 p1 p2 p3 (r16 - (1 : Int32)) (0 : Int64) (0 : Int32)))
def X11_rests_b94 (self_24 : Int32 → Int32 → Int32 → Int32 → Int32 → (Nat → Int32) → Int32 → Int32 → Int32 → Option (Int32 × Int32 × (Nat → Int32))) (self_45 : Int32 → Int32 → Int32 → Int32 → Int32 → (Nat → Int32) → Int32 → Int32 → Int32 → Int32 → Int32 → Int32 → Option (Int32 × Int32 × (Nat → Int32))) (v_t_barred : Int32) (v_t_rule : Int32) (v_t_share : Int32) (v_t_pot : Int32) (v_t_rowMany : Int32) (f_t_row : (Nat → Int32)) (x1 : Int32) (x2 : Int32) (x3 : Int32) (x4 : Int32) (x6 : Int32) (s0 : Int32) : Option (Int32 × Int32 × (Nat → Int32)) :=
  self_45 v_t_barred v_t_rule v_t_share v_t_pot v_t_rowMany f_t_row x1 x2 x3 x4 s0 (x6 + (1 : Int32))
def X11_rests_b93 (self_24 : Int32 → Int32 → Int32 → Int32 → Int32 → (Nat → Int32) → Int32 → Int32 → Int32 → Option (Int32 × Int32 × (Nat → Int32))) (self_45 : Int32 → Int32 → Int32 → Int32 → Int32 → (Nat → Int32) → Int32 → Int32 → Int32 → Int32 → Int32 → Int32 → Option (Int32 × Int32 × (Nat → Int32))) (v_t_barred : Int32) (v_t_rule : Int32) (v_t_share : Int32) (v_t_pot : Int32) (v_t_rowMany : Int32) (f_t_row : (Nat → Int32)) (x1 : Int32) (x2 : Int32) (x3 : Int32) (x4 : Int32) (x6 : Int32) : Option (Int32 × Int32 × (Nat → Int32)) :=
  X11_rests_b94 self_24 self_45 v_t_barred v_t_rule v_t_share v_t_pot v_t_rowMany f_t_row x1 x2 x3 x4 x6 (0 : Int32)
def X11_rests_b137 (self_24 : Int32 → Int32 → Int32 → Int32 → Int32 → (Nat → Int32) → Int32 → Int32 → Int32 → Option (Int32 × Int32 × (Nat → Int32))) (self_105 : Int32 → Int32 → Int32 → Int32 → Int32 → (Nat → Int32) → Int32 → Int32 → Int32 → Int32 → Int32 → Option (Int32 × Int32 × (Nat → Int32))) (v_t_barred : Int32) (v_t_rule : Int32) (v_t_share : Int32) (v_t_pot : Int32) (v_t_rowMany : Int32) (f_t_row : (Nat → Int32)) (x1 : Int32) (x2 : Int32) (x3 : Int32) (x6 : Int32) (s0 : Int32) : Option (Int32 × Int32 × (Nat → Int32)) :=
  self_105 v_t_barred v_t_rule v_t_share v_t_pot v_t_rowMany f_t_row x1 x2 x3 s0 (x6 + (1 : Int32))
def X11_rests_b156 (self_24 : Int32 → Int32 → Int32 → Int32 → Int32 → (Nat → Int32) → Int32 → Int32 → Int32 → Option (Int32 × Int32 × (Nat → Int32))) (v_t_barred : Int32) (v_t_rule : Int32) (v_t_share : Int32) (v_t_pot : Int32) (v_t_rowMany : Int32) (f_t_row : (Nat → Int32)) (x1 : Int32) (x3 : Int32) (s0 : Int32) (s1 : Int32) : Option (Int32 × Int32 × (Nat → Int32)) :=
  self_24 v_t_barred v_t_rule v_t_share v_t_pot v_t_rowMany f_t_row x1 (s0 + s1) (x3 + (1 : Int32))
def X11_rests_b145 (self_24 : Int32 → Int32 → Int32 → Int32 → Int32 → (Nat → Int32) → Int32 → Int32 → Int32 → Option (Int32 × Int32 × (Nat → Int32))) (v_t_barred : Int32) (v_t_rule : Int32) (v_t_share : Int32) (v_t_pot : Int32) (v_t_rowMany : Int32) (f_t_row : (Nat → Int32)) (x1 : Int32) (x2 : Int32) (x3 : Int32) (x5 : Int32) : Option (Int32 × Int32 × (Nat → Int32)) :=
  if x5 = 0 then
    X11_rests_b156 self_24 v_t_barred v_t_rule v_t_share v_t_pot v_t_rowMany f_t_row x1 x3 x2 (0 : Int32)
  else
    X11_rests_b156 self_24 v_t_barred v_t_rule v_t_share v_t_pot v_t_rowMany f_t_row x1 x3 x2 (1 : Int32)
def X11_rests_b105_s (self_24 : Int32 → Int32 → Int32 → Int32 → Int32 → (Nat → Int32) → Int32 → Int32 → Int32 → Option (Int32 × Int32 × (Nat → Int32))) (self_105 : Int32 → Int32 → Int32 → Int32 → Int32 → (Nat → Int32) → Int32 → Int32 → Int32 → Int32 → Int32 → Option (Int32 × Int32 × (Nat → Int32))) (v_t_barred : Int32) (v_t_rule : Int32) (v_t_share : Int32) (v_t_pot : Int32) (v_t_rowMany : Int32) (f_t_row : (Nat → Int32)) (x1 : Int32) (x2 : Int32) (x3 : Int32) (x5 : Int32) (x6 : Int32) : Option (Int32 × Int32 × (Nat → Int32)) :=
  if x1 ≤ x6 then
    X11_rests_b145 self_24 v_t_barred v_t_rule v_t_share v_t_pot v_t_rowMany f_t_row x1 x2 x3 x5
  else
    if x5 = 0 then
      X11_rests_b145 self_24 v_t_barred v_t_rule v_t_share v_t_pot v_t_rowMany f_t_row x1 x2 x3 x5
    else
      bnd2 (X11_wantOf v_t_barred v_t_rule v_t_share v_t_pot v_t_rowMany f_t_row x6) (fun r4 w4_1 =>
        if (x6 < 0 ∨ 10 ≤ x6.toNatClampNeg) then none else
          if r4 = (w4_1 x6.toNatClampNeg) then
          X11_rests_b137 self_24 self_105 v_t_barred v_t_rule v_t_share v_t_pot v_t_rowMany w4_1 x1 x2 x3 x6 (1 : Int32)
        else
          X11_rests_b137 self_24 self_105 v_t_barred v_t_rule v_t_share v_t_pot v_t_rowMany w4_1 x1 x2 x3 x6 (0 : Int32))
def X11_rests_b105 (self_24 : Int32 → Int32 → Int32 → Int32 → Int32 → (Nat → Int32) → Int32 → Int32 → Int32 → Option (Int32 × Int32 × (Nat → Int32))) : Nat → Int32 → Int32 → Int32 → Int32 → Int32 → (Nat → Int32) → Int32 → Int32 → Int32 → Int32 → Int32 → Option (Int32 × Int32 × (Nat → Int32))
  | 0 => fun _ _ _ _ _ _ _ _ _ _ _ => none
  | n + 1 => X11_rests_b105_s self_24 (X11_rests_b105 self_24 n)
def X11_rests_b102 (self_24 : Int32 → Int32 → Int32 → Int32 → Int32 → (Nat → Int32) → Int32 → Int32 → Int32 → Option (Int32 × Int32 × (Nat → Int32))) (v_t_barred : Int32) (v_t_rule : Int32) (v_t_share : Int32) (v_t_pot : Int32) (v_t_rowMany : Int32) (f_t_row : (Nat → Int32)) (x1 : Int32) (x2 : Int32) (x3 : Int32) (x5 : Int32) : Option (Int32 × Int32 × (Nat → Int32)) :=
  X11_rests_b105 self_24 fU v_t_barred v_t_rule v_t_share v_t_pot v_t_rowMany f_t_row x1 x2 x3 x5 (0 : Int32)
def X11_rests_b45_s (self_24 : Int32 → Int32 → Int32 → Int32 → Int32 → (Nat → Int32) → Int32 → Int32 → Int32 → Option (Int32 × Int32 × (Nat → Int32))) (self_45 : Int32 → Int32 → Int32 → Int32 → Int32 → (Nat → Int32) → Int32 → Int32 → Int32 → Int32 → Int32 → Int32 → Option (Int32 × Int32 × (Nat → Int32))) (v_t_barred : Int32) (v_t_rule : Int32) (v_t_share : Int32) (v_t_pot : Int32) (v_t_rowMany : Int32) (f_t_row : (Nat → Int32)) (x1 : Int32) (x2 : Int32) (x3 : Int32) (x4 : Int32) (x5 : Int32) (x6 : Int32) : Option (Int32 × Int32 × (Nat → Int32)) :=
  if x1 ≤ x6 then
    X11_rests_b102 self_24 v_t_barred v_t_rule v_t_share v_t_pot v_t_rowMany f_t_row x1 x2 x3 x5
  else
    if (x6 < 0 ∨ 10 ≤ x6.toNatClampNeg) then none else
      if x5 = 0 then
      X11_rests_b93 self_24 self_45 v_t_barred v_t_rule v_t_share v_t_pot v_t_rowMany (upd f_t_row x6.toNatClampNeg (x4 - x4 / (10 : Int32) * (10 : Int32))) x1 x2 x3 (x4 / (10 : Int32)) x6
    else
      if (x6 < 0 ∨ 10 ≤ x6.toNatClampNeg) then none else
        if (X11_isBarred v_t_barred ((upd f_t_row x6.toNatClampNeg (x4 - x4 / (10 : Int32) * (10 : Int32))) x6.toNatClampNeg)) = 0 then
        X11_rests_b94 self_24 self_45 v_t_barred v_t_rule v_t_share v_t_pot v_t_rowMany (upd f_t_row x6.toNatClampNeg (x4 - x4 / (10 : Int32) * (10 : Int32))) x1 x2 x3 (x4 / (10 : Int32)) x6 (1 : Int32)
      else
        X11_rests_b93 self_24 self_45 v_t_barred v_t_rule v_t_share v_t_pot v_t_rowMany (upd f_t_row x6.toNatClampNeg (x4 - x4 / (10 : Int32) * (10 : Int32))) x1 x2 x3 (x4 / (10 : Int32)) x6
def X11_rests_b45 (self_24 : Int32 → Int32 → Int32 → Int32 → Int32 → (Nat → Int32) → Int32 → Int32 → Int32 → Option (Int32 × Int32 × (Nat → Int32))) : Nat → Int32 → Int32 → Int32 → Int32 → Int32 → (Nat → Int32) → Int32 → Int32 → Int32 → Int32 → Int32 → Int32 → Option (Int32 × Int32 × (Nat → Int32))
  | 0 => fun _ _ _ _ _ _ _ _ _ _ _ _ => none
  | n + 1 => X11_rests_b45_s self_24 (X11_rests_b45 self_24 n)
def X11_rests_b24_s (self_24 : Int32 → Int32 → Int32 → Int32 → Int32 → (Nat → Int32) → Int32 → Int32 → Int32 → Option (Int32 × Int32 × (Nat → Int32))) (v_t_barred : Int32) (v_t_rule : Int32) (v_t_share : Int32) (v_t_pot : Int32) (v_t_rowMany : Int32) (f_t_row : (Nat → Int32)) (x1 : Int32) (x2 : Int32) (x3 : Int32) : Option (Int32 × Int32 × (Nat → Int32)) :=
  bnd1 (X11_power (10 : Int32) x1) (fun r13 =>
    if 0 ≤ (lg_cmp x3.toInt64 r13) then
      some (x2, v_t_rowMany, f_t_row)
    else
      X11_rests_b45 self_24 fU v_t_barred v_t_rule v_t_share v_t_pot v_t_rowMany f_t_row x1 x2 x3 x3 (1 : Int32) (0 : Int32))
def X11_rests_b24 : Nat → Int32 → Int32 → Int32 → Int32 → Int32 → (Nat → Int32) → Int32 → Int32 → Int32 → Option (Int32 × Int32 × (Nat → Int32))
  | 0 => fun _ _ _ _ _ _ _ _ _ => none
  | n + 1 => X11_rests_b24_s (X11_rests_b24 n)
def X11_rests (v_t_barred : Int32) (v_t_rule : Int32) (v_t_share : Int32) (v_t_pot : Int32) (v_t_rowMany : Int32) (f_t_row : (Nat → Int32)) (p1 : Int32) : Option (Int32 × Int32 × (Nat → Int32)) :=
  if (X11_in p1.toInt64 (0 : Int64) (4 : Int64)) = 0 then
    some ((-2 : Int32), v_t_rowMany, f_t_row)
  else
    X11_rests_b24 fU v_t_barred v_t_rule v_t_share v_t_pot p1 f_t_row p1 (0 : Int32) (0 : Int32)
def X11_pay (v_t_payments : Int32) (f_t_paidTo : (Nat → Int32)) (f_t_paid : (Nat → Int32)) (p1 : Int32) (p2 : Int32) : Option (Int32 × Int32 × (Nat → Int32) × (Nat → Int32)) :=
  if (X11_in p1.toInt64 (0 : Int64) (8 : Int64)) = 0 then
    some ((-2 : Int32), v_t_payments, f_t_paidTo, f_t_paid)
  else
    if (X11_in p2.toInt64 (0 : Int64) (999 : Int64)) = 0 then
      some ((-2 : Int32), v_t_payments, f_t_paidTo, f_t_paid)
    else
      if v_t_payments = (12 : Int32) then
        some ((-4 : Int32), v_t_payments, f_t_paidTo, f_t_paid)
      else
        if (v_t_payments < 0 ∨ 12 ≤ v_t_payments.toNatClampNeg) then none else
          if (v_t_payments < 0 ∨ 12 ≤ v_t_payments.toNatClampNeg) then none else
          some ((v_t_payments + (1 : Int32)), (v_t_payments + (1 : Int32)), (upd f_t_paidTo v_t_payments.toNatClampNeg p1), (upd f_t_paid v_t_payments.toNatClampNeg p2))
def X11_unpay (v_t_payments : Int32)  : Option (Int32 × Int32) :=
  some (v_t_payments, (0 : Int32))
def X11_cheated_b56 (self_6 : Int32 → Int32 → Int32 → Int32 → Int32 → Int32 → (Nat → Int32) → (Nat → Int32) → (Nat → Int32) → (Nat → Int32) → Int32 → Option (Int32 × Int32 × (Nat → Int32))) (self_25 : Int32 → Int32 → Int32 → Int32 → Int32 → Int32 → (Nat → Int32) → (Nat → Int32) → (Nat → Int32) → (Nat → Int32) → Int32 → Int32 → Int32 → Int32 → Option (Int32 × Int32 × (Nat → Int32))) (v_t_many : Int32) (v_t_rule : Int32) (v_t_share : Int32) (v_t_pot : Int32) (v_t_rowMany : Int32) (v_t_payments : Int32) (f_t_slips : (Nat → Int32)) (f_t_row : (Nat → Int32)) (f_t_paidTo : (Nat → Int32)) (f_t_paid : (Nat → Int32)) (x1 : Int32) (x2 : Int32) (x4 : Int32) (s0 : Int32) : Option (Int32 × Int32 × (Nat → Int32)) :=
  self_25 v_t_many v_t_rule v_t_share v_t_pot v_t_rowMany v_t_payments f_t_slips f_t_row f_t_paidTo f_t_paid x1 x2 s0 (x4 + (1 : Int32))
def X11_cheated_b63 (self_6 : Int32 → Int32 → Int32 → Int32 → Int32 → Int32 → (Nat → Int32) → (Nat → Int32) → (Nat → Int32) → (Nat → Int32) → Int32 → Option (Int32 × Int32 × (Nat → Int32))) (v_t_many : Int32) (v_t_rule : Int32) (v_t_share : Int32) (v_t_pot : Int32) (v_t_rowMany : Int32) (v_t_payments : Int32) (f_t_slips : (Nat → Int32)) (f_t_row : (Nat → Int32)) (f_t_paidTo : (Nat → Int32)) (f_t_paid : (Nat → Int32)) (x1 : Int32) (x2 : Int32) (x3 : Int32) : Option (Int32 × Int32 × (Nat → Int32)) :=
  if x3 = x2 then
    self_6 v_t_many v_t_rule v_t_share v_t_pot v_t_rowMany v_t_payments f_t_slips f_t_row f_t_paidTo f_t_paid (x1 + (1 : Int32))
  else
    some (x1, v_t_rowMany, f_t_row)
def X11_cheated_b25_s (self_6 : Int32 → Int32 → Int32 → Int32 → Int32 → Int32 → (Nat → Int32) → (Nat → Int32) → (Nat → Int32) → (Nat → Int32) → Int32 → Option (Int32 × Int32 × (Nat → Int32))) (self_25 : Int32 → Int32 → Int32 → Int32 → Int32 → Int32 → (Nat → Int32) → (Nat → Int32) → (Nat → Int32) → (Nat → Int32) → Int32 → Int32 → Int32 → Int32 → Option (Int32 × Int32 × (Nat → Int32))) (v_t_many : Int32) (v_t_rule : Int32) (v_t_share : Int32) (v_t_pot : Int32) (v_t_rowMany : Int32) (v_t_payments : Int32) (f_t_slips : (Nat → Int32)) (f_t_row : (Nat → Int32)) (f_t_paidTo : (Nat → Int32)) (f_t_paid : (Nat → Int32)) (x1 : Int32) (x2 : Int32) (x3 : Int32) (x4 : Int32) : Option (Int32 × Int32 × (Nat → Int32)) :=
  if v_t_payments ≤ x4 then
    X11_cheated_b63 self_6 v_t_many v_t_rule v_t_share v_t_pot v_t_rowMany v_t_payments f_t_slips f_t_row f_t_paidTo f_t_paid x1 x2 x3
  else
    if (x4 < 0 ∨ 12 ≤ x4.toNatClampNeg) then none else
      if (f_t_paidTo x4.toNatClampNeg) = x1 then
      if (x4 < 0 ∨ 12 ≤ x4.toNatClampNeg) then none else
        X11_cheated_b56 self_6 self_25 v_t_many v_t_rule v_t_share v_t_pot v_t_rowMany v_t_payments f_t_slips f_t_row f_t_paidTo f_t_paid x1 x2 x4 (f_t_paid x4.toNatClampNeg)
    else
      X11_cheated_b56 self_6 self_25 v_t_many v_t_rule v_t_share v_t_pot v_t_rowMany v_t_payments f_t_slips f_t_row f_t_paidTo f_t_paid x1 x2 x4 x3
def X11_cheated_b25 (self_6 : Int32 → Int32 → Int32 → Int32 → Int32 → Int32 → (Nat → Int32) → (Nat → Int32) → (Nat → Int32) → (Nat → Int32) → Int32 → Option (Int32 × Int32 × (Nat → Int32))) : Nat → Int32 → Int32 → Int32 → Int32 → Int32 → Int32 → (Nat → Int32) → (Nat → Int32) → (Nat → Int32) → (Nat → Int32) → Int32 → Int32 → Int32 → Int32 → Option (Int32 × Int32 × (Nat → Int32))
  | 0 => fun _ _ _ _ _ _ _ _ _ _ _ _ _ _ => none
  | n + 1 => X11_cheated_b25_s self_6 (X11_cheated_b25 self_6 n)
def X11_cheated_b6_s (self_6 : Int32 → Int32 → Int32 → Int32 → Int32 → Int32 → (Nat → Int32) → (Nat → Int32) → (Nat → Int32) → (Nat → Int32) → Int32 → Option (Int32 × Int32 × (Nat → Int32))) (v_t_many : Int32) (v_t_rule : Int32) (v_t_share : Int32) (v_t_pot : Int32) (v_t_rowMany : Int32) (v_t_payments : Int32) (f_t_slips : (Nat → Int32)) (f_t_row : (Nat → Int32)) (f_t_paidTo : (Nat → Int32)) (f_t_paid : (Nat → Int32)) (x1 : Int32) : Option (Int32 × Int32 × (Nat → Int32)) :=
  if v_t_many ≤ x1 then
    some ((-9 : Int32), v_t_rowMany, f_t_row)
  else
    bnd1 (X11_getsOf v_t_rule v_t_share v_t_pot v_t_rowMany f_t_row x1) (fun r7 =>
      X11_cheated_b25 self_6 fU v_t_many v_t_rule v_t_share v_t_pot v_t_rowMany v_t_payments f_t_slips f_t_row f_t_paidTo f_t_paid x1 r7 r7 (0 : Int32))
def X11_cheated_b6 : Nat → Int32 → Int32 → Int32 → Int32 → Int32 → Int32 → (Nat → Int32) → (Nat → Int32) → (Nat → Int32) → (Nat → Int32) → Int32 → Option (Int32 × Int32 × (Nat → Int32))
  | 0 => fun _ _ _ _ _ _ _ _ _ _ _ => none
  | n + 1 => X11_cheated_b6_s (X11_cheated_b6 n)
def X11_cheated (v_t_many : Int32) (v_t_rule : Int32) (v_t_share : Int32) (v_t_pot : Int32) (v_t_rowMany : Int32) (v_t_payments : Int32) (f_t_slips : (Nat → Int32)) (f_t_row : (Nat → Int32)) (f_t_paidTo : (Nat → Int32)) (f_t_paid : (Nat → Int32))  : Option (Int32 × Int32 × (Nat → Int32)) :=
  bnd2 (X11_takeSlips v_t_many v_t_rowMany f_t_slips f_t_row) (fun w8_0 w8_1 =>
    X11_cheated_b6 fU v_t_many v_t_rule v_t_share v_t_pot w8_0 v_t_payments f_t_slips w8_1 f_t_paidTo f_t_paid (0 : Int32))
def X11_seed (v_t_seed : Int64) (p1 : Int64) : Option (Int64 × Int64) :=
  some (v_t_seed, p1)
def X11_open_b30 (self_4 : Int32 → Int32 → Int32 → Option (Int32)) (v_t_barred : Int32) (x2 : Int32) (s0 : Int32) (s1 : Int32) : Option (Int32) :=
  self_4 v_t_barred (x2 + (1 : Int32)) (s0 - s1)
def X11_open_b16 (self_4 : Int32 → Int32 → Int32 → Option (Int32)) (v_t_barred : Int32) (x2 : Int32) (x3 : Int32) : Option (Int32) :=
  if (X11_isBarred v_t_barred x2) = 0 then
    X11_open_b30 self_4 v_t_barred x2 x3 (1 : Int32)
  else
    X11_open_b30 self_4 v_t_barred x2 x3 (0 : Int32)
def X11_open_b4_s (self_4 : Int32 → Int32 → Int32 → Option (Int32)) (v_t_barred : Int32) (x2 : Int32) (x3 : Int32) : Option (Int32) :=
  if 0 < x3 then
    X11_open_b16 self_4 v_t_barred x2 x3
  else
    if (X11_isBarred v_t_barred x2) = 0 then
      some x2
    else
      X11_open_b16 self_4 v_t_barred x2 x3
def X11_open_b4 : Nat → Int32 → Int32 → Int32 → Option (Int32)
  | 0 => fun _ _ _ => none
  | n + 1 => X11_open_b4_s (X11_open_b4 n)
def X11_open (v_t_barred : Int32) (p1 : Int32) : Option (Int32) :=
  X11_open_b4 fU v_t_barred (0 : Int32) p1
def X11_won_b109 (self_38 : Int32 → Int32 → Int32 → Int32 → Int32 → Int32 → Int64 → (Nat → Int32) → Int32 → Int32 → Int32 → Int32 → Option (Int32 × Int32 × Int64 × (Nat → Int32))) (v_t_many : Int32) (v_t_barred : Int32) (v_t_rule : Int32) (v_t_share : Int32) (v_t_pot : Int32) (v_t_rowMany : Int32) (v_t_seed : Int64) (f_t_row : (Nat → Int32)) (x1 : Int32) (x2 : Int32) (x3 : Int32) (x4 : Int32) : Option (Int32 × Int32 × Int64 × (Nat → Int32)) :=
  bnd1 (X11_getsOf v_t_rule v_t_share v_t_pot v_t_rowMany f_t_row x1) (fun r1 =>
    self_38 v_t_many v_t_barred v_t_rule v_t_share v_t_pot v_t_rowMany v_t_seed f_t_row x1 x2 (x3 + r1) (x4 + (1 : Int32)))
def X11_won_b47_s (self_38 : Int32 → Int32 → Int32 → Int32 → Int32 → Int32 → Int64 → (Nat → Int32) → Int32 → Int32 → Int32 → Int32 → Option (Int32 × Int32 × Int64 × (Nat → Int32))) (self_47 : Int32 → Int32 → Int32 → Int32 → Int32 → Int32 → Int64 → (Nat → Int32) → Int32 → Int32 → Int32 → Int32 → Int32 → Option (Int32 × Int32 × Int64 × (Nat → Int32))) (v_t_many : Int32) (v_t_barred : Int32) (v_t_rule : Int32) (v_t_share : Int32) (v_t_pot : Int32) (v_t_rowMany : Int32) (v_t_seed : Int64) (f_t_row : (Nat → Int32)) (x1 : Int32) (x2 : Int32) (x3 : Int32) (x4 : Int32) (x5 : Int32) : Option (Int32 × Int32 × Int64 × (Nat → Int32)) :=
  if v_t_many ≤ x5 then
    X11_won_b109 self_38 v_t_many v_t_barred v_t_rule v_t_share v_t_pot v_t_rowMany v_t_seed f_t_row x1 x2 x3 x4
  else
    bnd1 (X11_ones v_t_barred) (fun r3 =>
      if ((10 : Int32) - r3).toInt64 = 0 then none else
        bnd1 (X11_open v_t_barred ((((v_t_seed * (6364136223846793005 : Int64)) + (1442695040888963407 : Int64)).toUInt64 >>> ((33 : Int32).toInt64.toUInt64 &&& Int64.toUInt64 63)).toInt64 - (((v_t_seed * (6364136223846793005 : Int64)) + (1442695040888963407 : Int64)).toUInt64 >>> ((33 : Int32).toInt64.toUInt64 &&& Int64.toUInt64 63)).toInt64 / ((10 : Int32) - r3).toInt64 * ((10 : Int32) - r3).toInt64).toInt32) (fun r5 =>
        if (x5 < 0 ∨ 10 ≤ x5.toNatClampNeg) then none else
          self_47 v_t_many v_t_barred v_t_rule v_t_share v_t_pot v_t_rowMany ((v_t_seed * (6364136223846793005 : Int64)) + (1442695040888963407 : Int64)) (upd f_t_row x5.toNatClampNeg r5) x1 x2 x3 x4 (x5 + (1 : Int32))))
def X11_won_b47 (self_38 : Int32 → Int32 → Int32 → Int32 → Int32 → Int32 → Int64 → (Nat → Int32) → Int32 → Int32 → Int32 → Int32 → Option (Int32 × Int32 × Int64 × (Nat → Int32))) : Nat → Int32 → Int32 → Int32 → Int32 → Int32 → Int32 → Int64 → (Nat → Int32) → Int32 → Int32 → Int32 → Int32 → Int32 → Option (Int32 × Int32 × Int64 × (Nat → Int32))
  | 0 => fun _ _ _ _ _ _ _ _ _ _ _ _ _ => none
  | n + 1 => X11_won_b47_s self_38 (X11_won_b47 self_38 n)
def X11_won_b38_s (self_38 : Int32 → Int32 → Int32 → Int32 → Int32 → Int32 → Int64 → (Nat → Int32) → Int32 → Int32 → Int32 → Int32 → Option (Int32 × Int32 × Int64 × (Nat → Int32))) (v_t_many : Int32) (v_t_barred : Int32) (v_t_rule : Int32) (v_t_share : Int32) (v_t_pot : Int32) (v_t_rowMany : Int32) (v_t_seed : Int64) (f_t_row : (Nat → Int32)) (x1 : Int32) (x2 : Int32) (x3 : Int32) (x4 : Int32) : Option (Int32 × Int32 × Int64 × (Nat → Int32)) :=
  if x2 ≤ x4 then
    some (x3, v_t_rowMany, v_t_seed, f_t_row)
  else
    X11_won_b47 self_38 fU v_t_many v_t_barred v_t_rule v_t_share v_t_pot v_t_rowMany v_t_seed f_t_row x1 x2 x3 x4 (0 : Int32)
def X11_won_b38 : Nat → Int32 → Int32 → Int32 → Int32 → Int32 → Int32 → Int64 → (Nat → Int32) → Int32 → Int32 → Int32 → Int32 → Option (Int32 × Int32 × Int64 × (Nat → Int32))
  | 0 => fun _ _ _ _ _ _ _ _ _ _ _ _ => none
  | n + 1 => X11_won_b38_s (X11_won_b38 n)
def X11_won (v_t_many : Int32) (v_t_barred : Int32) (v_t_rule : Int32) (v_t_share : Int32) (v_t_pot : Int32) (v_t_rowMany : Int32) (v_t_seed : Int64) (f_t_row : (Nat → Int32)) (p1 : Int32) (p2 : Int32) : Option (Int32 × Int32 × Int64 × (Nat → Int32)) :=
  if (X11_isPerson v_t_many p1) = 0 then
    some ((-1 : Int32), v_t_rowMany, v_t_seed, f_t_row)
  else
    if (X11_in p2.toInt64 (1 : Int64) (40 : Int64)) = 0 then
      some ((-2 : Int32), v_t_rowMany, v_t_seed, f_t_row)
    else
      X11_won_b38 fU v_t_many v_t_barred v_t_rule v_t_share v_t_pot v_t_many v_t_seed f_t_row p1 p2 (0 : Int32) (0 : Int32)
def X11_keep_b50 (v_t_many : Int32) (f_t_slips : (Nat → Int32)) (f_t_isKept : (Nat → Int32)) (f_t_kept : (Nat → Int32)) (x1 : Int32) : Option (Int32 × (Nat → Int32) × (Nat → Int32)) :=
  if ((((10 : Int32) * x1) + (9 : Int32)) < 0 ∨ 20 ≤ (((10 : Int32) * x1) + (9 : Int32)).toNatClampNeg) then none else
    some (v_t_many, f_t_isKept, (upd f_t_kept (((10 : Int32) * x1) + (9 : Int32)).toNatClampNeg v_t_many))
def X11_keep_b21_s (self_21 : Int32 → (Nat → Int32) → (Nat → Int32) → (Nat → Int32) → Int32 → Int32 → Option (Int32 × (Nat → Int32) × (Nat → Int32))) (v_t_many : Int32) (f_t_slips : (Nat → Int32)) (f_t_isKept : (Nat → Int32)) (f_t_kept : (Nat → Int32)) (x1 : Int32) (x2 : Int32) : Option (Int32 × (Nat → Int32) × (Nat → Int32)) :=
  if (9 : Int32) ≤ x2 then
    X11_keep_b50 v_t_many f_t_slips f_t_isKept f_t_kept x1
  else
    if (x2 < 0 ∨ 9 ≤ x2.toNatClampNeg) then none else
      if ((((10 : Int32) * x1) + x2) < 0 ∨ 20 ≤ (((10 : Int32) * x1) + x2).toNatClampNeg) then none else
      self_21 v_t_many f_t_slips f_t_isKept (upd f_t_kept (((10 : Int32) * x1) + x2).toNatClampNeg (f_t_slips x2.toNatClampNeg)) x1 (x2 + (1 : Int32))
def X11_keep_b21 : Nat → Int32 → (Nat → Int32) → (Nat → Int32) → (Nat → Int32) → Int32 → Int32 → Option (Int32 × (Nat → Int32) × (Nat → Int32))
  | 0 => fun _ _ _ _ _ _ => none
  | n + 1 => X11_keep_b21_s (X11_keep_b21 n)
def X11_keep (v_t_many : Int32) (f_t_slips : (Nat → Int32)) (f_t_isKept : (Nat → Int32)) (f_t_kept : (Nat → Int32)) (p1 : Int32) : Option (Int32 × (Nat → Int32) × (Nat → Int32)) :=
  if (X11_in p1.toInt64 (0 : Int64) (1 : Int64)) = 0 then
    some ((-1 : Int32), f_t_isKept, f_t_kept)
  else
    if (p1 < 0 ∨ 2 ≤ p1.toNatClampNeg) then none else
      X11_keep_b21 fU v_t_many f_t_slips (upd f_t_isKept p1.toNatClampNeg (vp_nar .boolean (1 : Int32))) f_t_kept p1 (0 : Int32)
def X11_again_b55 (v_t_many : Int32) (v_t_acts : Int32) (f_t_slips : (Nat → Int32)) (f_t_isKept : (Nat → Int32)) (f_t_kept : (Nat → Int32)) (x1 : Int32) : Option (Int32 × Int32 × Int32 × (Nat → Int32)) :=
  if ((((10 : Int32) * x1) + (9 : Int32)) < 0 ∨ 20 ≤ (((10 : Int32) * x1) + (9 : Int32)).toNatClampNeg) then none else
    some ((f_t_kept (((10 : Int32) * x1) + (9 : Int32)).toNatClampNeg), (f_t_kept (((10 : Int32) * x1) + (9 : Int32)).toNatClampNeg), (0 : Int32), f_t_slips)
def X11_again_b26_s (self_26 : Int32 → Int32 → (Nat → Int32) → (Nat → Int32) → (Nat → Int32) → Int32 → Int32 → Option (Int32 × Int32 × Int32 × (Nat → Int32))) (v_t_many : Int32) (v_t_acts : Int32) (f_t_slips : (Nat → Int32)) (f_t_isKept : (Nat → Int32)) (f_t_kept : (Nat → Int32)) (x1 : Int32) (x2 : Int32) : Option (Int32 × Int32 × Int32 × (Nat → Int32)) :=
  if (9 : Int32) ≤ x2 then
    X11_again_b55 v_t_many v_t_acts f_t_slips f_t_isKept f_t_kept x1
  else
    if ((((10 : Int32) * x1) + x2) < 0 ∨ 20 ≤ (((10 : Int32) * x1) + x2).toNatClampNeg) then none else
      if (x2 < 0 ∨ 9 ≤ x2.toNatClampNeg) then none else
      self_26 v_t_many v_t_acts (upd f_t_slips x2.toNatClampNeg (f_t_kept (((10 : Int32) * x1) + x2).toNatClampNeg)) f_t_isKept f_t_kept x1 (x2 + (1 : Int32))
def X11_again_b26 : Nat → Int32 → Int32 → (Nat → Int32) → (Nat → Int32) → (Nat → Int32) → Int32 → Int32 → Option (Int32 × Int32 × Int32 × (Nat → Int32))
  | 0 => fun _ _ _ _ _ _ _ => none
  | n + 1 => X11_again_b26_s (X11_again_b26 n)
def X11_again (v_t_many : Int32) (v_t_acts : Int32) (f_t_slips : (Nat → Int32)) (f_t_isKept : (Nat → Int32)) (f_t_kept : (Nat → Int32)) (p1 : Int32) : Option (Int32 × Int32 × Int32 × (Nat → Int32)) :=
  if (X11_in p1.toInt64 (0 : Int64) (1 : Int64)) = 0 then
    some ((-1 : Int32), v_t_many, v_t_acts, f_t_slips)
  else
    if (p1 < 0 ∨ 2 ≤ p1.toNatClampNeg) then none else
      if (f_t_isKept p1.toNatClampNeg) = 0 then
      some ((-3 : Int32), v_t_many, v_t_acts, f_t_slips)
    else
      X11_again_b26 fU v_t_many v_t_acts f_t_slips f_t_isKept f_t_kept p1 (0 : Int32)
def X11_count_b41 (self_14 : Int32 → Int32 → Int32 → Int32 → Int32 → Int32 → Int32 → Int32 → Int32 → (Nat → Int32) → (Nat → Int32) → Int32 → Int32 → Int32 → Int32 → Option (Int32 × Int32 × (Nat → Int32))) (v_t_many : Int32) (v_t_barred : Int32) (v_t_rule : Int32) (v_t_share : Int32) (v_t_pot : Int32) (v_t_length : Int32) (v_t_rowMany : Int32) (v_t_acts : Int32) (v_t_payments : Int32) (f_t_slips : (Nat → Int32)) (f_t_row : (Nat → Int32)) (x1 : Int32) (x3 : Int32) (x4 : Int32) (s0 : Int32) (s1 : Int32) : Option (Int32 × Int32 × (Nat → Int32)) :=
  bnd1 (X11_getsOf v_t_rule v_t_share v_t_pot v_t_rowMany f_t_row x4) (fun r1 =>
    self_14 v_t_many v_t_barred v_t_rule v_t_share v_t_pot v_t_length v_t_rowMany v_t_acts v_t_payments f_t_slips f_t_row x1 (s0 ||| s1) (x3 - r1) (x4 + (1 : Int32)))
def X11_count_b58 (v_t_many : Int32) (v_t_barred : Int32) (v_t_rule : Int32) (v_t_share : Int32) (v_t_pot : Int32) (v_t_length : Int32) (v_t_rowMany : Int32) (v_t_acts : Int32) (v_t_payments : Int32) (f_t_slips : (Nat → Int32)) (f_t_row : (Nat → Int32)) (x1 : Int32) (x2 : Int32) (x3 : Int32) : Option (Int32 × Int32 × (Nat → Int32)) :=
  if x1 = (0 : Int32) then
    some (v_t_length, v_t_rowMany, f_t_row)
  else
    if x1 = (1 : Int32) then
      some (v_t_many, v_t_rowMany, f_t_row)
    else
      if x1 = (2 : Int32) then
        some (x2, v_t_rowMany, f_t_row)
      else
        if x1 = (3 : Int32) then
          some (v_t_barred, v_t_rowMany, f_t_row)
        else
          if x1 = (4 : Int32) then
            some (v_t_acts, v_t_rowMany, f_t_row)
          else
            if x1 = (5 : Int32) then
              some (v_t_payments, v_t_rowMany, f_t_row)
            else
              if x1 = (6 : Int32) then
                some (v_t_pot, v_t_rowMany, f_t_row)
              else
                if x1 = (7 : Int32) then
                  some (v_t_rule, v_t_rowMany, f_t_row)
                else
                  if x1 = (8 : Int32) then
                    some (v_t_share, v_t_rowMany, f_t_row)
                  else
                    if x1 = (9 : Int32) then
                      some (x3, v_t_rowMany, f_t_row)
                    else
                      some ((-2 : Int32), v_t_rowMany, f_t_row)
def X11_count_b14_s (self_14 : Int32 → Int32 → Int32 → Int32 → Int32 → Int32 → Int32 → Int32 → Int32 → (Nat → Int32) → (Nat → Int32) → Int32 → Int32 → Int32 → Int32 → Option (Int32 × Int32 × (Nat → Int32))) (v_t_many : Int32) (v_t_barred : Int32) (v_t_rule : Int32) (v_t_share : Int32) (v_t_pot : Int32) (v_t_length : Int32) (v_t_rowMany : Int32) (v_t_acts : Int32) (v_t_payments : Int32) (f_t_slips : (Nat → Int32)) (f_t_row : (Nat → Int32)) (x1 : Int32) (x2 : Int32) (x3 : Int32) (x4 : Int32) : Option (Int32 × Int32 × (Nat → Int32)) :=
  if v_t_many ≤ x4 then
    X11_count_b58 v_t_many v_t_barred v_t_rule v_t_share v_t_pot v_t_length v_t_rowMany v_t_acts v_t_payments f_t_slips f_t_row x1 x2 x3
  else
    bnd1 (X11_isRight v_t_rule v_t_rowMany f_t_row x4) (fun r13 =>
      if r13 = 0 then
        X11_count_b41 self_14 v_t_many v_t_barred v_t_rule v_t_share v_t_pot v_t_length v_t_rowMany v_t_acts v_t_payments f_t_slips f_t_row x1 x3 x4 x2 (0 : Int32)
      else
        X11_count_b41 self_14 v_t_many v_t_barred v_t_rule v_t_share v_t_pot v_t_length v_t_rowMany v_t_acts v_t_payments f_t_slips f_t_row x1 x3 x4 x2 ((1 : Int32) <<< (x4 &&& 31)))
def X11_count_b14 : Nat → Int32 → Int32 → Int32 → Int32 → Int32 → Int32 → Int32 → Int32 → Int32 → (Nat → Int32) → (Nat → Int32) → Int32 → Int32 → Int32 → Int32 → Option (Int32 × Int32 × (Nat → Int32))
  | 0 => fun _ _ _ _ _ _ _ _ _ _ _ _ _ _ _ => none
  | n + 1 => X11_count_b14_s (X11_count_b14 n)
def X11_count (v_t_many : Int32) (v_t_barred : Int32) (v_t_rule : Int32) (v_t_share : Int32) (v_t_pot : Int32) (v_t_length : Int32) (v_t_rowMany : Int32) (v_t_acts : Int32) (v_t_payments : Int32) (f_t_slips : (Nat → Int32)) (f_t_row : (Nat → Int32)) (p1 : Int32) : Option (Int32 × Int32 × (Nat → Int32)) :=
  bnd2 (X11_takeSlips v_t_many v_t_rowMany f_t_slips f_t_row) (fun w16_0 w16_1 =>
    X11_count_b14 fU v_t_many v_t_barred v_t_rule v_t_share v_t_pot v_t_length w16_0 v_t_acts v_t_payments f_t_slips w16_1 p1 (0 : Int32) v_t_pot (0 : Int32))
