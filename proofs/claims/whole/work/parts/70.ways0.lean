/-! in how many ways: the numbers -/
def ch : Nat → Nat → Nat
  | _, 0 => 1
  | 0, _ + 1 => 0
  | n + 1, k + 1 => ch n k + ch n (k + 1)
set_option maxRecDepth 100000 in
theorem over_spec : ∀ n, n < 10 → ∀ k, k < 10 → X11_over (nI n) (nI k) = some (lN (ch n k)) := by decide +kernel
set_option maxRecDepth 100000 in
theorem choose_spec : ∀ n, n < 10 → ∀ k, k < 10 → X10_choose (nI n) (nI k) = some (nI (ch n k)) := by decide +kernel
set_option maxRecDepth 100000 in
theorem powM_spec : ∀ w, w < 11 → ∀ n, n < 10 → X11_power (nI w) (nI n) = some (lN (w ^ n)) := by decide +kernel
set_option maxRecDepth 100000 in
theorem powC_spec : ∀ w, w < 11 → ∀ n, n < 10 → X10_power (lN w) (nI n) = some (lN (w ^ n)) := by decide +kernel
theorem ch_step : ∀ m, m < 10 → ∀ i, i < 10 → i < m → ch m i * (m - i) = ch m (i + 1) * (i + 1) := by decide +kernel
theorem ch_le : ∀ m, m < 10 → ∀ i, i < 10 → ch m i ≤ 126 := by decide +kernel
theorem ch_tri : ∀ n, n < 10 → ∀ k, k < 10 → ∀ c, c < 10 → k ≤ n → c ≤ k → ch n (k - c) * ch (n - (k - c)) c = ch n k * ch k c := by decide +kernel
theorem ch_nn : ∀ n, n < 10 → ch n n = 1 := by decide +kernel
theorem pw_le {w i : Nat} (hw : w ≤ 10) (hi : i ≤ 9) : w ^ i ≤ 1000000000 := by
  have h1 : w ^ i ≤ 10 ^ i := Nat.pow_le_pow_left hw i
  have h2 : 10 ^ i ≤ 10 ^ 9 := Nat.pow_le_pow_right (by decide) hi
  have h3 : (10 : Nat) ^ 9 = 1000000000 := by decide
  omega
/-- may c of them write d -/
def mc (law d c : Nat) : Bool := decide (c = 0) || su law d c
def SS (law : Nat) (wf : Nat → Nat) : Nat → Nat → Nat
  | 0, m => if m = 0 then 1 else 0
  | d + 1, m => sr (m + 1) (fun c => if mc law d c then ch m c * wf d ^ c * SS law wf d (m - c) else 0)
theorem SS_0 (law : Nat) (wf : Nat → Nat) : ∀ d, SS law wf d 0 = 1 := by
  intro d
  induction d with
  | zero => rfl
  | succ d ih =>
    unfold SS
    rw [sr_s]
    show 0 + (if mc law d 0 then ch 0 0 * wf d ^ 0 * SS law wf d (0 - 0) else 0) = 1
    rw [if_pos (by unfold mc; simp), Nat.sub_zero, ih]
    simp [ch]
/-- the part of a sum behind its first place -/
theorem sr_shift (n : Nat) (f : Nat → Nat) : sr (n + 1) f = f 0 + sr n (fun i => f (i + 1)) := by
  induction n with
  | zero => rw [sr_s]; show 0 + f 0 = f 0 + 0; omega
  | succ n ih => rw [sr_s, ih, sr_s]; omega
theorem sr_rev (n : Nat) : ∀ f : Nat → Nat, sr (n + 1) f = sr (n + 1) (fun i => f (n - i)) := by
  induction n with
  | zero => intro f; rfl
  | succ n ih =>
    intro f
    rw [sr_s, ih f, sr_shift (n + 1) (fun i => f (n + 1 - i))]
    have e : sr (n + 1) (fun i => f (n - i)) = sr (n + 1) (fun i => f (n + 1 - (i + 1))) := sr_congr (fun i hi => by congr 1; omega)
    rw [e]
    show _ + f (n + 1) = f (n + 1 - 0) + _
    rw [Nat.sub_zero]; omega
theorem sr_cut {n k : Nat} (h : k ≤ n) (g : Nat → Nat) : sr (n + 1) (fun i => if i ≤ k then g i else 0) = sr (k + 1) g := by
  induction n with
  | zero =>
    have : k = 0 := by omega
    subst this
    rw [sr_s, sr_s, if_pos (Nat.le_refl _)]
    rfl
  | succ n ih =>
    by_cases e : k = n + 1
    · subst e
      exact sr_congr (fun i hi => if_pos (by omega))
    · rw [sr_s, ih (by omega), if_neg (by omega), Nat.add_zero]
theorem sr_mul (n a : Nat) (f : Nat → Nat) : sr n (fun i => a * f i) = a * sr n f := by
  induction n with
  | zero => rfl
  | succ n ih => rw [sr_s, sr_s, ih, Nat.mul_add]
/-- the model's sums -/
def TT (n law : Nat) (wf : Nat → Nat) : Nat → Nat → Nat
  | 0, k => if k = 0 then 1 else 0
  | d + 1, k => sr (n + 1) (fun h => if h ≤ k then (if mc law d (k - h) then TT n law wf d h * ch (n - h) (k - h) * wf d ^ (k - h) else 0) else 0)
theorem TT_SS {n law : Nat} (wf : Nat → Nat) (hn : n < 10) : ∀ d k, k ≤ n → TT n law wf d k = ch n k * SS law wf d k := by
  intro d
  induction d with
  | zero =>
    intro k hk
    unfold TT SS
    by_cases h : k = 0
    · subst h
      have : ch n 0 = 1 := by cases n <;> rfl
      rw [if_pos rfl, this]
    · rw [if_neg h, Nat.mul_zero]
  | succ d ih =>
    intro k hk
    unfold TT SS
    rw [sr_cut hk, sr_rev, ← sr_mul]
    apply sr_congr
    intro c hc
    have e1 : k - (k - c) = c := by omega
    rw [e1]
    by_cases hm : mc law d c = true
    · rw [if_pos hm, if_pos hm, ih (k - c) (by omega)]
      have ht := ch_tri n hn k (by omega) c (by omega) hk (by omega)
      have : ch n (k - c) * SS law wf d (k - c) * ch (n - (k - c)) c * wf d ^ c = (ch n (k - c) * ch (n - (k - c)) c) * (wf d ^ c * SS law wf d (k - c)) := by
        simp only [Nat.mul_assoc, Nat.mul_left_comm, Nat.mul_comm]
      rw [this, ht]
      simp only [Nat.mul_assoc]
    · rw [if_neg hm, if_neg hm, Nat.mul_zero]
theorem TT_n {n law : Nat} (wf : Nat → Nat) (hn : n < 10) (d : Nat) : TT n law wf d n = SS law wf d n := by
  rw [TT_SS wf hn d n (Nat.le_refl _), ch_nn n hn, Nat.one_mul]
