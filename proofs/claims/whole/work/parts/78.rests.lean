/-! slips at rest -/
abbrev isAR (law share pot b : Nat) (v : Nat → Nat) : Prop := ∀ x, x < 10 → (0 < v x → wn law share pot b v x = x)
theorem wn_lt {law share pot b : Nat} {c : Nat → Nat} {own : Nat} (hpot : pot ≤ 999) (ho : own < 10) : wn law share pot b c own < 10 := (wst_in b (K := 8991) ho (gn_le hpot ho) (fun d hd => gn_le hpot hd) 10 (Nat.le_refl _)).1
def AR (law share pot b : Nat) (v : Nat → Nat) : Nat := if isAR law share pot b v then 1 else 0
def adn (v : Nat → Nat) (d c : Nat) : Nat → Nat := fun x => v x + if x = d then c else 0
theorem adn_0 (v : Nat → Nat) (d : Nat) : adn v d 0 = v := by
  funext x; unfold adn; split <;> rfl
theorem adn_ad (v : Nat → Nat) (d c x : Nat) : adn (ad v x) d c = ad (adn v d c) x := by
  funext y; show v y + (if y = x then 1 else 0) + (if y = d then c else 0) = v y + (if y = d then c else 0) + (if y = x then 1 else 0); omega
theorem adn_s (v : Nat → Nat) (d c : Nat) : adn (ad v d) d c = adn v d (c + 1) := by
  funext y; show v y + (if y = d then 1 else 0) + (if y = d then c else 0) = v y + (if y = d then c + 1 else 0); split <;> omega
/-- words of letters from d on -/
def SW (b : Nat) (A : (Nat → Nat) → Nat) (d : Nat) : Nat → (Nat → Nat) → Nat
  | 0, v => A v
  | n + 1, v => sr 10 (fun x => if d ≤ x ∧ bb b x = 0 then SW b A d n (ad v x) else 0)
theorem sr_swap (n m : Nat) (f : Nat → Nat → Nat) : sr n (fun i => sr m (fun j => f i j)) = sr m (fun j => sr n (fun i => f i j)) := by
  induction n with
  | zero => show 0 = sr m (fun _ => 0); rw [sr_zero]
  | succ n ih => rw [sr_s, ih, ← sr_add]; rfl
theorem sr_ite (n : Nat) (p : Prop) [Decidable p] (f : Nat → Nat) : sr n (fun i => if p then f i else 0) = if p then sr n f else 0 := by
  by_cases h : p
  · rw [if_pos h]; exact sr_congr (fun i _ => if_pos h)
  · rw [if_neg h]; exact (sr_congr (fun i _ => if_neg h)).trans (sr_zero n)
/-- a barred letter -/
theorem SW_bar {b : Nat} {A : (Nat → Nat) → Nat} {d : Nat} (h : bb b d ≠ 0) : ∀ n v, SW b A d n v = SW b A (d + 1) n v := by
  intro n
  induction n with
  | zero => intro v; rfl
  | succ n ih =>
    intro v
    unfold SW
    apply sr_congr
    intro x _
    by_cases e : x = d
    · subst e
      rw [if_neg (fun q => h q.2), if_neg (fun q => h q.2)]
    · by_cases q : d ≤ x ∧ bb b x = 0
      · rw [if_pos q, if_pos ⟨by omega, q.2⟩, ih]
      · rw [if_neg q, if_neg (fun z => q ⟨by omega, z.2⟩)]
/-- a letter, by how often it comes -/
theorem SW_open {b : Nat} {A : (Nat → Nat) → Nat} {d : Nat} (hd : d < 10) (h : bb b d = 0) : ∀ n v, SW b A d n v = sr (n + 1) (fun c => ch n c * SW b A (d + 1) (n - c) (adn v d c)) := by
  intro n
  induction n with
  | zero =>
    intro v
    rw [sr_s]
    show A v = 0 + 1 * A (adn v d 0)
    rw [adn_0]; omega
  | succ n ih =>
    intro v
    -- the first letter is d, or one behind it
    have e1 : SW b A d (n + 1) v = SW b A d n (ad v d) + sr 10 (fun x => if d + 1 ≤ x ∧ bb b x = 0 then SW b A d n (ad v x) else 0) := by
      show sr 10 (fun x => if d ≤ x ∧ bb b x = 0 then SW b A d n (ad v x) else 0) = _
      have : sr 10 (fun x => if d ≤ x ∧ bb b x = 0 then SW b A d n (ad v x) else 0) = sr 10 (fun x => (if x = d then SW b A d n (ad v d) else 0) + (if d + 1 ≤ x ∧ bb b x = 0 then SW b A d n (ad v x) else 0)) := by
        apply sr_congr
        intro x _
        by_cases e : x = d
        · subst e
          rw [if_pos ⟨Nat.le_refl _, h⟩, if_pos rfl, if_neg (by omega)]; omega
        · rw [if_neg e]
          by_cases q : d ≤ x ∧ bb b x = 0
          · rw [if_pos q, if_pos ⟨by omega, q.2⟩]; omega
          · rw [if_neg q, if_neg (fun z => q ⟨by omega, z.2⟩)]
      rw [this, sr_add, sr_one hd]
    have e2 : sr 10 (fun x => if d + 1 ≤ x ∧ bb b x = 0 then SW b A d n (ad v x) else 0) = sr (n + 1) (fun c => ch n c * SW b A (d + 1) (n - c + 1) (adn v d c)) := by
      have a1 : sr 10 (fun x => if d + 1 ≤ x ∧ bb b x = 0 then SW b A d n (ad v x) else 0) = sr 10 (fun x => sr (n + 1) (fun c => ch n c * (if d + 1 ≤ x ∧ bb b x = 0 then SW b A (d + 1) (n - c) (ad (adn v d c) x) else 0))) := by
        apply sr_congr
        intro x _
        by_cases q : d + 1 ≤ x ∧ bb b x = 0
        · rw [if_pos q, ih]
          apply sr_congr
          intro c _
          rw [if_pos q, adn_ad]
        · rw [if_neg q]
          refine (sr_zero (n + 1)).symm.trans (sr_congr (fun c _ => ?_))
          rw [if_neg q, Nat.mul_zero]
      rw [a1, sr_swap]
      apply sr_congr
      intro c _
      rw [sr_mul]
      rfl
    rw [e1, e2, ih]
    -- Pascal
    have p1 : sr (n + 1) (fun c => ch n c * SW b A (d + 1) (n - c) (adn (ad v d) d c)) = sr (n + 1) (fun c => ch n c * SW b A (d + 1) (n + 1 - (c + 1)) (adn v d (c + 1))) := by
      apply sr_congr
      intro c _
      rw [adn_s]
      congr 2
      omega
    have p2 : sr (n + 1) (fun c => ch n c * SW b A (d + 1) (n - c + 1) (adn v d c)) = sr (n + 2) (fun c => (if c ≤ n then ch n c else 0) * SW b A (d + 1) (n + 1 - c) (adn v d c)) := by
      rw [sr_s (n + 1), if_neg (by omega), Nat.zero_mul, Nat.add_zero]
      apply sr_congr
      intro c hc
      rw [if_pos (by omega)]
      congr 2
      omega
    rw [p1, p2, sr_shift (n + 1), sr_shift (n + 1) (fun c => ch (n + 1) c * SW b A (d + 1) (n + 1 - c) (adn v d c))]
    have c0 : ∀ m, ch m 0 = 1 := fun m => by cases m <;> rfl
    rw [if_pos (Nat.zero_le n), c0, c0]
    have p3 : sr (n + 1) (fun c => ch n c * SW b A (d + 1) (n + 1 - (c + 1)) (adn v d (c + 1))) + sr (n + 1) (fun c => (if c + 1 ≤ n then ch n (c + 1) else 0) * SW b A (d + 1) (n + 1 - (c + 1)) (adn v d (c + 1))) = sr (n + 1) (fun c => ch (n + 1) (c + 1) * SW b A (d + 1) (n + 1 - (c + 1)) (adn v d (c + 1))) := by
      rw [← sr_add]
      apply sr_congr
      intro c hc
      rw [← Nat.add_mul]
      congr 1
      show _ = ch n c + ch n (c + 1)
      by_cases q : c + 1 ≤ n
      · rw [if_pos q]
      · rw [if_neg q]
        rw [ch_big n (c + 1) (by omega)]
    omega
theorem SW_end {b : Nat} {A : (Nat → Nat) → Nat} (n : Nat) (v : Nat → Nat) : SW b A 10 (n + 1) v = 0 := by
  unfold SW
  exact (sr_congr (fun x hx => if_neg (by omega))).trans (sr_zero 10)
/-! the digits of a number -/
def dg : Nat → Nat → List Nat
  | 0, _ => []
  | n + 1, c => (c % 10) :: dg n (c / 10)
theorem dg_len : ∀ n c, (dg n c).length = n := by
  intro n
  induction n with
  | zero => intro c; rfl
  | succ n ih => intro c; unfold dg; rw [List.length_cons, ih]
theorem dg_lt : ∀ n c x, x ∈ dg n c → x < 10 := by
  intro n
  induction n with
  | zero => intro c x h; cases h
  | succ n ih =>
    intro c x h
    unfold dg at h
    rcases List.mem_cons.mp h with e | e
    · subst e; omega
    · exact ih _ x e
theorem dg_get : ∀ n c i, i < n → (dg n c).getD i 0 = c / 10 ^ i % 10 := by
  intro n
  induction n with
  | zero => intro c i h; omega
  | succ n ih =>
    intro c i h
    unfold dg
    cases i with
    | zero => rw [Nat.pow_zero, Nat.div_one]; rfl
    | succ i =>
      show (dg n (c / 10)).getD i 0 = _
      rw [ih _ i (by omega), Nat.div_div_eq_div_mul, Nat.pow_succ, Nat.mul_comm]
def gdw (b : Nat) (A : (Nat → Nat) → Nat) : List Nat → (Nat → Nat) → Nat
  | [], v => A v
  | x :: ps, v => if bb b x = 0 then gdw b A ps (ad v x) else 0
theorem gdw_eq {b : Nat} {A : (Nat → Nat) → Nat} : ∀ ps v, gdw b A ps v = if (∀ x ∈ ps, bb b x = 0) then A (fun y => v y + ps.count y) else 0 := by
  intro ps
  induction ps with
  | nil => intro v; rw [if_pos (fun x h => by cases h)]; rfl
  | cons a t ih =>
    intro v
    unfold gdw
    by_cases h : bb b a = 0
    · rw [if_pos h, ih]
      have e : (fun y => ad v a y + t.count y) = (fun y => v y + (a :: t).count y) := by
        funext y
        rw [List.count_cons]
        unfold ad
        by_cases q : y = a
        · subst q; rw [if_pos rfl, if_pos (by simp)]; omega
        · rw [if_neg q, if_neg (by simp; omega)]; omega
      rw [e]
      by_cases q : ∀ x ∈ t, bb b x = 0
      · rw [if_pos q, if_pos (fun x hx => by
          rcases List.mem_cons.mp hx with e | e
          · subst e; exact h
          · exact q x e)]
      · rw [if_neg q, if_neg (fun z => q (fun x hx => z x (List.mem_cons_of_mem _ hx)))]
    · rw [if_neg h, if_neg (fun z => h (z a (List.mem_cons_self ..)))]
theorem sr_mulN (K : Nat) (f : Nat → Nat) : sr (10 * K) f = sr K (fun q => sr 10 (fun r => f (10 * q + r))) := by
  induction K with
  | zero => rfl
  | succ K ih =>
    rw [sr_s, ← ih]
    have : ∀ m, sr (10 * K + m) f = sr (10 * K) f + sr m (fun r => f (10 * K + r)) := by
      intro m
      induction m with
      | zero => rfl
      | succ m ih2 => rw [← Nat.add_assoc, sr_s, ih2, sr_s]; omega
    exact this 10
theorem sum_dg {b : Nat} {A : (Nat → Nat) → Nat} : ∀ n v, sr (10 ^ n) (fun c => gdw b A (dg n c) v) = SW b A 0 n v := by
  intro n
  induction n with
  | zero => intro v; show 0 + A v = A v; omega
  | succ n ih =>
    intro v
    rw [Nat.pow_succ, Nat.mul_comm, sr_mulN]
    unfold SW
    have e1 : sr (10 ^ n) (fun q => sr 10 (fun r => gdw b A (dg (n + 1) (10 * q + r)) v)) = sr (10 ^ n) (fun q => sr 10 (fun r => if 0 ≤ r ∧ bb b r = 0 then gdw b A (dg n q) (ad v r) else 0)) := by
      apply sr_congr
      intro q _
      apply sr_congr
      intro r hr
      rw [show dg (n + 1) (10 * q + r) = ((10 * q + r) % 10) :: dg n ((10 * q + r) / 10) from rfl, show (10 * q + r) % 10 = r by omega, show (10 * q + r) / 10 = q by omega]
      show (if bb b r = 0 then _ else _) = _
      by_cases h : bb b r = 0
      · rw [if_pos h, if_pos ⟨by omega, h⟩]
      · rw [if_neg h, if_neg (fun z => h z.2)]
    rw [e1, sr_swap]
    apply sr_congr
    intro x _
    rw [sr_ite, ih]
/-! the class -/
theorem arC_spec {law share pot b : Nat} {v : Nat → Nat} {f : Nat → Int32} (hl : law ≤ 2) (hs : share ≤ 1) (hpot : pot ≤ 999) (hb : b < 1024) (hc : ∀ d, d < 10 → v d ≤ 9 ∧ f d = nI (v d)) : X8_areAtRest (nI law) (nI share) (nI pot) (nI b) f = some (nI (AR law share pot b v)) := by
  unfold X8_areAtRest
  refine lupP (fun i => ∀ x, x < i → (0 < v x → wn law share pot b v x = x)) (fun n i => X8_areAtRest_b2 n (nI law) (nI share) (nI pot) (nI b) f (nI i)) 10 _ ?_ ?_ fU 0 (by omega) (fU_gt (by omega)) (fun x hx => absurd hx (Nat.not_lt_zero x))
  · intro n i hi hP
    have unf : X8_areAtRest_b2 (n + 1) (nI law) (nI share) (nI pot) (nI b) f (nI i) = if nI (v i) ≤ 0 then X8_areAtRest_b2 n (nI law) (nI share) (nI pot) (nI b) f (nI (i + 1)) else bnd1 (X8_wanted (nI law) (nI share) (nI pot) (nI b) f (nI i)) (fun r5 => if r5 = nI i then X8_areAtRest_b2 n (nI law) (nI share) (nI pot) (nI b) f (nI (i + 1)) else some 0) := by
      show X8_areAtRest_b2_s (X8_areAtRest_b2 n) _ _ _ _ _ _ = _
      unfold X8_areAtRest_b2_s X8_areAtRest_b32
      rw [if_neg (show ¬ (10 : Int32) ≤ nI i from nI_ge (b := 10) hi (by omega)), if_neg (show ¬ (10 : Int32) ≤ nI i from nI_ge (b := 10) hi (by omega)), if_neg (ix_ok hi (by omega)), nI_clamp (by omega), (hc i hi).2, nI_1]
    have hv := (hc i hi).1
    show X8_areAtRest_b2 (n + 1) _ _ _ _ _ _ = _ ∨ _
    rw [unf]
    by_cases h0 : v i = 0
    · right
      refine ⟨fun x hx hp => ?_, ?_⟩
      · by_cases e : x = i
        · subst e; omega
        · exact hP x (by omega) hp
      · rw [h0, if_pos (show nI 0 ≤ 0 by decide)]
    · rw [if_neg (nI_nle (by omega) (by omega)), wanted_spec hl hs hpot hb hc hi (by omega), bnd1_k]
      have hwn : wn law share pot b v i < 10 := wn_lt hpot hi
      by_cases e : wn law share pot b v i = i
      · right
        refine ⟨fun x hx hp => ?_, ?_⟩
        · by_cases q : x = i
          · subst q; exact e
          · exact hP x (by omega) hp
        · rw [e, if_pos rfl]
      · left
        rw [if_neg (fun q => e ((nI_eq (by omega) (by omega)).mp q))]
        unfold AR
        rw [if_neg (fun q => e (q i hi (by omega)))]
        rfl
  · intro n hP
    show X8_areAtRest_b2_s (X8_areAtRest_b2 n) _ _ _ _ _ _ = _
    unfold X8_areAtRest_b2_s AR
    rw [if_pos (show (10 : Int32) ≤ nI 10 by decide), if_pos (show isAR law share pot b v from hP)]
    rfl
