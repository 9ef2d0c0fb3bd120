/-! bits of the barred numbers; figures; letters -/
set_option maxRecDepth 100000 in
theorem bm_1 : ∀ b, b < 1024 → (1023 : Int32) &&& (nI b ^^^ (-1)) = nI (1023 - b) := by decide +kernel
set_option maxRecDepth 100000 in
theorem bm_2 : ∀ b, b < 1024 → ∀ d, d < 10 → bb (1023 - b) d = 1 - bb b d := by decide +kernel
def clr (m d : Nat) : Nat := m - bb m d * 2 ^ d
set_option maxRecDepth 100000 in
theorem bm_3 : ∀ m, m < 1024 → ∀ d, d < 10 → nI m &&& (((1 : Int32) <<< (nI d &&& 31)) ^^^ (-1)) = nI (clr m d) ∧ clr m d < 1024 := by decide +kernel
set_option maxRecDepth 100000 in
theorem bm_4 : ∀ m, m < 1024 → ∀ d, d < 10 → ∀ e, e < 10 → bb (clr m d) e = if e = d then 0 else bb m e := by decide +kernel
set_option maxRecDepth 100000 in
theorem bm_5 : ∀ m, m < 1024 → ∀ d, d < 10 → bb m d = 0 → nI m ||| ((1 : Int32) <<< (nI d &&& 31)) = nI (m + 2 ^ d) ∧ m + 2 ^ d < 1024 ∧ pcn (m + 2 ^ d) = pcn m + 1 := by decide +kernel
set_option maxRecDepth 100000 in
theorem bm_6 : ∀ m, m < 1024 → ∀ d, d < 10 → bb m d = 0 → ∀ e, e < 10 → bb (m + 2 ^ d) e = if e = d then 1 else bb m e := by decide +kernel
set_option maxRecDepth 100000 in
theorem bm_7 : ∀ m, m < 1024 → (m = 0 ∨ ∃ d, d < 10 ∧ bb m d = 1) := by decide +kernel
