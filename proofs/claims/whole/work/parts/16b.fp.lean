set_option maxRecDepth 100000 in
theorem fGd_0 : ∀ a, a < 128 → ∀ b, b < 16 → b + 0 ≤ a → fGood (a + 1) (b + 1) = true := by decide +kernel
set_option maxRecDepth 100000 in
theorem fGd_1 : ∀ a, a < 128 → ∀ b, b < 16 → b + 16 ≤ a → fGood (a + 1) (b + 17) = true := by decide +kernel
set_option maxRecDepth 100000 in
theorem fGd_2 : ∀ a, a < 128 → ∀ b, b < 16 → b + 32 ≤ a → fGood (a + 1) (b + 33) = true := by decide +kernel
set_option maxRecDepth 100000 in
theorem fGd_3 : ∀ a, a < 128 → ∀ b, b < 16 → b + 48 ≤ a → fGood (a + 1) (b + 49) = true := by decide +kernel
set_option maxRecDepth 100000 in
theorem fGd_4 : ∀ a, a < 128 → ∀ b, b < 16 → b + 64 ≤ a → fGood (a + 1) (b + 65) = true := by decide +kernel
set_option maxRecDepth 100000 in
theorem fGd_5 : ∀ a, a < 128 → ∀ b, b < 16 → b + 80 ≤ a → fGood (a + 1) (b + 81) = true := by decide +kernel
set_option maxRecDepth 100000 in
theorem fGd_6 : ∀ a, a < 128 → ∀ b, b < 16 → b + 96 ≤ a → fGood (a + 1) (b + 97) = true := by decide +kernel
set_option maxRecDepth 100000 in
theorem fGd_7 : ∀ a, a < 128 → ∀ b, b < 16 → b + 112 ≤ a → fGood (a + 1) (b + 113) = true := by decide +kernel
theorem fGood_all {a b : Nat} (h1 : 1 ≤ b) (h2 : b ≤ a) (h3 : a ≤ 128) : fGood a b = true := by
  obtain ⟨x, rfl⟩ : ∃ x, a = x + 1 := ⟨a - 1, by omega⟩
  have hx : x < 128 := by omega
  rcases (show b < 17 ∨ (17 ≤ b ∧ b < 33) ∨ (33 ≤ b ∧ b < 49) ∨ (49 ≤ b ∧ b < 65) ∨ (65 ≤ b ∧ b < 81) ∨ (81 ≤ b ∧ b < 97) ∨ (97 ≤ b ∧ b < 113) ∨ 113 ≤ b by omega) with h | h | h | h | h | h | h | h
  · have := fGd_0 x hx (b - 1) (by omega) (by omega); rwa [show b - 1 + 1 = b by omega] at this
  · have := fGd_1 x hx (b - 17) (by omega) (by omega); rwa [show b - 17 + 17 = b by omega] at this
  · have := fGd_2 x hx (b - 33) (by omega) (by omega); rwa [show b - 33 + 33 = b by omega] at this
  · have := fGd_3 x hx (b - 49) (by omega) (by omega); rwa [show b - 49 + 49 = b by omega] at this
  · have := fGd_4 x hx (b - 65) (by omega) (by omega); rwa [show b - 65 + 65 = b by omega] at this
  · have := fGd_5 x hx (b - 81) (by omega) (by omega); rwa [show b - 81 + 81 = b by omega] at this
  · have := fGd_6 x hx (b - 97) (by omega) (by omega); rwa [show b - 97 + 97 = b by omega] at this
  · have := fGd_7 x hx (b - 113) (by omega) (by omega); rwa [show b - 113 + 113 = b by omega] at this
theorem dGood_ok {a b : Nat} (h1 : 1 ≤ a) (h2 : a ≤ 128) (h3 : 1 ≤ b) (h4 : b ≤ 8) : dGood a b = true := by
  have := dGood_all (b - 1) (by omega) (a - 1) (by omega)
  rwa [show a - 1 + 1 = a by omega, show b - 1 + 1 = b by omega] at this
