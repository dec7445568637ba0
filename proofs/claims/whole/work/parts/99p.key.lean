/-! The class's words of the language -/
theorem key_v : ∀ j, j < 27 → (i_X8_init (clr x00 0)).2 4 j = Int64.ofNat (pk (kb j) 0 (txB j).length) := by decide +kernel
