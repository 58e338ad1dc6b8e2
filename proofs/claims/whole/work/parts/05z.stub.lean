theorem okM_all : ∀ i, i < 381 → okM i = true := sorry
theorem okZ_all : ∀ i, i < 381 → okZ i = true := sorry
