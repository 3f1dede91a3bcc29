/-! means of ranks are numbers -/
theorem fpt0 : ∀ y, y < 8 → ∀ x, x < 121 → (FP.ddiv (FP.i2d (nI x)) (FP.i2d (nI (y + 1))) &&& 0x7fffffffffffffff) ≤ 0x7ff0000000000000 := by decide +kernel
theorem fpt1 : ∀ y, y < 8 → ∀ x, x < 241 → (FP.ddiv (FP.i2d (nI x)) (FP.i2d (nI (y + 9))) &&& 0x7fffffffffffffff) ≤ 0x7ff0000000000000 := by decide +kernel
theorem fpt2 : ∀ y, y < 8 → ∀ x, x < 361 → (FP.ddiv (FP.i2d (nI x)) (FP.i2d (nI (y + 17))) &&& 0x7fffffffffffffff) ≤ 0x7ff0000000000000 := by decide +kernel
theorem fpt3 : ∀ y, y < 8 → ∀ x, x < 481 → (FP.ddiv (FP.i2d (nI x)) (FP.i2d (nI (y + 25))) &&& 0x7fffffffffffffff) ≤ 0x7ff0000000000000 := by decide +kernel
theorem fpt4 : ∀ y, y < 8 → ∀ x, x < 601 → (FP.ddiv (FP.i2d (nI x)) (FP.i2d (nI (y + 33))) &&& 0x7fffffffffffffff) ≤ 0x7ff0000000000000 := by decide +kernel
theorem fpt5 : ∀ y, y < 8 → ∀ x, x < 721 → (FP.ddiv (FP.i2d (nI x)) (FP.i2d (nI (y + 41))) &&& 0x7fffffffffffffff) ≤ 0x7ff0000000000000 := by decide +kernel
theorem fpt6 : ∀ y, y < 8 → ∀ x, x < 841 → (FP.ddiv (FP.i2d (nI x)) (FP.i2d (nI (y + 49))) &&& 0x7fffffffffffffff) ≤ 0x7ff0000000000000 := by decide +kernel
theorem fpt7 : ∀ y, y < 8 → ∀ x, x < 961 → (FP.ddiv (FP.i2d (nI x)) (FP.i2d (nI (y + 57))) &&& 0x7fffffffffffffff) ≤ 0x7ff0000000000000 := by decide +kernel
theorem fp_n {x y : Nat} (h1 : 1 ≤ y) (h2 : y ≤ 64) (h3 : x ≤ 15 * y) : vf_n64 (FP.ddiv (FP.i2d (nI x)) (FP.i2d (nI y))) := by
  unfold vf_n64
  by_cases e0 : y ≤ 8
  · have := fpt0 (y - 1) (by omega) x (by omega)
    rw [show y - 1 + 1 = y by omega] at this
    exact this
  · skip
    by_cases e1 : y ≤ 16
    · have := fpt1 (y - 9) (by omega) x (by omega)
      rw [show y - 9 + 9 = y by omega] at this
      exact this
    · skip
      by_cases e2 : y ≤ 24
      · have := fpt2 (y - 17) (by omega) x (by omega)
        rw [show y - 17 + 17 = y by omega] at this
        exact this
      · skip
        by_cases e3 : y ≤ 32
        · have := fpt3 (y - 25) (by omega) x (by omega)
          rw [show y - 25 + 25 = y by omega] at this
          exact this
        · skip
          by_cases e4 : y ≤ 40
          · have := fpt4 (y - 33) (by omega) x (by omega)
            rw [show y - 33 + 33 = y by omega] at this
            exact this
          · skip
            by_cases e5 : y ≤ 48
            · have := fpt5 (y - 41) (by omega) x (by omega)
              rw [show y - 41 + 41 = y by omega] at this
              exact this
            · skip
              by_cases e6 : y ≤ 56
              · have := fpt6 (y - 49) (by omega) x (by omega)
                rw [show y - 49 + 49 = y by omega] at this
                exact this
              · skip
                have e7 : y ≤ 64 := h2
                have := fpt7 (y - 57) (by omega) x (by omega)
                rw [show y - 57 + 57 = y by omega] at this
                exact this

