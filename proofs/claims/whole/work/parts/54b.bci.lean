/-! Integer.bitCount below 65536; the input on both sides -/
theorem bcI_t0 : ∀ hi, hi < 64 → ∀ lo, lo < 256 → bcI (nI (lo + 256 * hi)) = nI (pcB lo + pcB hi) := by decide +kernel
theorem bcI_t1 : ∀ hi, hi < 64 → ∀ lo, lo < 256 → bcI (nI (lo + 256 * (hi + 64))) = nI (pcB lo + pcB (hi + 64)) := by decide +kernel
theorem bcI_t2 : ∀ hi, hi < 64 → ∀ lo, lo < 256 → bcI (nI (lo + 256 * (hi + 128))) = nI (pcB lo + pcB (hi + 128)) := by decide +kernel
theorem bcI_t3 : ∀ hi, hi < 64 → ∀ lo, lo < 256 → bcI (nI (lo + 256 * (hi + 192))) = nI (pcB lo + pcB (hi + 192)) := by decide +kernel
theorem bcI_tab {hi lo : Nat} (h1 : hi < 256) (h2 : lo < 256) : bcI (nI (lo + 256 * hi)) = nI (pcB lo + pcB hi) := by
  by_cases e0 : hi < 64
  · exact bcI_t0 hi e0 lo h2
  · by_cases e1 : hi < 128
    · have := bcI_t1 (hi - 64) (by omega) lo h2
      rw [show hi - 64 + 64 = hi by omega] at this
      exact this
    · by_cases e2 : hi < 192
      · have := bcI_t2 (hi - 128) (by omega) lo h2
        rw [show hi - 128 + 128 = hi by omega] at this
        exact this
      · have := bcI_t3 (hi - 192) (by omega) lo h2
        rw [show hi - 192 + 192 = hi by omega] at this
        exact this
theorem cdN_0 : ∀ k, cdN 0 k = 0
  | 0 => rfl
  | k + 1 => by unfold cdN; rw [cdN_0 k, Nat.zero_div]
theorem bcI_c1 {k : Nat} (hk : k < 65536) : bcI (nI k) = c1V (nI k).toInt64 64 := by
  have e : uL (nI k).toInt64 = k := by
    rw [nI_l (by omega)]
    unfold uL lN
    show (BitVec.ofNat 64 k).toNat = k
    rw [BitVec.toNat_ofNat]
    exact Nat.mod_eq_of_lt (by omega)
  rw [c1V_cd _ 64 (Nat.le_refl _), cd_cdN, e]
  have h1 : k = k % 256 + 256 * (k / 256) := by omega
  have h2 := bcI_tab (hi := k / 256) (lo := k % 256) (by omega) (by omega)
  rw [← h1] at h2
  rw [h2, show (64 : Nat) = 8 + (8 + 48) from rfl, cdN_s, cdN_s, show k / 256 % 256 = k / 256 by omega, show k / 256 / 256 = 0 by omega, cdN_0, Nat.add_zero]
theorem dl_eq {f g : Nat → Int32} {n : Nat} (hf : lv16 f n) (h : ∀ p, p < n → f p = g p) : bcI (lvb f n) = c1V (lvb g n).toInt64 64 := by
  rw [← lvb_cg n h]
  obtain ⟨k, k1, k2⟩ := lvb_16 n hf
  rw [k2]
  exact bcI_c1 k1

