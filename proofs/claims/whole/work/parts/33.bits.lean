/-! bits of longs -/
def hb (s : Int64) (q : Nat) : Bool := s.toBitVec.getLsbD q
theorem hb_ge {s : Int64} {q : Nat} (h : 64 ≤ q) : hb s q = false := BitVec.getLsbD_of_ge _ _ h
theorem hb_lt {s : Int64} {q : Nat} (h : hb s q = true) : q < 64 := by
  rcases Nat.lt_or_ge q 64 with h1 | h1
  · exact h1
  · rw [hb_ge h1] at h; exact absurd h (by decide)
theorem hb_ext {a b : Int64} (h : ∀ q, q < 64 → hb a q = hb b q) : a = b := by
  have : a.toBitVec = b.toBitVec := BitVec.eq_of_getLsbD_eq (fun i hi => h i hi)
  exact Int64.toBitVec_inj.mp this
theorem hb_and (a b : Int64) (q : Nat) : hb (a &&& b) q = (hb a q && hb b q) := by unfold hb; rw [Int64.toBitVec_and, BitVec.getLsbD_and]
theorem hb_or (a b : Int64) (q : Nat) : hb (a ||| b) q = (hb a q || hb b q) := by unfold hb; rw [Int64.toBitVec_or, BitVec.getLsbD_or]
theorem hb_0 (q : Nat) : hb 0 q = false := by unfold hb; exact BitVec.getLsbD_zero
theorem hb_m1 (q : Nat) : hb (-1) q = decide (q < 64) := by
  unfold hb
  rw [show (-1 : Int64).toBitVec = BitVec.allOnes 64 from by decide, BitVec.getLsbD_allOnes]
theorem hb_not (a : Int64) (q : Nat) : hb (a ^^^ -1) q = (decide (q < 64) && !hb a q) := by
  unfold hb
  rw [Int64.toBitVec_xor, BitVec.getLsbD_xor, show (-1 : Int64).toBitVec = BitVec.allOnes 64 from by decide, BitVec.getLsbD_allOnes]
  by_cases h : q < 64
  · simp [h]
  · simp [h, BitVec.getLsbD_of_ge _ _ (Nat.le_of_not_lt h)]
theorem bt_c : ∀ k, k < 64 → ((nI k).toInt64 &&& 63) = Int64.ofNat k := by decide +kernel
theorem bt_cu : ∀ k, k < 64 → ((nI k).toInt64.toUInt64 &&& Int64.toUInt64 63) = UInt64.ofNat k := by decide +kernel
theorem bt_sm : ∀ k, k < 64 → ((Int64.ofNat k).toBitVec.smod 64).toNat = k := by decide +kernel
theorem bt_um : ∀ k, k < 64 → ((UInt64.ofNat k).toBitVec % 64).toNat = k := by decide +kernel
theorem hb_shl (x : Int64) {k : Nat} (hk : k < 64) (q : Nat) : hb (shlL x (nI k)) q = (decide (q < 64) && (!decide (q < k) && hb x (q - k))) := by
  unfold hb shlL
  rw [bt_c k hk, Int64.toBitVec_shiftLeft, BitVec.shiftLeft_eq', bt_sm k hk, BitVec.getLsbD_shiftLeft]
  simp only [Bool.and_assoc]
theorem hb_ush (x : Int64) {k : Nat} (hk : k < 64) (q : Nat) : hb (ushL x (nI k)) q = hb x (q + k) := by
  unfold hb ushL
  rw [bt_cu k hk, UInt64.toBitVec_toInt64, UInt64.toBitVec_shiftRight, BitVec.ushiftRight_eq', bt_um k hk, BitVec.getLsbD_ushiftRight, Int64.toBitVec_toUInt64, Nat.add_comm]
theorem hb_shr (x : Int64) {k : Nat} (hk : k < 64) {q : Nat} (hq : q + k < 64) : hb (shrL x (nI k)) q = hb x (q + k) := by
  unfold hb shrL
  rw [bt_c k hk, Int64.toBitVec_shiftRight, BitVec.sshiftRight_eq', bt_sm k hk, BitVec.getLsbD_sshiftRight]
  have h1 : ¬ 64 ≤ q := by omega
  simp [h1, Nat.add_comm k q, hq]
theorem hb_1 (q : Nat) : hb 1 q = decide (q = 0) := by
  unfold hb
  rw [show (1 : Int64).toBitVec = 1#64 from rfl]
  rw [BitVec.getLsbD_one]
  by_cases h : q = 0 <;> simp [h]
theorem hb_bit {p : Nat} (hp : p < 64) (q : Nat) : hb (shlL 1 (nI p)) q = decide (q = p) := by
  rw [hb_shl 1 hp, hb_1]
  by_cases h : q = p
  · subst h; simp [hp]
  · by_cases h1 : q < p
    · simp [h, h1]
    · have : q - p ≠ 0 := by omega
      simp [h, h1, this]
theorem and0 {a b : Int64} : (a &&& b) = 0 ↔ ∀ q, hb a q = true → hb b q = true → False := by
  constructor
  · intro h q h1 h2
    have := hb_and a b q
    rw [h, hb_0, h1, h2] at this
    exact absurd this (by decide)
  · intro h
    refine hb_ext (fun q _ => ?_)
    rw [hb_and, hb_0]
    cases h1 : hb a q <;> cases h2 : hb b q <;> first | rfl | exact (h q h1 h2).elim
theorem and0p {a : Int64} {p : Nat} (hp : p < 64) : (a &&& shlL 1 (nI p)) = 0 ↔ hb a p = false := by
  rw [and0]
  constructor
  · intro h
    cases h1 : hb a p
    · rfl
    · exact (h p h1 (by rw [hb_bit hp]; simp)).elim
  · intro h q h1 h2
    rw [hb_bit hp] at h2
    have : q = p := by simpa using h2
    subst this
    rw [h] at h1
    exact absurd h1 (by decide)
theorem hasV_hb (s : Int64) {p : Nat} (hp : p < 64) : hasV s p = if hb s p then 1 else 0 := by
  unfold hasV
  have h0 : (ushL s (nI p) &&& 1) = 0 ↔ hb s p = false := by
    rw [and0]
    constructor
    · intro h
      cases h1 : hb s p
      · rfl
      · exact (h 0 (by rw [hb_ush s hp, Nat.zero_add]; exact h1) (by rw [hb_1]; rfl)).elim
    · intro h q h1 h2
      rw [hb_1] at h2
      have : q = 0 := by simpa using h2
      subst this
      rw [hb_ush s hp, Nat.zero_add, h] at h1
      exact absurd h1 (by decide)
  cases h1 : hb s p
  · rw [if_pos (h0.mpr h1)]; simp
  · rw [if_neg (fun q => by rw [h0.mp q] at h1; exact absurd h1 (by decide))]; simp
theorem hasM_hb (s : Int64) {p : Nat} (hp : p < 64) : hasM s (nI p) = if hb s p then 1 else 0 := by
  unfold hasM
  have h0 : (shrL s (nI p) &&& 1) = 1 ↔ hb s p = true := by
    constructor
    · intro h
      have := congrArg (fun x => hb x 0) h
      simp only [hb_and, hb_1] at this
      rw [hb_shr s hp (by omega), Nat.zero_add] at this
      simpa using this
    · intro h
      refine hb_ext (fun q _ => ?_)
      rw [hb_and, hb_1]
      by_cases hq : q = 0
      · subst hq
        rw [hb_shr s hp (by omega), Nat.zero_add, h]
        rfl
      · simp [hq]
  cases h1 : hb s p
  · rw [if_neg (fun q => by rw [h0.mp q] at h1; exact absurd h1 (by decide))]; simp
  · rw [if_pos (h0.mpr h1)]; simp
theorem hasV0 (s : Int64) {p : Nat} (hp : p < 64) : hasV s p = 0 ↔ hb s p = false := by
  rw [hasV_hb s hp]; cases hb s p <;> simp
theorem hasM0 (s : Int64) {p : Nat} (hp : p < 64) : hasM s (nI p) = 0 ↔ hb s p = false := by
  rw [hasM_hb s hp]; cases hb s p <;> simp
theorem subV1 (o v : Int64) : subV o v = 1 ↔ ∀ q, hb o q = true → hb v q = true := by
  unfold subV
  have h0 : (o &&& (v ^^^ -1)) = 0 ↔ ∀ q, hb o q = true → hb v q = true := by
    rw [and0]
    constructor
    · intro h q h1
      cases h2 : hb v q
      · exact (h q h1 (by rw [hb_not, h2]; simp [hb_lt h1])).elim
      · rfl
    · intro h q h1 h2
      rw [hb_not, h q h1] at h2
      simp at h2
  by_cases h1 : (o &&& (v ^^^ -1)) = 0
  · rw [if_pos h1]; exact ⟨fun _ => h0.mp h1, fun _ => rfl⟩
  · rw [if_neg h1]; exact ⟨fun q => absurd q (by decide), fun q => (h1 (h0.mpr q)).elim⟩
theorem subV01 (o v : Int64) : subV o v = 0 ∨ subV o v = 1 := by unfold subV; split; exact Or.inr rfl; exact Or.inl rfl
/-- the bits below p -/
theorem low_h : ∀ p, p < 64 → ∀ q, q < 64 → hb (shlL 1 (nI p) - 1) q = decide (q < p) := by decide +kernel
theorem hb_low {p : Nat} (hp : p < 64) (q : Nat) : hb (shlL 1 (nI p) - 1) q = decide (q < p) := by
  rcases Nat.lt_or_ge q 64 with h | h
  · exact low_h p hp q h
  · rw [hb_ge h]; simp; omega

