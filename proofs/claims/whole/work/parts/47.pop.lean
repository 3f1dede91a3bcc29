/-! Long.bitCount counts bits -/
def pcB (b : Nat) : Nat := b % 2 + b / 2 % 2 + b / 4 % 2 + b / 8 % 2 + b / 16 % 2 + b / 32 % 2 + b / 64 % 2 + b / 128 % 2
def pS1 (b : Nat) : Nat := b - ((b / 2) &&& 85)
def pS2 (u : Nat) : Nat := (u &&& 51) + ((u / 4) &&& 51)
def pS3 (c : Nat) : Nat := (c + c / 16) % 16
theorem tb1 : ∀ b, b < 256 → ∀ e, e < 2 → ((b / 2 + 128 * e) &&& 85) = ((b / 2) &&& 85) := by decide +kernel
theorem tb1l : ∀ b, b < 256 → ((b / 2) &&& 85) ≤ b := by decide +kernel
theorem tb2 : ∀ u, u < 256 → ∀ e, e < 4 → ((u / 4 + 64 * e) &&& 51) = ((u / 4) &&& 51) := by decide +kernel
theorem tb3 : ∀ b, b < 256 → pS2 (pS1 b) ≤ 68 ∧ pS2 (pS1 b) % 16 ≤ 4 := by decide +kernel
theorem tb3a : ∀ c, c < 69 → ∀ e, e < 5 → ((c + c / 16 + 16 * e) &&& 15) = pS3 c := by decide +kernel
theorem tb4 : ∀ b, b < 256 → pS3 (pS2 (pS1 b)) = pcB b := by decide +kernel
theorem tb5 : ∀ b, b < 256 → pcB b ≤ 8 := by decide +kernel
theorem andB {l a : Nat} (hl : l < 256) (ha : a < 256) (h b : Nat) : ((l + 256 * h) &&& (a + 256 * b)) = (l &&& a) + 256 * (h &&& b) := by
  have h1 : ((l + 256 * h) &&& (a + 256 * b)) % 2 ^ 8 = (l &&& a) := by
    rw [Nat.and_mod_two_pow, show (l + 256 * h) % 2 ^ 8 = l by omega, show (a + 256 * b) % 2 ^ 8 = a by omega]
  have h2 : ((l + 256 * h) &&& (a + 256 * b)) / 2 ^ 8 = (h &&& b) := by
    rw [Nat.and_div_two_pow, show (l + 256 * h) / 2 ^ 8 = h by omega, show (a + 256 * b) / 2 ^ 8 = b by omega]
  omega
def N8 (b0 b1 b2 b3 b4 b5 b6 b7 : Nat) : Nat := b0 + 256 * (b1 + 256 * (b2 + 256 * (b3 + 256 * (b4 + 256 * (b5 + 256 * (b6 + 256 * b7))))))
theorem andN8 {b0 b1 b2 b3 b4 b5 b6 b7 : Nat} (h0 : b0 < 256) (h1 : b1 < 256) (h2 : b2 < 256) (h3 : b3 < 256) (h4 : b4 < 256) (h5 : b5 < 256) (h6 : b6 < 256) {a : Nat} (ha : a < 256) : (N8 b0 b1 b2 b3 b4 b5 b6 b7 &&& N8 a a a a a a a a) = N8 (b0 &&& a) (b1 &&& a) (b2 &&& a) (b3 &&& a) (b4 &&& a) (b5 &&& a) (b6 &&& a) (b7 &&& a) := by
  unfold N8
  rw [andB h0 ha, andB h1 ha, andB h2 ha, andB h3 ha, andB h4 ha, andB h5 ha, andB h6 ha]
def uL (a : Int64) : Nat := a.toBitVec.toNat
theorem uL_lt (a : Int64) : uL a < 2 ^ 64 := a.toBitVec.isLt
theorem uL_ush (a : Int64) {k : Nat} (hk : k < 64) : uL (ushL a (nI k)) = uL a / 2 ^ k := by
  unfold uL ushL
  rw [bt_cu k hk, UInt64.toBitVec_toInt64, UInt64.toBitVec_shiftRight, BitVec.ushiftRight_eq', bt_um k hk, BitVec.toNat_ushiftRight, Int64.toBitVec_toUInt64, Nat.shiftRight_eq_div_pow]
theorem uL_and (a b : Int64) : uL (a &&& b) = (uL a &&& uL b) := by unfold uL; rw [Int64.toBitVec_and, BitVec.toNat_and]
theorem uL_add (a b : Int64) (h : uL a + uL b < 2 ^ 64) : uL (a + b) = uL a + uL b := by
  unfold uL at *
  rw [Int64.toBitVec_add, BitVec.toNat_add, Nat.mod_eq_of_lt h]
theorem uL_sub (a b : Int64) (h : uL b ≤ uL a) : uL (a - b) = uL a - uL b := by
  have h1 := uL_lt a
  unfold uL at *
  rw [Int64.toBitVec_sub, BitVec.toNat_sub]
  omega
theorem bcL_N8 {b0 b1 b2 b3 b4 b5 b6 b7 : Nat} (h0 : b0 < 256) (h1 : b1 < 256) (h2 : b2 < 256) (h3 : b3 < 256) (h4 : b4 < 256) (h5 : b5 < 256) (h6 : b6 < 256) (h7 : b7 < 256) {a : Int64} (ha : uL a = N8 b0 b1 b2 b3 b4 b5 b6 b7) : bcL a = nI (pcB b0 + pcB b1 + pcB b2 + pcB b3 + pcB b4 + pcB b5 + pcB b6 + pcB b7) := by
  unfold bcL
  simp only
  have sb : ∀ b, b < 256 → pS1 b < 256 ∧ ((b / 2) &&& 85) ≤ b ∧ pS1 b = b - ((b / 2) &&& 85) := fun b hb => ⟨by unfold pS1; omega, tb1l b hb, rfl⟩
  -- first
  have e1 : uL (ushL a 1 &&& 6148914691236517205) = N8 ((b0 / 2) &&& 85) ((b1 / 2) &&& 85) ((b2 / 2) &&& 85) ((b3 / 2) &&& 85) ((b4 / 2) &&& 85) ((b5 / 2) &&& 85) ((b6 / 2) &&& 85) ((b7 / 2) &&& 85) := by
    rw [uL_and, show (1 : Int32) = nI 1 from rfl, uL_ush a (by decide), show uL 6148914691236517205 = N8 85 85 85 85 85 85 85 85 by decide, ha]
    rw [show N8 b0 b1 b2 b3 b4 b5 b6 b7 / 2 ^ 1 = N8 (b0 / 2 + 128 * (b1 % 2)) (b1 / 2 + 128 * (b2 % 2)) (b2 / 2 + 128 * (b3 % 2)) (b3 / 2 + 128 * (b4 % 2)) (b4 / 2 + 128 * (b5 % 2)) (b5 / 2 + 128 * (b6 % 2)) (b6 / 2 + 128 * (b7 % 2)) (b7 / 2) by unfold N8; omega]
    rw [andN8 (by omega) (by omega) (by omega) (by omega) (by omega) (by omega) (by omega) (by decide)]
    rw [tb1 b0 h0 _ (by omega), tb1 b1 h1 _ (by omega), tb1 b2 h2 _ (by omega), tb1 b3 h3 _ (by omega), tb1 b4 h4 _ (by omega), tb1 b5 h5 _ (by omega), tb1 b6 h6 _ (by omega)]
  have e2 : uL (a - (ushL a 1 &&& 6148914691236517205)) = N8 (pS1 b0) (pS1 b1) (pS1 b2) (pS1 b3) (pS1 b4) (pS1 b5) (pS1 b6) (pS1 b7) := by
    have k0 := sb b0 h0; have k1 := sb b1 h1; have k2 := sb b2 h2; have k3 := sb b3 h3; have k4 := sb b4 h4; have k5 := sb b5 h5; have k6 := sb b6 h6; have k7 := sb b7 h7
    rw [uL_sub _ _ (by rw [e1, ha]; unfold N8; omega), e1, ha]
    unfold N8
    omega
  generalize (a - (ushL a 1 &&& 6148914691236517205)) = u at e2 ⊢
  obtain ⟨u0, hu0⟩ : ∃ u0, u0 = pS1 b0 := ⟨_, rfl⟩
  have su : ∀ b, b < 256 → pS1 b < 256 := fun b hb => (sb b hb).1
  have q0 := su b0 h0; have q1 := su b1 h1; have q2 := su b2 h2; have q3 := su b3 h3; have q4 := su b4 h4; have q5 := su b5 h5; have q6 := su b6 h6; have q7 := su b7 h7
  have e3 : uL (u &&& 3689348814741910323) = N8 (pS1 b0 &&& 51) (pS1 b1 &&& 51) (pS1 b2 &&& 51) (pS1 b3 &&& 51) (pS1 b4 &&& 51) (pS1 b5 &&& 51) (pS1 b6 &&& 51) (pS1 b7 &&& 51) := by
    rw [uL_and, show uL 3689348814741910323 = N8 51 51 51 51 51 51 51 51 by decide, e2, andN8 q0 q1 q2 q3 q4 q5 q6 (by decide)]
  have e4 : uL (ushL u 2 &&& 3689348814741910323) = N8 ((pS1 b0 / 4) &&& 51) ((pS1 b1 / 4) &&& 51) ((pS1 b2 / 4) &&& 51) ((pS1 b3 / 4) &&& 51) ((pS1 b4 / 4) &&& 51) ((pS1 b5 / 4) &&& 51) ((pS1 b6 / 4) &&& 51) ((pS1 b7 / 4) &&& 51) := by
    rw [uL_and, show (2 : Int32) = nI 2 from rfl, uL_ush u (by decide), show uL 3689348814741910323 = N8 51 51 51 51 51 51 51 51 by decide, e2]
    rw [show N8 (pS1 b0) (pS1 b1) (pS1 b2) (pS1 b3) (pS1 b4) (pS1 b5) (pS1 b6) (pS1 b7) / 2 ^ 2 = N8 (pS1 b0 / 4 + 64 * (pS1 b1 % 4)) (pS1 b1 / 4 + 64 * (pS1 b2 % 4)) (pS1 b2 / 4 + 64 * (pS1 b3 % 4)) (pS1 b3 / 4 + 64 * (pS1 b4 % 4)) (pS1 b4 / 4 + 64 * (pS1 b5 % 4)) (pS1 b5 / 4 + 64 * (pS1 b6 % 4)) (pS1 b6 / 4 + 64 * (pS1 b7 % 4)) (pS1 b7 / 4) by unfold N8; omega]
    rw [andN8 (by omega) (by omega) (by omega) (by omega) (by omega) (by omega) (by omega) (by decide)]
    rw [tb2 _ q0 _ (by omega), tb2 _ q1 _ (by omega), tb2 _ q2 _ (by omega), tb2 _ q3 _ (by omega), tb2 _ q4 _ (by omega), tb2 _ q5 _ (by omega), tb2 _ q6 _ (by omega)]
  have t0 := tb3 b0 h0; have t1 := tb3 b1 h1; have t2 := tb3 b2 h2; have t3 := tb3 b3 h3; have t4 := tb3 b4 h4; have t5 := tb3 b5 h5; have t6 := tb3 b6 h6; have t7 := tb3 b7 h7
  have sd : ∀ x, pS2 x = (x &&& 51) + ((x / 4) &&& 51) := fun _ => rfl
  have e5 : uL ((u &&& 3689348814741910323) + (ushL u 2 &&& 3689348814741910323)) = N8 (pS2 (pS1 b0)) (pS2 (pS1 b1)) (pS2 (pS1 b2)) (pS2 (pS1 b3)) (pS2 (pS1 b4)) (pS2 (pS1 b5)) (pS2 (pS1 b6)) (pS2 (pS1 b7)) := by
    have w0 := sd (pS1 b0); have w1 := sd (pS1 b1); have w2 := sd (pS1 b2); have w3 := sd (pS1 b3); have w4 := sd (pS1 b4); have w5 := sd (pS1 b5); have w6 := sd (pS1 b6); have w7 := sd (pS1 b7)
    rw [uL_add _ _ (by rw [e3, e4]; unfold N8; omega), e3, e4]
    unfold N8
    omega
  generalize ((u &&& 3689348814741910323) + (ushL u 2 &&& 3689348814741910323)) = w at e5 ⊢
  generalize hc0 : pS2 (pS1 b0) = c0 at *
  generalize hc1 : pS2 (pS1 b1) = c1 at *
  generalize hc2 : pS2 (pS1 b2) = c2 at *
  generalize hc3 : pS2 (pS1 b3) = c3 at *
  generalize hc4 : pS2 (pS1 b4) = c4 at *
  generalize hc5 : pS2 (pS1 b5) = c5 at *
  generalize hc6 : pS2 (pS1 b6) = c6 at *
  generalize hc7 : pS2 (pS1 b7) = c7 at *
  have e6 : uL ((w + ushL w 4) &&& 1085102592571150095) = N8 (pcB b0) (pcB b1) (pcB b2) (pcB b3) (pcB b4) (pcB b5) (pcB b6) (pcB b7) := by
    have z : uL (ushL w 4) = N8 c0 c1 c2 c3 c4 c5 c6 c7 / 16 := by rw [show (4 : Int32) = nI 4 from rfl, uL_ush w (by decide), e5]
    rw [uL_and, uL_add _ _ (by rw [z, e5]; unfold N8; omega), z, e5, show uL 1085102592571150095 = N8 15 15 15 15 15 15 15 15 by decide]
    rw [show N8 c0 c1 c2 c3 c4 c5 c6 c7 + N8 c0 c1 c2 c3 c4 c5 c6 c7 / 16 = N8 (c0 + c0 / 16 + 16 * (c1 % 16)) (c1 + c1 / 16 + 16 * (c2 % 16)) (c2 + c2 / 16 + 16 * (c3 % 16)) (c3 + c3 / 16 + 16 * (c4 % 16)) (c4 + c4 / 16 + 16 * (c5 % 16)) (c5 + c5 / 16 + 16 * (c6 % 16)) (c6 + c6 / 16 + 16 * (c7 % 16)) (c7 + c7 / 16 + 16 * 0) by unfold N8; omega]
    rw [andN8 (by omega) (by omega) (by omega) (by omega) (by omega) (by omega) (by omega) (by decide)]
    rw [tb3a c0 (by omega) _ (by omega), tb3a c1 (by omega) _ (by omega), tb3a c2 (by omega) _ (by omega), tb3a c3 (by omega) _ (by omega), tb3a c4 (by omega) _ (by omega), tb3a c5 (by omega) _ (by omega), tb3a c6 (by omega) _ (by omega), tb3a c7 (by omega) _ (by omega)]
    rw [← hc0, ← hc1, ← hc2, ← hc3, ← hc4, ← hc5, ← hc6, ← hc7, tb4 b0 h0, tb4 b1 h1, tb4 b2 h2, tb4 b3 h3, tb4 b4 h4, tb4 b5 h5, tb4 b6 h6, tb4 b7 h7]
  have p0 := tb5 b0 h0; have p1 := tb5 b1 h1; have p2 := tb5 b2 h2; have p3 := tb5 b3 h3; have p4 := tb5 b4 h4; have p5 := tb5 b5 h5; have p6 := tb5 b6 h6; have p7 := tb5 b7 h7
  generalize ((w + ushL w 4) &&& 1085102592571150095) = d at e6 ⊢
  clear e1 e2 e3 e4 e5 sb su sd
  generalize pcB b0 = d0 at *
  generalize pcB b1 = d1 at *
  generalize pcB b2 = d2 at *
  generalize pcB b3 = d3 at *
  generalize pcB b4 = d4 at *
  generalize pcB b5 = d5 at *
  generalize pcB b6 = d6 at *
  generalize pcB b7 = d7 at *
  have e7 : uL (d + ushL d 8) = N8 (d0 + d1) (d1 + d2) (d2 + d3) (d3 + d4) (d4 + d5) (d5 + d6) (d6 + d7) d7 := by
    have z : uL (ushL d 8) = N8 d0 d1 d2 d3 d4 d5 d6 d7 / 256 := by rw [show (8 : Int32) = nI 8 from rfl, uL_ush d (by decide), e6]
    rw [uL_add _ _ (by rw [z, e6]; unfold N8; omega), z, e6]
    unfold N8
    omega
  generalize (d + ushL d 8) = e at e7 ⊢
  have e8 : uL (e + ushL e 16) = N8 (d0 + d1 + (d2 + d3)) (d1 + d2 + (d3 + d4)) (d2 + d3 + (d4 + d5)) (d3 + d4 + (d5 + d6)) (d4 + d5 + (d6 + d7)) (d5 + d6 + d7) (d6 + d7) d7 := by
    have z : uL (ushL e 16) = N8 (d0 + d1) (d1 + d2) (d2 + d3) (d3 + d4) (d4 + d5) (d5 + d6) (d6 + d7) d7 / 65536 := by rw [show (16 : Int32) = nI 16 from rfl, uL_ush e (by decide), e7]
    rw [uL_add _ _ (by rw [z, e7]; unfold N8; omega), z, e7]
    unfold N8
    omega
  generalize (e + ushL e 16) = f at e8 ⊢
  have e9 : uL (f + ushL f 32) % 256 = d0 + d1 + d2 + d3 + d4 + d5 + d6 + d7 := by
    have z : uL (ushL f 32) = N8 (d0 + d1 + (d2 + d3)) (d1 + d2 + (d3 + d4)) (d2 + d3 + (d4 + d5)) (d3 + d4 + (d5 + d6)) (d4 + d5 + (d6 + d7)) (d5 + d6 + d7) (d6 + d7) d7 / 4294967296 := by rw [show (32 : Int32) = nI 32 from rfl, uL_ush f (by decide), e8]
    have z2 : N8 (d0 + d1 + (d2 + d3)) (d1 + d2 + (d3 + d4)) (d2 + d3 + (d4 + d5)) (d3 + d4 + (d5 + d6)) (d4 + d5 + (d6 + d7)) (d5 + d6 + d7) (d6 + d7) d7 / 4294967296 = (d4 + d5 + (d6 + d7)) + 256 * ((d5 + d6 + d7) + 256 * ((d6 + d7) + 256 * d7)) := by unfold N8; omega
    rw [uL_add _ _ (by rw [z, e8, z2]; unfold N8; omega), z, e8, z2]
    unfold N8
    omega
  generalize (f + ushL f 32) = g at e9 ⊢
  have h127 := pk_and g.toInt32 (m := 127) 7 (by decide)
  rw [h127]
  congr 1
  have : g.toInt32.toBitVec.toNat = uL g % 2 ^ 32 := by
    unfold uL
    rw [Int64.toBitVec_toInt32, BitVec.signExtend_eq_setWidth_of_le _ (by decide), BitVec.toNat_setWidth]
  rw [this]
  omega
/-- the bits of a number, added up -/
def cdN (x : Nat) : Nat → Nat
  | 0 => 0
  | k + 1 => cdN x k + x / 2 ^ k % 2
theorem cd_cdN (a : Int64) : ∀ k, cd a k = cdN (uL a) k
  | 0 => rfl
  | k + 1 => by
    unfold cd cdN
    rw [cd_cdN a k]
    congr 1
    have h : hb a k = (uL a).testBit k := by unfold hb uL; rw [BitVec.getLsbD]
    rw [h, Nat.testBit_eq_decide_div_mod_eq]
    by_cases e : uL a / 2 ^ k % 2 = 1
    · simp [e]
    · simp [e]; omega
theorem cdN_8 (x : Nat) : cdN x 8 = pcB (x % 256) := by
  unfold pcB
  simp only [cdN]
  omega
theorem cdN_s (x : Nat) : ∀ k, cdN x (8 + k) = pcB (x % 256) + cdN (x / 256) k
  | 0 => by rw [cdN_8]; rfl
  | k + 1 => by
    rw [show 8 + (k + 1) = (8 + k) + 1 from rfl]
    unfold cdN
    rw [cdN_s x k, Nat.pow_add, ← Nat.div_div_eq_div_mul, show (2 ^ 8 : Nat) = 256 from rfl]
    omega
theorem bcL_cd (a : Int64) : bcL a = nI (cd a 64) := by
  have hx := uL_lt a
  rw [cd_cdN]
  have e : uL a = N8 (uL a % 256) (uL a / 256 % 256) (uL a / 256 / 256 % 256) (uL a / 256 / 256 / 256 % 256) (uL a / 256 / 256 / 256 / 256 % 256) (uL a / 256 / 256 / 256 / 256 / 256 % 256) (uL a / 256 / 256 / 256 / 256 / 256 / 256 % 256) (uL a / 256 / 256 / 256 / 256 / 256 / 256 / 256) := by
    unfold N8
    omega
  rw [bcL_N8 (by omega) (by omega) (by omega) (by omega) (by omega) (by omega) (by omega) (by omega) e]
  congr 1
  generalize uL a = x at *
  rw [show (64 : Nat) = 8 + (8 + (8 + (8 + (8 + (8 + (8 + (8 + 0))))))) from rfl, cdN_s, cdN_s, cdN_s, cdN_s, cdN_s, cdN_s, cdN_s, cdN_s]
  rw [show x / 256 / 256 / 256 / 256 / 256 / 256 / 256 % 256 = x / 256 / 256 / 256 / 256 / 256 / 256 / 256 by omega]
  show _ = _ + (_ + (_ + (_ + (_ + (_ + (_ + (_ + 0)))))))
  omega
theorem c1V_cd (s : Int64) : ∀ k, k ≤ 64 → c1V s k = nI (cd s k)
  | 0, _ => rfl
  | k + 1, hk => by
    have ih := c1V_cd s k (by omega)
    unfold c1V at ih ⊢
    unfold isum cd
    rw [ih, hasM_hb s (by omega)]
    cases h : hb s k
    · simp
    · simp [nI_1]
theorem bc_c1 (a : Int64) : bcL a = c1V a 64 := by rw [bcL_cd, c1V_cd a 64 (Nat.le_refl _)]

