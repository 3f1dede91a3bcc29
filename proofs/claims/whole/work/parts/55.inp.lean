/-! the input -/
theorem val_lb (c : Int32) : valV c = lbV c := by
  unfold valV lbV wiV
  have g : ∀ x : Int32, x - 65 + 10 = 10 + x - 65 := fun x => by grind
  rw [g c]
  by_cases e1 : c < 48
  · simp only [e1, if_true]
    by_cases e2 : c < 65
    · simp [e2]
    · by_cases e3 : 70 < c <;> simp [e2, e3]
  · by_cases e2 : 57 < c
    · simp only [e1, e2, if_true, if_false]
      by_cases e3 : c < 65
      · simp [e3]
      · by_cases e4 : 70 < c <;> simp [e3, e4]
    · simp [e1, e2]
theorem lb_16 (c : Int32) (h : ¬ lbV c = -1) : ∃ x, x < 16 ∧ lbV c = nI x := by
  unfold lbV at h ⊢
  by_cases e1 : wiV c 48 57 = 0
  · rw [if_pos e1] at h ⊢
    by_cases e2 : wiV c 65 70 = 0
    · rw [if_pos e2] at h; exact (h rfl).elim
    · rw [if_neg e2]
      have hb := (wi_ne c 65 70).mp e2
      obtain ⟨x, x1, rfl⟩ := nI_of (x := c) (fun z => hb.1 (Int32.lt_trans z (by decide)))
      have h1 : ¬ x < 65 := fun z => hb.1 (nI_lt (b := 65) z (by decide))
      have h2 : ¬ 70 < x := fun z => hb.2 (nI_lt (a := 70) z x1)
      refine ⟨10 + x - 65, by omega, ?_⟩
      rw [show (10 : Int32) = nI 10 from rfl, show (65 : Int32) = nI 65 from rfl, nI_add, pk_sub (by omega)]
  · rw [if_neg e1]
    have hb := (wi_ne c 48 57).mp e1
    obtain ⟨x, x1, rfl⟩ := nI_of (x := c) (fun z => hb.1 (Int32.lt_trans z (by decide)))
    have h1 : ¬ x < 48 := fun z => hb.1 (nI_lt (b := 48) z (by decide))
    have h2 : ¬ 57 < x := fun z => hb.2 (nI_lt (a := 57) z x1)
    refine ⟨x - 48, by omega, ?_⟩
    rw [show (48 : Int32) = nI 48 from rfl, pk_sub (by omega)]
/-- both readers side by side, ahead of character i -/
def rdR (f : Nat → Int32) (i : Nat) (q : Int32 × Int32 × Int32) (R : rdT) : Prop :=
  rdI R ∧ (R.1 = 0 ↔ R.2.1 = 0) ∧ q.2.1 = nI (R.2.1 + 1) ∧ q.2.2 = nI R.2.2.1 ∧ q.1 = nI (if R.1 = 0 then R.2.2.1 else R.1) ∧
  i = R.2.1 * (R.1 + 1) + R.2.2.1 ∧ ∀ row col, (row < R.2.1 ∧ col < R.1 ∨ row = R.2.1 ∧ col < R.2.2.1) → R.2.2.2.2 (row * R.1 + col) = lbV (f (row * (R.1 + 1) + col)) ∧ ∃ x, x < 16 ∧ lbV (f (row * (R.1 + 1) + col)) = nI x
theorem rd_step {f : Nat → Int32} {i : Nat} {q : Int32 × Int32 × Int32} {R : rdT} (h : rdR f i q R) : ((tkV (f i) q).1 = 0 ↔ (tmV (f i) R).1 = 0) ∧ (¬ (tmV (f i) R).1 = 0 → rdR f (i + 1) (tkV (f i) q).2 (tmV (f i) R).2) := by
  obtain ⟨h1, h2, h3, h4, h5, h6, h7⟩ := h
  have hI := rdI_t (c := f i) h1
  obtain ⟨b1, b2, b3⟩ := rdI_b h1
  have b4 := h1.1
  have b5 := h1.2.1
  unfold tkV tmV at *
  by_cases e : f i = 47
  · rw [if_pos e, if_pos e] at *
    simp only at hI ⊢
    have key : ((slV q).1 = 0 ↔ tmO R = 0) ∧ (¬ tmO R = 0 → (slV q).2 = (q.1, q.2.1 + 1, 0) ∧ R.2.2.1 ≠ 0 ∧ (R.1 = 0 ∨ R.2.2.1 = R.1)) := by
      unfold slV tmO
      rw [h3, h4, h5]
      by_cases z1 : R.2.2.1 = 0
      · rw [if_pos (by rw [z1]; rfl), if_pos z1]
        exact ⟨⟨fun _ => rfl, fun _ => rfl⟩, fun y => (y rfl).elim⟩
      · rw [if_neg (nI_ne0 (by omega) (by omega)), if_neg z1]
        by_cases z2 : R.1 = 0
        · have z3 := h2.mp z2
          rw [if_pos z2, if_pos z2, if_neg (nI_nlt (Nat.le_refl _) (by omega)), if_neg (fun y => by have := (nI_eq (b := 8) (by omega) (by omega)).mp y; omega), if_neg (by omega)]
          exact ⟨⟨fun y => absurd y (show ¬ (1 : Int32) = 0 by decide), fun y => absurd y (show ¬ (1 : Int32) = 0 by decide)⟩, fun _ => ⟨rfl, z1, Or.inl z2⟩⟩
        · have z4 := h1.2.2.1
          rw [if_neg z2] at z4
          rw [if_neg z2, if_neg z2]
          by_cases z3 : R.2.2.1 = R.1
          · rw [if_neg (by rw [z3]; exact nI_nlt (Nat.le_refl _) (by omega)), if_pos z3]
            by_cases z5 : 7 ≤ R.2.1
            · rw [if_pos (by rw [show R.2.1 = 7 by omega]; rfl), if_pos z5]
              exact ⟨⟨fun _ => rfl, fun _ => rfl⟩, fun y => (y rfl).elim⟩
            · rw [if_neg (fun y => by have := (nI_eq (b := 8) (by omega) (by omega)).mp y; omega), if_neg z5]
              exact ⟨⟨fun y => absurd y (show ¬ (1 : Int32) = 0 by decide), fun y => absurd y (show ¬ (1 : Int32) = 0 by decide)⟩, fun _ => ⟨rfl, z1, Or.inr z3⟩⟩
          · rw [if_pos (nI_lt (by omega) (by omega)), if_neg z3]
            exact ⟨⟨fun _ => rfl, fun _ => rfl⟩, fun y => (y rfl).elim⟩
    refine ⟨key.1, fun z => ?_⟩
    obtain ⟨k1, k2, k3⟩ := key.2 z
    have hI := hI z
    rw [k1]
    unfold tmS at hI ⊢
    refine ⟨hI, ?_, ?_, rfl, ?_, ?_, ?_⟩
    · simp only
      by_cases z2 : R.1 = 0
      · rw [if_pos z2]; omega
      · rw [if_neg z2]; omega
    · simp only; rw [h3, nI_1]
    · simp only; rw [h5]
      by_cases z2 : R.1 = 0
      · rw [if_pos z2, if_neg k2]
      · rw [if_neg z2, if_neg z2]
    · simp only
      by_cases z2 : R.1 = 0
      · have z3 := h2.mp z2
        rw [if_pos z2, h6, z3, z2]; simp
      · rw [if_neg z2, h6, k3.resolve_left z2, Nat.succ_mul]; omega
    · intro row col hrc
      simp only at hrc ⊢
      by_cases z2 : R.1 = 0
      · have z3 := h2.mp z2
        rw [if_pos z2] at hrc ⊢
        have hr0 : row = 0 := by omega
        have := h7 0 col (Or.inr ⟨z3.symm, by omega⟩)
        rw [hr0]
        simp only [Nat.zero_mul] at this ⊢
        exact this
      · rw [if_neg z2] at hrc ⊢
        refine h7 row col ?_
        have := k3.resolve_left z2
        omega
  · rw [if_neg e, if_neg e] at *
    unfold tvV
    rw [val_lb, h3, h4, h5]
    by_cases z1 : lbV (f i) = -1
    · rw [if_pos z1, if_pos z1]
      exact ⟨⟨fun _ => rfl, fun _ => rfl⟩, fun y => (y rfl).elim⟩
    · rw [if_neg z1, if_neg z1] at *
      have hroom : (if nI (R.2.1 + 1) = 1 then (8 : Int32) else nI (if R.1 = 0 then R.2.2.1 else R.1)) = nI (if R.1 = 0 then 8 else R.1) := by
        by_cases z2 : R.1 = 0
        · rw [if_pos (by rw [h2.mp z2]; rfl), if_pos z2]; rfl
        · rw [if_neg (fun y => z2 (h2.mpr (by have := (nI_eq (b := 1) (by omega) (by omega)).mp y; omega))), if_neg z2, if_neg z2]
      rw [hroom]
      have hcap : (if R.1 = 0 then 8 else R.1) ≤ 8 := by split <;> omega
      by_cases z3 : (if R.1 = 0 then 8 else R.1) ≤ R.2.2.1
      · rw [if_neg (nI_nlt z3 (by omega)), if_pos z3]
        exact ⟨⟨fun _ => rfl, fun _ => rfl⟩, fun y => (y rfl).elim⟩
      · rw [if_pos (nI_lt (by omega) (by omega)), if_neg z3] at *
        have hI := hI (show ¬ (1 : Int32) = 0 by decide)
        have hmany := h1.2.2.2.2
        have hdata : ∀ row col, (row < R.2.1 ∧ col < R.1 ∨ row = R.2.1 ∧ col < R.2.2.1 + 1) → upd R.2.2.2.2 R.2.2.2.1 (lbV (f i)) (row * R.1 + col) = lbV (f (row * (R.1 + 1) + col)) ∧ ∃ x, x < 16 ∧ lbV (f (row * (R.1 + 1) + col)) = nI x := fun row col hrc => by
          by_cases y : row = R.2.1 ∧ col = R.2.2.1
          · obtain ⟨y1, y2⟩ := y
            subst y1 y2
            rw [hmany, up_s, ← h6]
            exact ⟨rfl, lb_16 _ z1⟩
          · have hne : row * R.1 + col ≠ R.2.2.2.1 := by
              rw [hmany]
              rcases hrc with w | w
              · have : (row + 1) * R.1 ≤ R.2.1 * R.1 := Nat.mul_le_mul w.1 (Nat.le_refl _)
                rw [Nat.succ_mul] at this
                omega
              · rw [w.1]; omega
            rw [up_n _ _ hne]
            exact h7 row col (by omega)
        by_cases z2 : R.1 = 0
        · rw [if_pos (by rw [h2.mp z2]; rfl)]
          refine ⟨⟨fun y => absurd y (show ¬ (1 : Int32) = 0 by decide), fun y => absurd y (show ¬ (1 : Int32) = 0 by decide)⟩, fun _ => ⟨hI, h2, rfl, ?_, ?_, ?_, hdata⟩⟩
          · simp only; rw [nI_1]
          · simp only; rw [if_pos z2, nI_1]
          · simp only; omega
        · rw [if_neg (fun y => z2 (h2.mpr (by have := (nI_eq (b := 1) (by omega) (by omega)).mp y; omega)))]
          refine ⟨⟨fun y => absurd y (show ¬ (1 : Int32) = 0 by decide), fun y => absurd y (show ¬ (1 : Int32) = 0 by decide)⟩, fun _ => ⟨hI, h2, rfl, ?_, ?_, ?_, hdata⟩⟩
          · simp only; rw [nI_1]
          · simp only; rw [if_neg z2, if_neg z2]
          · simp only; omega
theorem scan_rl {f buf : Nat → Int32} {len : Nat} (hf : ∀ i, i < len → f i = buf i) : ∀ d i q R, i + d = len → rdR f i q R → (scnV f len d i q).1 = nI (rlV buf d i R).1 ∧ ((rlV buf d i R).1 = len → rdR f len (scnV f len d i q).2 (rlV buf d i R).2)
  | 0, i, q, R, hd, h => by
    have : i = len := by omega
    subst this
    exact ⟨rfl, fun _ => h⟩
  | d + 1, i, q, R, hd, h => by
    obtain ⟨s1, s2⟩ := rd_step h
    unfold scnV rlV
    rw [← hf i (by omega)]
    by_cases e : (tmV (f i) R).1 = 0
    · rw [if_pos (s1.mpr e), if_pos e]
      exact ⟨rfl, fun z => by simp only at z; omega⟩
    · rw [if_neg (fun z => e (s1.mp z)), if_neg e]
      exact scan_rl hf d (i + 1) _ _ (by omega) (s2 e)
theorem wc_ok (f : Nat → Int32) (c row : Nat) (s : Nat → Int32) : ∀ k p, itr (wcS f c row) k s p = if row * c ≤ p ∧ p < row * c + k then valV (f (row * (c + 1) + (p - row * c))) else s p
  | 0, p => by rw [itr_0, if_neg (by omega)]
  | k + 1, p => by
    have ih := wc_ok f c row s k
    rw [itr_s]
    generalize itr (wcS f c row) k s = g at *
    unfold wcS
    by_cases e : p = row * c + k
    · subst e; rw [up_s, if_pos (by omega), show row * c + k - row * c = k by omega]
    · rw [up_n _ _ e, ih p]
      by_cases e2 : row * c ≤ p ∧ p < row * c + k
      · rw [if_pos e2, if_pos (by omega)]
      · rw [if_neg e2, if_neg (by omega)]
theorem wr_ok (f : Nat → Int32) {c : Nat} (h0 : 0 < c) (s : Nat → Int32) : ∀ r p, itr (wrS f c) r s p = if p < r * c then valV (f (p / c * (c + 1) + p % c)) else s p
  | 0, p => by rw [itr_0, if_neg (by omega)]
  | r + 1, p => by
    have ih := wr_ok f h0 s r
    rw [itr_s]
    generalize itr (wrS f c) r s = g at *
    unfold wrS
    rw [wc_ok, Nat.succ_mul]
    by_cases e : r * c ≤ p ∧ p < r * c + c
    · rw [if_pos e, if_pos e.2]
      have h1 : p / c = r := by
        rw [show p = (p - r * c) + c * r by rw [Nat.mul_comm c r]; omega, Nat.add_mul_div_left _ _ h0, Nat.div_eq_of_lt (by omega), Nat.zero_add]
      have h2 := Nat.div_add_mod p c
      rw [h1, Nat.mul_comm c r] at h2
      rw [h1, show p - r * c = p % c by omega]
    · rw [if_neg e, ih p]
      by_cases e2 : p < r * c
      · rw [if_pos e2, if_pos (by omega)]
      · rw [if_neg e2, if_neg (by omega)]

