/-! the grid: neighbors, reaching, components -/
def nbr (c : Nat) (dg : Int32) (p q : Nat) : Prop := p ≠ q ∧ (p % c ≤ q % c + 1 ∧ q % c ≤ p % c + 1) ∧ (p / c ≤ q / c + 1 ∧ q / c ≤ p / c + 1) ∧ (dg ≠ 0 ∨ p % c = q % c ∨ p / c = q / c)
theorem nbr_sym {c : Nat} {dg : Int32} {p q : Nat} (h : nbr c dg p q) : nbr c dg q p := by
  obtain ⟨h1, ⟨h2, h3⟩, ⟨h4, h5⟩, h6⟩ := h
  exact ⟨Ne.symm h1, ⟨h3, h2⟩, ⟨h5, h4⟩, h6.imp id (Or.imp Eq.symm Eq.symm)⟩
/-- q is reached from p within S: it lies in every closed set around p -/
def rch (N : Nat → Nat → Prop) (S : Nat → Prop) (p q : Nat) : Prop := ∀ Y : Nat → Prop, Y p → (∀ a b, Y a → N a b → S b → Y b) → Y q
theorem rch_rf {N : Nat → Nat → Prop} {S : Nat → Prop} (p : Nat) : rch N S p p := fun _ h _ => h
theorem rch_st {N : Nat → Nat → Prop} {S : Nat → Prop} {p a b : Nat} (h : rch N S p a) (h1 : N a b) (h2 : S b) : rch N S p b := fun Y y0 yc => yc a b (h Y y0 yc) h1 h2
theorem rch_tr {N : Nat → Nat → Prop} {S : Nat → Prop} {p a b : Nat} (h : rch N S p a) (h1 : rch N S a b) : rch N S p b := fun Y y0 yc => h1 Y (h Y y0 yc) yc
theorem rch_S {N : Nat → Nat → Prop} {S : Nat → Prop} {p q : Nat} (h : rch N S p q) (h1 : S p) : S q := h S h1 (fun _ _ _ _ z => z)
theorem rch_sy {N : Nat → Nat → Prop} (hN : ∀ a b, N a b → N b a) {S : Nat → Prop} {p q : Nat} (h : rch N S p q) (h1 : S p) : rch N S q p :=
  (h (fun q => rch N S q p ∧ S q) ⟨rch_rf p, h1⟩ (fun a b ya hab sb => ⟨rch_tr (rch_st (rch_rf b) (hN a b hab) ya.2) ya.1, sb⟩)).1
theorem rch_mo {N : Nat → Nat → Prop} {S S2 : Nat → Prop} (hS : ∀ q, S q → S2 q) {p q : Nat} (h : rch N S p q) : rch N S2 p q := fun Y y0 yc => h Y y0 (fun a b ya hab sb => yc a b ya hab (hS b sb))
theorem rch_cg {N : Nat → Nat → Prop} {S S2 : Nat → Prop} (hS : ∀ q, S q ↔ S2 q) {p q : Nat} : rch N S p q ↔ rch N S2 p q := ⟨rch_mo (fun q => (hS q).mp), rch_mo (fun q => (hS q).mpr)⟩
/-- a set is what is reached: it holds p, only what is reached, and is closed -/
theorem rch_is {N : Nat → Nat → Prop} {S X : Nat → Prop} {p : Nat} (h0 : X p) (h1 : ∀ q, X q → rch N S p q) (h2 : ∀ a b, X a → N a b → S b → X b) (q : Nat) : X q ↔ rch N S p q := ⟨h1 q, fun h => h X h0 h2⟩
theorem c_cases {c : Nat} (h0 : 0 < c) (h8 : c ≤ 8) : c = 1 ∨ c = 2 ∨ c = 3 ∨ c = 4 ∨ c = 5 ∨ c = 6 ∨ c = 7 ∨ c = 8 := by omega
/-- neighbors by their distance -/
theorem nbr_off {c : Nat} (h0 : 0 < c) (h8 : c ≤ 8) (dg : Int32) (p q : Nat) : nbr c dg p q ↔ ((q = p + 1 ∧ q % c ≠ 0) ∨ (p = q + 1 ∧ p % c ≠ 0) ∨ q = p + c ∨ p = q + c ∨ (dg ≠ 0 ∧ ((q = p + c + 1 ∧ q % c ≠ 0) ∨ (q + 1 = p + c ∧ p % c ≠ 0) ∨ (p = q + c + 1 ∧ p % c ≠ 0) ∨ (p + 1 = q + c ∧ q % c ≠ 0)))) := by
  unfold nbr
  by_cases hd : dg = 0
  · simp only [hd, ne_eq, not_true_eq_false, false_or, false_and, or_false]
    rcases c_cases h0 h8 with rfl | rfl | rfl | rfl | rfl | rfl | rfl | rfl <;> omega
  · simp only [hd, ne_eq, not_false_eq_true, true_or, true_and, and_true]
    rcases c_cases h0 h8 with rfl | rfl | rfl | rfl | rfl | rfl | rfl | rfl <;> omega
theorem hb_left {c : Nat} (h0 : 0 < c) (h8 : c ≤ 8) : ∀ r, r ≤ 8 → ∀ q, hb (leftV (nI c) r) q = true ↔ (q < c * r ∧ q % c = 0)
  | 0, _, q => by unfold leftV; rw [hb_0]; simp
  | j + 1, hj, q => by
    unfold leftV
    have hjc : j * c < 64 := by
      have := Nat.mul_le_mul (show j ≤ 7 by omega) h8
      omega
    rw [hb_or, pk_mul, hb_bit hjc, Bool.or_eq_true, hb_left h0 h8 j (by omega) q]
    simp only [decide_eq_true_eq]
    rcases c_cases h0 h8 with rfl | rfl | rfl | rfl | rfl | rfl | rfl | rfl <;> omega
theorem hb_right {c : Nat} (h0 : 0 < c) (h8 : c ≤ 8) {r : Nat} (hr : r ≤ 8) (q : Nat) : hb (shlL (leftV (nI c) r) (nI c - 1)) q = true ↔ (q < c * r ∧ q % c = c - 1) := by
  obtain ⟨d, rfl⟩ : ∃ d, c = d + 1 := ⟨c - 1, by omega⟩
  rw [nI_pred, hb_shl _ (by omega)]
  have h64 : (d + 1) * r ≤ 64 := Nat.mul_le_mul h8 hr
  simp only [Bool.and_eq_true, decide_eq_true_eq, Bool.not_eq_true', decide_eq_false_iff_not, hb_left h0 h8 r hr]
  have hk : ∃ k, k = (d + 1) * r := ⟨_, rfl⟩
  rcases c_cases h0 h8 with h | h | h | h | h | h | h | h <;> (have : d = d := rfl) <;> (obtain rfl : d = _ := Nat.succ.inj h) <;> omega
def gL (c r : Nat) : Int64 := leftV (nI c) r
def gR (c r : Nat) : Int64 := shlL (leftV (nI c) r) (nI c - 1)
/-- one step of the class's spreading -/
theorem hb_spread {c r : Nat} (h0 : 0 < c) (h8 : c ≤ 8) (hr : r ≤ 8) {s : Int64} (hs : ∀ q, hb s q = true → q < c * r) (dg : Int32) {q : Nat} (hq : q < c * r) : hb (spreadV (nI c) (gL c r) (gR c r) s dg) q = true ↔ (hb s q = true ∨ ∃ p, hb s p = true ∧ nbr c dg p q) := by
  have h64 : c * r ≤ 64 := Nat.mul_le_mul h8 hr
  have hW : ∀ q, q < 64 → (hb ((s ||| shlL (s &&& (gR c r ^^^ -1)) 1) ||| ushL (s &&& (gL c r ^^^ -1)) 1) q = true ↔ (hb s q = true ∨ (∃ p, q = p + 1 ∧ hb s p = true ∧ p % c ≠ c - 1) ∨ (hb s (q + 1) = true ∧ (q + 1) % c ≠ 0))) := by
    intro q hq
    rw [hb_or, hb_or, show (1 : Int32) = nI 1 from rfl, hb_shl _ (by decide), hb_ush _ (by decide), hb_and, hb_and, hb_not, hb_not]
    simp only [Bool.or_eq_true, Bool.and_eq_true, decide_eq_true_eq, Bool.not_eq_true', decide_eq_false_iff_not]
    have eR : ∀ p, hb s p = true → (hb (gR c r) p = false ↔ p % c ≠ c - 1) := by
      intro p hp
      have := hb_right h0 h8 hr p
      unfold gR
      cases h : hb (shlL (leftV (nI c) r) (nI c - 1)) p
      · rw [h] at this
        exact ⟨fun _ e => absurd (this.mpr ⟨hs p hp, e⟩) (by decide), fun _ => rfl⟩
      · rw [h] at this
        exact ⟨fun e => absurd e (by decide), fun e => (e (this.mp rfl).2).elim⟩
    have eL : ∀ p, hb s p = true → (hb (gL c r) p = false ↔ p % c ≠ 0) := by
      intro p hp
      have := hb_left h0 h8 r hr p
      unfold gL
      cases h : hb (leftV (nI c) r) p
      · rw [h] at this
        exact ⟨fun _ e => absurd (this.mpr ⟨hs p hp, e⟩) (by decide), fun _ => rfl⟩
      · rw [h] at this
        exact ⟨fun e => absurd e (by decide), fun e => (e (this.mp rfl).2).elim⟩
    constructor
    · rintro ((h | ⟨h1, h2, h3, h4, h5⟩) | ⟨h1, h2, h3⟩)
      · exact Or.inl h
      · exact Or.inr (Or.inl ⟨q - 1, by omega, h3, (eR _ h3).mp h5⟩)
      · exact Or.inr (Or.inr ⟨h1, (eL _ h1).mp h3⟩)
    · rintro (h | ⟨p, rfl, h2, h3⟩ | ⟨h1, h2⟩)
      · exact Or.inl (Or.inl h)
      · exact Or.inl (Or.inr ⟨hq, by omega, by simpa using h2, by simp; omega, by simpa using (eR _ h2).mpr h3⟩)
      · exact Or.inr ⟨h1, hb_lt h1, (eL _ h1).mpr h2⟩
  unfold spreadV
  simp only
  generalize hw : ((s ||| shlL (s &&& (gR c r ^^^ -1)) 1) ||| ushL (s &&& (gL c r ^^^ -1)) 1) = w at hW
  have hgen : ∀ t : Int64, hb ((w ||| shlL t (nI c)) ||| ushL t (nI c)) q = true ↔ (hb w q = true ∨ (∃ p, q = p + c ∧ hb t p = true) ∨ hb t (q + c) = true) := by
    intro t
    rw [hb_or, hb_or, hb_shl _ (by omega), hb_ush _ (by omega)]
    simp only [Bool.or_eq_true, Bool.and_eq_true, decide_eq_true_eq, Bool.not_eq_true', decide_eq_false_iff_not]
    constructor
    · rintro ((h | ⟨h1, h2, h3⟩) | h)
      · exact Or.inl h
      · exact Or.inr (Or.inl ⟨q - c, by omega, h3⟩)
      · exact Or.inr (Or.inr h)
    · rintro (h | ⟨p, rfl, h⟩ | h)
      · exact Or.inl (Or.inl h)
      · exact Or.inl (Or.inr ⟨by omega, by omega, by rw [Nat.add_sub_cancel]; exact h⟩)
      · exact Or.inr h
  rw [hgen, hW q (by omega)]
  by_cases hd : dg = 0
  · rw [if_pos hd]
    constructor
    · rintro ((h | ⟨p, rfl, h2, h3⟩ | ⟨h1, h2⟩) | ⟨p, rfl, h2⟩ | h)
      · exact Or.inl h
      · refine Or.inr ⟨p, h2, (nbr_off h0 h8 dg _ _).mpr (Or.inl ⟨rfl, ?_⟩)⟩
        rcases c_cases h0 h8 with rfl | rfl | rfl | rfl | rfl | rfl | rfl | rfl <;> omega
      · exact Or.inr ⟨q + 1, h1, (nbr_off h0 h8 dg _ _).mpr (Or.inr (Or.inl ⟨rfl, h2⟩))⟩
      · exact Or.inr ⟨p, h2, (nbr_off h0 h8 dg _ _).mpr (Or.inr (Or.inr (Or.inl rfl)))⟩
      · exact Or.inr ⟨q + c, h, (nbr_off h0 h8 dg _ _).mpr (Or.inr (Or.inr (Or.inr (Or.inl rfl))))⟩
    · rintro (h | ⟨p, hp, hn⟩)
      · exact Or.inl (Or.inl h)
      · rcases (nbr_off h0 h8 dg _ _).mp hn with ⟨rfl, h2⟩ | ⟨rfl, h2⟩ | rfl | rfl | ⟨h1, -⟩
        · refine Or.inl (Or.inr (Or.inl ⟨p, rfl, hp, ?_⟩))
          rcases c_cases h0 h8 with rfl | rfl | rfl | rfl | rfl | rfl | rfl | rfl <;> omega
        · exact Or.inl (Or.inr (Or.inr ⟨hp, h2⟩))
        · exact Or.inr (Or.inl ⟨p, rfl, hp⟩)
        · exact Or.inr (Or.inr hp)
        · exact (h1 hd).elim
  · rw [if_neg hd]
    have hWs : ∀ q, hb w q = true → q < 64 := fun q h => hb_lt h
    constructor
    · rintro ((h | ⟨p, rfl, h2, h3⟩ | ⟨h1, h2⟩) | ⟨p, rfl, h2⟩ | h)
      · exact Or.inl h
      · refine Or.inr ⟨p, h2, (nbr_off h0 h8 dg _ _).mpr (Or.inl ⟨rfl, ?_⟩)⟩
        rcases c_cases h0 h8 with rfl | rfl | rfl | rfl | rfl | rfl | rfl | rfl <;> omega
      · exact Or.inr ⟨q + 1, h1, (nbr_off h0 h8 dg _ _).mpr (Or.inr (Or.inl ⟨rfl, h2⟩))⟩
      · rcases (hW p (by omega)).mp h2 with h | ⟨o, rfl, h3, h4⟩ | ⟨h3, h4⟩
        · exact Or.inr ⟨p, h, (nbr_off h0 h8 dg _ _).mpr (Or.inr (Or.inr (Or.inl rfl)))⟩
        · refine Or.inr ⟨o, h3, (nbr_off h0 h8 dg _ _).mpr (Or.inr (Or.inr (Or.inr (Or.inr ⟨hd, Or.inl ⟨by omega, ?_⟩⟩))))⟩
          rcases c_cases h0 h8 with rfl | rfl | rfl | rfl | rfl | rfl | rfl | rfl <;> omega
        · refine Or.inr ⟨p + 1, h3, (nbr_off h0 h8 dg _ _).mpr (Or.inr (Or.inr (Or.inr (Or.inr ⟨hd, Or.inr (Or.inl ⟨by omega, h4⟩)⟩))))⟩
      · rcases (hW (q + c) (hWs _ h)).mp h with h | ⟨o, e, h3, h4⟩ | ⟨h3, h4⟩
        · exact Or.inr ⟨q + c, h, (nbr_off h0 h8 dg _ _).mpr (Or.inr (Or.inr (Or.inr (Or.inl rfl))))⟩
        · refine Or.inr ⟨o, h3, (nbr_off h0 h8 dg _ _).mpr (Or.inr (Or.inr (Or.inr (Or.inr ⟨hd, Or.inr (Or.inr (Or.inr ⟨e.symm, ?_⟩))⟩))))⟩
          rcases c_cases h0 h8 with rfl | rfl | rfl | rfl | rfl | rfl | rfl | rfl <;> omega
        · refine Or.inr ⟨q + c + 1, h3, (nbr_off h0 h8 dg _ _).mpr (Or.inr (Or.inr (Or.inr (Or.inr ⟨hd, Or.inr (Or.inr (Or.inl ⟨rfl, h4⟩))⟩))))⟩
    · rintro (h | ⟨p, hp, hn⟩)
      · exact Or.inl (Or.inl h)
      · have hp64 := hb_lt hp
        rcases (nbr_off h0 h8 dg _ _).mp hn with ⟨rfl, h2⟩ | ⟨rfl, h2⟩ | rfl | rfl | ⟨h1, ⟨rfl, h2⟩ | ⟨h3, h2⟩ | ⟨rfl, h2⟩ | ⟨h3, h2⟩⟩
        · refine Or.inl (Or.inr (Or.inl ⟨p, rfl, hp, ?_⟩))
          rcases c_cases h0 h8 with rfl | rfl | rfl | rfl | rfl | rfl | rfl | rfl <;> omega
        · exact Or.inl (Or.inr (Or.inr ⟨hp, h2⟩))
        · exact Or.inr (Or.inl ⟨p, rfl, (hW p hp64).mpr (Or.inl hp)⟩)
        · exact Or.inr (Or.inr ((hW _ hp64).mpr (Or.inl hp)))
        · refine Or.inr (Or.inl ⟨p + 1, by omega, (hW _ (by omega)).mpr (Or.inr (Or.inl ⟨p, rfl, hp, ?_⟩))⟩)
          rcases c_cases h0 h8 with rfl | rfl | rfl | rfl | rfl | rfl | rfl | rfl <;> omega
        · obtain ⟨o, rfl⟩ : ∃ o, p = o + 1 := ⟨p - 1, by rcases c_cases h0 h8 with rfl | rfl | rfl | rfl | rfl | rfl | rfl | rfl <;> omega⟩
          exact Or.inr (Or.inl ⟨o, by omega, (hW o (by omega)).mpr (Or.inr (Or.inr ⟨hp, h2⟩))⟩)
        · exact Or.inr (Or.inr ((hW (q + c) (by omega)).mpr (Or.inr (Or.inr ⟨hp, h2⟩))))
        · refine Or.inr (Or.inr ((hW (q + c) (by rw [← h3]; have := hs p hp; rcases c_cases h0 h8 with rfl | rfl | rfl | rfl | rfl | rfl | rfl | rfl <;> omega)).mpr (Or.inr (Or.inl ⟨p, h3.symm, hp, ?_⟩))))
          rcases c_cases h0 h8 with rfl | rfl | rfl | rfl | rfl | rfl | rfl | rfl <;> omega

