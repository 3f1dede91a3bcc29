/-! width, tallness, perimeter, holes -/
theorem nsum_one {f : Nat → Nat} {a : Nat} : ∀ k, a < k → (∀ u, u < k → u ≠ a → f u = 0) → nsum f k = f a
  | 0, h, _ => by omega
  | k + 1, h, hz => by
    unfold nsum
    rcases Nat.lt_or_eq_of_le (Nat.le_of_lt_succ h) with e | e
    · rw [nsum_one k e (fun u h1 h2 => hz u (by omega) h2), hz k (by omega) (by omega), Nat.add_zero]
    · subst e
      rw [(nsum_z a).mpr (fun u hu => hz u (by omega) (by omega)), Nat.zero_add]
theorem nsum_add (f g : Nat → Nat) : ∀ k, nsum (fun u => f u + g u) k = nsum f k + nsum g k
  | 0 => rfl
  | k + 1 => by unfold nsum; rw [nsum_add f g k]; omega
theorem nsum_mulc (x : Nat) (f : Nat → Nat) : ∀ k, nsum (fun u => x * f u) k = x * nsum f k
  | 0 => rfl
  | k + 1 => by unfold nsum; rw [nsum_mulc x f k, Nat.mul_add]
theorem nsum_sh (f : Nat → Nat) (d : Nat) : ∀ k, nsum (fun p => f (p + d)) k + nsum f d = nsum f (d + k)
  | 0 => by show 0 + _ = _; rw [Nat.zero_add]; rfl
  | k + 1 => by
    have ih := nsum_sh f d k
    show nsum (fun p => f (p + d)) k + f (k + d) + nsum f d = nsum f (d + k) + f (d + k)
    rw [Nat.add_comm k d]
    omega
theorem nsum_tl {f : Nat → Nat} {n : Nat} : ∀ d, (∀ u, n ≤ u → u < n + d → f u = 0) → nsum f (n + d) = nsum f n
  | 0, _ => rfl
  | d + 1, h => by
    rw [← Nat.add_assoc]
    show nsum f (n + d) + f (n + d) = _
    rw [nsum_tl d (fun u h1 h2 => h u h1 (by omega)), h (n + d) (by omega) (by omega), Nat.add_zero]
theorem cd_ns (s : Int64) : ∀ k, cd s k = nsum (fun q => if hb s q = true then 1 else 0) k
  | 0 => rfl
  | k + 1 => by unfold cd nsum; rw [cd_ns s k]
theorem nsum_iv {lo hi : Nat} (h : lo ≤ hi) : ∀ k, nsum (fun j => if lo ≤ j ∧ j ≤ hi then 1 else 0) k = min k (hi + 1) - min k lo
  | 0 => by show 0 = _; omega
  | k + 1 => by
    unfold nsum
    rw [nsum_iv h k]
    by_cases e : lo ≤ k ∧ k ≤ hi
    · rw [if_pos e]; omega
    · rw [if_neg e]; omega
/-- least and greatest of the coordinates -/
theorem ex_ok {s : Int64} {co : Nat → Int32} {cn' : Nat → Nat} {n : Nat} (hn : n ≤ 64) (hco : ∀ p, p < n → co p = nI (cn' p)) (h8 : ∀ p, p < n → cn' p < 8) : ∀ k, k ≤ n → ((∀ p, p < k → hb s p = false) ∧ itr (exS s co) k (8, 0) = (8, 0)) ∨ ∃ lo hi, itr (exS s co) k (8, 0) = (nI lo, nI hi) ∧ hi < 8 ∧ (∃ p, p < k ∧ hb s p = true ∧ cn' p = lo) ∧ (∃ p, p < k ∧ hb s p = true ∧ cn' p = hi) ∧ ∀ p, p < k → hb s p = true → lo ≤ cn' p ∧ cn' p ≤ hi
  | 0, _ => Or.inl ⟨fun p hp => by omega, rfl⟩
  | k + 1, hk => by
    have ih := ex_ok (s := s) hn hco h8 k (by omega)
    have hk8 := h8 k (by omega)
    rw [itr_s]
    generalize itr (exS s co) k (8, 0) = w at *
    unfold exS
    by_cases e : hb s k = true
    · rw [if_neg (fun z => by rw [hasM0 _ (by omega), e] at z; exact absurd z (by decide)), hco k (by omega)]
      right
      rcases ih with ⟨a1, a2⟩ | ⟨lo, hi, a1, a2, ⟨p, p1, p2, p3⟩, ⟨q, q1, q2, q3⟩, a5⟩
      · rw [a2]
        simp only
        rw [if_neg (show ¬ (8 : Int32) ≤ nI (cn' k) from nI_ge (b := 8) (by omega) (by omega)), show (0 : Int32) = nI 0 from rfl, grV_nI (by omega) (by omega), Nat.max_eq_right (Nat.zero_le _)]
        refine ⟨cn' k, cn' k, rfl, hk8, ⟨k, by omega, e, rfl⟩, ⟨k, by omega, e, rfl⟩, fun p hp hb' => ?_⟩
        rcases Nat.lt_or_eq_of_le (Nat.le_of_lt_succ hp) with z | z
        · rw [a1 p z] at hb'; exact absurd hb' (by decide)
        · subst z; omega
      · rw [a1]
        simp only
        have hlo : lo ≤ hi := by have := a5 p p1 p2; omega
        have e1 : (if nI lo ≤ nI (cn' k) then nI lo else nI (cn' k)) = nI (min lo (cn' k)) := by
          by_cases z : lo ≤ cn' k
          · rw [if_pos (nI_le z (by omega)), Nat.min_eq_left z]
          · rw [if_neg (nI_ge (by omega) (by omega)), Nat.min_eq_right (by omega)]
        rw [e1, grV_nI (by omega) (by omega)]
        refine ⟨min lo (cn' k), max hi (cn' k), rfl, by omega, ?_, ?_, fun x hx hb' => ?_⟩
        · by_cases z : lo ≤ cn' k
          · rw [Nat.min_eq_left z]; exact ⟨p, by omega, p2, p3⟩
          · rw [Nat.min_eq_right (by omega)]; exact ⟨k, by omega, e, rfl⟩
        · by_cases z : cn' k ≤ hi
          · rw [Nat.max_eq_left z]; exact ⟨q, by omega, q2, q3⟩
          · rw [Nat.max_eq_right (by omega)]; exact ⟨k, by omega, e, rfl⟩
        · rcases Nat.lt_or_eq_of_le (Nat.le_of_lt_succ hx) with z | z
          · have := a5 x z hb'; omega
          · subst z; omega
    · have e' : hb s k = false := by simpa using e
      rw [if_pos ((hasM0 _ (by omega)).mpr e')]
      rcases ih with ⟨a1, a2⟩ | ⟨lo, hi, a1, a2, ⟨p, p1, p2, p3⟩, ⟨q, q1, q2, q3⟩, a5⟩
      · left
        refine ⟨fun p hp => ?_, a2⟩
        rcases Nat.lt_or_eq_of_le (Nat.le_of_lt_succ hp) with z | z
        · exact a1 p z
        · subst z; exact e'
      · right
        refine ⟨lo, hi, a1, a2, ⟨p, by omega, p2, p3⟩, ⟨q, by omega, q2, q3⟩, fun x hx hb' => ?_⟩
        rcases Nat.lt_or_eq_of_le (Nat.le_of_lt_succ hx) with z | z
        · exact a5 x z hb'
        · subst z; exact (e hb').elim
/-- a set that hangs together leaves out no coordinate -/
theorem ex_sum {s : Int64} {co : Nat → Int32} {cn' : Nat → Nat} {n N : Nat} {Nb : Nat → Nat → Prop} {S : Nat → Prop} {p0 : Nat} {hit : Nat → Int32} (hn : n ≤ 64) (hN : N ≤ 8) (hco : ∀ p, p < n → co p = nI (cn' p)) (hcN : ∀ p, p < n → cn' p < N) (hs : ∀ q, hb s q = true ↔ rch Nb S p0 q) (hsn : ∀ q, hb s q = true → q < n) (hst : ∀ a b, Nb a b → cn' a ≤ cn' b + 1 ∧ cn' b ≤ cn' a + 1) (hhit : ∀ j, j < N → ((∃ q, hb s q = true ∧ cn' q = j) → hit j = 1) ∧ (¬ (∃ q, hb s q = true ∧ cn' q = j) → hit j = 0)) : isum hit N = (itr (exS s co) n (8, 0)).2 - (itr (exS s co) n (8, 0)).1 + 1 := by
  have h0 : hb s p0 = true := (hs p0).mpr (rch_rf p0)
  rcases ex_ok (s := s) hn hco (fun p hp => Nat.lt_of_lt_of_le (hcN p hp) hN) n (Nat.le_refl _) with ⟨a1, a2⟩ | ⟨lo, hi, a1, a2, ⟨p, p1, p2, p3⟩, ⟨q, q1, q2, q3⟩, a5⟩
  · rw [a1 p0 (hsn p0 h0)] at h0; exact absurd h0 (by decide)
  · rw [a1]
    simp only
    have hlo : lo ≤ hi := by have := a5 p p1 p2; omega
    have hhi : hi < N := by have := hcN q q1; omega
    have conv : ∀ j, lo ≤ j → j ≤ hi → ∃ x, hb s x = true ∧ cn' x = j := by
      intro j j1 j2
      refine Classical.byContradiction (fun hno => ?_)
      have hne : ∀ x, hb s x = true → cn' x ≠ j := fun x h1 h2 => hno ⟨x, h1, h2⟩
      rcases Nat.lt_or_gt_of_ne (hne p0 h0) with e | e
      · have := (hs q).mp q2 (fun y => rch Nb S p0 y ∧ cn' y < j) ⟨rch_rf _, e⟩ (fun a b ya hab sb' => by
          have h1 : rch Nb S p0 b := rch_st ya.1 hab sb'
          have h2 := hst a b hab
          have h3 := hne b ((hs b).mpr h1)
          exact ⟨h1, by omega⟩)
        omega
      · have := (hs p).mp p2 (fun y => rch Nb S p0 y ∧ j < cn' y) ⟨rch_rf _, e⟩ (fun a b ya hab sb' => by
          have h1 : rch Nb S p0 b := rch_st ya.1 hab sb'
          have h2 := hst a b hab
          have h3 := hne b ((hs b).mpr h1)
          exact ⟨h1, by omega⟩)
        omega
    rw [isum_n (f := fun j => if lo ≤ j ∧ j ≤ hi then 1 else 0) N (fun j hj => ?_), nsum_iv hlo, pk_sub hlo, nI_1]
    · congr 1; omega
    · by_cases e : lo ≤ j ∧ j ≤ hi
      · rw [if_pos e, (hhit j hj).1 (conv j e.1 e.2)]; rfl
      · rw [if_neg e, (hhit j hj).2]
        · rfl
        · rintro ⟨x, x1, x2⟩
          have := a5 x (hsn x x1) x1
          omega
theorem width_ok {c r n : Nat} {s : Int64} {dg : Int32} {S : Nat → Prop} {p0 : Nat} (hg : gOK c r n) (hs : ∀ q, hb s q = true ↔ rch (nbr c dg) S p0 q) (hsn : ∀ q, hb s q = true → q < n) : widthV (gL c r) s c = exV s c n 0 := by
  have h64 := hg.n.2
  obtain ⟨g1, g2, g3, g4, g5⟩ := hg
  unfold widthV exV
  refine ex_sum (cn' := fun p => p % c) h64 g2 (fun p hp => ?_) (fun p hp => Nat.mod_lt _ g1) hs hsn (fun a b h => h.2.1) (fun j hj => ?_)
  · unfold exC; rw [if_pos rfl]
  · have key : ∀ q, q < n → (hb (shlL (gL c r) (nI j)) q = true ↔ q % c = j) := fun q hq => by
      rw [hb_shl _ (by omega), Bool.and_eq_true, decide_eq_true_eq, Bool.and_eq_true, Bool.not_eq_true', decide_eq_false_iff_not]
      unfold gL
      rw [hb_left g1 g2 r g4, g5]
      constructor
      · rintro ⟨a1, a2, a3, a4⟩
        have e : q = (q - j) + j := by omega
        rw [e, Nat.add_mod, a4, Nat.zero_add, Nat.mod_mod, Nat.mod_eq_of_lt hj]
      · intro e
        have h1 : j ≤ q := by rw [← e]; exact Nat.mod_le _ _
        refine ⟨by omega, by omega, by omega, ?_⟩
        rw [← e]
        have := Nat.div_add_mod q c
        rw [show q - q % c = c * (q / c) by omega]
        exact Nat.mul_mod_right _ _
    refine ⟨fun ⟨q, q1, q2⟩ => if_neg (fun e => and0.mp e q q1 ((key q (hsn q q1)).mpr q2)), fun z => if_pos (and0.mpr (fun q q1 q2 => z ⟨q, q1, (key q (hsn q q1)).mp q2⟩))⟩
theorem hb_row {c r n j : Nat} (hg : gOK c r n) (hj : j < r) (q : Nat) : hb (rowSetV (nI c) (nI j)) q = true ↔ (q < n ∧ q / c = j) := by
  have h64 := hg.n.2
  obtain ⟨g1, g2, g3, g4, g5⟩ := hg
  have hjc : j * c + c ≤ n := by
    have : (j + 1) * c ≤ r * c := Nat.mul_le_mul hj (Nat.le_refl _)
    rw [Nat.succ_mul, Nat.mul_comm r c, g5] at this
    exact this
  unfold rowSetV
  rw [pk_mul, hb_shl _ (show j * c < 64 by omega), Bool.and_eq_true, decide_eq_true_eq, Bool.and_eq_true, Bool.not_eq_true', decide_eq_false_iff_not, hb_low (by omega), decide_eq_true_eq]
  constructor
  · rintro ⟨a1, a2, a3⟩
    refine ⟨by omega, ?_⟩
    rw [show q = (q - j * c) + c * j by rw [Nat.mul_comm c j]; omega, Nat.add_mul_div_left _ _ g1, Nat.div_eq_of_lt a3, Nat.zero_add]
  · rintro ⟨a1, a2⟩
    have := Nat.div_add_mod q c
    have := Nat.mod_lt q g1
    rw [a2, Nat.mul_comm c j] at *
    omega
theorem tall_ok {c r n : Nat} {s : Int64} {dg : Int32} {S : Nat → Prop} {p0 : Nat} (hg : gOK c r n) (hs : ∀ q, hb s q = true ↔ rch (nbr c dg) S p0 q) (hsn : ∀ q, hb s q = true → q < n) : tallV (nI c) s r = exV s c n 1 := by
  have h64 := hg.n.2
  have hg' := hg
  obtain ⟨g1, g2, g3, g4, g5⟩ := hg
  unfold tallV exV
  refine ex_sum (cn' := fun p => p / c) h64 g4 (fun p hp => ?_) (fun p hp => Nat.div_lt_of_lt_mul (by rw [g5]; exact hp)) hs hsn (fun a b h => h.2.2.1) (fun j hj => ?_)
  · unfold exC; rw [if_neg (by decide)]
  · refine ⟨fun ⟨q, q1, q2⟩ => if_neg (fun e => and0.mp e q q1 ((hb_row hg' hj q).mpr ⟨hsn q q1, q2⟩)), fun z => if_pos (and0.mpr (fun q q1 q2 => z ⟨q, q1, ((hb_row hg' hj q).mp q2).2⟩))⟩
/-! perimeter -/
abbrev bN (b : Bool) : Nat := if b = true then 1 else 0
theorem pe_nb {c r n p : Nat} {s : Int64} (hg : gOK c r n) (hsn : ∀ q, hb s q = true → q < n) (hp : p < n) : cd (bsV c r p 0 &&& s) 64 = bN (hb s (p + 1) && !decide ((p + 1) % c = 0)) + bN (decide (1 ≤ p) && hb s (p - 1) && !decide (p % c = 0)) + bN (hb s (p + c)) + bN (decide (c ≤ p) && hb s (p - c)) := by
  have h64 := hg.n.2
  obtain ⟨g1, g2, g3, g4, g5⟩ := hg
  have key : ∀ q, hb (bsV c r p 0 &&& s) q = true ↔ (hb s q = true ∧ ((q = p + 1 ∧ q % c ≠ 0) ∨ (p = q + 1 ∧ p % c ≠ 0) ∨ q = p + c ∨ p = q + c)) := fun q => by
    rw [hb_and, Bool.and_eq_true, hb_bs g1 g2 g3 g4 (by rw [g5]; exact hp), nbr_off g1 g2]
    constructor
    · rintro ⟨⟨a1, a2⟩, a3⟩
      refine ⟨a3, ?_⟩
      rcases a2 with z | z | z | z | z
      · exact Or.inl z
      · exact Or.inr (Or.inl z)
      · exact Or.inr (Or.inr (Or.inl z))
      · exact Or.inr (Or.inr (Or.inr z))
      · exact (z.1 rfl).elim
    · rintro ⟨a3, a2⟩
      refine ⟨⟨by rw [g5]; exact hsn q a3, ?_⟩, a3⟩
      rcases a2 with z | z | z | z
      · exact Or.inl z
      · exact Or.inr (Or.inl z)
      · exact Or.inr (Or.inr (Or.inl z))
      · exact Or.inr (Or.inr (Or.inr (Or.inl z)))
  have hc1 : (p + 1) % c ≠ 0 → c ≠ 1 := fun z e => z (by rw [e, Nat.mod_one])
  have hc2 : p % c ≠ 0 → c ≠ 1 := fun z e => z (by rw [e, Nat.mod_one])
  rw [cd_ns]
  have e : nsum (fun q => if hb (bsV c r p 0 &&& s) q = true then 1 else 0) 64 = nsum (fun q => ((bN (decide (q = p + 1) && hb s q && !decide (q % c = 0)) + bN (decide (q + 1 = p) && hb s q && !decide (p % c = 0))) + bN (decide (q = p + c) && hb s q)) + bN (decide (q + c = p) && hb s q)) 64 := nsum_cg 64 (fun q hq => by
    have k := key q
    cases hsq : hb s q
    · rw [if_neg (fun z => by have := (k.mp z).1; rw [hsq] at this; exact absurd this (by decide))]
      simp [bN]
    · by_cases z : hb (bsV c r p 0 &&& s) q = true
      · rw [if_pos z]
        rcases (k.mp z).2 with w | w | w | w
        · have := hc1 (by rw [← w.1]; exact w.2)
          simp only [bN]
          rw [if_pos (by simp [w.1]; rw [← w.1]; exact w.2), if_neg (by simp; omega), if_neg (by simp; omega), if_neg (by simp; omega)]
        · have := hc2 w.2
          simp only [bN]
          rw [if_neg (by simp; omega), if_pos (by simp [w.2]; omega), if_neg (by simp; omega), if_neg (by simp; omega)]
        · simp only [bN]
          rw [if_neg (by
            intro y
            simp at y
            have : c = 1 := by omega
            exact y.2 (by rw [this, Nat.mod_one])), if_neg (by simp; omega), if_pos (by simp; omega), if_neg (by simp; omega)]
        · simp only [bN]
          rw [if_neg (by simp; omega), if_neg (by
            intro y
            simp at y
            have : c = 1 := by omega
            exact y.2 (by rw [this, Nat.mod_one])), if_neg (by simp; omega), if_pos (by simp; omega)]
      · rw [if_neg z]
        have z' := fun y => z (k.mpr ⟨hsq, y⟩)
        simp only [bN]
        rw [if_neg (by intro y; simp at y; exact z' (Or.inl ⟨y.1, y.2⟩)), if_neg (by intro y; simp at y; exact z' (Or.inr (Or.inl ⟨y.1.symm, y.2⟩))), if_neg (by intro y; simp at y; exact z' (Or.inr (Or.inr (Or.inl y)))), if_neg (by intro y; simp at y; exact z' (Or.inr (Or.inr (Or.inr y.symm))))])
  rw [e, nsum_add, nsum_add, nsum_add]
  have one : ∀ (a : Nat) (f : Nat → Bool), (∀ q, q ≠ a → f q = false) → (64 ≤ a → f a = false) → nsum (fun q => bN (f q)) 64 = bN (f a) := fun a f h1 h2 => by
    by_cases z : a < 64
    · exact nsum_one 64 z (fun u _ hu => by simp only [bN, h1 u hu]; rfl)
    · rw [(nsum_z 64).mpr (fun u hu => by simp only [bN, h1 u (by omega)]; rfl), h2 (by omega)]; rfl
  congr 1
  · congr 1
    · congr 1
      · rw [one (p + 1) _ (fun q hq => by simp [hq]) (fun h => by simp [hb_ge h])]
        simp [bN]
      · by_cases z : 1 ≤ p
        · rw [one (p - 1) _ (fun q hq => by simp; intro; omega) (fun h => by omega)]
          simp [bN, z]
        · rw [(nsum_z 64).mpr (fun u hu => by simp [bN]; omega)]
          simp [bN, z]
    · rw [one (p + c) _ (fun q hq => by simp [hq]) (fun h => by simp [hb_ge h])]
      simp [bN]
  · by_cases z : c ≤ p
    · rw [one (p - c) _ (fun q hq => by simp; intro; omega) (fun h => by omega)]
      simp [bN, z]
    · rw [(nsum_z 64).mpr (fun u hu => by simp [bN]; omega)]
      simp [bN, z]
theorem perim_ok {c r n : Nat} {s : Int64} (hg : gOK c r n) (hsn : ∀ q, hb s q = true → q < n) : perimV (nI c) (gR c r) s = peV s c r n := by
  have h64 := hg.n.2
  have hg' := hg
  obtain ⟨g1, g2, g3, g4, g5⟩ := hg
  -- the class's pairs
  have eX : cd (s &&& shlL (s &&& (gR c r ^^^ -1)) 1) 64 = nsum (fun q => bN (hb s q && (decide (1 ≤ q) && hb s (q - 1) && !decide (q % c = 0)))) 64 := by
    rw [cd_ns]
    refine nsum_cg 64 (fun q hq => ?_)
    have : hb (s &&& shlL (s &&& (gR c r ^^^ -1)) 1) q = (hb s q && (decide (1 ≤ q) && hb s (q - 1) && !decide (q % c = 0))) := by
      rw [hb_and, show (1 : Int32) = nI 1 from rfl, hb_shl _ (by decide), hb_and, hb_not]
      cases hsq : hb s q
      · rfl
      · by_cases z : 1 ≤ q
        · cases hs1 : hb s (q - 1)
          · simp
          · have h1 := hsn q hsq
            have hR := hb_right g1 g2 g4 (q - 1)
            have e : hb (gR c r) (q - 1) = decide (q % c = 0) := by
              refine bq hR ?_
              rw [decide_eq_true_eq, g5]
              have a1 := Nat.div_add_mod (q - 1) c
              have a2 := Nat.mod_lt (q - 1) g1
              constructor
              · intro e
                refine ⟨by omega, ?_⟩
                have a3 := Nat.div_add_mod q c
                rcases Nat.lt_or_eq_of_le (Nat.le_sub_one_of_lt a2) with w | w
                · exfalso
                  have : q = c * ((q - 1) / c) + ((q - 1) % c + 1) := by omega
                  rw [this, Nat.mul_add_mod, Nat.mod_eq_of_lt (by omega)] at e
                  omega
                · exact w
              · rintro ⟨_, e⟩
                rw [show q = c * ((q - 1) / c) + c by omega, Nat.mul_add_mod, Nat.mod_self]
            rw [e]
            have : q - 1 < 64 := by omega
            have : ¬ q < 1 := by omega
            simp [*]
        · have : q < 1 := by omega
          simp [this, z]
    rw [this]
  have eY : cd (s &&& shlL s (nI c)) 64 = nsum (fun q => bN (hb s q && (decide (c ≤ q) && hb s (q - c)))) 64 := by
    rw [cd_ns]
    refine nsum_cg 64 (fun q hq => ?_)
    have : hb (s &&& shlL s (nI c)) q = (hb s q && (decide (c ≤ q) && hb s (q - c))) := by
      rw [hb_and, hb_shl _ (by omega)]
      by_cases z : c ≤ q
      · have : ¬ q < c := by omega
        simp [z, hq, this]
      · have : q < c := by omega
        simp [z, this]
    rw [this]
  -- the two sums that look forward are those that look back
  have sh1 : nsum (fun q => bN (hb s q && (hb s (q + 1) && !decide ((q + 1) % c = 0)))) 64 = nsum (fun q => bN (hb s q && (decide (1 ≤ q) && hb s (q - 1) && !decide (q % c = 0)))) 64 := by
    have h1 := nsum_sh (fun q => bN (hb s q && (decide (1 ≤ q) && hb s (q - 1) && !decide (q % c = 0)))) 1 64
    have h2 := nsum_tl (f := fun q => bN (hb s q && (decide (1 ≤ q) && hb s (q - 1) && !decide (q % c = 0)))) (n := 64) 1 (fun u h3 _ => by simp [bN, hb_ge h3])
    rw [Nat.add_comm 64 1] at h2
    rw [h2] at h1
    rw [← h1, show nsum (fun q => bN (hb s q && (decide (1 ≤ q) && hb s (q - 1) && !decide (q % c = 0)))) 1 = 0 by simp [nsum, bN], Nat.add_zero]
    refine nsum_cg 64 (fun q _ => ?_)
    simp only [Nat.add_sub_cancel, show (1 ≤ q + 1) = True by simp, decide_true, Bool.true_and]
    congr 1
    rw [← Bool.and_assoc, ← Bool.and_assoc, Bool.and_comm (hb s q)]
  have sh2 : nsum (fun q => bN (hb s q && hb s (q + c))) 64 = nsum (fun q => bN (hb s q && (decide (c ≤ q) && hb s (q - c)))) 64 := by
    have h1 := nsum_sh (fun q => bN (hb s q && (decide (c ≤ q) && hb s (q - c)))) c 64
    have h2 := nsum_tl (f := fun q => bN (hb s q && (decide (c ≤ q) && hb s (q - c)))) (n := 64) c (fun u h3 _ => by simp [bN, hb_ge h3])
    rw [Nat.add_comm 64 c] at h2
    rw [h2] at h1
    rw [← h1, (nsum_z c).mpr (fun u hu => by simp [bN]; intro; omega), Nat.add_zero]
    refine nsum_cg 64 (fun q _ => ?_)
    simp only [Nat.add_sub_cancel, show (c ≤ q + c) = True by simp, decide_true, Bool.true_and]
    congr 1
    rw [Bool.and_comm]
  generalize hXe : nsum (fun q => bN (hb s q && (decide (1 ≤ q) && hb s (q - 1) && !decide (q % c = 0)))) 64 = X at *
  generalize hYe : nsum (fun q => bN (hb s q && (decide (c ≤ q) && hb s (q - c)))) 64 = Y at *
  -- the model's sum
  have hN4 : ∀ p, p < n → cd (bsV c r p 0 &&& s) 64 ≤ 4 := fun p hp => by
    rw [pe_nb hg' hsn hp]
    have : ∀ b : Bool, bN b ≤ 1 := fun b => by cases b <;> decide
    have a1 := this (hb s (p + 1) && !decide ((p + 1) % c = 0))
    have a2 := this (decide (1 ≤ p) && hb s (p - 1) && !decide (p % c = 0))
    have a3 := this (hb s (p + c))
    have a4 := this (decide (c ≤ p) && hb s (p - c))
    omega
  have eM : peV s c r n = nI (nsum (fun p => if hb s p = true then 4 - cd (bsV c r p 0 &&& s) 64 else 0) n) := by
    unfold peV
    refine isum_n n (fun p hp => ?_)
    by_cases e : hb s p = true
    · rw [if_neg (fun z => by rw [hasM0 _ (by omega), e] at z; exact absurd z (by decide)), if_pos e, c1V_cd _ 64 (Nat.le_refl _), show (4 : Int32) = nI 4 from rfl, pk_sub (hN4 p hp)]
    · rw [if_pos ((hasM0 _ (by omega)).mpr (by simpa using e)), if_neg e]; rfl
  have eG : nsum (fun p => if hb s p = true then cd (bsV c r p 0 &&& s) 64 else 0) 64 = 2 * (X + Y) := by
    have e : nsum (fun p => if hb s p = true then cd (bsV c r p 0 &&& s) 64 else 0) 64 = nsum (fun p => ((bN (hb s p && (hb s (p + 1) && !decide ((p + 1) % c = 0))) + bN (hb s p && (decide (1 ≤ p) && hb s (p - 1) && !decide (p % c = 0)))) + bN (hb s p && hb s (p + c))) + bN (hb s p && (decide (c ≤ p) && hb s (p - c)))) 64 := nsum_cg 64 (fun p hp => by
      cases e : hb s p
      · simp [bN]
      · rw [if_pos rfl, pe_nb hg' hsn (hsn p e)]
        simp only [Bool.true_and])
    rw [e, nsum_add, nsum_add, nsum_add, sh1, sh2, hXe, hYe]
    omega
  have eF : nsum (fun p => if hb s p = true then 4 - cd (bsV c r p 0 &&& s) 64 else 0) n = nsum (fun p => if hb s p = true then 4 - cd (bsV c r p 0 &&& s) 64 else 0) 64 := by
    have := nsum_tl (f := fun p => if hb s p = true then 4 - cd (bsV c r p 0 &&& s) 64 else 0) (n := n) (64 - n) (fun u h1 _ => if_neg (fun z => by have := hsn u z; omega))
    rw [show n + (64 - n) = 64 by omega] at this
    exact this.symm
  have eS : nsum (fun p => if hb s p = true then 4 - cd (bsV c r p 0 &&& s) 64 else 0) 64 + 2 * (X + Y) = 4 * cd s 64 := by
    rw [← eG, ← nsum_add, cd_ns, ← nsum_mulc]
    refine nsum_cg 64 (fun p hp => ?_)
    by_cases e : hb s p = true
    · have := hN4 p (hsn p e)
      rw [if_pos e, if_pos e, if_pos e]; omega
    · rw [if_neg e, if_neg e, if_neg e]
  unfold perimV
  rw [bcL_cd, bcL_cd, bcL_cd, eX, eY, eM, eF]
  rw [show (4 : Int32) = nI 4 from rfl, show (2 : Int32) = nI 2 from rfl, pk_mul, nI_add, pk_mul, pk_sub (by omega)]
  congr 1
  omega
/-! holes -/
theorem hb_bord {c r n : Nat} (hg : gOK c r n) (q : Nat) : hb (borderV (nI c) r) q = true ↔ (q < n ∧ (q % c = 0 ∨ q % c = c - 1 ∨ q / c = 0 ∨ q / c = r - 1)) := by
  have hg' := hg
  obtain ⟨g1, g2, g3, g4, g5⟩ := hg
  unfold borderV
  rw [hb_or, hb_or, hb_or, Bool.or_eq_true, Bool.or_eq_true, Bool.or_eq_true, hb_left g1 g2 r g4, hb_right g1 g2 g4, show (0 : Int32) = nI 0 from rfl, hb_row hg' g3, show nI r - 1 = nI (r - 1) from by rw [show (1 : Int32) = nI 1 from rfl, pk_sub g3], hb_row hg' (by omega), g5]
  constructor
  · rintro (((a | a) | a) | a)
    · exact ⟨a.1, Or.inl a.2⟩
    · exact ⟨a.1, Or.inr (Or.inl a.2)⟩
    · exact ⟨a.1, Or.inr (Or.inr (Or.inl a.2))⟩
    · exact ⟨a.1, Or.inr (Or.inr (Or.inr a.2))⟩
  · rintro ⟨a0, (a | a | a | a)⟩
    · exact Or.inl (Or.inl (Or.inl ⟨a0, a⟩))
    · exact Or.inl (Or.inl (Or.inr ⟨a0, a⟩))
    · exact Or.inl (Or.inr ⟨a0, a⟩)
    · exact Or.inr ⟨a0, a⟩
theorem hb_rim {c r n : Nat} (hg : gOK c r n) (q : Nat) : hb (riV c r n) q = true ↔ (q < n ∧ (q % c = 0 ∨ q % c = c - 1 ∨ q / c = 0 ∨ q / c = r - 1)) := by
  have h64 := hg.n.2
  obtain ⟨g1, g2, g3, g4, g5⟩ := hg
  unfold riV
  rw [show (riS c r) = fun k s => s ||| riO c r k from rfl, hb_or_itr]
  have key : ∀ k, k < n → (hb (riO c r k) q = true ↔ (q = k ∧ (k % c = 0 ∨ k % c = c - 1 ∨ k / c = 0 ∨ k / c = r - 1))) := fun k hk => by
    have m1 := Nat.mod_lt k g1
    have m2 : k / c < r := Nat.div_lt_of_lt_mul (by rw [g5]; exact hk)
    have hbt : hb (shlL 1 (nI k)) q = true ↔ q = k := by rw [hb_bit (by omega), decide_eq_true_eq]
    have e1 : nI (k % c) = 0 ↔ k % c = 0 := nI_eq (b := 0) (by omega) (by omega)
    have e2 : nI (k / c) = 0 ↔ k / c = 0 := nI_eq (b := 0) (by omega) (by omega)
    have e3 : nI (k % c) = nI c - 1 ↔ k % c = c - 1 := by rw [show (1 : Int32) = nI 1 from rfl, pk_sub g1]; exact nI_eq (by omega) (by omega)
    have e4 : nI (k / c) = nI r - 1 ↔ k / c = r - 1 := by rw [show (1 : Int32) = nI 1 from rfl, pk_sub g3]; exact nI_eq (by omega) (by omega)
    unfold riO
    by_cases z1 : k % c = 0
    · rw [if_pos (e1.mpr z1), hbt]; exact ⟨fun a => ⟨a, Or.inl z1⟩, fun a => a.1⟩
    · rw [if_neg (fun z => z1 (e1.mp z))]
      by_cases z2 : k / c = 0
      · rw [if_pos (e2.mpr z2), hbt]; exact ⟨fun a => ⟨a, Or.inr (Or.inr (Or.inl z2))⟩, fun a => a.1⟩
      · rw [if_neg (fun z => z2 (e2.mp z))]
        by_cases z3 : k % c = c - 1
        · rw [if_pos (e3.mpr z3), hbt]; exact ⟨fun a => ⟨a, Or.inr (Or.inl z3)⟩, fun a => a.1⟩
        · rw [if_neg (fun z => z3 (e3.mp z))]
          by_cases z4 : k / c = r - 1
          · rw [if_pos (e4.mpr z4), hbt]; exact ⟨fun a => ⟨a, Or.inr (Or.inr (Or.inr z4))⟩, fun a => a.1⟩
          · rw [if_neg (fun z => z4 (e4.mp z)), hb_0]
            exact ⟨fun a => absurd a (by decide), fun a => by rcases a.2 with w | w | w | w <;> contradiction⟩
  constructor
  · rintro ⟨k, k1, k2⟩
    obtain ⟨e, a⟩ := (key k k1).mp k2
    subst e
    exact ⟨k1, a⟩
  · rintro ⟨a1, a2⟩
    exact ⟨q, a1, (key q a1).mpr ⟨rfl, a2⟩⟩
theorem all_eq {c r n : Nat} (hg : gOK c r n) : ushL (-1) (64 - nI c * nI r) = allM (nI n) := by
  obtain ⟨h0, h64⟩ := hg.n
  rw [pk_mul, hg.2.2.2.2, show (64 : Int32) = nI 64 from rfl, pk_sub h64]
  refine hb_ext (fun q hq => bq (P := q < n) ?_ (hb_all h0 h64 q))
  rw [hb_ush _ (by omega), hb_m1, decide_eq_true_eq]
  omega
theorem RI_skip {c n t j : Nat} {ei : Int32} {rk : Nat → Nat} {re : Int64} (hR : RI c n ei rk t j re) (hj : hb re j = false) : RI c n ei rk t (j + 1) re := by
  have hno : ¬ (inS rk n t j ∧ ∀ p, p < j → inS rk n t p → ¬ cn c n ei rk t p j) := fun z => by
    rw [(hR j).mpr z] at hj
    exact absurd hj (by decide)
  intro x
  rw [hR x]
  constructor
  · rintro ⟨a1, a2⟩
    refine ⟨a1, fun p hp hpS hpx => ?_⟩
    rcases Nat.lt_or_eq_of_le (Nat.le_of_lt_succ hp) with e | e
    · exact a2 p e hpS hpx
    · subst e
      exact hno ⟨hpS, fun p' hp' hpS' hpj => a2 p' hp' hpS' (rch_tr hpj hpx)⟩
  · rintro ⟨a1, a2⟩
    exact ⟨a1, fun p hp => a2 p (by omega)⟩
theorem RI_take {c r n t j : Nat} {ei : Int32} {rk : Nat → Nat} {re : Int64} (hg : gOK c r n) (hr : rOK rk n) (ht : t < 16) (hR : RI c n ei rk t j re) (hj : hb re j = true) : RI c n ei rk t (j + 1) (re &&& (Cp c r n ei rk t j ^^^ -1)) := by
  have h64 := hg.n.2
  obtain ⟨hjS, hjl⟩ := (hR j).mp hj
  intro x
  rw [hb_and, Bool.and_eq_true, hR x, hb_not, Bool.and_eq_true, decide_eq_true_eq, Bool.not_eq_true']
  have e1 := hb_Cp (ei := ei) hg hr (show t ≤ 16 by omega) hjS x
  constructor
  · rintro ⟨⟨a1, a2⟩, a3, a4⟩
    refine ⟨a1, fun p hp hpS hpx => ?_⟩
    rcases Nat.lt_or_eq_of_le (Nat.le_of_lt_succ hp) with e | e
    · exact a2 p e hpS hpx
    · subst e; rw [e1.mpr hpx] at a4; exact absurd a4 (by decide)
  · rintro ⟨a1, a2⟩
    refine ⟨⟨a1, fun p hp => a2 p (by omega)⟩, by have := a1.1; omega, ?_⟩
    cases e : hb (Cp c r n ei rk t j) x
    · rfl
    · exact (a2 j (by omega) hjS (e1.mp e)).elim
theorem holes_ok {c r n : Nat} {s : Int64} {ei : Int32} (hg : gOK c r n) : holV (nI c) (gL c r) (gR c r) (ushL (-1) (64 - nI c * nI r)) (borderV (nI c) r) s ei n = hoV s c r n ei n := by
  obtain ⟨h0, h64⟩ := hg.n
  have hbd : borderV (nI c) r = riV c r n := hb_ext (fun q _ => bq (hb_bord hg q) (hb_rim hg q))
  unfold holV hoV
  rw [all_eq hg, hbd]
  generalize hO : (allM (nI n) &&& (s ^^^ -1)) = O
  generalize hdg : (if ei = 0 then (1 : Int32) else 0) = dg
  have hOn : ∀ q, hb O q = true → q < n := fun q h => by
    rw [← hO, hb_and, Bool.and_eq_true] at h
    exact (hb_all h0 h64 q).mp h.1
  obtain ⟨rk, hrk⟩ : ∃ rk : Nat → Nat, rk = fun q => if hb O q = true then 1 else 0 := ⟨_, rfl⟩
  have hr : rOK rk n := fun p _ => by rw [hrk]; simp only; split <;> omega
  have hin : ∀ q, inS rk n 1 q ↔ hb O q = true := fun q => by
    unfold inS
    rw [hrk]
    simp only
    constructor
    · rintro ⟨_, a⟩
      split at a
      · assumption
      · omega
    · intro a
      exact ⟨hOn q a, by rw [if_pos a]; exact Nat.le_refl _⟩
  have hSg : Sg rk n 1 = O := hb_ext (fun q _ => bq (hb_Sg hg hr (by omega) q) (by rw [hin]))
  have hcp : ∀ j, Cp c r n dg rk 1 j = cpV c r dg O j := fun j => by unfold Cp; rw [hSg]
  obtain ⟨con, hcon⟩ : ∃ con : Int64 → Int64 → Int64, con = fun b r' => connV (nI c) (gL c r) (gR c r) r' dg 64 b := ⟨_, rfl⟩
  rw [← hcon]
  have key : ∀ j, j ≤ n → (itr (holS con (riV c r n)) j (0, O)).1 = isum (hoO c r n ei O) j ∧ RI c n dg rk 1 j (itr (holS con (riV c r n)) j (0, O)).2 := by
    intro j
    induction j with
    | zero =>
      intro _
      refine ⟨rfl, fun x => ?_⟩
      rw [itr_0, hin]
      exact ⟨fun h => ⟨h, fun p hp => by omega⟩, fun h => h.1⟩
    | succ j ih =>
      intro hj
      obtain ⟨i1, i2⟩ := ih (by omega)
      rw [itr_s]
      generalize itr (holS con (riV c r n)) j (0, O) = q at *
      unfold isum
      by_cases e : hb q.2 j = true
      · obtain ⟨hjS, hjl⟩ := (i2 j).mp e
        have hcn : con (shlL 1 (nI j)) q.2 = cpV c r dg O j := by
          rw [← hcp, hcon]
          exact cn_rest hg hr (by omega) i2 e
        have hP : hoP c r ei O j = cpV c r dg O j := by
          unfold hoP
          rw [if_neg (fun z => by rw [hasM0 _ (by omega), (hin j).mp hjS] at z; exact absurd z (by decide)), hdg]
        have hbj := fun x => hb_Cp (ei := dg) hg hr (show 1 ≤ 16 by omega) hjS x
        have hne : ¬ cpV c r dg O j = 0 := fun z => by
          have := (hbj j).mpr (rch_rf j)
          rw [hcp, z, hb_0] at this
          exact absurd this (by decide)
        have hlow : (cpV c r dg O j &&& (shlL 1 (nI j) - 1)) = 0 := and0.mpr (fun x a1 a2 => by
          rw [hb_low (by omega), decide_eq_true_eq] at a2
          rw [← hcp] at a1
          have a3 := (hbj x).mp a1
          exact hjl x a2 (cn_in hjS a3) (cn_sy hjS a3))
        have hR2 := RI_take hg hr (by omega) i2 e
        rw [hcp] at hR2
        have h1 : ¬ (q.2 &&& shlL 1 (nI j)) = 0 := fun z => by rw [and0p (by omega), e] at z; exact absurd z (by decide)
        have hOj : hoO c r n ei O j = if (cpV c r dg O j &&& riV c r n) = 0 then 1 else 0 := by
          unfold hoO
          rw [hP, if_neg hne, if_pos hlow]
        unfold holS
        rw [if_neg h1]
        simp only
        rw [hcn, hOj, i1]
        exact ⟨rfl, hR2⟩
      · have e' : hb q.2 j = false := by simpa using e
        rw [holS1 ((and0p (by omega)).mpr e')]
        have hz : hoO c r n ei O j = 0 := by
          unfold hoO
          by_cases z : hb O j = true
          · have hjS := (hin j).mpr z
            have hP : hoP c r ei O j = cpV c r dg O j := by
              unfold hoP
              rw [if_neg (fun y => by rw [hasM0 _ (by omega), z] at y; exact absurd y (by decide)), hdg]
            obtain ⟨p, p1, p2, p3⟩ : ∃ p, p < j ∧ inS rk n 1 p ∧ cn c n dg rk 1 p j := Classical.byContradiction (fun y => by
              rw [(i2 j).mpr ⟨hjS, fun p a1 a2 a3 => y ⟨p, a1, a2, a3⟩⟩] at e'
              exact absurd e' (by decide))
            rw [hP]
            split
            · rfl
            · rw [if_neg]
              intro y
              have := and0.mp y p (by rw [← hcp]; exact (hb_Cp hg hr (by omega) hjS p).mpr (cn_sy p2 p3)) (by rw [hb_low (by omega)]; simpa using p1)
              exact this
          · unfold hoP
            rw [if_pos ((hasM0 _ (by omega)).mpr (by simpa using z)), if_pos rfl]
        rw [hz, i1, Int32.add_zero]
        exact ⟨rfl, RI_skip i2 e'⟩
  exact (key n (Nat.le_refl _)).1

