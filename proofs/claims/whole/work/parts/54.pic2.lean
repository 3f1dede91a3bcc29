/-! pictures on both sides -/
def lv16 (f : Nat → Int32) (n : Nat) : Prop := ∀ p, p < n → ∃ a, a < 16 ∧ f p = nI a
theorem dif_eq {f g f' g' : Nat → Int32} {n : Nat} (hf : lv16 f n) (hg : lv16 g n) (h1 : ∀ p, p < n → f p = f' p) (h2 : ∀ p, p < n → g p = g' p) : difV f g n = mdV f' g' n := by
  unfold difV mdV
  refine isum_cg n (fun p hp => ?_)
  obtain ⟨a, a1, a2⟩ := hf p hp
  obtain ⟨b, b1, b2⟩ := hg p hp
  rw [← h1 p hp, ← h2 p hp, a2, b2, (ab_tab a a1 b b1).1]
theorem ma_md (lv : Nat → Int32) : maS lv = mdS lv := by
  funext p q
  unfold maS mdS
  by_cases e : q.2 p = lv p
  · rw [if_pos e, if_pos e, Int32.add_zero, ← e, upd_self]
  · rw [if_neg e, if_neg e]
theorem mm_md (lv : Nat → Int32) : mmS lv = mdS lv := rfl
theorem cm_ok (f : Nat → Int32) : ∀ n p, itr cmS n f p = if p < n then 15 - f p else f p
  | 0, p => by rw [itr_0, if_neg (Nat.not_lt_zero _)]
  | n + 1, p => by
    have ih := cm_ok f n
    rw [itr_s]
    generalize itr cmS n f = g at *
    unfold cmS
    by_cases e : p = n
    · subst e; rw [up_s, if_pos (by omega), ih p, if_neg (by omega)]
    · rw [up_n _ _ e, ih p]
      by_cases e2 : p < n
      · rw [if_pos e2, if_pos (by omega)]
      · rw [if_neg e2, if_neg (by omega)]
theorem mk_ok (f g : Nat → Int32) : ∀ n p, itr (mkS f) n g p = if p < n then f p else g p
  | 0, p => by rw [itr_0, if_neg (Nat.not_lt_zero _)]
  | n + 1, p => by
    have ih := mk_ok f g n
    rw [itr_s]
    generalize itr (mkS f) n g = w at *
    unfold mkS
    by_cases e : p = n
    · subst e; rw [up_s, if_pos (by omega)]
    · rw [up_n _ _ e, ih p]
      by_cases e2 : p < n
      · rw [if_pos e2, if_pos (by omega)]
      · rw [if_neg e2, if_neg (by omega)]
/-! fill -/
def rcP (l w tp H c p : Nat) : Prop := (l ≤ p % c ∧ p % c < l + w) ∧ tp ≤ p / c ∧ p / c < tp + H
def fiI (f : Nat → Int32) (v : Int32) (n : Nat) (P : Nat → Prop) (q : Int32 × (Nat → Int32)) : Prop := q.1 = isum (fun p => ind (P p ∧ f p ≠ v) 1) n ∧ ∀ p, (P p → q.2 p = v) ∧ (¬ P p → q.2 p = f p)
theorem fiI_add {f : Nat → Int32} {v : Int32} {n p0 : Nat} {P P' : Nat → Prop} {q : Int32 × (Nat → Int32)} (h : fiI f v n P q) (h0 : p0 < n) (hn : ¬ P p0) (hP : ∀ p, P' p ↔ (P p ∨ p = p0)) : fiI f v n P' (q.1 + (if q.2 p0 = v then 0 else 1), upd q.2 p0 v) := by
  obtain ⟨h1, h2⟩ := h
  refine ⟨?_, fun p => ?_⟩
  · show q.1 + _ = _
    rw [(h2 p0).2 hn, h1, isum_cg (f := fun p => ind (P' p ∧ f p ≠ v) 1) (g := fun p => ind (P p ∧ f p ≠ v) 1 + ind (p = p0 ∧ f p ≠ v) 1) n (fun p _ => ind_or ⟨fun z => ((hP p).mp z.1).elim (fun y => Or.inl ⟨y, z.2⟩) (fun y => Or.inr ⟨y, z.2⟩), fun z => z.elim (fun y => ⟨(hP p).mpr (Or.inl y.1), y.2⟩) (fun y => ⟨(hP p).mpr (Or.inr y.1), y.2⟩)⟩ (fun a b => hn (by rw [← b.1]; exact a.1)) 1), isum_add, isum_one (f := fun p => ind (p = p0 ∧ f p ≠ v) 1) n h0 (fun u _ hu => ind_f (fun z => hu z.1) _)]
    congr 1
    by_cases e : f p0 = v
    · rw [if_pos e, ind_f (fun z => z.2 e)]
    · rw [if_neg e, ind_t ⟨rfl, e⟩]
  · show (P' p → upd q.2 p0 v p = v) ∧ (¬ P' p → upd q.2 p0 v p = f p)
    by_cases e : p = p0
    · subst e
      rw [up_s]
      exact ⟨fun _ => rfl, fun z => (z ((hP p).mpr (Or.inr rfl))).elim⟩
    · rw [up_n _ _ e]
      have hpp : P' p ↔ P p := (hP p).trans ⟨fun z => z.resolve_right e, Or.inl⟩
      rw [hpp]
      exact h2 p
theorem fiI_cg {f : Nat → Int32} {v : Int32} {n : Nat} {P P' : Nat → Prop} {q : Int32 × (Nat → Int32)} (h : fiI f v n P q) (hP : ∀ p, P' p ↔ P p) : fiI f v n P' q := by
  have : P' = P := funext (fun p => propext (hP p))
  rw [this]; exact h
theorem fiI_u {f f' : Nat → Int32} {v : Int32} {n : Nat} {P : Nat → Prop} {q q' : Int32 × (Nat → Int32)} {N : Nat} (hN : n ≤ N) (hf : ∀ p, p < N → f p = f' p) (h : fiI f v n P q) (h' : fiI f' v n P q') : q.1 = q'.1 ∧ ∀ p, p < N → q.2 p = q'.2 p := by
  refine ⟨?_, fun p hp => ?_⟩
  · rw [h.1, h'.1]
    exact isum_cg n (fun p hp => by rw [hf p (by omega)])
  · by_cases e : P p
    · rw [(h.2 p).1 e, (h'.2 p).1 e]
    · rw [(h.2 p).2 e, (h'.2 p).2 e, hf p hp]
theorem pnt_ok {c r n a b : Nat} {v : Int32} {f : Nat → Int32} (hg : gOK c r n) (ha : a < n) (hb : b < n) : fiI f v n (rcP (min (a % c) (b % c)) (max (a % c) (b % c) + 1 - min (a % c) (b % c)) (min (a / c) (b / c)) (max (a / c) (b / c) + 1 - min (a / c) (b / c)) c) (pntV c a b v f) := by
  obtain ⟨g1, g2, g3, g4, g5⟩ := hg
  have ma := Nat.mod_lt a g1
  have mb := Nat.mod_lt b g1
  have da : a / c < r := Nat.div_lt_of_lt_mul (by rw [g5]; exact ha)
  have db : b / c < r := Nat.div_lt_of_lt_mul (by rw [g5]; exact hb)
  unfold pntV
  generalize hl : min (a % c) (b % c) = l
  generalize hw : max (a % c) (b % c) + 1 - l = w
  generalize htp : min (a / c) (b / c) = tp
  generalize hH : max (a / c) (b / c) + 1 - tp = H
  have hlw : l + w ≤ c := by omega
  have htH : tp + H ≤ r := by omega
  have hdm : ∀ i j, i < H → j < w → ((tp + i) * c + (l + j)) / c = tp + i ∧ ((tp + i) * c + (l + j)) % c = l + j ∧ (tp + i) * c + (l + j) < n := fun i j hi hj => by
    refine ⟨?_, ?_, ?_⟩
    · rw [Nat.add_comm, Nat.add_mul_div_right _ _ g1, Nat.div_eq_of_lt (by omega), Nat.zero_add]
    · rw [Nat.add_comm, Nat.add_mul_mod_self_right, Nat.mod_eq_of_lt (by omega)]
    · have : (tp + i + 1) * c ≤ r * c := Nat.mul_le_mul (by omega) (Nat.le_refl _)
      rw [Nat.succ_mul, Nat.mul_comm r c, g5] at this
      omega
  have row : ∀ i q, i < H → fiI f v n (rcP l w tp i c) q → fiI f v n (rcP l w tp (i + 1) c) (prS c l w v (tp + i) q) := fun i q hi hq => by
    have key : ∀ j, j ≤ w → fiI f v n (fun p => rcP l w tp i c p ∨ (p / c = tp + i ∧ l ≤ p % c ∧ p % c < l + j)) (itr (fun j => paS c v (tp + i) (l + j)) j q) := by
      intro j
      induction j with
      | zero =>
        intro _
        exact fiI_cg hq (fun p => ⟨fun z => z.elim id (fun y => by omega), Or.inl⟩)
      | succ j ih =>
        intro hj
        obtain ⟨d1, d2, d3⟩ := hdm i j hi (by omega)
        rw [itr_s]
        refine fiI_add (ih (by omega)) d3 (fun z => ?_) (fun p => ?_)
        · rcases z with z | z
          · unfold rcP at z; omega
          · omega
        · constructor
          · rintro (z | z)
            · exact Or.inl (Or.inl z)
            · by_cases y : p % c < l + j
              · exact Or.inl (Or.inr ⟨z.1, z.2.1, y⟩)
              · right
                have := Nat.div_add_mod p c
                rw [z.1, Nat.mul_comm] at this
                omega
          · rintro ((z | z) | z)
            · exact Or.inl z
            · exact Or.inr ⟨z.1, z.2.1, by omega⟩
            · right
              rw [z, d1, d2]
              omega
    unfold prS
    refine fiI_cg (key w (Nat.le_refl _)) (fun p => ?_)
    unfold rcP
    omega
  have all : ∀ i, i ≤ H → fiI f v n (rcP l w tp i c) (itr (fun i => prS c l w v (tp + i)) i (0, f)) := by
    intro i
    induction i with
    | zero =>
      intro _
      rw [itr_0]
      refine ⟨(isum_0 n (fun p _ => ind_f (fun z => by have := z.1.2; omega) _)).symm, fun p => ⟨fun z => by have := z.2; omega, fun _ => rfl⟩⟩
    | succ i ih =>
      intro hi
      rw [itr_s]
      exact row i _ (by omega) (ih (by omega))
  exact all H (Nat.le_refl _)
theorem btM_ok {x y z : Nat} (hx : x < 100) (hy : y < 100) (hz : z < 100) : btM (nI x) (nI y) (nI z) = 0 ↔ ¬ (min y z ≤ x ∧ x ≤ max y z) := by
  have w : ∀ a b, a < 100 → b < 100 → (wiV (nI x) (nI a) (nI b) = 0 ↔ ¬ (a ≤ x ∧ x ≤ b)) := fun a b ha hb => by
    rw [wi_eq]
    unfold btw
    rw [nI_ltI (by omega) (by omega), nI_ltI (by omega) (by omega)]
    omega
  unfold btM
  by_cases e : z ≤ y
  · rw [if_pos (nI_le e (by omega)), w z y hz hy]; omega
  · rw [if_neg (nI_ge (by omega) (by omega)), w y z hy hz]; omega
theorem mf_ok {c r n a b : Nat} {v : Int32} {f : Nat → Int32} (hg : gOK c r n) (ha : a < n) (hb : b < n) : fiI f v n (rcP (min (a % c) (b % c)) (max (a % c) (b % c) + 1 - min (a % c) (b % c)) (min (a / c) (b / c)) (max (a / c) (b / c) + 1 - min (a / c) (b / c)) c) (itr (mfS c a b v) n (0, f)) := by
  obtain ⟨g1, g2, g3, g4, g5⟩ := hg
  have dv : ∀ p, p < n → p / c < r := fun p hp => Nat.div_lt_of_lt_mul (by rw [g5]; exact hp)
  have key : ∀ k, k ≤ n → fiI f v n (fun p => p < k ∧ rcP (min (a % c) (b % c)) (max (a % c) (b % c) + 1 - min (a % c) (b % c)) (min (a / c) (b / c)) (max (a / c) (b / c) + 1 - min (a / c) (b / c)) c p) (itr (mfS c a b v) k (0, f)) := by
    intro k
    induction k with
    | zero =>
      intro _
      rw [itr_0]
      exact ⟨(isum_0 n (fun p _ => ind_f (fun z => by have := z.1.1; omega) _)).symm, fun p => ⟨fun z => by have := z.1; omega, fun _ => rfl⟩⟩
    | succ k ih =>
      intro hk
      have ih := ih (by omega)
      have m1 := Nat.mod_lt k g1
      have m2 := Nat.mod_lt a g1
      have m3 := Nat.mod_lt b g1
      have d1 := dv k (by omega)
      have d2 := dv a ha
      have d3 := dv b hb
      have b1 := btM_ok (x := k % c) (y := a % c) (z := b % c) (by omega) (by omega) (by omega)
      have b2 := btM_ok (x := k / c) (y := a / c) (z := b / c) (by omega) (by omega) (by omega)
      rw [itr_s]
      unfold mfS
      by_cases e1 : btM (nI (k % c)) (nI (a % c)) (nI (b % c)) = 0
      · rw [if_pos e1]
        refine fiI_cg ih (fun p => ⟨fun z => ⟨?_, z.2⟩, fun z => ⟨by omega, z.2⟩⟩)
        rcases Nat.lt_or_eq_of_le (Nat.le_of_lt_succ z.1) with q | q
        · exact q
        · exfalso
          subst q
          have := z.2
          unfold rcP at this
          have := b1.mp e1
          omega
      · rw [if_neg e1]
        by_cases e2 : btM (nI (k / c)) (nI (a / c)) (nI (b / c)) = 0
        · rw [if_pos e2]
          refine fiI_cg ih (fun p => ⟨fun z => ⟨?_, z.2⟩, fun z => ⟨by omega, z.2⟩⟩)
          rcases Nat.lt_or_eq_of_le (Nat.le_of_lt_succ z.1) with q | q
          · exact q
          · exfalso
            subst q
            have := z.2
            unfold rcP at this
            have := b2.mp e2
            omega
        · rw [if_neg e2]
          refine fiI_add ih (by omega) (fun z => by omega) (fun p => ?_)
          have c1 : min (a % c) (b % c) ≤ k % c ∧ k % c ≤ max (a % c) (b % c) := Classical.not_not.mp (fun z => e1 (b1.mpr z))
          have c2 : min (a / c) (b / c) ≤ k / c ∧ k / c ≤ max (a / c) (b / c) := Classical.not_not.mp (fun z => e2 (b2.mpr z))
          constructor
          · intro z
            rcases Nat.lt_or_eq_of_le (Nat.le_of_lt_succ z.1) with q | q
            · exact Or.inl ⟨q, z.2⟩
            · exact Or.inr q
          · rintro (z | z)
            · exact ⟨by omega, z.2⟩
            · subst z
              refine ⟨by omega, ?_⟩
              unfold rcP
              omega
  refine fiI_cg (key n (Nat.le_refl _)) (fun p => ⟨fun z => ⟨?_, z⟩, fun z => z.2⟩)
  have h1 := z.2.2
  have h2 := dv a ha
  have h3 := dv b hb
  have h4 : p / c < r := by omega
  have := (Nat.div_lt_iff_lt_mul g1).mp h4
  rw [Nat.mul_comm, g5] at this
  exact this
theorem fill_eq {c r n a b : Nat} {v : Int32} {f f' : Nat → Int32} (hg : gOK c r n) (ha : a < n) (hb : b < n) (hf : ∀ p, p < 64 → f p = f' p) : (pntV c a b v f).1 = (itr (mfS c a b v) n (0, f')).1 ∧ ∀ p, p < 64 → (pntV c a b v f).2 p = (itr (mfS c a b v) n (0, f')).2 p := fiI_u hg.n.2 hf (pnt_ok hg ha hb) (mf_ok hg ha hb)
theorem fill_16 {c r n a b : Nat} {v : Int32} {f : Nat → Int32} (hg : gOK c r n) (ha : a < n) (hb : b < n) (hv : ∃ x, x < 16 ∧ v = nI x) (hf : lv16 f 64) : lv16 (pntV c a b v f).2 64 := fun p hp => by
  have h := (pnt_ok (v := v) (f := f) hg ha hb).2 p
  by_cases e : rcP (min (a % c) (b % c)) (max (a % c) (b % c) + 1 - min (a % c) (b % c)) (min (a / c) (b / c)) (max (a / c) (b / c) + 1 - min (a / c) (b / c)) c p
  · rw [h.1 e]; exact hv
  · rw [h.2 e]; exact hf p hp
/-! how many levels -/
theorem lvb_cg {f g : Nat → Int32} : ∀ n, (∀ p, p < n → f p = g p) → lvb f n = lvb g n
  | 0, _ => rfl
  | n + 1, h => by unfold lvb; rw [lvb_cg n (fun p hp => h p (by omega)), h n (by omega)]
theorem sh16 : ∀ a, a < 16 → ((1 : Int32) <<< (nI a &&& 31)) = nI (2 ^ a) := by decide
theorem or16 {a b : Nat} (ha : a < 65536) (hb : b < 65536) : nI a ||| nI b = nI (a ||| b) := by
  apply Int32.toBitVec_inj.mp
  rw [Int32.toBitVec_or]
  show BitVec.ofNat 32 a ||| BitVec.ofNat 32 b = BitVec.ofNat 32 (a ||| b)
  exact (BitVec.ofNat_or ..).symm
theorem lvb_16 {f : Nat → Int32} : ∀ n, lv16 f n → ∃ k, k < 65536 ∧ lvb f n = nI k
  | 0, _ => ⟨0, by omega, rfl⟩
  | n + 1, h => by
    obtain ⟨k, k1, k2⟩ := lvb_16 n (fun p hp => h p (by omega))
    obtain ⟨a, a1, a2⟩ := h n (by omega)
    have h2 : 2 ^ a < 65536 := by
      have : 2 ^ a ≤ 2 ^ 15 := Nat.pow_le_pow_right (by decide) (by omega)
      omega
    unfold lvb
    rw [k2, a2, sh16 a a1, or16 k1 h2]
    exact ⟨_, Nat.or_lt_two_pow (n := 16) k1 h2, rfl⟩

