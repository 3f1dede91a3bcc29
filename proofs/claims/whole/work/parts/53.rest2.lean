/-! thresholds -/
/-- the class's search by powers of two -/
theorem th_ok {kv m : Nat} {bd : Int32} {b : Nat} {pa : Nat → Nat} {L : Nat → Nat} {I : xA → Prop} (hbd : bd = nI b) (hb16 : b < 1000) (hL : ∀ t, t ≤ 999 → L t < 1000000) (hmo : ∀ s t, s ≤ t → t ≤ 999 → L s ≤ L t) (hI : ∀ A t, I A → t ≤ 999 → lossV (A 39) (A 38) (prnA A kv (nI t) 1 pa m 74) m = nI (L t) ∧ I (prnA A kv (nI t) 1 pa m)) : ∀ d q, q.1 ≤ 999 → I q.2 → L q.1 ≤ b → (thV kv bd pa m d q).1 ≤ 999 ∧ L (thV kv bd pa m d q).1 ≤ b ∧ I (thV kv bd pa m d q).2 ∧ ∀ t, (thV kv bd pa m d q).1 < t → t < q.1 + 2 ^ d → t ≤ 999 → b < L t
  | 0, q, h1, h2, h3 => ⟨h1, h3, h2, fun t a1 a2 => by change q.1 < t at a1; omega⟩
  | d + 1, q, h1, h2, h3 => by
    have h2d : 2 ^ (d + 1) = 2 ^ d + 2 ^ d := by rw [Nat.pow_succ]; omega
    have hE : ∀ q', thS kv bd pa m d q = q' → thV kv bd pa m (d + 1) q = thV kv bd pa m d q' := fun q' e => by
      show thV kv bd pa m d (thS kv bd pa m d q) = _
      rw [e]
    unfold thS at hE
    by_cases e : 999 < q.1 + 2 ^ d
    · rw [hE q (if_pos e)]
      obtain ⟨a1, a2, a3, a4⟩ := th_ok hbd hb16 hL hmo hI d q h1 h2 h3
      exact ⟨a1, a2, a3, fun t b1 b2 b3 => a4 t b1 (by omega) b3⟩
    · obtain ⟨l1, l2⟩ := hI q.2 (q.1 + 2 ^ d) h2 (by omega)
      have hLt := hL (q.1 + 2 ^ d) (by omega)
      by_cases e2 : b < L (q.1 + 2 ^ d)
      · rw [hE (q.1, prnA q.2 kv (nI (q.1 + 2 ^ d)) 1 pa m) (by rw [if_neg e, l1, hbd, if_pos (nI_lt e2 (by omega))])]
        obtain ⟨a1, a2, a3, a4⟩ := th_ok hbd hb16 hL hmo hI d (q.1, prnA q.2 kv (nI (q.1 + 2 ^ d)) 1 pa m) h1 l2 h3
        refine ⟨a1, a2, a3, fun t b1 b2 b3 => ?_⟩
        rcases Nat.lt_or_ge t (q.1 + 2 ^ d) with z | z
        · exact a4 t b1 z b3
        · have := hmo (q.1 + 2 ^ d) t z b3; omega
      · rw [hE (q.1 + 2 ^ d, prnA q.2 kv (nI (q.1 + 2 ^ d)) 1 pa m) (by rw [if_neg e, l1, hbd, if_neg (nI_nlt (by omega) (by omega))])]
        obtain ⟨a1, a2, a3, a4⟩ := th_ok hbd hb16 hL hmo hI d (q.1 + 2 ^ d, prnA q.2 kv (nI (q.1 + 2 ^ d)) 1 pa m) (by show q.1 + 2 ^ d ≤ 999; omega) l2 (by show L (q.1 + 2 ^ d) ≤ b; omega)
        exact ⟨a1, a2, a3, fun t b1 b2 b3 => a4 t b1 (by show t < q.1 + 2 ^ d + 2 ^ d; omega) b3⟩
/-- the model's search one by one -/
theorem thM_ok {A2 : xA} {B : xB} {m n b W : Nat} {L : Nat → Nat} (hb16 : b < 1000) (hL : ∀ t, t ≤ 999 → L t < 1000000) (hl : ∀ t, t ≤ 999 → loV (thH A2 B m (t + 1)) B m 0 n = nI (L t)) (hW : W ≤ 999) (h1 : ∀ t, t ≤ W → L t ≤ b) (h2 : ∀ t, W < t → t ≤ 999 → b < L t) : ∀ d t, t + d = 1000 → t ≤ W + 1 → (thM A2 B m n (nI b) d t).1 = if W = 999 then -1 else nI (W + 1)
  | 0, t, ht, hw => by
    have : W = 999 := by omega
    rw [if_pos this]; rfl
  | d + 1, t, ht, hw => by
    have hLt := hL t (by omega)
    unfold thM
    rw [hl t (by omega)]
    by_cases e : t ≤ W
    · rw [if_pos (nI_le (h1 t e) (by omega))]
      exact thM_ok hb16 hL hl hW h1 h2 d (t + 1) (by omega) (by omega)
    · have e2 : t = W + 1 := by omega
      have := h2 t (by omega) (by omega)
      rw [if_neg (nI_ge (by omega) (by omega)), if_neg (by omega), e2]
section RE
variable {n m : Nat} {se : Nat → Int64} {rk tn pa nd : Nat → Nat}
/-- new ranks by the strict rule fall as the threshold rises -/
theorem si_mo (h : TF n m se rk tn pa nd) {kr rem rem' s s' : Nat → Int32} (hk : ∀ v, v < m → kr v = nI (tn v)) (hr : ∀ v, 0 < v → v < m → ¬ rem' v = 0 → ¬ rem v = 0) : ∀ v, v < m → ∃ x y, x ≤ y ∧ y ≤ tn v ∧ siV kr rem' pa m s' v = nI x ∧ siV kr rem pa m s v = nI y := by
  obtain ⟨k0, k1⟩ := si_rec h kr rem s
  obtain ⟨j0, j1⟩ := si_rec h kr rem' s'
  intro v
  induction v using Nat.strongRecOn with
  | ind v ih =>
    intro hv
    rcases Nat.eq_zero_or_pos v with z | z
    · subst z; exact ⟨tn 0, tn 0, Nat.le_refl _, Nat.le_refl _, by rw [j0, hk 0 hv], by rw [k0, hk 0 hv]⟩
    · rw [k1 v z hv, j1 v z hv]
      obtain ⟨x, y, x1, x2, x3, x4⟩ := ih (pa v) (h.pal v z hv) (h.pam' z hv)
      have ht := h.tnp v z hv
      by_cases e : rem v = 0
      · have e' : rem' v = 0 := Classical.not_not.mp (fun q => hr v z hv q e)
        rw [if_pos e, if_pos e']
        exact ⟨x, y, x1, by omega, x3, x4⟩
      · rw [if_neg e]
        by_cases e' : rem' v = 0
        · rw [if_pos e']
          exact ⟨x, tn v, by omega, Nat.le_refl _, x3, hk v hv⟩
        · rw [if_neg e']
          exact ⟨tn v, tn v, Nat.le_refl _, Nat.le_refl _, hk v hv, hk v hv⟩
theorem si_all (h : TF n m se rk tn pa nd) {kr rem s : Nat → Int32} (hr : ∀ v, 0 < v → v < m → ¬ rem v = 0) : ∀ v, v < m → siV kr rem pa m s v = kr v := by
  obtain ⟨k0, k1⟩ := si_rec h kr rem s
  intro v hv
  rcases Nat.eq_zero_or_pos v with z | z
  · subst z; exact k0
  · rw [k1 v z hv, if_neg (hr v z hv)]
/-! reconstruction -/
theorem imx_le {x a b : Nat} (ha : a < 2 ^ 31) (hb : b < 2 ^ 31) : imax (nI a) (nI b) = nI (max a b) := imax_nI ha hb
/-- the greatest marker of each node's own pixels -/
theorem rb1_ok {na mr old : Nat → Int32} {mk nd : Nat → Nat} {m : Nat} (hm : m ≤ 64) (hmk : ∀ p, mk p < 16) : ∀ n, n ≤ 64 → (∀ p, p < n → na p = nI (nd p) ∧ nd p < m ∧ mr p = nI (mk p)) → ∀ v, v < m → ∃ x, x < 16 ∧ rbA na mr old n v = nI x ∧ ∀ t, 0 < t → (t ≤ x ↔ ∃ p, p < n ∧ nd p = v ∧ t ≤ mk p)
  | 0, _, _, v, hv => ⟨0, by omega, by unfold rbA; rw [itr_0, if_pos (by omega)]; rfl, fun t ht => ⟨fun z => by omega, fun ⟨p, hp, _⟩ => by omega⟩⟩
  | n + 1, hn, hna, v, hv => by
    have ih := rb1_ok (old := old) hm hmk n (by omega) (fun p hp => hna p (by omega))
    obtain ⟨e1, e2, e3⟩ := hna n (by omega)
    have hs : rbA na mr old (n + 1) = upd (rbA na mr old n) (nd n) (imax (rbA na mr old n (nd n)) (mr n)) := by
      show rb1 na mr n (rbA na mr old n) = _
      unfold rb1
      rw [e1, nI_clamp (by omega)]
    rw [hs]
    by_cases e : v = nd n
    · subst e
      obtain ⟨x, x1, x2, x3⟩ := ih (nd n) e2
      have hmn := hmk n
      rw [up_s, x2, e3, imax_nI (by omega) (by omega)]
      refine ⟨_, by omega, rfl, fun t ht => ?_⟩
      have := x3 t ht
      constructor
      · intro z
        by_cases q : t ≤ x
        · obtain ⟨p, p1, p2, p3⟩ := this.mp q
          exact ⟨p, by omega, p2, p3⟩
        · exact ⟨n, by omega, rfl, by omega⟩
      · rintro ⟨p, p1, p2, p3⟩
        rcases Nat.lt_or_eq_of_le (Nat.le_of_lt_succ p1) with q | q
        · have := this.mpr ⟨p, q, p2, p3⟩; omega
        · subst q; omega
    · obtain ⟨x, x1, x2, x3⟩ := ih v hv
      rw [up_n _ _ e, x2]
      refine ⟨x, x1, rfl, fun t ht => (x3 t ht).trans ⟨fun ⟨p, p1, p2⟩ => ⟨p, by omega, p2⟩, fun ⟨p, p1, p2, p3⟩ => ?_⟩⟩
      rcases Nat.lt_or_eq_of_le (Nat.le_of_lt_succ p1) with q | q
      · exact ⟨p, q, p2, p3⟩
      · subst q; exact (e p2.symm).elim
/-- the greatest marker of each node -/
theorem rb2_ok (h : TF n m se rk tn pa nd) {na mr old : Nat → Int32} {mk : Nat → Nat} (hmk : ∀ p, mk p < 16) (hna : ∀ p, p < n → na p = nI (nd p)) (hmr : ∀ p, p < n → mr p = nI (mk p)) : ∀ v, v < m → ∃ x, x < 16 ∧ rbB na mr old pa n m v = nI x ∧ ∀ t, 0 < t → (t ≤ x ↔ ∃ p, p < n ∧ hb (se v) p = true ∧ t ≤ mk p) := by
  have hm := h.m64
  have b1 := rb1_ok (old := old) (mk := mk) (nd := nd) hm hmk n h.n64 (fun p hp => ⟨hna p hp, h.ndl p hp, hmr p hp⟩)
  have H : ∀ t, 0 < t → ((∀ i, i < m → ∃ x, x < 16 ∧ rbB na mr old pa n m i = nI x) ∧ ∀ w, w < m → ((∃ x, x < 16 ∧ rbB na mr old pa n m w = nI x ∧ t ≤ x) ↔ ∃ u, u < m ∧ sb se u w ∧ ∃ x, x < 16 ∧ rbA na mr old n u = nI x ∧ t ≤ x)) := fun t ht => by
    refine dit_ex h (Pr := fun y => ∃ x, x < 16 ∧ y = nI x ∧ t ≤ x) (I := fun _ s => ∀ i, i < m → ∃ x, x < 16 ∧ s i = nI x) (step := rb2 pa) ?_ ?_ ?_
    · intro v s hv hI i hi
      unfold rb2
      by_cases e : i = pa (v + 1)
      · obtain ⟨x, x1, x2⟩ := hI i hi
        obtain ⟨y, y1, y2⟩ := hI (v + 1) hv
        rw [e] at x2 ⊢
        rw [up_s, x2, y2, imax_nI (by omega) (by omega)]
        exact ⟨_, by omega, rfl⟩
      · rw [up_n _ _ e]; exact hI i hi
    · intro v s hv hI w hw
      unfold rb2
      by_cases e : w = pa (v + 1)
      · obtain ⟨x, x1, x2⟩ := hI w hw
        obtain ⟨y, y1, y2⟩ := hI (v + 1) hv
        rw [e] at x2 ⊢
        rw [up_s, x2, y2, imax_nI (by omega) (by omega)]
        constructor
        · rintro ⟨z, z1, z2, z3⟩
          have : max x y = z := (nI_eq (by omega) (by omega)).mp z2
          by_cases q : t ≤ x
          · exact Or.inl ⟨x, x1, rfl, q⟩
          · exact Or.inr ⟨rfl, y, y1, rfl, by omega⟩
        · rintro (⟨z, z1, z2, z3⟩ | ⟨_, z, z1, z2, z3⟩)
          · have : x = z := (nI_eq (by omega) (by omega)).mp z2
            exact ⟨_, by omega, rfl, by omega⟩
          · have : y = z := (nI_eq (by omega) (by omega)).mp z2
            exact ⟨_, by omega, rfl, by omega⟩
      · rw [up_n _ _ e]
        exact ⟨Or.inl, fun z => z.elim id (fun q => (e q.1).elim)⟩
    · intro i hi
      obtain ⟨x, x1, x2, _⟩ := b1 i hi
      exact ⟨x, x1, x2⟩
  intro v hv
  obtain ⟨x, x1, x2⟩ := (H 1 (by omega)).1 v hv
  refine ⟨x, x1, x2, fun t ht => ?_⟩
  have k := (H t ht).2 v hv
  constructor
  · intro z
    obtain ⟨u, u1, u2, y, y1, y2, y3⟩ := k.mp ⟨x, x1, x2, z⟩
    obtain ⟨y', w1, w2, w3⟩ := b1 u u1
    rw [y2] at w2
    have : y = y' := (nI_eq (by omega) (by omega)).mp w2
    subst this
    obtain ⟨p, p1, p2, p3⟩ := (w3 t ht).mp y3
    exact ⟨p, p1, (h.ndh v p hv p1).mpr (by rw [p2]; exact u2), p3⟩
  · rintro ⟨p, p1, p2, p3⟩
    have hu := h.ndl p p1
    obtain ⟨y, w1, w2, w3⟩ := b1 (nd p) hu
    obtain ⟨z, z1, z2, z3⟩ := k.mpr ⟨nd p, hu, (h.ndh v p hv p1).mp p2, y, w1, w2, (w3 t ht).mpr ⟨p, p1, rfl, p3⟩⟩
    rw [x2] at z2
    have : x = z := (nI_eq (by omega) (by omega)).mp z2
    omega
theorem rb_ok (h : TF n m se rk tn pa nd) {na mr old kr : Nat → Int32} {mk : Nat → Nat} (hmk : ∀ p, mk p < 16) (hna : ∀ p, p < n → na p = nI (nd p)) (hmr : ∀ p, p < n → mr p = nI (mk p)) (hk : ∀ v, v < m → kr v = nI (tn v)) : ∀ v, v < m → ∃ x, x < 16 ∧ x ≤ tn v ∧ rbV na mr old kr pa n m v = nI x ∧ ∀ t, 0 < t → (t ≤ x ↔ ∃ w, w < m ∧ sb se v w ∧ t ≤ tn w ∧ ∃ p, p < n ∧ hb (se w) p = true ∧ t ≤ mk p) := by
  have b2 := rb2_ok (old := old) h hmk hna hmr
  obtain ⟨k0, k1⟩ := itr_up (F := fun v x y => imax (imin x (kr v)) y) (step := rb3 kr pa) h.pal (fun i s => rfl) (upd (rbB na mr old pa n m) 0 (imin (rbB na mr old pa n m 0) (kr 0)))
  rw [up_s] at k0
  intro v
  induction v using Nat.strongRecOn with
  | ind v ih =>
    intro hv
    obtain ⟨x, x1, x2, x3⟩ := b2 v hv
    have ht := h.t16 v hv
    rcases Nat.eq_zero_or_pos v with z | z
    · subst z
      refine ⟨min x (tn 0), by omega, by omega, ?_, fun t ht => ?_⟩
      · show itr (rb3 kr pa) (m - 1) _ 0 = _
        rw [k0, x2, hk 0 hv, imin_nI (by omega) (by omega)]
      · have := x3 t ht
        constructor
        · intro q
          exact ⟨0, hv, sb_rf _ _, by omega, this.mp (by omega)⟩
        · rintro ⟨w, w1, w2, w3, w4⟩
          have : w = 0 := (h.sb0 w1).mp w2
          subst this
          have := (x3 t ht).mpr w4
          omega
    · obtain ⟨y, y1, y2, y3, y4⟩ := ih (pa v) (h.pal v z hv) (h.pam' z hv)
      have htp := h.tnp v z hv
      have e : rbV na mr old kr pa n m v = imax (imin (rbB na mr old pa n m v) (kr v)) (rbV na mr old kr pa n m (pa v)) := by
        have := k1 v z hv
        rw [up_n _ _ (by omega)] at this
        exact this
      rw [e, y3, x2, hk v hv, imin_nI (by omega) (by omega), imax_nI (by omega) (by omega)]
      refine ⟨_, by omega, by omega, rfl, fun t ht => ?_⟩
      have a1 := x3 t ht
      have a2 := y4 t ht
      constructor
      · intro q
        by_cases c : t ≤ y
        · obtain ⟨w, w1, w2, w3⟩ := a2.mp c
          exact ⟨w, w1, (h.up hv w1).mpr (Or.inr ⟨z, w2⟩), w3⟩
        · exact ⟨v, hv, sb_rf _ _, by omega, a1.mp (by omega)⟩
      · rintro ⟨w, w1, w2, w3, w4⟩
        rcases (h.up hv w1).mp w2 with c | ⟨_, c⟩
        · subst c
          have := a1.mpr w4; omega
        · have := a2.mpr ⟨w, w1, c, w3, w4⟩; omega
/-- the first node of enough rank with a pixel -/
theorem cf_ok (h : TF n m se rk tn pa nd) {kr : Nat → Int32} (hk : ∀ v, v < m → kr v = nI (tn v)) {p t : Nat} (hp : p < n) (ht : t ≤ rk p) : ∃ a, a < m ∧ cfV kr se (nI p) (nI t) m (-1) = nI a ∧ t ≤ tn a ∧ hb (se a) p = true ∧ ∀ w, w < m → t ≤ tn w → hb (se w) p = true → a ≤ w := by
  have hn := h.n64
  have hr := h.r16 p hp
  have key : ∀ k y, k ≤ m → (∃ a, a < k ∧ cfV kr se (nI p) (nI t) k y = nI a ∧ t ≤ tn a ∧ hb (se a) p = true ∧ ∀ w, w < k → t ≤ tn w → hb (se w) p = true → a ≤ w) ∨ (cfV kr se (nI p) (nI t) k y = y ∧ ∀ w, w < k → t ≤ tn w → hb (se w) p = false) := by
    intro k
    induction k with
    | zero => intro y _; exact Or.inr ⟨rfl, fun w hw => by omega⟩
    | succ k ih =>
      intro y hk'
      have h16 := h.t16 k (by omega)
      have hc : (if kr k < nI t then y else if hasM (se k) (nI p) = 0 then y else nI k) = if t ≤ tn k ∧ hb (se k) p = true then nI k else y := by
        rw [hk k (by omega)]
        by_cases e1 : tn k < t
        · rw [if_pos (nI_lt e1 (by omega)), if_neg (fun z => by omega)]
        · rw [if_neg (nI_nlt (by omega) (by omega))]
          by_cases e2 : hb (se k) p = true
          · rw [if_neg (fun z => by rw [hasM0 _ (by omega), e2] at z; exact absurd z (by decide)), if_pos ⟨by omega, e2⟩]
          · rw [if_pos ((hasM0 _ (by omega)).mpr (by simpa using e2)), if_neg (fun z => e2 z.2)]
      show (∃ a, a < k + 1 ∧ cfV kr se (nI p) (nI t) k _ = nI a ∧ _) ∨ (cfV kr se (nI p) (nI t) k _ = y ∧ _)
      rw [hc]
      rcases ih (if t ≤ tn k ∧ hb (se k) p = true then nI k else y) (by omega) with ⟨a, a1, a2, a3, a4, a5⟩ | ⟨a1, a2⟩
      · left
        refine ⟨a, by omega, a2, a3, a4, fun w w1 w2 w3 => ?_⟩
        rcases Nat.lt_or_eq_of_le (Nat.le_of_lt_succ w1) with q | q
        · exact a5 w q w2 w3
        · omega
      · by_cases e : t ≤ tn k ∧ hb (se k) p = true
        · left
          rw [if_pos e] at a1
          rw [if_pos e]
          refine ⟨k, by omega, a1, e.1, e.2, fun w w1 w2 w3 => ?_⟩
          rcases Nat.lt_or_eq_of_le (Nat.le_of_lt_succ w1) with q | q
          · rw [a2 w q w2] at w3; exact absurd w3 (by decide)
          · omega
        · right
          rw [if_neg e] at a1
          rw [if_neg e]
          refine ⟨a1, fun w w1 w2 => ?_⟩
          rcases Nat.lt_or_eq_of_le (Nat.le_of_lt_succ w1) with q | q
          · exact a2 w q w2
          · subst q
            cases z : hb (se w) p
            · rfl
            · exact (e ⟨w2, z⟩).elim
  rcases key m (-1) (Nat.le_refl _) with ⟨a, a1, a2, a3, a4, a5⟩ | ⟨a1, a2⟩
  · exact ⟨a, a1, a2, a3, a4, a5⟩
  · have := a2 (nd p) (h.ndl p hp) (by rw [← h.ndr p hp]; exact ht)
    rw [h.pn hp] at this
    exact absurd this (by decide)
theorem rcS_ok {s : Int64} {mkI : Nat → Int32} {mk : Nat → Nat} {t n : Nat} (hn : n ≤ 64) (ht : t < 100) (hmk : ∀ p, mk p < 16) (hm : ∀ p, p < n → mkI p = nI (mk p)) : ∀ k, k ≤ n → (itr (rcS s mkI (nI t)) k 0 = 0 ↔ ¬ ∃ p, p < k ∧ hb s p = true ∧ t ≤ mk p)
  | 0, _ => ⟨fun _ ⟨p, hp, _⟩ => by omega, fun _ => rfl⟩
  | k + 1, hk => by
    have ih := rcS_ok (s := s) hn ht hmk hm k (by omega)
    rw [itr_s]
    generalize itr (rcS s mkI (nI t)) k 0 = b at *
    unfold rcS
    have hmk' := hmk k
    by_cases e : b = 0
    · rw [if_pos e]
      have ihn := ih.mp e
      have key : (if hasM s (nI k) = 0 then (0 : Int32) else if mkI k < nI t then 0 else 1) = 0 ↔ ¬ (hb s k = true ∧ t ≤ mk k) := by
        by_cases e1 : hb s k = true
        · rw [if_neg (fun z => by rw [hasM0 _ (by omega), e1] at z; exact absurd z (by decide)), hm k (by omega)]
          by_cases e2 : mk k < t
          · rw [if_pos (nI_lt e2 (by omega))]; exact ⟨fun _ z => by omega, fun _ => rfl⟩
          · rw [if_neg (nI_nlt (by omega) (by omega))]; exact ⟨fun z => absurd z (by decide), fun z => (z ⟨e1, by omega⟩).elim⟩
        · rw [if_pos ((hasM0 _ (by omega)).mpr (by simpa using e1))]; exact ⟨fun _ z => e1 z.1, fun _ => rfl⟩
      rw [key]
      constructor
      · rintro a ⟨p, p1, p2⟩
        rcases Nat.lt_or_eq_of_le (Nat.le_of_lt_succ p1) with q | q
        · exact ihn ⟨p, q, p2⟩
        · subst q; exact a p2
      · exact fun a b => a ⟨k, by omega, b⟩
    · rw [if_neg e]
      obtain ⟨p, p1, p2⟩ := Classical.not_not.mp (fun y => e (ih.mpr y))
      exact ⟨fun z => absurd z (by decide), fun z => (z ⟨p, by omega, p2⟩).elim⟩
theorem rc_rb (h : TF n m se rk tn pa nd) {na mr old kr : Nat → Int32} {mk : Nat → Nat} (hmk : ∀ p, mk p < 16) (hna : ∀ p, p < n → na p = nI (nd p)) (hmr : ∀ p, p < n → mr p = nI (mk p)) (hk : ∀ v, v < m → kr v = nI (tn v)) {A : xA} {B : xB} (h85 : ∀ v, v < m → A 85 v = nI (tn v)) (h84 : ∀ v, v < m → B 84 v = se v) (h94 : ∀ p, p < n → A 94 p = nI (mk p)) {p : Nat} (hp : p < n) : rcV A B m n p (rk p) = rbV na mr old kr pa n m (nd p) := by
  have hn := h.n64
  have hm := h.m64
  have hr := h.r16 p hp
  obtain ⟨x, x1, x2, x3, x4⟩ := rb_ok (old := old) h hmk hna hmr hk (nd p) (h.ndl p hp)
  rw [x3]
  have hcf : ∀ t, t ≤ rk p → ∃ a, a < m ∧ cfV (A 85) (B 84) (nI p) (nI t) m (-1) = nI a ∧ t ≤ tn a ∧ hb (se a) p = true ∧ ∀ w, w < m → t ≤ tn w → hb (se w) p = true → a ≤ w := fun t ht => by
    have e : cfV (A 85) (B 84) (nI p) (nI t) m (-1) = cfV (fun v => nI (tn v)) se (nI p) (nI t) m (-1) := by
      rw [← low_cf (rk := A 85) (se := B 84) (by omega) (fun v hv => ⟨rfl, rfl⟩), ← low_cf (rk := A 85) (se := B 84) (by omega) (fun v hv => ⟨h85 v hv, h84 v hv⟩)]
    rw [e]
    exact cf_ok h (fun v hv => rfl) hp ht
  have V : ∀ t, 0 < t → t ≤ rk p → (itr (rcS (B 84 (cfV (A 85) (B 84) (nI p) (nI t) m (-1)).toNatClampNeg) (A 94) (nI t)) n 0 = 0 ↔ ¬ t ≤ x) := fun t h0 ht => by
    obtain ⟨a, a1, a2, a3, a4, a5⟩ := hcf t ht
    rw [a2, nI_clamp (by omega), h84 a a1, rcS_ok hn (by omega) hmk h94 n (Nat.le_refl _), x4 t h0]
    refine not_congr ⟨fun ⟨q, q1, q2, q3⟩ => ⟨a, a1, (h.ndh a p a1 hp).mp a4, a3, q, q1, q2, q3⟩, fun ⟨w, w1, w2, w3, q, q1, q2, q3⟩ => ⟨q, q1, ?_, q3⟩⟩
    have hwp := (h.ndh w p w1 hp).mpr w2
    exact h.lam a w p (a5 w w1 w3 hwp) w1 a4 hwp q q2
  have key : ∀ t, t ≤ rk p → x ≤ t → rcV A B m n p t = nI x := by
    intro t
    induction t with
    | zero => intro _ q; have : x = 0 := by omega
              rw [this]; rfl
    | succ t ih =>
      intro ht q
      unfold rcV
      have v := V (t + 1) (by omega) ht
      by_cases e : x = t + 1
      · rw [if_neg (fun z => v.mp z (by omega)), e]
      · rw [if_pos (v.mpr (by omega))]
        exact ih (by omega) (by omega)
  exact key (rk p) (Nat.le_refl _) (by rw [h.ndr p hp]; exact x2)
/-! keeping peaks -/
theorem kl_ok {lo old : Nat → Int32} {m : Nat} (hm : m ≤ 64) (hm0 : 0 < m) : ∀ t, (∀ i, i < t → ∃ a, a < m ∧ lo i = nI a) → ∀ v, v < m → (kl0 lo old m t v = 0 ∨ kl0 lo old m t v = 1) ∧ (¬ kl0 lo old m t v = 0 ↔ (v = 0 ∨ ∃ i, i < t ∧ lo i = nI v))
  | 0, _, v, hv => by
    unfold kl0
    rw [itr_0]
    unfold kz0
    rw [if_pos hv]
    by_cases e : v = 0
    · rw [if_pos e]; exact ⟨Or.inr rfl, fun _ => Or.inl e, fun _ => by decide⟩
    · rw [if_neg e]
      exact ⟨Or.inl rfl, fun z => (z rfl).elim, fun z => z.elim (fun q => (e q).elim) (fun ⟨i, hi, _⟩ => by omega)⟩
  | t + 1, hl, v, hv => by
    obtain ⟨i1, i2⟩ := kl_ok (old := old) hm hm0 t (fun i hi => hl i (by omega)) v hv
    obtain ⟨a, a1, a2⟩ := hl t (by omega)
    have hs : kl0 lo old m (t + 1) = upd (kl0 lo old m t) a 1 := by
      show klS lo t (kl0 lo old m t) = _
      unfold klS
      rw [a2, nI_clamp (by omega)]
    rw [hs]
    by_cases e : v = a
    · subst e; rw [up_s]; exact ⟨Or.inr rfl, fun _ => Or.inr ⟨t, by omega, a2⟩, fun _ => by decide⟩
    · rw [up_n _ _ e]
      refine ⟨i1, i2.trans (or_congr Iff.rfl ⟨fun ⟨i, h1, h2⟩ => ⟨i, by omega, h2⟩, fun ⟨i, h1, h2⟩ => ?_⟩)⟩
      rcases Nat.lt_or_eq_of_le (Nat.le_of_lt_succ h1) with q | q
      · exact ⟨i, q, h2⟩
      · subst q
        rw [a2] at h2
        exact (e ((nI_eq (by omega) (by omega)).mp h2).symm).elim
theorem kp_ok (h : TF n m se rk tn pa nd) {lo : Nat → Int32} {v : Nat} (hv : v < m) : ∀ K, (∀ i, i < K → ∃ a, a < m ∧ lo i = nI a) → (¬ kpV lo se K v = 0 ↔ (v = 0 ∨ ∃ i a, i < K ∧ a < m ∧ lo i = nI a ∧ sb se a v))
  | 0, _ => by
    unfold kpV
    rw [itr_0]
    by_cases e : v = 0
    · rw [if_pos e]; exact ⟨fun _ => Or.inl e, fun _ => by decide⟩
    · rw [if_neg e]; exact ⟨fun z => (z rfl).elim, fun z => z.elim (fun q => (e q).elim) (fun ⟨i, _, hi, _⟩ => by omega)⟩
  | K + 1, hl => by
    have hm := h.m64
    have ih := kp_ok h hv K (fun i hi => hl i (by omega))
    obtain ⟨a, a1, a2⟩ := hl K (by omega)
    have hs : kpV lo se (K + 1) v = kpO lo se v K (kpV lo se K v) := rfl
    rw [hs]
    unfold kpO
    have hgo : (v = 0 ∨ ∃ i a, i < K + 1 ∧ a < m ∧ lo i = nI a ∧ sb se a v) ↔ ((v = 0 ∨ ∃ i a, i < K ∧ a < m ∧ lo i = nI a ∧ sb se a v) ∨ sb se a v) := by
      constructor
      · rintro (z | ⟨i, b, b1, b2, b3, b4⟩)
        · exact Or.inl (Or.inl z)
        · rcases Nat.lt_or_eq_of_le (Nat.le_of_lt_succ b1) with q | q
          · exact Or.inl (Or.inr ⟨i, b, q, b2, b3, b4⟩)
          · subst q
            rw [a2] at b3
            have := (nI_eq (by omega) (by omega)).mp b3
            subst this
            exact Or.inr b4
      · rintro ((z | ⟨i, b, b1, b2⟩) | z)
        · exact Or.inl z
        · exact Or.inr ⟨i, b, by omega, b2⟩
        · exact Or.inr ⟨K, a, by omega, a1, a2, z⟩
    rw [hgo, ← ih]
    by_cases e : kpV lo se K v = 0
    · rw [if_pos e, a2, nI_clamp (by omega)]
      by_cases e1 : v = a
      · subst e1; rw [if_pos rfl]; exact ⟨fun _ => Or.inr (sb_rf _ _), fun _ => by decide⟩
      · rw [if_neg (fun z => e1 ((nI_eq (by omega) (by omega)).mp z))]
        have ebl : blV se a v = subV (se a) (se v) := by unfold blV; rw [if_neg (fun z => e1 z.symm)]
        rw [ebl]
        by_cases e2 : sb se a v
        · rw [sb_sub.mp e2, if_neg (by decide)]; exact ⟨fun _ => Or.inr e2, fun _ => by decide⟩
        · rw [sb_sub0.mp e2, if_pos rfl]; exact ⟨fun z => (z rfl).elim, fun z => z.elim (fun q => (q e).elim) (fun q => (e2 q).elim)⟩
    · rw [if_neg e]; exact ⟨fun _ => Or.inl e, fun _ => by decide⟩
theorem kl_kp (h : TF n m se rk tn pa nd) {lo lo' old : Nat → Int32} {K : Nat} (hl : ∀ i, i < K → lo i = lo' i ∧ ∃ a, a < m ∧ lo i = nI a) {v : Nat} (hv : v < m) : kaV pa m (kl0 lo old m K) v = kpV lo' se K v := by
  have hm := h.m64
  have a1 : ∀ w, w < m → _ := fun w hw => (kl_ok (old := old) hm h.m0 K (fun i hi => (hl i hi).2) w hw).1
  have a2 : ∀ w, w < m → _ := fun w hw => (kl_ok (old := old) hm h.m0 K (fun i hi => (hl i hi).2) w hw).2
  obtain ⟨b1, b2⟩ := ka_ok h a1 v hv
  have c1 := kp_ok h (lo := lo') hv K (fun i hi => by rw [← (hl i hi).1]; exact (hl i hi).2)
  refine ne01 b1 b2 (kp01 lo' se v K) (c1.trans ?_)
  constructor
  · rintro (z | ⟨i, a, i1, i2, i3, i4⟩)
    · subst z; exact ⟨0, hv, sb_rf _ _, (a2 0 hv).mpr (Or.inl rfl)⟩
    · exact ⟨a, i2, i4, (a2 a i2).mpr (Or.inr ⟨i, i1, by rw [(hl i i1).1]; exact i3⟩)⟩
  · rintro ⟨u, u1, u2, u3⟩
    rcases (a2 u u1).mp u3 with q | ⟨i, i1, i2⟩
    · subst q; exact Or.inl ((h.sb0 hv).mp u2)
    · exact Or.inr ⟨i, u, i1, u1, by rw [← (hl i i1).1]; exact i2, u2⟩
end RE

