/-! depth, order of leaves, questions -/
theorem gr_max (a b : Int32) : grV a b = imax a b := by
  unfold grV imax
  by_cases e : a < b
  · rw [if_pos (Int32.le_of_lt e), if_pos e]
  · rw [if_neg e]
    by_cases e2 : a ≤ b
    · rw [if_pos e2]
      exact Int32.le_antisymm (Int32.not_lt.mp e) e2
    · rw [if_neg e2]
theorem dp_m1 (pr : Nat → Int32) : ∀ d, dpV pr d (-1) = 0
  | 0 => rfl
  | d + 1 => by unfold dpV; rw [if_pos rfl]
theorem dp_ok {pr dd : Nat → Int32} {m : Nat} (hm : m ≤ 64) (hp : paOK pr m) (hd : ∀ v, v < m → dd v = if pr v = -1 then 1 else dd (pr v).toNatClampNeg + 1) : ∀ v, v < m → ∀ d, v + 2 ≤ d → dpV pr d (nI v) = dd v := by
  intro v
  induction v using Nat.strongRecOn with
  | ind v ih =>
    intro hv d h2
    obtain ⟨d, rfl⟩ : ∃ e, d = e + 1 := ⟨d - 1, by omega⟩
    unfold dpV
    rw [if_neg (nI_nm1 (by omega)), nI_clamp (by omega), hd v hv]
    rcases hp v hv with e | ⟨a, ha, e⟩
    · rw [e, if_pos rfl, dp_m1]; rfl
    · rw [e, if_neg (nI_nm1 (by omega)), nI_clamp (by omega), ih a ha (by omega) d (by omega)]
theorem dp_cg {pr pr' : Nat → Int32} {m : Nat} (hm : m ≤ 64) (hp : paOK pr m) (he : ∀ v, v < m → pr v = pr' v) : ∀ d v, v < m → dpV pr d (nI v) = dpV pr' d (nI v) := by
  intro d
  induction d with
  | zero => intro v _; rfl
  | succ d ih =>
    intro v hv
    unfold dpV
    rw [if_neg (nI_nm1 (by omega)), if_neg (nI_nm1 (by omega)), nI_clamp (by omega), ← he v hv]
    rcases hp v hv with e | ⟨a, ha, e⟩
    · rw [e, dp_m1, dp_m1]
    · rw [e, ih a (by omega)]
theorem dps_cg {pr pr' : Nat → Int32} {m : Nat} (hm : m ≤ 64) (hp : paOK pr m) (he : ∀ v, v < m → pr v = pr' v) : itr (dpS pr) m 0 = itr (dpS pr') m 0 := itr_cg m 0 (fun v x hv => by unfold dpS; rw [dp_cg hm hp he _ v hv])
theorem dps_ok {pr dd : Nat → Int32} {m : Nat} (hm : m ≤ 64) (hp : paOK pr m) (hd : ∀ v, v < m → dd v = if pr v = -1 then 1 else dd (pr v).toNatClampNeg + 1) : itr (dpS pr) m 0 = itr (fun v x => imax x (dd v)) m 0 := itr_cg m 0 (fun v x hv => by unfold dpS; rw [dp_ok hm hp hd v hv _ (Nat.le_refl _), gr_max])
/-! the order of the leaves -/
theorem shf_cg {x : Int32} : ∀ (p : Nat) (lv lv' pr pr' : Nat → Int32) (P : Nat), p ≤ P → (∀ i, i < p → pr (lv i).toNatClampNeg = pr' (lv i).toNatClampNeg) → (∀ i, i ≤ P → i ≠ p → lv i = lv' i) → (shf pr x p lv).2 = (shf pr' x p lv').2 ∧ (shf pr x p lv).2 ≤ P ∧ ∀ i, i ≤ P → i ≠ (shf pr x p lv).2 → (shf pr x p lv).1 i = (shf pr' x p lv').1 i
  | 0, lv, lv', pr, pr', P, _, _, h2 => ⟨rfl, Nat.zero_le _, h2⟩
  | p + 1, lv, lv', pr, pr', P, hP, h1, h2 => by
    have e : lv p = lv' p := h2 p (by omega) (by omega)
    unfold shf
    rw [← e, ← h1 p (by omega)]
    split
    · refine shf_cg p _ _ pr pr' P (by omega) (fun i hi => ?_) (fun i hi hne => ?_)
      · rw [up_n _ _ (by omega)]; exact h1 i (by omega)
      · by_cases z : i = p + 1
        · subst z; rw [up_s, up_s]
        · rw [up_n _ _ z, up_n _ _ z]; exact h2 i hi z
    · exact ⟨rfl, hP, h2⟩
theorem shf_Q {x : Int32} {pr : Nat → Int32} {Q : Int32 → Prop} : ∀ (p : Nat) (lv : Nat → Int32) (P : Nat), p ≤ P → (∀ i, i ≤ P → i ≠ p → Q (lv i)) → ∀ i, i ≤ P → i ≠ (shf pr x p lv).2 → Q ((shf pr x p lv).1 i)
  | 0, lv, P, _, h2 => h2
  | p + 1, lv, P, hP, h2 => by
    unfold shf
    split
    · refine shf_Q p _ P (by omega) (fun i hi hne => ?_)
      by_cases z : i = p + 1
      · subst z; rw [up_s]; exact h2 p (by omega) (by omega)
      · rw [up_n _ _ z]; exact h2 i hi z
    · exact h2
theorem ml_ord {pv ch pr ch' old : Nat → Int32} {q0 : lT} {m : Nat} (hm : m ≤ 64) (h0 : q0.2.1 = 0) (hc : ∀ v, v < m → (ch v = 0 ↔ ch' v = 0)) (hp : ∀ v, v < m → ch v = 0 → pr v = pv v) : ∀ k, k ≤ m → (itr (mlS pv ch) k q0).2.1 = (itr (ordS pr ch') k (old, 0)).2 ∧ (itr (mlS pv ch) k q0).2.1 ≤ k ∧ (∀ i, i < (itr (mlS pv ch) k q0).2.1 → (itr (mlS pv ch) k q0).1 i = (itr (ordS pr ch') k (old, 0)).1 i ∧ ∃ a, a < k ∧ (itr (mlS pv ch) k q0).1 i = nI a ∧ ch a = 0) ∧ (∀ a, a < k → ch a = 0 → (itr (mlS pv ch) k q0).2.2 a = pv a) ∧ nI (itr (mlS pv ch) k q0).2.1 = leafV ch' k
  | 0, _ => ⟨h0, by rw [itr_0, h0]; exact Nat.le_refl _, fun i hi => by rw [itr_0, h0] at hi; omega, fun a ha => by omega, by rw [itr_0, h0]; rfl⟩
  | k + 1, hk => by
    obtain ⟨i1, i2, i3, i4, i5⟩ := ml_ord (old := old) hm h0 hc hp k (by omega)
    have hl : leafV ch' (k + 1) = leafV ch' k + (if ch' k = 0 then 1 else 0) := rfl
    rw [itr_s, itr_s, hl]
    generalize itr (mlS pv ch) k q0 = q at *
    generalize itr (ordS pr ch') k (old, 0) = w at *
    unfold mlS ordS
    by_cases e : ch k = 0
    · have e' := (hc k (by omega)).mp e
      rw [if_pos e, if_pos e', if_pos e']
      simp only
      have hpk := hp k (by omega) e
      rw [← i1, hpk]
      have key := shf_cg (x := pv k) q.2.1 q.1 w.1 (upd q.2.2 k (pv k)) pr q.2.1 (Nat.le_refl _) (fun i hi => by
        obtain ⟨_, a, a1, a2, a3⟩ := i3 i hi
        rw [a2, nI_clamp (by omega), up_n _ _ (by omega), i4 a a1 a3, hp a (by omega) a3]) (fun i hi hne => (i3 i (by omega)).1)
      have kQ := shf_Q (x := pv k) (pr := upd q.2.2 k (pv k)) (Q := fun y => ∃ a, a < k ∧ y = nI a ∧ ch a = 0) q.2.1 q.1 q.2.1 (Nat.le_refl _) (fun i hi hne => (i3 i (by omega)).2)
      obtain ⟨k1, k2, k3⟩ := key
      refine ⟨rfl, by omega, fun i hi => ?_, fun a ha ea => ?_, ?_⟩
      · rw [← k1]
        by_cases z : i = (shf (upd q.2.2 k (pv k)) (pv k) q.2.1 q.1).2
        · subst z
          rw [up_s, up_s]
          exact ⟨rfl, k, by omega, rfl, e⟩
        · rw [up_n _ _ z, up_n _ _ z]
          obtain ⟨a, a1, a2, a3⟩ := kQ i (by omega) z
          exact ⟨k3 i (by omega) z, a, by omega, a2, a3⟩
      · by_cases z : a = k
        · subst z; rw [up_s]
        · rw [up_n _ _ z]; exact i4 a (by omega) ea
      · rw [← i5, nI_1]
    · have e' : ¬ ch' k = 0 := fun z => e ((hc k (by omega)).mpr z)
      rw [if_neg e, if_neg e', if_neg e', Int32.add_zero]
      refine ⟨i1, by omega, fun i hi => ?_, fun a ha ea => ?_, i5⟩
      · obtain ⟨b1, a, a1, a2, a3⟩ := i3 i hi
        exact ⟨b1, a, by omega, a2, a3⟩
      · rcases Nat.lt_or_eq_of_le (Nat.le_of_lt_succ ha) with z | z
        · exact i4 a z ea
        · subst z; exact (e ea).elim
/-! questions -/
theorem low_cf {rk rk' : Nat → Int32} {se se' : Nat → Int64} {p m : Nat} {t : Int32} (hp : p < 64) (h : ∀ v, v < m → rk v = rk' v ∧ se v = se' v) : lowV rk se p t m 0 = cfV rk' se' (nI p) t m (-1) := by
  have key : ∀ k, k ≤ m → cfV rk' se' (nI p) t k (lowV rk se p t (m - k) k) = lowV rk se p t m 0 := by
    intro k
    induction k with
    | zero => intro _; rfl
    | succ k ih =>
      intro hk
      rw [← ih (by omega)]
      show cfV rk' se' (nI p) t k _ = _
      congr 1
      obtain ⟨h1, h2⟩ := h k (by omega)
      rw [show m - k = (m - (k + 1)) + 1 by omega]
      conv => rhs; unfold lowV
      rw [h1, h2]
      by_cases e : rk' k < t
      · rw [if_pos e, if_pos e]
      · rw [if_neg e, if_neg e]
        by_cases e2 : hb (se' k) p = true
        · rw [if_neg (fun z => by rw [hasM0 _ hp, e2] at z; exact absurd z (by decide)), if_neg (fun z => by rw [hasV0 _ hp, e2] at z; exact absurd z (by decide))]
        · have e3 : hb (se' k) p = false := by simpa using e2
          rw [if_pos ((hasM0 _ hp).mpr e3), if_pos ((hasV0 _ hp).mpr e3)]
  have := key m (Nat.le_refl _)
  rw [Nat.sub_self] at this
  exact this.symm
theorem small_me {se se' : Nat → Int64} {p q : Nat} (hp : p < 64) (hq : q < 64) : ∀ v, (∀ u, u ≤ v → se u = se' u) → smallV se p q v = itr (meS2 se' (nI p) (nI q)) (v + 1) 0
  | 0, h => by
    rw [itr_s, itr_0]
    unfold meS2
    split
    · rfl
    · split <;> rfl
  | v + 1, h => by
    have ih := small_me hp hq v (fun u hu => h u (by omega))
    rw [itr_s, ← ih]
    unfold meS2
    conv => lhs; unfold smallV
    rw [h (v + 1) (Nat.le_refl _)]
    have g : ∀ x, x < 64 → (hasV (se' (v + 1)) x = 0 ↔ hasM (se' (v + 1)) (nI x) = 0) := fun x hx => by rw [hasV0 _ hx, hasM0 _ hx]
    by_cases e : hasV (se' (v + 1)) p = 0
    · rw [if_pos e, if_pos ((g p hp).mp e)]
    · rw [if_neg e, if_neg (fun z => e ((g p hp).mpr z))]
      by_cases e2 : hasV (se' (v + 1)) q = 0
      · rw [if_pos e2, if_pos ((g q hq).mp e2)]
      · rw [if_neg e2, if_neg (fun z => e2 ((g q hq).mpr z))]
/-- matches ahead of k -/
def cnP (pr : Nat → Int32) (x : Int32) (k : Nat) : Nat := nsum (fun u => if pr u = x then 1 else 0) k
theorem cnP_s (pr : Nat → Int32) (x : Int32) (k : Nat) : cnP pr x (k + 1) = cnP pr x k + (if pr k = x then 1 else 0) := rfl
theorem cnP_le (pr : Nat → Int32) (x : Int32) : ∀ k, cnP pr x k ≤ k
  | 0 => Nat.le_refl _
  | k + 1 => by rw [cnP_s]; have := cnP_le pr x k; split <;> omega
theorem cnP_mo (pr : Nat → Int32) (x : Int32) {a : Nat} : ∀ d, cnP pr x a ≤ cnP pr x (a + d)
  | 0 => Nat.le_refl _
  | d + 1 => by rw [← Nat.add_assoc, cnP_s]; have := cnP_mo pr x (a := a) d; omega
theorem cnP_ex (pr : Nat → Int32) (x : Int32) {i : Nat} : ∀ k, i < cnP pr x k → ∃ p, p < k ∧ pr p = x ∧ cnP pr x p = i
  | 0, h => absurd h (Nat.not_lt_zero _)
  | k + 1, h => by
    rw [cnP_s] at h
    by_cases e : i < cnP pr x k
    · obtain ⟨p, p1, p2⟩ := cnP_ex pr x k e
      exact ⟨p, by omega, p2⟩
    · split at h
      · rename_i z
        exact ⟨k, by omega, z, by omega⟩
      · omega
theorem child_ch {pr pr' : Nat → Int32} {m v i : Nat} (hm : m ≤ 64) (hv : v < m) (hp : paOK pr' m) (he : ∀ u, u < m → pr u = pr' u) (hi : i < cnP pr' (nI v) m) : childV pr (nI v) (nI i) (m - (v + 1)) (v + 1) 0 = (itr (chS pr' (nI v)) m (-1, nI i)).1 := by
  obtain ⟨p, p1, p2, p3⟩ := cnP_ex pr' (nI v) m hi
  have hi64 : i < 64 := by have := cnP_le pr' (nI v) m; omega
  have hno : ∀ u, u < m → u ≤ v → pr' u ≠ nI v := fun u hu h1 z => by
    rcases hp u hu with e | ⟨a, ha, e⟩
    · rw [e] at z; exact nI_nm1 (by omega) z.symm
    · rw [e] at z; have := (nI_eq (by omega) (by omega)).mp z; omega
  have hpv : v < p := by
    rcases Nat.lt_or_ge v p with z | z
    · exact z
    · exact (hno p p1 z p2).elim
  have hz : ∀ k, k ≤ v + 1 → cnP pr' (nI v) k = 0 := fun k hk => (nsum_z k).mpr (fun u hu => if_neg (hno u (by omega) (by omega)))
  have hlt : ∀ j, j < p → pr' j = nI v → cnP pr' (nI v) j ≠ i := fun j hj z e => by
    have h1 := cnP_mo pr' (nI v) (a := j + 1) (p - (j + 1))
    rw [show j + 1 + (p - (j + 1)) = p by omega, cnP_s, if_pos z] at h1
    omega
  have c1 : ∀ d j, j + d = m → j ≤ p → childV pr (nI v) (nI i) d j (nI (cnP pr' (nI v) j)) = nI p := by
    intro d
    induction d with
    | zero => intro j h1 h2; omega
    | succ d ih =>
      intro j h1 h2
      have hc64 := cnP_le pr' (nI v) j
      unfold childV
      rw [he j (by omega)]
      by_cases e : pr' j = nI v
      · rw [if_pos e]
        by_cases e2 : cnP pr' (nI v) j = i
        · rw [if_pos (by rw [e2])]
          have : j = p := by
            rcases Nat.lt_or_eq_of_le h2 with z | z
            · exact (hlt j z e e2).elim
            · exact z
          rw [this]
        · rw [if_neg (fun z => e2 ((nI_eq (by omega) (by omega)).mp z)), nI_1]
          have := ih (j + 1) (by omega) (by
            rcases Nat.lt_or_eq_of_le h2 with z | z
            · exact z
            · subst z; exact (e2 p3).elim)
          rw [cnP_s, if_pos e] at this
          exact this
      · rw [if_neg e]
        have := ih (j + 1) (by omega) (by
          rcases Nat.lt_or_eq_of_le h2 with z | z
          · exact z
          · subst z; exact (e p2).elim)
        rw [cnP_s, if_neg e, Nat.add_zero] at this
        exact this
  have h1 := c1 (m - (v + 1)) (v + 1) (by omega) hpv
  rw [hz (v + 1) (Nat.le_refl _)] at h1
  rw [show (0 : Int32) = nI 0 from rfl, h1]
  have hcle : ∀ k, k ≤ p → cnP pr' (nI v) k ≤ i := fun k hk => by
    have := cnP_mo pr' (nI v) (a := k) (p - k)
    rw [show k + (p - k) = p by omega, p3] at this
    exact this
  have c2 : ∀ k, k ≤ p → itr (chS pr' (nI v)) k (-1, nI i) = (-1, nI (i - cnP pr' (nI v) k)) := by
    intro k
    induction k with
    | zero => intro _; rw [itr_0]; rfl
    | succ k ih =>
      intro hk
      rw [itr_s, ih (by omega)]
      unfold chS
      simp only
      have h2 := hcle k (by omega)
      by_cases e : pr' k = nI v
      · have h3 := hlt k (by omega) e
        rw [if_pos e, if_neg (fun z => h3 (by have := (nI_eq (b := 0) (by omega) (by omega)).mp z; omega)), cnP_s, if_pos e]
        obtain ⟨y, hy⟩ : ∃ y, i - cnP pr' (nI v) k = y + 1 := ⟨i - cnP pr' (nI v) k - 1, by omega⟩
        rw [hy, pk_m1, show i - (cnP pr' (nI v) k + 1) = y by omega]
      · rw [if_neg e, cnP_s, if_neg e, Nat.add_zero]
  have c3 : ∀ d, p + 1 + d ≤ m → ∃ y, y < 64 ∧ y ≤ d ∧ itr (chS pr' (nI v)) (p + 1 + d) (-1, nI i) = (nI p, -1 - nI y) := by
    intro d
    induction d with
    | zero =>
      intro _
      refine ⟨0, by omega, by omega, ?_⟩
      rw [Nat.add_zero, itr_s, c2 p (Nat.le_refl _), p3, Nat.sub_self]
      unfold chS
      rw [if_pos p2]
      simp only
      rw [if_pos nI_0]
      rfl
    | succ d ih =>
      intro hd
      obtain ⟨y, y1, y2, y3⟩ := ih (by omega)
      rw [← Nat.add_assoc, itr_s, y3]
      unfold chS
      simp only
      by_cases e : pr' (p + 1 + d) = nI v
      · have hne : ¬ (-1 : Int32) - nI y = 0 := fun z => by
          have : (-1 : Int32) = nI y := Int32.sub_eq_iff_eq_add.mp z |>.trans (by rw [Int32.zero_add])
          exact nI_nm1 (by omega) this.symm
        rw [if_pos e, if_neg hne]
        refine ⟨y + 1, by omega, by omega, ?_⟩
        rw [← nI_1]
        have g : ∀ a b d : Int32, a - b + (-d) = a - (b + d) := fun a b d => by grind
        exact congrArg (fun z => (nI p, z)) (g (-1) (nI y) 1)
      · rw [if_neg e]
        exact ⟨y, by omega, by omega, rfl⟩
  obtain ⟨y, _, _, y3⟩ := c3 (m - (p + 1)) (by omega)
  rw [show p + 1 + (m - (p + 1)) = m by omega] at y3
  rw [y3]
section QD
variable {n m : Nat} {se : Nat → Int64} {rk tn pa nd : Nat → Nat}
/-- the depth counts the nodes around -/
theorem dp_sb (h : TF n m se rk tn pa nd) {pr : Nat → Int32} (hp0 : pr 0 = -1) (hpp : ∀ v, 0 < v → v < m → pr v = nI (pa v)) : ∀ v, v < m → dpV pr (v + 2) (nI v) = isum (fun u => subV (se v) (se u)) m := by
  have hm := h.m64
  intro v hv
  have hpa : paOK pr m := fun v hv => by
    rcases Nat.eq_zero_or_pos v with z | z
    · subst z; exact Or.inl hp0
    · exact Or.inr ⟨pa v, h.pal v z hv, hpp v z hv⟩
  refine dp_ok (dd := fun v => isum (fun u => subV (se v) (se u)) m) hm hpa (fun v hv => ?_) v hv (v + 2) (Nat.le_refl _)
  have s1 : ∀ a b, sb se a b → subV (se a) (se b) = 1 := fun a b => sb_sub.mp
  have s0 : ∀ a b, ¬ sb se a b → subV (se a) (se b) = 0 := fun a b => sb_sub0.mp
  rcases Nat.eq_zero_or_pos v with z | z
  · subst z
    rw [hp0, if_pos rfl]
    rw [isum_one m hv (fun u hu hne => s0 0 u (fun w => hne (by have := h.str u 0 hu hv w; omega))), s1 0 0 (sb_rf _ _)]
  · rw [hpp v z hv, if_neg (nI_nm1 (by have := h.pal v z hv; omega)), nI_clamp (by have := h.pal v z hv; omega)]
    rw [isum_cg (g := fun u => subV (se (pa v)) (se u) + (if u = v then 1 else 0)) m (fun u hu => ?_), isum_add, isum_one (f := fun u => if u = v then 1 else 0) m hv (fun u hu hne => if_neg hne), if_pos rfl]
    by_cases e : u = v
    · subst e
      rw [if_pos rfl, s1 u u (sb_rf _ _), s0 _ _ (h.pan z hv)]; rfl
    · rw [if_neg e, Int32.add_zero]
      by_cases e2 : sb se (pa v) u
      · rw [s1 _ _ e2, s1 v u ((h.up hv hu).mpr (Or.inr ⟨z, e2⟩))]
      · rw [s0 _ _ e2, s0 v u (fun w => by rcases (h.up hv hu).mp w with q | q; exact e q; exact e2 q.2)]
theorem steps_di (h : TF n m se rk tn pa nd) {pr : Nat → Int32} (hp0 : pr 0 = -1) (hpp : ∀ v, 0 < v → v < m → pr v = nI (pa v)) {a b : Nat} (ha : a < m) (hb' : b < m) : stepsV se a b m = diV se pr a b m := by
  unfold stepsV diV
  rw [dp_sb h hp0 hpp a ha, dp_sb h hp0 hpp b hb', ← isum_add, Int32.sub_eq_add_neg, ← Int32.neg_mul, ← isum_mul, ← isum_add]
  refine isum_cg m (fun k hk => ?_)
  have hx : (if (¬ k = a ∧ blV se a k = 0) then (0 : Int32) else if (¬ k = b ∧ blV se b k = 0) then 0 else 1) = if subV (se a) (se k) = 0 then 0 else if subV (se b) (se k) = 0 then 0 else 1 := by
    have g : ∀ a, a < m → ((¬ k = a ∧ blV se a k = 0) ↔ subV (se a) (se k) = 0) := fun a ha => by
      unfold blV
      by_cases e : a = k
      · subst e
        rw [sb_sub.mp (sb_rf se a)]
        exact ⟨fun z => (z.1 rfl).elim, fun z => absurd z (by decide)⟩
      · rw [if_neg e]; exact ⟨fun z => z.2, fun z => ⟨fun w => e w.symm, z⟩⟩
    simp only [g a ha, g b hb']
  show _ = _ + -2 * diO se a b k
  unfold diO
  rw [hx]
  rcases subV01 (se a) (se k) with e1 | e1 <;> rcases subV01 (se b) (se k) with e2 | e2 <;> rw [e1, e2] <;> decide
end QD

