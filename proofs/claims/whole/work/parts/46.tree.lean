/-! facts about the table of nodes -/
section TR
variable {c r n : Nat} {ei : Int32} {rk : Nat → Nat}
theorem NT_ex {t j m : Nat} {se : Nat → Int64} {kr : Nat → Int32} {tn pn : Nat → Nat} (hg : gOK c r n) (hr : rOK rk n) (h : NT c r n ei rk t j m se kr tn pn) {v : Nat} (hv : v < m) (q : Nat) : hb (se v) q = true ↔ cn c n ei rk (tn v) (pn v) q := by
  obtain ⟨b1, b2, b3, b4, b5⟩ := h.1 v hv
  rw [b3]
  exact hb_Cp hg hr (by omega) b4.1 q
theorem NT_tn {t j m : Nat} {se : Nat → Int64} {kr : Nat → Int32} {tn pn : Nat → Nat} (h : NT c r n ei rk t j m se kr tn pn) {v u : Nat} (hv : v < u) (hu : u < m) : tn v ≤ tn u := by
  rcases h.2.1 v u hv hu with z | z <;> omega
theorem NT_px {t j m : Nat} {se : Nat → Int64} {kr : Nat → Int32} {tn pn : Nat → Nat} (hg : gOK c r n) (hr : rOK rk n) (h : NT c r n ei rk t j m se kr tn pn) {v q : Nat} (hv : v < m) (hq : hb (se v) q = true) : q < n ∧ tn v ≤ rk q := cn_in (h.1 v hv).2.2.2.1.1 ((NT_ex hg hr h hv q).mp hq)
/-- an earlier node that has a pixel of a later one has all of them -/
theorem NT_lam {t j m : Nat} {se : Nat → Int64} {kr : Nat → Int32} {tn pn : Nat → Nat} (hg : gOK c r n) (hr : rOK rk n) (h : NT c r n ei rk t j m se kr tn pn) {v u x : Nat} (hv : v < u) (hu : u < m) (h1 : hb (se v) x = true) (h2 : hb (se u) x = true) {y : Nat} (hy : hb (se u) y = true) : hb (se v) y = true := by
  rw [NT_ex hg hr h (by omega)] at h1 ⊢
  rw [NT_ex hg hr h hu] at h2 hy
  have hc := (h.1 u hu).2.2.2.1.1
  exact rch_tr h1 (cn_mo (NT_tn h hv hu) (rch_tr (cn_sy hc h2) hy))
/-- a later node never has all of an earlier one -/
theorem NT_str {t j m : Nat} {se : Nat → Int64} {kr : Nat → Int32} {tn pn : Nat → Nat} (hg : gOK c r n) (hr : rOK rk n) (h : NT c r n ei rk t j m se kr tn pn) {v u : Nat} (hv : v < u) (hu : u < m) (hs : ∀ q, hb (se v) q = true → hb (se u) q = true) : False := by
  obtain ⟨i1, i2, q, i3, i4⟩ := (h.1 v (by omega)).2.2.2.1
  have h1 := (NT_ex hg hr h (by omega) q).mpr i3
  have h2 := hs q h1
  have h3 := (NT_px hg hr h hu h2).2
  have h4 := NT_tn h hv hu
  exact NT_dj hg hr h hv hu (by omega) h1 h2
theorem NT_ne {t j m : Nat} {se : Nat → Int64} {kr : Nat → Int32} {tn pn : Nat → Nat} (hg : gOK c r n) (hr : rOK rk n) (h : NT c r n ei rk t j m se kr tn pn) {v : Nat} (hv : v < m) : hb (se v) (pn v) = true := (NT_ex hg hr h hv _).mpr (rch_rf _)
theorem NT_sub {t j m : Nat} {se : Nat → Int64} {kr : Nat → Int32} {tn pn : Nat → Nat} (hg : gOK c r n) (hr : rOK rk n) (h : NT c r n ei rk t j m se kr tn pn) {v u : Nat} (hv : v < m) (hu : u < m) (hne : v ≠ u) (hs : subV (se v) (se u) = 1) : u < v := by
  rcases Nat.lt_or_ge u v with e | e
  · exact e
  · exact (NT_str hg hr h (show v < u by omega) hu ((subV1 _ _).mp hs)).elim
/-- the least of what a predicate holds of -/
theorem least {P : Nat → Prop} : ∀ {k : Nat}, P k → ∃ q, P q ∧ ∀ x, x < q → ¬ P x := by
  intro k
  induction k using Nat.strongRecOn with
  | ind k ih =>
    intro hk
    by_cases h : ∃ x, x < k ∧ P x
    · obtain ⟨x, h1, h2⟩ := h
      exact ih x h1 h2
    · exact ⟨k, hk, fun x hx hp => h ⟨x, hx, hp⟩⟩
/-- every component is a node -/
theorem NT_comp {m : Nat} {se : Nat → Int64} {kr : Nat → Int32} {tn pn : Nat → Nat} (hg : gOK c r n) (hr : rOK rk n) (h : NT c r n ei rk 16 0 m se kr tn pn) {t p : Nat} (hp : inS rk n t p) : ∃ v, v < m ∧ t ≤ tn v ∧ ∀ q, hb (se v) q = true ↔ cn c n ei rk t p q := by
  obtain ⟨t', ⟨x0, hx0, ex0⟩, hmin⟩ := least (P := fun t' => ∃ x, cn c n ei rk t p x ∧ rk x = t') (k := rk p) ⟨p, rch_rf p, rfl⟩
  have ht' : t ≤ t' := by have := (cn_in hp hx0).2; omega
  have hge : ∀ x, cn c n ei rk t p x → t' ≤ rk x := fun x hx => by
    rcases Nat.lt_or_ge (rk x) t' with e | e
    · exact (hmin _ e ⟨x, hx, rfl⟩).elim
    · exact e
  have hup : ∀ x, cn c n ei rk t p x → cn c n ei rk t' p x := fun x hx => (hx (fun y => cn c n ei rk t p y ∧ cn c n ei rk t' p y) ⟨rch_rf p, rch_rf p⟩ (fun a b ya hab sb => by
    have h1 : cn c n ei rk t p b := rch_st ya.1 hab sb
    exact ⟨h1, rch_st ya.2 hab ⟨sb.1, hge b h1⟩⟩)).2
  have hpS : inS rk n t' p := ⟨hp.1, hge p (rch_rf p)⟩
  obtain ⟨q0, hq0, hq0m⟩ := least (P := fun q => cn c n ei rk t' p q) (k := p) (rch_rf p)
  have hq0S := cn_in hpS hq0
  have hc : cand c n ei rk t' q0 := ⟨hq0S, fun x hx hqx => hq0m x hx (rch_tr hq0 hqx), x0, rch_tr (cn_sy hpS hq0) (hup x0 hx0), ex0⟩
  have h16 : t' < 16 := by have := hr x0 (cn_in hp hx0).1; omega
  obtain ⟨v, hv, e1, e2⟩ := h.2.2 t' q0 h16 (Or.inl h16) hc
  refine ⟨v, hv, by omega, fun q => ?_⟩
  rw [NT_ex hg hr h hv, e1, e2]
  exact ⟨fun z => cn_mo ht' (rch_tr hq0 z), fun z => rch_tr (cn_sy hpS hq0) (hup q z)⟩
/-- the node of a pixel -/
theorem NT_nd {m : Nat} {se : Nat → Int64} {kr : Nat → Int32} {tn pn : Nat → Nat} (hg : gOK c r n) (hr : rOK rk n) (h : NT c r n ei rk 16 0 m se kr tn pn) {p : Nat} (hp : p < n) : ∃ v, v < m ∧ tn v = rk p ∧ hb (se v) p = true := by
  obtain ⟨v, hv, h1, h2⟩ := NT_comp hg hr h (t := rk p) (p := p) ⟨hp, Nat.le_refl _⟩
  have h3 := (h2 p).mpr (rch_rf p)
  exact ⟨v, hv, by have := (NT_px hg hr h hv h3).2; omega, h3⟩
theorem lastV_eq {f : Nat → Int32} {v : Nat} (hf : ¬ f v = 0) : ∀ m, v < m → (∀ u, v < u → u < m → f u = 0) → lastV f m = nI v
  | 0, h, _ => by omega
  | m + 1, h, hl => by
    rw [lastV_s]
    rcases Nat.lt_or_eq_of_le (Nat.le_of_lt_succ h) with e | e
    · rw [if_pos (hl m e (by omega))]
      exact lastV_eq hf m e (fun u h1 h2 => hl u h1 (by omega))
    · subst e; rw [if_neg hf]
/-- the last node with a pixel is the pixel's own -/
theorem NT_last {t j m : Nat} {se : Nat → Int64} {kr : Nat → Int32} {tn pn : Nat → Nat} (hg : gOK c r n) (hr : rOK rk n) (h : NT c r n ei rk t j m se kr tn pn) {p v : Nat} (hp : p < n) (hv : v < m) (h1 : tn v = rk p) (h2 : hb (se v) p = true) : lastV (fun u => hasV (se u) p) m = nI v := by
  have h64 := hg.n.2
  refine lastV_eq (fun z => by rw [hasV0 _ (by omega), h2] at z; exact absurd z (by decide)) m hv (fun u h3 h4 => ?_)
  rw [hasV0 _ (by omega)]
  cases e : hb (se u) p
  · rfl
  · exfalso
    have a1 := (NT_px hg hr h h4 e).2
    have a2 := NT_tn h h3 h4
    exact NT_dj hg hr h h3 h4 (by omega) h2 e
/-! the grid is connected -/
theorem grid_con (hg : gOK c r n) (t : Nat) (ht : ∀ p, p < n → t ≤ rk p) : ∀ p, p < n → cn c n ei rk t p 0 := by
  intro p
  induction p using Nat.strongRecOn with
  | ind p ih =>
    intro hp
    obtain ⟨g1, g2, g3, g4, g5⟩ := hg
    rcases Nat.eq_zero_or_pos p with e | e
    · subst e; exact rch_rf 0
    · by_cases h1 : p % c = 0
      · have hc : c ≤ p := by
          rcases Nat.lt_or_ge p c with z | z
          · rw [Nat.mod_eq_of_lt z] at h1; omega
          · exact z
        have h2 : nbr c ei p (p - c) := (nbr_off g1 g2 ei _ _).mpr (Or.inr (Or.inr (Or.inr (Or.inl (by omega)))))
        exact rch_tr (rch_st (rch_rf p) h2 ⟨by omega, ht _ (by omega)⟩) (ih (p - c) (by omega) (by omega))
      · have h2 : nbr c ei p (p - 1) := (nbr_off g1 g2 ei _ _).mpr (Or.inr (Or.inl ⟨by omega, h1⟩))
        exact rch_tr (rch_st (rch_rf p) h2 ⟨by omega, ht _ (by omega)⟩) (ih (p - 1) (by omega) (by omega))
/-- the first node has all pixels -/
theorem NT_root {m : Nat} {se : Nat → Int64} {kr : Nat → Int32} {tn pn : Nat → Nat} (hg : gOK c r n) (hr : rOK rk n) (h : NT c r n ei rk 16 0 m se kr tn pn) : 0 < m ∧ ∀ p, p < n → hb (se 0) p = true := by
  obtain ⟨h0, h64⟩ := hg.n
  obtain ⟨t, ⟨x, hx, ex⟩, hmin⟩ := least (P := fun t => ∃ x, x < n ∧ rk x = t) (k := rk 0) ⟨0, h0, rfl⟩
  have hall : ∀ p, p < n → t ≤ rk p := fun p hp => by
    rcases Nat.lt_or_ge (rk p) t with e | e
    · exact (hmin _ e ⟨p, hp, rfl⟩).elim
    · exact e
  have hcon := fun p hp => grid_con (ei := ei) hg t hall p hp
  have h0S : inS rk n t 0 := ⟨h0, hall 0 h0⟩
  have hc : cand c n ei rk t 0 := ⟨h0S, fun q hq => by omega, x, cn_sy ⟨hx, hall x hx⟩ (hcon x hx), ex⟩
  have h16 : t < 16 := by have := hr x hx; omega
  obtain ⟨v, hv, e1, e2⟩ := h.2.2 t 0 h16 (Or.inl h16) hc
  have hv0 : v = 0 := by
    rcases Nat.eq_zero_or_pos v with z | z
    · exact z
    · exfalso
      have h3 := h.2.1 0 v z hv
      rw [e1, e2] at h3
      obtain ⟨i1, i2, q, i3, i4⟩ := (h.1 0 (by omega)).2.2.2.1
      have h4 := hall q (cn_in i1 i3).1
      rcases h3 with z | z <;> omega
  subst hv0
  refine ⟨hv, fun p hp => ?_⟩
  rw [NT_ex hg hr h hv, e1, e2]
  exact cn_sy ⟨hp, hall p hp⟩ (hcon p hp)
/-- the parent in the table -/
def par (se : Nat → Int64) (v : Nat) : Int32 := lastV (fun u => subV (se v) (se u)) v
theorem par_pos {m : Nat} {se : Nat → Int64} {kr : Nat → Int32} {tn pn : Nat → Nat} (hg : gOK c r n) (hr : rOK rk n) (h : NT c r n ei rk 16 0 m se kr tn pn) {v : Nat} (h0 : 0 < v) (hv : v < m) : ∃ a, a < v ∧ par se v = nI a ∧ subV (se v) (se a) = 1 ∧ ∀ u, a < u → u < v → subV (se v) (se u) = 0 := by
  have hroot := (NT_root hg hr h).2
  have key : ∀ k, 0 < k → k ≤ v → ∃ a, a < k ∧ lastV (fun u => subV (se v) (se u)) k = nI a ∧ subV (se v) (se a) = 1 ∧ ∀ u, a < u → u < k → subV (se v) (se u) = 0 := by
    intro k
    induction k with
    | zero => intro h; omega
    | succ k ih =>
      intro _ hk
      rw [lastV_s]
      by_cases e : subV (se v) (se k) = 0
      · rw [if_pos e]
        rcases Nat.eq_zero_or_pos k with z | z
        · subst z
          exfalso
          have : subV (se v) (se 0) = 1 := (subV1 _ _).mpr (fun q hq => hroot q (NT_px hg hr h hv hq).1)
          rw [this] at e
          exact absurd e (by decide)
        · obtain ⟨a, a1, a2, a3, a4⟩ := ih z (by omega)
          refine ⟨a, by omega, a2, a3, fun u h1 h2 => ?_⟩
          rcases Nat.lt_or_eq_of_le (Nat.le_of_lt_succ h2) with w | w
          · exact a4 u h1 w
          · subst w; exact e
      · rw [if_neg e]
        exact ⟨k, by omega, rfl, (subV01 _ _).resolve_left e, fun u h1 h2 => by omega⟩
  exact key v h0 (Nat.le_refl _)
/-- the model's search finds the same parent -/
theorem pm_par {m : Nat} {se : Nat → Int64} {kr : Nat → Int32} {tn pn : Nat → Nat} (hg : gOK c r n) (hr : rOK rk n) (h : NT c r n ei rk 16 0 m se kr tn pn) {v : Nat} (hv : v < m) : pmV se m v = par se v := by
  have h64 := NT_64 hg hr h
  have k1 : ∀ k, k ≤ v → itr (pmS se v) k (-1) = lastV (fun u => subV (se v) (se u)) k := by
    intro k
    induction k with
    | zero => intro _; rfl
    | succ k ih =>
      intro hk
      rw [itr_s, ih (by omega), lastV_s]
      unfold pmS blV
      rw [if_neg (show ¬ v = k by omega)]
      by_cases e : subV (se v) (se k) = 0
      · rw [if_pos e, if_pos e]
      · rw [if_neg e, if_neg e]
        rcases lastV_ok (fun u => subV (se v) (se u)) k with z | ⟨a, ha, z⟩
        · rw [z, if_pos rfl]
        · have hsa : subV (se v) (se a) = 1 := by
            have : ∀ k, lastV (fun u => subV (se v) (se u)) k = nI a → k ≤ v → subV (se v) (se a) = 1 := by
              intro k
              induction k with
              | zero => intro q; exact absurd q.symm (nI_nm1 (by omega))
              | succ k ih2 =>
                intro q hk2
                rw [lastV_s] at q
                by_cases w : subV (se v) (se k) = 0
                · rw [if_pos w] at q; exact ih2 q (by omega)
                · rw [if_neg w] at q
                  have := (nI_eq (by omega) (by omega)).mp q
                  subst this
                  exact (subV01 _ _).resolve_left w
            exact this k z (by omega)
          have hsk : subV (se v) (se k) = 1 := (subV01 _ _).resolve_left e
          have hp := NT_ne hg hr h hv
          have : subV (se k) (se a) = 1 := (subV1 _ _).mpr (fun y hy => NT_lam hg hr h ha (by omega) ((subV1 _ _).mp hsa _ hp) ((subV1 _ _).mp hsk _ hp) hy)
          rw [z, if_neg (nI_nm1 (by omega)), nI_clamp (by omega), if_neg (show ¬ k = a by omega), this, if_neg (by decide)]
  have k2 : ∀ d, v + d ≤ m → itr (pmS se v) (v + d) (-1) = par se v := by
    intro d
    induction d with
    | zero => intro _; exact k1 v (Nat.le_refl _)
    | succ d ih =>
      intro hd
      rw [← Nat.add_assoc, itr_s, ih (by omega)]
      unfold pmS blV
      by_cases e : v = v + d
      · rw [if_pos e, if_pos rfl]
      · rw [if_neg e, if_pos]
        rcases subV01 (se v) (se (v + d)) with z | z
        · exact z
        · exact (NT_str hg hr h (show v < v + d by omega) (by omega) ((subV1 _ _).mp z)).elim
  have := k2 (m - v) (by omega)
  rw [show v + (m - v) = m by omega] at this
  exact this
/-- how many children -/
def chn (se : Nat → Int64) (m v : Nat) : Int32 := isum (fun u => if par se u = nI v then 1 else 0) m
theorem par_ok (se : Nat → Int64) (v : Nat) : ndOK (par se v) v := lastV_ok _ _
theorem pc_ch {m : Nat} {se : Nat → Int64} {kr : Nat → Int32} {tn pn : Nat → Nat} (hg : gOK c r n) (hr : rOK rk n) (h : NT c r n ei rk 16 0 m se kr tn pn) (q0 : (Nat → Int32) × (Nat → Int32)) : ∀ j, j ≤ m → (∀ v, v < j → (itr (pcS se m) j q0).1 v = par se v) ∧ ∀ v, v < j → (itr (pcS se m) j q0).2 v = chn se j v
  | 0, _ => ⟨fun v hv => by omega, fun v hv => by omega⟩
  | j + 1, hj => by
    have h64 := NT_64 hg hr h
    obtain ⟨i1, i2⟩ := pc_ch hg hr h q0 j (by omega)
    rw [itr_s]
    generalize itr (pcS se m) j q0 = q at *
    unfold pcS
    rw [pm_par hg hr h (show j < m by omega)]
    refine ⟨fun v hv => ?_, fun v hv => ?_⟩
    · simp only [upd]
      by_cases e : v = j
      · rw [if_pos e, e]
      · rw [if_neg e]; exact i1 v (by omega)
    · simp only
      have key : chn se (j + 1) v = chn se j v + (if par se j = nI v then 1 else 0) := rfl
      have z0 : chn se j j = 0 := isum_0 j (fun u hu => by
        rw [if_neg]
        rcases par_ok se u with z | ⟨a, ha, z⟩
        · rw [z]; exact fun w => nI_nm1 (by omega) w.symm
        · rw [z]; exact fun w => by have := (nI_eq (by omega) (by omega)).mp w; omega)
      rw [key]
      have cv : upd q.2 j 0 v = chn se j v := by
        unfold upd
        by_cases e : v = j
        · rw [if_pos e, e, z0]
        · rw [if_neg e]; exact i2 v (by omega)
      rcases par_ok se j with z | ⟨a, ha, z⟩
      · rw [z, if_pos rfl, if_neg (fun w => nI_nm1 (by omega) w.symm), Int32.add_zero]
        exact cv
      · rw [z, if_neg (nI_nm1 (by omega)), nI_clamp (by omega)]
        by_cases e : v = a
        · subst e
          rw [up_s, if_pos rfl, cv]
        · rw [up_n _ _ e, if_neg (fun w => e ((nI_eq (by omega) (by omega)).mp w).symm), Int32.add_zero]
          exact cv
theorem lr_keep (ins lef : Int64) (t : Int32) (q0 : tT) : ∀ j, q0.1 ≤ (itr (lrS c r ei ins lef t) j q0).1 ∧ ∀ v, v < q0.1 → (itr (lrS c r ei ins lef t) j q0).2.1 v = q0.2.1 v ∧ (itr (lrS c r ei ins lef t) j q0).2.2 v = q0.2.2 v
  | 0 => ⟨Nat.le_refl _, fun v _ => ⟨rfl, rfl⟩⟩
  | j + 1 => by
    obtain ⟨i1, i2⟩ := lr_keep ins lef t q0 j
    rw [itr_s]
    generalize itr (lrS c r ei ins lef t) j q0 = q at *
    unfold lrS
    split
    · split
      · exact ⟨i1, i2⟩
      · refine ⟨by simp only; omega, fun v hv => ?_⟩
        have : v ≠ q.1 := by omega
        simp only [vp_updL, upd, this, if_false]
        exact i2 v hv
    · exact ⟨i1, i2⟩
/-- the model's nodeAt -/
theorem na_ok {s0 : tT × (Nat → Int32)} (hg : gOK c r n) (hr : rOK rk n) (hs0 : s0.1.1 = 0) : ∀ t, t ≤ 16 → ∀ p, p < n → rk p < t → (tre c r n ei rk s0 t).2 p = lastV (fun u => hasV ((tre c r n ei rk s0 t).1.2.1 u) p) (tre c r n ei rk s0 t).1.1
  | 0, _, p, _, h => by omega
  | t + 1, ht, p, hp, hrk => by
    have h64 := hg.n.2
    have ih := na_ok hg hr hs0 t (by omega) p hp
    obtain ⟨tn1, pn1, hN1⟩ := tre_NT (ei := ei) hg hr hs0 t (by omega)
    have eT : tre c r n ei rk s0 (t + 1) = ltS c r n ei (fun p => nI (rk p)) t (tre c r n ei rk s0 t) := rfl
    have eL : ltE (fun p => nI (rk p)) n t = Sl rk n t := rfl
    have eT1 : (tre c r n ei rk s0 (t + 1)).1 = itr (lrS c r ei (Sg rk n t) (Sl rk n t) (nI t)) n (tre c r n ei rk s0 t).1 := rfl
    have eT2 : (tre c r n ei rk s0 (t + 1)).2 = itr (naS (tre c r n ei rk s0 (t + 1)).1.1 (tre c r n ei rk s0 (t + 1)).1.2.1 (tre c r n ei rk s0 (t + 1)).1.2.2 (Sl rk n t) (nI t)) n (tre c r n ei rk s0 t).2 := rfl
    obtain ⟨tn, pn, hN⟩ := lr_NT hg hr (show t < 16 by omega) ⟨tn1, pn1, hN1⟩ n (Nat.le_refl _)
    rw [← eT1] at hN
    have hg1 : ∀ j, j ≤ n → ∀ f, itr (naS (tre c r n ei rk s0 (t + 1)).1.1 (tre c r n ei rk s0 (t + 1)).1.2.1 (tre c r n ei rk s0 (t + 1)).1.2.2 (Sl rk n t) (nI t)) j f p = if p < j ∧ rk p = t then itr (naK (tre c r n ei rk s0 (t + 1)).1.2.1 (tre c r n ei rk s0 (t + 1)).1.2.2 (nI t) p) (tre c r n ei rk s0 (t + 1)).1.1 (f p) else f p := by
      intro j
      induction j with
      | zero => intro _ f; rw [if_neg (by omega)]; rfl
      | succ j ihj =>
        intro hj f
        rw [itr_s]
        unfold naS
        by_cases e : hasM (Sl rk n t) (nI j) = 0
        · rw [if_pos e]
          have := ihj (by omega) f
          unfold naS at this
          rw [this]
          rw [hasM0 _ (by omega)] at e
          have hne : ¬ (j < n ∧ rk j = t) := fun z => by rw [(hb_Sl hg hr (by omega) j).mpr z] at e; exact absurd e (by decide)
          by_cases e2 : p < j ∧ rk p = t
          · rw [if_pos e2, if_pos ⟨by omega, e2.2⟩]
          · rw [if_neg e2, if_neg]
            rintro ⟨a1, a2⟩
            rcases Nat.lt_or_eq_of_le (Nat.le_of_lt_succ a1) with w | w
            · exact e2 ⟨w, a2⟩
            · subst w; exact hne ⟨hp, a2⟩
        · rw [if_neg e]
          have hjn : rk j = t := by
            cases w : hb (Sl rk n t) j
            · exact (e ((hasM0 _ (by omega)).mpr w)).elim
            · exact ((hb_Sl hg hr (by omega) j).mp w).2
          have := ihj (by omega) f
          unfold naS at this
          by_cases e2 : p = j
          · subst e2
            rw [up_s, this, if_neg (show ¬ (p < p ∧ rk p = t) by omega), if_pos ⟨by omega, hjn⟩]
          · rw [up_n _ _ e2, this]
            by_cases e3 : p < j ∧ rk p = t
            · rw [if_pos e3, if_pos ⟨by omega, e3.2⟩]
            · rw [if_neg e3, if_neg (fun z => e3 ⟨by omega, z.2⟩)]
    rw [eT2, hg1 n (Nat.le_refl _)]
    by_cases e : rk p = t
    · rw [if_pos ⟨hp, e⟩]
      -- the node of rank t that has p
      obtain ⟨q0, hq0, hq0m⟩ := least (P := fun q => cn c n ei rk t p q) (k := p) (rch_rf p)
      have hpS : inS rk n t p := ⟨hp, by omega⟩
      have hq0S := cn_in hpS hq0
      have hc : cand c n ei rk t q0 := ⟨hq0S, fun x hx hqx => hq0m x hx (rch_tr hq0 hqx), p, cn_sy hpS hq0, e⟩
      obtain ⟨v, hv, e1, e2⟩ := hN.2.2 t q0 (by omega) (Or.inr ⟨rfl, hq0S.1⟩) hc
      have hvp : hb ((tre c r n ei rk s0 (t + 1)).1.2.1 v) p = true := by
        rw [NT_ex hg hr hN hv, e1, e2]
        exact cn_sy hpS hq0
      rw [NT_last hg hr hN hp hv (by omega) hvp]
      have hkr := (hN.1 v hv).2.1
      generalize (tre c r n ei rk s0 (t + 1)).1 = T at *
      have key : ∀ k, v < k → k ≤ T.1 → ∀ x, itr (naK T.2.1 T.2.2 (nI t) p) k x = nI v := by
        intro k
        induction k with
        | zero => intro h; omega
        | succ k ihk =>
          intro h1 h2 x
          rw [itr_s]
          rcases Nat.lt_or_eq_of_le (Nat.le_of_lt_succ h1) with w | w
          · rw [ihk w (by omega)]
            unfold naK
            by_cases w1 : T.2.2 k = nI t
            · rw [if_pos w1, if_pos]
              rw [hasM0 _ (by omega)]
              cases w2 : hb (T.2.1 k) p
              · rfl
              · exfalso
                have w3 := (hN.1 k (by omega)).2.1
                rw [w1] at w3
                have w4 := (nI_eq (by omega) (by have := (hN.1 k (by omega)).1; omega)).mp w3
                exact NT_dj hg hr hN w (by omega) (by omega) hvp w2
            · rw [if_neg w1]
          · subst w
            unfold naK
            rw [hkr, e1, if_pos rfl, if_neg]
            rw [hasM0 _ (by omega), hvp]
            decide
      exact key T.1 hv (Nat.le_refl _) _
    · rw [if_neg (fun z => e z.2), ih (by omega)]
      obtain ⟨v, hv, e1, e2⟩ : ∃ v, v < (tre c r n ei rk s0 t).1.1 ∧ tn1 v = rk p ∧ hb ((tre c r n ei rk s0 t).1.2.1 v) p = true := by
        obtain ⟨q0, hq0, hq0m⟩ := least (P := fun q => cn c n ei rk (rk p) p q) (k := p) (rch_rf p)
        have hpS : inS rk n (rk p) p := ⟨hp, Nat.le_refl _⟩
        have hq0S := cn_in hpS hq0
        have hc : cand c n ei rk (rk p) q0 := ⟨hq0S, fun x hx hqx => hq0m x hx (rch_tr hq0 hqx), p, cn_sy hpS hq0, rfl⟩
        obtain ⟨v, hv, e1, e2⟩ := hN1.2.2 (rk p) q0 (by omega) (Or.inl (by omega)) hc
        exact ⟨v, hv, e1, by rw [NT_ex hg hr hN1 hv, e1, e2]; exact cn_sy hpS hq0⟩
      rw [NT_last hg hr hN1 hp hv e1 e2]
      obtain ⟨k1, k2⟩ := lr_keep (c := c) (r := r) (ei := ei) (Sg rk n t) (Sl rk n t) (nI t) (tre c r n ei rk s0 t).1 n
      rw [← eT1] at k1 k2
      obtain ⟨k3, k4⟩ := k2 v hv
      have k5 := (hN.1 v (by omega)).2.1
      have k6 := (hN1.1 v hv).2.1
      rw [k4, k6] at k5
      have k7 := (nI_eq (by have := (hN1.1 v hv).1; omega) (by have := (hN.1 v (by omega)).1; omega)).mp k5
      exact (NT_last hg hr hN hp (by omega) (by omega) (by rw [k3]; exact e2)).symm
end TR

