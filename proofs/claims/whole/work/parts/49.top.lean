/-! leaves, summits, heights, sums, prominences -/
def lfP (m : Nat) (pa : Nat → Nat) (v : Nat) : Prop := ∀ u, 0 < u → u < m → pa u ≠ v
def hgh (tn : Nat → Nat) (a b : Nat) : Prop := tn b < tn a ∨ (tn a = tn b ∧ a < b)
theorem hgh_tr {tn : Nat → Nat} {a b d : Nat} (h : hgh tn a b) (h1 : hgh tn b d) : hgh tn a d := by unfold hgh at *; omega
theorem hgh_tot (tn : Nat → Nat) (a b : Nat) : a = b ∨ hgh tn a b ∨ hgh tn b a := by unfold hgh; omega
theorem hgh_as {tn : Nat → Nat} {a b : Nat} (h : hgh tn a b) (h1 : hgh tn b a) : False := by unfold hgh at *; omega
theorem hgh_ir {tn : Nat → Nat} {a : Nat} (h : hgh tn a a) : False := by unfold hgh at h; omega
def isS (m : Nat) (se : Nat → Int64) (tn pa : Nat → Nat) (v l : Nat) : Prop := l < m ∧ lfP m pa l ∧ sb se l v ∧ ∀ l', l' < m → lfP m pa l' → sb se l' v → l' = l ∨ hgh tn l l'
theorem isS_u {m : Nat} {se : Nat → Int64} {tn pa : Nat → Nat} {v a b : Nat} (h : isS m se tn pa v a) (h1 : isS m se tn pa v b) : a = b := by
  rcases h.2.2.2 b h1.1 h1.2.1 h1.2.2.1 with e | e
  · exact e.symm
  · rcases h1.2.2.2 a h.1 h.2.1 h.2.2.1 with e2 | e2
    · exact e2
    · exact (hgh_as e e2).elim
def TA (n m : Nat) (se : Nat → Int64) (rk tn pa nd : Nat → Nat) (kr pr ch na : Nat → Int32) : Prop := (TF n m se rk tn pa nd) ∧ (∀ v, v < m → kr v = nI (tn v)) ∧ (pr 0 = -1) ∧ (∀ v, 0 < v → v < m → pr v = nI (pa v)) ∧ (∀ v, v < m → (ch v = 0 ↔ lfP m pa v)) ∧ (∀ p, p < n → na p = nI (nd p))
theorem TA.t {n m : Nat} {se : Nat → Int64} {rk tn pa nd : Nat → Nat} {kr pr ch na : Nat → Int32} (h_ : TA n m se rk tn pa nd kr pr ch na) : TF n m se rk tn pa nd := h_.1
theorem TA.kr {n m : Nat} {se : Nat → Int64} {rk tn pa nd : Nat → Nat} {kr pr ch na : Nat → Int32} (h_ : TA n m se rk tn pa nd kr pr ch na) : ∀ v, v < m → kr v = nI (tn v) := h_.2.1
theorem TA.p0 {n m : Nat} {se : Nat → Int64} {rk tn pa nd : Nat → Nat} {kr pr ch na : Nat → Int32} (h_ : TA n m se rk tn pa nd kr pr ch na) : pr 0 = -1 := h_.2.2.1
theorem TA.pp {n m : Nat} {se : Nat → Int64} {rk tn pa nd : Nat → Nat} {kr pr ch na : Nat → Int32} (h_ : TA n m se rk tn pa nd kr pr ch na) : ∀ v, 0 < v → v < m → pr v = nI (pa v) := h_.2.2.2.1
theorem TA.ch {n m : Nat} {se : Nat → Int64} {rk tn pa nd : Nat → Nat} {kr pr ch na : Nat → Int32} (h_ : TA n m se rk tn pa nd kr pr ch na) : ∀ v, v < m → (ch v = 0 ↔ lfP m pa v) := h_.2.2.2.2.1
theorem TA.na {n m : Nat} {se : Nat → Int64} {rk tn pa nd : Nat → Nat} {kr pr ch na : Nat → Int32} (h_ : TA n m se rk tn pa nd kr pr ch na) : ∀ p, p < n → na p = nI (nd p) := h_.2.2.2.2.2
theorem TA.mk' {n m : Nat} {se : Nat → Int64} {rk tn pa nd : Nat → Nat} {kr_ pr ch_ na_ : Nat → Int32} (t : TF n m se rk tn pa nd) (kr : ∀ v, v < m → kr_ v = nI (tn v)) (p0 : pr 0 = -1) (pp : ∀ v, 0 < v → v < m → pr v = nI (pa v)) (ch : ∀ v, v < m → (ch_ v = 0 ↔ lfP m pa v)) (na : ∀ p, p < n → na_ p = nI (nd p)) : TA n m se rk tn pa nd kr_ pr ch_ na_ := ⟨t, kr, p0, pp, ch, na⟩
section TH
variable {n m : Nat} {se : Nat → Int64} {rk tn pa nd : Nat → Nat}
theorem TF.lf1 (h : TF n m se rk tn pa nd) {v : Nat} (hv : v < m) (hl : lfP m pa v) : ∀ u, u < m → sb se u v → u = v := by
  intro u
  induction u using Nat.strongRecOn with
  | ind u ih =>
    intro hu hs
    rcases (h.up hu hv).mp hs with e | ⟨h0, h1⟩
    · exact e.symm
    · have := ih (pa u) (h.pal u h0 hu) (h.pam' h0 hu) h1
      exact (hl u h0 hu this).elim
theorem TF.lfx (h : TF n m se rk tn pa nd) : ∀ d v, v < m → m ≤ v + d → ∃ l, l < m ∧ lfP m pa l ∧ sb se l v
  | 0, v, hv, hd => by omega
  | d + 1, v, hv, hd => by
    by_cases hl : lfP m pa v
    · exact ⟨v, hv, hl, sb_rf _ _⟩
    · obtain ⟨u, h0, hu, e⟩ : ∃ u, 0 < u ∧ u < m ∧ pa u = v := Classical.byContradiction (fun z => hl (fun u a1 a2 a3 => z ⟨u, a1, a2, a3⟩))
      have hp := h.pal u h0 hu
      obtain ⟨l, a1, a2, a3⟩ := h.lfx d u hu (by omega)
      exact ⟨l, a1, a2, sb_tr a3 (by rw [← e]; exact h.pas u h0 hu)⟩
theorem TF.leaf (h : TF n m se rk tn pa nd) {v : Nat} (hv : v < m) : ∃ l, l < m ∧ lfP m pa l ∧ sb se l v := h.lfx m v hv (by omega)
theorem hi_ne {kr : Nat → Int32} (hk : ∀ v, v < m → kr v = nI (tn v)) (h16 : ∀ v, v < m → tn v < 16) (hm : m ≤ 64) {a b : Nat} (ha : a < m) (hb : b < m) : ¬ hiV kr a b = 0 ↔ hgh tn a b := by
  have t1 := h16 a ha
  have t2 := h16 b hb
  unfold hiV hgh
  rw [hk a ha, hk b hb]
  rcases Nat.lt_trichotomy (tn b) (tn a) with e | e | e
  · rw [pk_sub (by omega), if_pos (show (0 : Int32) < nI (tn a - tn b) from nI_lt (a := 0) (by omega) (by omega))]
    exact ⟨fun _ => Or.inl e, fun _ => by decide⟩
  · rw [e, pk_sub (by omega), Nat.sub_self, if_neg (by decide)]
    by_cases e2 : a < b
    · rw [if_pos ⟨rfl, nI_lt e2 (by omega)⟩]
      exact ⟨fun _ => Or.inr ⟨rfl, e2⟩, fun _ => by decide⟩
    · rw [if_neg (fun z => e2 ((nI_ltI (by omega) (by omega)).mp z.2))]
      exact ⟨fun z => (z rfl).elim, fun z => by omega⟩
  · have hn := pk_sneg (a := tn a) (b := tn b) (by omega) e
    rw [if_neg (fun z => by exact absurd (Int32.lt_trans hn z) (Int32.lt_irrefl)), if_neg (fun z => by rw [z.1] at hn; exact absurd hn (by decide))]
    exact ⟨fun z => (z rfl).elim, fun z => by omega⟩
theorem hig_ne {kr : Nat → Int32} (hk : ∀ v, v < m → kr v = nI (tn v)) (h16 : ∀ v, v < m → tn v < 16) {a b : Nat} (ha : a < m) (hb : b < m) : ¬ higV kr a b = 0 ↔ hgh tn a b := by
  have t1 := h16 a ha
  have t2 := h16 b hb
  unfold higV hgh
  rw [hk a ha, hk b hb]
  by_cases e : tn b < tn a
  · rw [if_pos (nI_lt e (by omega))]
    exact ⟨fun _ => Or.inl e, fun _ => by decide⟩
  · rw [if_neg (nI_nlt (by omega) (by omega))]
    by_cases e2 : tn a = tn b
    · rw [if_pos (by rw [e2])]
      by_cases e3 : b ≤ a
      · rw [if_pos e3]; exact ⟨fun z => (z rfl).elim, fun z => by omega⟩
      · rw [if_neg e3]; exact ⟨fun _ => Or.inr ⟨e2, by omega⟩, fun _ => by decide⟩
    · rw [if_neg (fun z => e2 ((nI_eq (by omega) (by omega)).mp z))]
      exact ⟨fun z => (z rfl).elim, fun z => by omega⟩
theorem summ_ok {kr pr ch na : Nat → Int32} (T : TA n m se rk tn pa nd kr pr ch na) (old : Nat → Int32) {v : Nat} (hv : v < m) : ∃ l, summV ch kr pa m old v = nI l ∧ isS m se tn pa v l := by
  have h := T.t
  have hm := h.m64
  have hm0 := h.m0
  have H : ∀ a, a < m → ((suOK pa m 0 (summV ch kr pa m old) ∧ ∀ i, i < m → ∀ b, b < m → summV ch kr pa m old i = nI b → lfP m pa b ∧ sb se b i) ∧ ∀ w, w < m → ((∃ b, b < m ∧ summV ch kr pa m old w = nI b ∧ (b = a ∨ hgh tn b a)) ↔ ∃ u, u < m ∧ sb se u w ∧ (∃ b, b < m ∧ su0 ch old m u = nI b ∧ (b = a ∨ hgh tn b a)))) := fun a ha => by
    refine dit_ex h (Pr := fun x => ∃ b, b < m ∧ x = nI b ∧ (b = a ∨ hgh tn b a)) (I := fun j s => suOK pa m j s ∧ ∀ i, i < m → ∀ b, b < m → s i = nI b → lfP m pa b ∧ sb se b i) (step := sumS kr pa) ?_ ?_ ?_
    · intro v s hv1 ⟨h1, h2⟩
      have hp := h.pal (v + 1) (by omega) hv1
      refine ⟨suOK_s h1 hv1 hp, fun i hi b hb e => ?_⟩
      have hup : ∀ b, b < m → s (v + 1) = nI b → lfP m pa b ∧ sb se b (pa (v + 1)) := fun b hb e => by
        obtain ⟨a1, a2⟩ := h2 (v + 1) hv1 b hb e
        exact ⟨a1, sb_tr a2 (h.pas _ (by omega) hv1)⟩
      have hu : ∀ i, i < m → upd s (pa (v + 1)) (s (v + 1)) i = nI b → lfP m pa b ∧ sb se b i := fun i hi e => by
        by_cases e2 : i = pa (v + 1)
        · subst e2; rw [up_s] at e; exact hup b hb e
        · rw [up_n _ _ e2] at e; exact h2 i hi b hb e
      unfold sumS at e
      split at e
      · exact hu i hi e
      · split at e
        · exact h2 i hi b hb e
        · exact hu i hi e
    · intro v s hv1 ⟨h1, h2⟩ w hw
      have hp := h.pal (v + 1) (by omega) hv1
      obtain ⟨b', hb', e'⟩ := suOK_top h1 hv1
      unfold sumS
      by_cases ew : w = pa (v + 1)
      · subst ew
        rcases h1 (pa (v + 1)) hw with ⟨z, _⟩ | ⟨b, hb, z⟩
        · rw [if_pos z, up_s]
          constructor
          · exact fun y => Or.inr ⟨rfl, y⟩
          · rintro (⟨b, b1, b2, _⟩ | ⟨_, y⟩)
            · rw [z] at b2; exact absurd b2.symm (nI_nm1 (by omega))
            · exact y
        · rw [if_neg (by rw [z]; exact nI_nm1 (by omega)), z, e', nI_clamp (by omega), nI_clamp (by omega)]
          have hh := hi_ne T.kr h.t16 hm hb' hb
          by_cases e3 : hiV kr b' b = 0
          · rw [if_pos e3, z]
            have hn : ¬ hgh tn b' b := fun y => (hh.mpr y) e3
            constructor
            · exact Or.inl
            · rintro (y | ⟨_, d, d1, d2, d3⟩)
              · exact y
              · have : b' = d := (nI_eq (by omega) (by omega)).mp d2
                subst this
                refine ⟨b, hb, rfl, ?_⟩
                rcases hgh_tot tn b b' with q | q | q
                · rw [q]; exact d3
                · exact Or.inr (d3.elim (fun w => by rw [← w]; exact q) (fun w => hgh_tr q w))
                · exact (hn q).elim
          · rw [if_neg e3, up_s]
            have hn := hh.mp e3
            constructor
            · exact fun y => Or.inr ⟨rfl, y⟩
            · rintro (⟨d, d1, d2, d3⟩ | ⟨_, y⟩)
              · have : b = d := (nI_eq (by omega) (by omega)).mp d2
                subst this
                exact ⟨b', hb', rfl, Or.inr (d3.elim (fun w => by rw [← w]; exact hn) (fun w => hgh_tr hn w))⟩
              · exact y
      · have : ∀ x, upd s (pa (v + 1)) x w = s w := fun x => up_n _ _ ew
        constructor
        · intro y
          left
          split at y
          · rwa [this] at y
          · split at y
            · exact y
            · rwa [this] at y
        · rintro (y | ⟨y, _⟩)
          · split
            · rwa [this]
            · split
              · exact y
              · rwa [this]
          · exact (ew y).elim
    · refine ⟨fun i hi => ?_, fun i hi b hb e => ?_⟩
      · unfold su0
        rw [if_pos hi]
        by_cases e : ch i = 0
        · rw [if_pos e]; exact Or.inr ⟨i, hi, rfl⟩
        · rw [if_neg e]
          left
          refine ⟨rfl, ?_⟩
          have hl : ¬ lfP m pa i := fun z => e ((T.ch i hi).mpr z)
          obtain ⟨u, h0, hu, e2⟩ : ∃ u, 0 < u ∧ u < m ∧ pa u = i := Classical.byContradiction (fun z => hl (fun u a1 a2 a3 => z ⟨u, a1, a2, a3⟩))
          exact ⟨u, by rw [← e2]; exact h.pal u h0 hu, by omega, e2⟩
      · unfold su0 at e
        rw [if_pos hi] at e
        by_cases e2 : ch i = 0
        · rw [if_pos e2] at e
          have : i = b := (nI_eq (by omega) (by omega)).mp e
          subst this
          exact ⟨(T.ch i hi).mp e2, sb_rf _ _⟩
        · rw [if_neg e2] at e
          exact absurd e.symm (nI_nm1 (by omega))
  obtain ⟨l, hl, e⟩ : ∃ l, l < m ∧ summV ch kr pa m old v = nI l := by
    rcases (H 0 hm0).1.1 v hv with ⟨_, u, h1, h2, _⟩ | z
    · omega
    · exact z
  obtain ⟨h3, h4⟩ := (H 0 hm0).1.2 v hv l hl e
  refine ⟨l, e, hl, h3, h4, fun l' a1 a2 a3 => ?_⟩
  obtain ⟨b, b1, b2, b3⟩ := ((H l' a1).2 v hv).mpr ⟨l', a1, a3, l', a1, by unfold su0; rw [if_pos a1, if_pos ((T.ch l' a1).mpr a2)], Or.inl rfl⟩
  rw [e] at b2
  have : l = b := (nI_eq (by omega) (by omega)).mp b2
  subst this
  exact b3.elim (fun w => Or.inl w.symm) Or.inr
theorem grV_nI {a b : Nat} (ha : a < 2 ^ 31) (hb : b < 2 ^ 31) : grV (nI a) (nI b) = nI (max a b) := by
  unfold grV
  by_cases e : a ≤ b
  · rw [if_pos (nI_le e hb), Nat.max_eq_right e]
  · rw [if_neg (fun z => e ((nI_leI ha hb).mp z)), Nat.max_eq_left (by omega)]
theorem he_ok (h : TF n m se rk tn pa nd) {rp : Nat → Int32} (hrp : ∀ p, p < n → rp p = nI (rk p)) {v l : Nat} (hv : v < m) (hs : isS m se tn pa v l) : itr (heS (se v) rp (nI (tn v))) n 0 = nI (tn l - tn v) := by
  have key : ∀ k, k ≤ n → ∃ x, x < 16 ∧ itr (heS (se v) rp (nI (tn v))) k 0 = nI x ∧ (∀ p, p < k → hb (se v) p = true → rk p - tn v ≤ x) ∧ (x = 0 ∨ ∃ p, p < k ∧ hb (se v) p = true ∧ x = rk p - tn v) := by
    intro k
    induction k with
    | zero => intro _; exact ⟨0, by omega, rfl, fun p hp => by omega, Or.inl rfl⟩
    | succ k ih =>
      intro hk
      obtain ⟨x, x1, x2, x3, x4⟩ := ih (by omega)
      rw [itr_s, x2]
      unfold heS
      have hn := h.n64
      by_cases e : hb (se v) k = true
      · rw [if_neg (fun z => by rw [hasM0 _ (by omega), e] at z; exact absurd z (by decide)), hrp k (by omega)]
        have h1 : tn v ≤ rk k := by
          rw [h.ndr k (by omega)]
          exact h.tns (h.ndl k (by omega)) hv ((h.ndh v k hv (by omega)).mp e)
        have h2 := h.r16 k (by omega)
        rw [pk_sub h1, grV_nI (by omega) (by omega)]
        refine ⟨max x (rk k - tn v), by omega, rfl, fun p hp hb' => ?_, ?_⟩
        · rcases Nat.lt_or_eq_of_le (Nat.le_of_lt_succ hp) with z | z
          · have := x3 p z hb'; omega
          · subst z; omega
        · rcases Nat.le_total (rk k - tn v) x with z | z
          · rw [Nat.max_eq_left z]
            exact x4.imp id (fun ⟨p, a1, a2, a3⟩ => ⟨p, by omega, a2, a3⟩)
          · rw [Nat.max_eq_right z]
            exact Or.inr ⟨k, by omega, e, rfl⟩
      · rw [if_pos ((hasM0 _ (by omega)).mpr (by simpa using e))]
        refine ⟨x, x1, rfl, fun p hp hb' => ?_, x4.imp id (fun ⟨p, a1, a2, a3⟩ => ⟨p, by omega, a2, a3⟩)⟩
        rcases Nat.lt_or_eq_of_le (Nat.le_of_lt_succ hp) with z | z
        · exact x3 p z hb'
        · subst z; exact (e hb').elim
  obtain ⟨x, x1, x2, x3, x4⟩ := key n (Nat.le_refl _)
  rw [x2]
  congr 1
  obtain ⟨p, p1, p2, p3⟩ := h.ne hs.1
  have h1 := x3 p p1 (hs.2.2.1 p p3)
  rw [h.ndr p p1, p2] at h1
  rcases x4 with e | ⟨q, q1, q2, q3⟩
  · omega
  · have h2 := (h.ndh v q hv q1).mp q2
    obtain ⟨l', a1, a2, a3⟩ := h.leaf (h.ndl q q1)
    have h3 := h.tns a1 (h.ndl q q1) a3
    have h4 : tn l' ≤ tn l := by
      rcases hs.2.2.2 l' a1 a2 (sb_tr a3 h2) with z | z
      · rw [z]; exact Nat.le_refl _
      · unfold hgh at z; omega
    rw [h.ndr q q1] at q3
    omega
theorem ow_cg {na na' : Nat → Int32} {x : Int32} {n : Nat} (h : ∀ p, p < n → na p = na' p) : owV na x n = owV na' x n := by
  unfold owV
  exact isum_cg n (fun p hp => by rw [h p hp])
theorem sr_cg {s : Int64} {rp rp' : Nat → Int32} {n : Nat} (h : ∀ p, p < n → rp p = rp' p) : srV s rp n = srV s rp' n := by
  unfold srV
  exact isum_cg n (fun p hp => by rw [h p hp])
theorem ind_mul (P : Prop) (a b : Int32) : ind P (a * b) = a * ind P b := by
  by_cases e : P
  · rw [ind_t e, ind_t e]
  · rw [ind_f e, ind_f e, Int32.mul_zero]
theorem rsum_ok (h : TF n m se rk tn pa nd) {ow kr old rp : Nat → Int32} (hkr : ∀ v, v < m → kr v = nI (tn v)) (how : ∀ v, v < m → ow v = owV (fun p => nI (nd p)) (nI v) n) (hrp : ∀ p, p < n → rp p = nI (rk p)) {v : Nat} (hv : v < m) : rsumV ow kr pa m old v = srV (se v) rp n := by
  have hm := h.m64
  have hn := h.n64
  unfold rsumV
  rw [dit_sum h v hv, isum_cg (g := fun u => owV (fun p => nI (nd p)) (nI u) n * ind (sb se u v) (nI (tn u))) m (fun u hu => by unfold sm0; rw [if_pos hu, how u hu, hkr u hu, ind_mul]), own_sum (by omega) _ n h.ndl]
  unfold srV
  refine isum_cg n (fun p hp => ?_)
  have h1 := h.ndh v p hv hp
  by_cases e : hb (se v) p = true
  · rw [ind_t (h1.mp e), if_neg (fun z => by rw [hasM0 _ (by omega), e] at z; exact absurd z (by decide)), hrp p hp, h.ndr p hp]
  · rw [ind_f (fun z => e (h1.mpr z)), if_pos ((hasM0 _ (by omega)).mpr (by simpa using e))]
/-- the own pixels, counted by bits -/
theorem own_ok (h : TF n m se rk tn pa nd) {w : Int64} {v : Nat} (hv : v < m) (hw : ∀ q, hb w q = true ↔ (q < n ∧ rk q = tn v)) : bcL (se v &&& w) = owV (fun p => nI (nd p)) (nI v) n := by
  have hm := h.m64
  have hn := h.n64
  rw [bc_c1]
  unfold c1V owV
  rw [show (64 : Nat) = n + (64 - n) by omega, isum_tail]
  · refine isum_cg n (fun p hp => ?_)
    have h1 := h.ndh v p hv hp
    have h2 := h.ndl p hp
    have key : hb (se v &&& w) p = true ↔ nd p = v := by
      rw [hb_and, Bool.and_eq_true, hw p]
      constructor
      · rintro ⟨a1, a2, a3⟩
        have a4 := h1.mp a1
        rcases (h.up h2 hv).mp a4 with e | ⟨e0, e⟩
        · exact e.symm
        · have a5 := h.tnp (nd p) e0 h2
          have a6 := h.tns (h.pam' e0 h2) hv e
          have a7 := h.ndr p hp
          omega
      · intro e
        subst e
        exact ⟨h1.mpr (sb_rf _ _), hp, h.ndr p hp⟩
    by_cases e : nd p = v
    · rw [if_neg (fun z => by rw [hasM0 _ (by omega), key.mpr e] at z; exact absurd z (by decide)), if_pos (congrArg nI e)]
    · rw [if_pos ((hasM0 _ (by omega)).mpr (by
        cases z : hb (se v &&& w) p
        · rfl
        · exact (e (key.mp z)).elim)), if_neg (fun z => e ((nI_eq (by omega) (by omega)).mp z))]
  · intro p h1 h2
    rw [if_pos ((hasM0 _ (by omega)).mpr (by
      cases z : hb (se v &&& w) p
      · rfl
      · rw [hb_and, Bool.and_eq_true, hw p] at z
        omega))]
/-- prominences, by what is above -/
def proR (m : Nat) (tn pa su P : Nat → Nat) : Prop := ∀ v, v < m → P v = if v = 0 then tn (su v) + 1 else if su (pa v) = su v then P (pa v) else tn (su v) - tn (pa v)
theorem hh_ok {kr ch : Nat → Int32} (h : TF n m se rk tn pa nd) (hkr : ∀ v, v < m → kr v = nI (tn v)) (hch : ∀ v, v < m → (ch v = 0 ↔ lfP m pa v)) {i lf : Nat} (hi : i < m) (hlf : lf < m) : ∀ k, k ≤ m → (itr (hhS kr ch se i lf) k 0 = 0 ↔ ¬ ∃ u, u < k ∧ lfP m pa u ∧ u ≠ i ∧ sb se u i ∧ hgh tn u lf)
  | 0, _ => ⟨fun _ ⟨u, hu, _⟩ => by omega, fun _ => rfl⟩
  | k + 1, hk => by
    have ih := hh_ok h hkr hch hi hlf k (by omega)
    rw [itr_s]
    generalize itr (hhS kr ch se i lf) k 0 = b at *
    unfold hhS
    by_cases e : b = 0
    · have ih2 := ih.mp e
      rw [if_pos e]
      have hH := hig_ne (m := m) hkr h.t16 (show k < m by omega) hlf
      have h1 : lfV ch k = 0 ↔ ¬ lfP m pa k := by
        unfold lfV
        rw [← hch k (by omega)]
        by_cases z : ch k = 0
        · rw [if_pos z]; exact ⟨fun y => absurd y (by decide), fun y => (y z).elim⟩
        · rw [if_neg z]; exact ⟨fun _ => z, fun _ => rfl⟩
      have h2 : blV se k i = 0 ↔ ¬ (k ≠ i ∧ sb se k i) := by
        unfold blV
        by_cases z : k = i
        · rw [if_pos z]; exact ⟨fun _ y => y.1 z, fun _ => rfl⟩
        · rw [if_neg z, ← sb_sub0]; exact ⟨fun y w => y w.2, fun y w => y ⟨z, w⟩⟩
      have key : (if lfV ch k = 0 then (0 : Int32) else if blV se k i = 0 then 0 else if higV kr k lf = 0 then 0 else 1) = 0 ↔ ¬ (lfP m pa k ∧ k ≠ i ∧ sb se k i ∧ hgh tn k lf) := by
        by_cases z1 : lfV ch k = 0
        · rw [if_pos z1]; exact ⟨fun _ y => (h1.mp z1) y.1, fun _ => rfl⟩
        · rw [if_neg z1]
          have y1 : lfP m pa k := Classical.not_not.mp (fun y => z1 (h1.mpr y))
          by_cases z2 : blV se k i = 0
          · rw [if_pos z2]; exact ⟨fun _ y => (h2.mp z2) ⟨y.2.1, y.2.2.1⟩, fun _ => rfl⟩
          · rw [if_neg z2]
            have y2 := Classical.not_not.mp (fun y => z2 (h2.mpr y))
            by_cases z3 : higV kr k lf = 0
            · rw [if_pos z3]; exact ⟨fun _ y => (hH.mpr y.2.2.2) z3, fun _ => rfl⟩
            · rw [if_neg z3]; exact ⟨fun y => absurd y (by decide), fun y => (y ⟨y1, y2.1, y2.2, hH.mp z3⟩).elim⟩
      rw [key]
      constructor
      · rintro a ⟨u, u1, u2⟩
        rcases Nat.lt_or_eq_of_le (Nat.le_of_lt_succ u1) with q | q
        · exact ih2 ⟨u, q, u2⟩
        · subst q; exact a u2
      · exact fun a b => a ⟨k, by omega, b⟩
    · rw [if_neg e]
      have ih2 := Classical.not_not.mp (fun y => e (ih.mpr y))
      obtain ⟨u, u1, u2⟩ := ih2
      exact ⟨fun y => absurd y (by decide), fun y => (y ⟨u, by omega, u2⟩).elim⟩
section PR
variable {kr pr ch na : Nat → Int32} {su P : Nat → Nat}
theorem hh_su (T : TA n m se rk tn pa nd kr pr ch na) (hsu : ∀ v, v < m → isS m se tn pa v (su v)) {x l : Nat} (hx : x < m) (hl : l < m) (hlf : lfP m pa l) (hs : sb se l x) (hnx : ¬ lfP m pa x) : hhV kr ch se m x l = 0 ↔ su x = l := by
  unfold hhV
  rw [hh_ok T.t T.kr T.ch hx hl m (Nat.le_refl _)]
  have h1 := hsu x hx
  constructor
  · intro a
    rcases h1.2.2.2 l hl hlf hs with e | e
    · exact e.symm
    · exact (a ⟨su x, h1.1, h1.2.1, fun z => hnx (by rw [← z]; exact h1.2.1), h1.2.2.1, e⟩).elim
  · rintro e ⟨u, u1, u2, u3, u4, u5⟩
    rcases h1.2.2.2 u u1 u2 u4 with z | z
    · rw [z, e] at u5; exact hgh_ir u5
    · rw [e] at z; exact hgh_as z u5
/-- the nodes between a node's summit and the node have the same summit -/
theorem su_mid (hsu : ∀ v, v < m → isS m se tn pa v (su v)) {w v : Nat} (hw : w < m) (hv : v < m) (h1 : sb se (su v) w) (h2 : sb se w v) : su w = su v := by
  have a := hsu v hv
  exact isS_u (hsu w hw) ⟨a.1, a.2.1, h1, fun l' b1 b2 b3 => a.2.2.2 l' b1 b2 (sb_tr b3 h2)⟩
theorem su_leaf (h : TF n m se rk tn pa nd) (hsu : ∀ v, v < m → isS m se tn pa v (su v)) {l : Nat} (hl : l < m) (hlf : lfP m pa l) : su l = l := h.lf1 hl hlf _ (hsu l hl).1 (hsu l hl).2.2.1
theorem P_mid (h : TF n m se rk tn pa nd) (hsu : ∀ v, v < m → isS m se tn pa v (su v)) (hP : proR m tn pa su P) {v : Nat} (hv : v < m) : ∀ w, w < m → sb se (su v) w → sb se w v → P w = P v := by
  intro w
  induction w using Nat.strongRecOn with
  | ind w ih =>
    intro hw h1 h2
    rcases (h.up hw hv).mp h2 with e | ⟨h0, h3⟩
    · rw [e]
    · have hp := h.pam' h0 hw
      have h4 : sb se (su v) (pa w) := sb_tr h1 (h.pas w h0 hw)
      have e1 := su_mid hsu hw hv h1 h2
      have e2 := su_mid hsu hp hv h4 h3
      rw [hP w hw, if_neg (by omega), if_pos (by rw [e1, e2])]
      exact ih (pa w) (h.pal w h0 hw) hp h4 h3
theorem P_ge (h : TF n m se rk tn pa nd) (hP : proR m tn pa su P) : ∀ w, w < m → tn (su w) - tn w ≤ P w := by
  intro w
  induction w using Nat.strongRecOn with
  | ind w ih =>
    intro hw
    rw [hP w hw]
    split
    · omega
    · have h0 : 0 < w := by omega
      have h1 := h.tnp w h0 hw
      split
      · rename_i e
        have := ih (pa w) (h.pal w h0 hw) (h.pam' h0 hw)
        rw [e] at this
        omega
      · omega
theorem P_le (h : TF n m se rk tn pa nd) (hP : proR m tn pa su P) {v : Nat} (hv : v < m) : ∀ w, w < m → sb se w v → su w ≠ su v → P w ≤ tn (su w) - tn v := by
  intro w
  induction w using Nat.strongRecOn with
  | ind w ih =>
    intro hw h2 hne
    rcases (h.up hw hv).mp h2 with e | ⟨h0, h3⟩
    · exact (hne (by rw [e])).elim
    · have hp := h.pam' h0 hw
      rw [hP w hw, if_neg (by omega)]
      split
      · rename_i e
        have := ih (pa w) (h.pal w h0 hw) hp h3 (by rw [e]; exact hne)
        rw [e] at this
        exact this
      · have := h.tns hp hv h3
        omega
theorem P_17 (h : TF n m se rk tn pa nd) (hsu : ∀ v, v < m → isS m se tn pa v (su v)) (hP : proR m tn pa su P) : ∀ w, w < m → P w < 17 := by
  intro w
  induction w using Nat.strongRecOn with
  | ind w ih =>
    intro hw
    have h1 := h.t16 _ (hsu w hw).1
    rw [hP w hw]
    split
    · omega
    · split
      · exact ih (pa w) (h.pal w (by omega) hw) (h.pam' (by omega) hw)
      · omega
/-- the model's way up from a node with summit l -/
theorem pw_ok (T : TA n m se rk tn pa nd kr pr ch na) (hsu : ∀ v, v < m → isS m se tn pa v (su v)) (hP : proR m tn pa su P) {l : Nat} : ∀ d w, w < m → w ≤ d → su w = l → (pwV pr kr ch se m l d (pr w) = -1 ∧ P w = tn l + 1) ∨ ∃ x, x < m ∧ pwV pr kr ch se m l d (pr w) = nI x ∧ P w = tn l - tn x ∧ tn x ≤ tn l := by
  have h := T.t
  have hm := h.m64
  intro d
  induction d with
  | zero =>
    intro w hw hd e
    have : w = 0 := by omega
    subst this
    left
    rw [T.p0]
    exact ⟨rfl, by rw [hP 0 hw, if_pos rfl, e]⟩
  | succ d ih =>
    intro w hw hd e
    rcases Nat.eq_zero_or_pos w with z | h0
    · subst z
      left
      rw [T.p0]
      exact ⟨by unfold pwV; rw [if_pos rfl], by rw [hP 0 hw, if_pos rfl, e]⟩
    · have hp := h.pam' h0 hw
      have hpl := h.pal w h0 hw
      have hl := hsu w hw
      rw [e] at hl
      have hnx : ¬ lfP m pa (pa w) := fun z => z w h0 hw rfl
      have hh := hh_su T hsu hp hl.1 hl.2.1 (sb_tr hl.2.2.1 (h.pas w h0 hw)) hnx
      have hPw := hP w hw
      rw [if_neg (by omega), e] at hPw
      rw [T.pp w h0 hw]
      unfold pwV
      rw [if_neg (nI_nm1 (by omega)), nI_clamp (by omega)]
      by_cases e2 : su (pa w) = l
      · rw [if_pos (hh.mpr e2), hPw, if_pos e2]
        exact ih (pa w) hp (by omega) e2
      · rw [if_neg (fun z => e2 (hh.mp z)), hPw, if_neg e2]
        right
        refine ⟨pa w, hp, rfl, rfl, ?_⟩
        exact h.tns hl.1 hp (sb_tr hl.2.2.1 (h.pas w h0 hw))
theorem pr_ok (T : TA n m se rk tn pa nd kr pr ch na) (hsu : ∀ v, v < m → isS m se tn pa v (su v)) (hP : proR m tn pa su P) {l : Nat} (hl : l < m) (hlf : lfP m pa l) : prV pr kr ch se m l = nI (P l) := by
  have h := T.t
  have hm := h.m64
  unfold prV
  rcases pw_ok T hsu hP (l := l) l l hl (Nat.le_refl _) (su_leaf h hsu hl hlf) with ⟨a1, a2⟩ | ⟨x, a1, a2, a3, a4⟩
  · rw [if_pos a1, a2, T.kr l hl, nI_1]
  · rw [if_neg (by rw [a2]; exact nI_nm1 (by omega)), a2, nI_clamp (by omega), T.kr l hl, T.kr x a1, pk_sub a4, a3]
theorem bp_ok (T : TA n m se rk tn pa nd kr pr ch na) (hsu : ∀ v, v < m → isS m se tn pa v (su v)) (hP : proR m tn pa su P) {q : Nat → Int32} (hq : ∀ l, l < m → lfP m pa l → q l = nI (P l)) {v : Nat} (hv : v < m) : itr (bpS q ch se v) m 0 = nI (P v) := by
  have h := T.t
  have hm := h.m64
  have key : ∀ k, k ≤ m → ∃ x, x < 17 ∧ itr (bpS q ch se v) k 0 = nI x ∧ (∀ u, u < k → lfP m pa u → sb se u v → P u ≤ x) ∧ (x = 0 ∨ ∃ u, u < k ∧ lfP m pa u ∧ sb se u v ∧ x = P u) := by
    intro k
    induction k with
    | zero => intro _; exact ⟨0, by omega, rfl, fun p hp => by omega, Or.inl rfl⟩
    | succ k ih =>
      intro hk
      obtain ⟨x, x1, x2, x3, x4⟩ := ih (by omega)
      rw [itr_s, x2]
      have hx5 : x = 0 ∨ ∃ u, u < k + 1 ∧ lfP m pa u ∧ sb se u v ∧ x = P u := x4.imp id (fun ⟨p, a1, a2, a3, a4⟩ => ⟨p, by omega, a2, a3, a4⟩)
      have skip : ¬ (lfP m pa k ∧ sb se k v) → ∃ y, y < 17 ∧ nI x = nI y ∧ (∀ u, u < k + 1 → lfP m pa u → sb se u v → P u ≤ y) ∧ (y = 0 ∨ ∃ u, u < k + 1 ∧ lfP m pa u ∧ sb se u v ∧ y = P u) := fun hn => by
        refine ⟨x, x1, rfl, fun u hu a1 a2 => ?_, hx5⟩
        rcases Nat.lt_or_eq_of_le (Nat.le_of_lt_succ hu) with z | z
        · exact x3 u z a1 a2
        · subst z; exact (hn ⟨a1, a2⟩).elim
      have take : lfP m pa k → sb se k v → ∃ y, y < 17 ∧ grV (nI x) (q k) = nI y ∧ (∀ u, u < k + 1 → lfP m pa u → sb se u v → P u ≤ y) ∧ (y = 0 ∨ ∃ u, u < k + 1 ∧ lfP m pa u ∧ sb se u v ∧ y = P u) := fun b1 b2 => by
        have h17 := P_17 h hsu hP k (by omega)
        rw [hq k (by omega) b1, grV_nI (by omega) (by omega)]
        refine ⟨max x (P k), by omega, rfl, fun u hu a1 a2 => ?_, ?_⟩
        · rcases Nat.lt_or_eq_of_le (Nat.le_of_lt_succ hu) with z | z
          · have := x3 u z a1 a2; omega
          · subst z; omega
        · rcases Nat.le_total (P k) x with z | z
          · rw [Nat.max_eq_left z]; exact hx5
          · rw [Nat.max_eq_right z]; exact Or.inr ⟨k, by omega, b1, b2, rfl⟩
      unfold bpS lfV
      by_cases e1 : ch k = 0
      · have b1 := (T.ch k (by omega)).mp e1
        rw [if_pos e1, if_neg (by decide)]
        by_cases e2 : k = v
        · rw [if_pos e2]; exact take b1 (by rw [e2]; exact sb_rf _ _)
        · rw [if_neg e2]
          unfold blV
          rw [if_neg e2]
          by_cases e3 : subV (se k) (se v) = 0
          · rw [if_pos e3]; exact skip (fun z => sb_sub0.mpr e3 z.2)
          · rw [if_neg e3]; exact take b1 (Classical.not_not.mp (fun z => e3 (sb_sub0.mp z)))
      · rw [if_neg e1, if_pos rfl]
        exact skip (fun z => e1 ((T.ch k (by omega)).mpr z.1))
  obtain ⟨x, x1, x2, x3, x4⟩ := key m (Nat.le_refl _)
  rw [x2]
  congr 1
  have hs := hsu v hv
  have e1 : P (su v) = P v := P_mid h hsu hP hv (su v) hs.1 (sb_rf _ _) hs.2.2.1
  have h1 := x3 (su v) hs.1 hs.2.1 hs.2.2.1
  rw [e1] at h1
  rcases x4 with e | ⟨u, u1, u2, u3, u4⟩
  · omega
  · have e2 := su_leaf h hsu u1 u2
    by_cases e3 : u = su v
    · rw [e3, e1] at u4; omega
    · have h2 := P_le h hP hv u u1 u3 (by rw [e2]; exact e3)
      have h3 := P_ge h hP v hv
      rw [e2] at h2
      have h4 : tn u ≤ tn (su v) := by
        rcases hs.2.2.2 u u1 u2 u3 with z | z
        · rw [z]; exact Nat.le_refl _
        · unfold hgh at z; omega
      omega
end PR
end TH

