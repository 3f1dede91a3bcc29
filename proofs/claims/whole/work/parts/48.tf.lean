/-! a tree of nodes, in numbers -/
abbrev sb (se : Nat → Int64) (u v : Nat) : Prop := ∀ q, hb (se u) q = true → hb (se v) q = true
def TF (n m : Nat) (se : Nat → Int64) (rk tn pa nd : Nat → Nat) : Prop := (0 < m) ∧ (m ≤ 64) ∧ (n ≤ 64) ∧ (∀ p, p < n → rk p < 16) ∧ (∀ v q, v < m → hb (se v) q = true → q < n) ∧ (∀ v u x, v ≤ u → u < m → hb (se v) x = true → hb (se u) x = true → sb se u v) ∧ (∀ v u, v < m → u < m → sb se u v → v ≤ u) ∧ (∀ v, v < m → sb se v 0) ∧ (∀ v, 0 < v → v < m → pa v < v) ∧ (∀ v, 0 < v → v < m → sb se v (pa v)) ∧ (∀ v u, 0 < v → v < m → u < v → sb se v u → u ≤ pa v) ∧ (∀ v u, v ≤ u → u < m → tn v ≤ tn u) ∧ (∀ v, 0 < v → v < m → tn (pa v) < tn v) ∧ (∀ v, v < m → tn v < 16) ∧ (∀ p, p < n → nd p < m) ∧ (∀ v p, v < m → p < n → (hb (se v) p = true ↔ sb se (nd p) v)) ∧ (∀ p, p < n → rk p = tn (nd p)) ∧ (∀ v, v < m → ∃ p, p < n ∧ nd p = v)
theorem TF.m0 {n m : Nat} {se : Nat → Int64} {rk tn pa nd : Nat → Nat} (h_ : TF n m se rk tn pa nd) : 0 < m := h_.1
theorem TF.m64 {n m : Nat} {se : Nat → Int64} {rk tn pa nd : Nat → Nat} (h_ : TF n m se rk tn pa nd) : m ≤ 64 := h_.2.1
theorem TF.n64 {n m : Nat} {se : Nat → Int64} {rk tn pa nd : Nat → Nat} (h_ : TF n m se rk tn pa nd) : n ≤ 64 := h_.2.2.1
theorem TF.r16 {n m : Nat} {se : Nat → Int64} {rk tn pa nd : Nat → Nat} (h_ : TF n m se rk tn pa nd) : ∀ p, p < n → rk p < 16 := h_.2.2.2.1
theorem TF.px {n m : Nat} {se : Nat → Int64} {rk tn pa nd : Nat → Nat} (h_ : TF n m se rk tn pa nd) : ∀ v q, v < m → hb (se v) q = true → q < n := h_.2.2.2.2.1
theorem TF.lam {n m : Nat} {se : Nat → Int64} {rk tn pa nd : Nat → Nat} (h_ : TF n m se rk tn pa nd) : ∀ v u x, v ≤ u → u < m → hb (se v) x = true → hb (se u) x = true → sb se u v := h_.2.2.2.2.2.1
theorem TF.str {n m : Nat} {se : Nat → Int64} {rk tn pa nd : Nat → Nat} (h_ : TF n m se rk tn pa nd) : ∀ v u, v < m → u < m → sb se u v → v ≤ u := h_.2.2.2.2.2.2.1
theorem TF.root {n m : Nat} {se : Nat → Int64} {rk tn pa nd : Nat → Nat} (h_ : TF n m se rk tn pa nd) : ∀ v, v < m → sb se v 0 := h_.2.2.2.2.2.2.2.1
theorem TF.pal {n m : Nat} {se : Nat → Int64} {rk tn pa nd : Nat → Nat} (h_ : TF n m se rk tn pa nd) : ∀ v, 0 < v → v < m → pa v < v := h_.2.2.2.2.2.2.2.2.1
theorem TF.pas {n m : Nat} {se : Nat → Int64} {rk tn pa nd : Nat → Nat} (h_ : TF n m se rk tn pa nd) : ∀ v, 0 < v → v < m → sb se v (pa v) := h_.2.2.2.2.2.2.2.2.2.1
theorem TF.pam {n m : Nat} {se : Nat → Int64} {rk tn pa nd : Nat → Nat} (h_ : TF n m se rk tn pa nd) : ∀ v u, 0 < v → v < m → u < v → sb se v u → u ≤ pa v := h_.2.2.2.2.2.2.2.2.2.2.1
theorem TF.tnm {n m : Nat} {se : Nat → Int64} {rk tn pa nd : Nat → Nat} (h_ : TF n m se rk tn pa nd) : ∀ v u, v ≤ u → u < m → tn v ≤ tn u := h_.2.2.2.2.2.2.2.2.2.2.2.1
theorem TF.tnp {n m : Nat} {se : Nat → Int64} {rk tn pa nd : Nat → Nat} (h_ : TF n m se rk tn pa nd) : ∀ v, 0 < v → v < m → tn (pa v) < tn v := h_.2.2.2.2.2.2.2.2.2.2.2.2.1
theorem TF.t16 {n m : Nat} {se : Nat → Int64} {rk tn pa nd : Nat → Nat} (h_ : TF n m se rk tn pa nd) : ∀ v, v < m → tn v < 16 := h_.2.2.2.2.2.2.2.2.2.2.2.2.2.1
theorem TF.ndl {n m : Nat} {se : Nat → Int64} {rk tn pa nd : Nat → Nat} (h_ : TF n m se rk tn pa nd) : ∀ p, p < n → nd p < m := h_.2.2.2.2.2.2.2.2.2.2.2.2.2.2.1
theorem TF.ndh {n m : Nat} {se : Nat → Int64} {rk tn pa nd : Nat → Nat} (h_ : TF n m se rk tn pa nd) : ∀ v p, v < m → p < n → (hb (se v) p = true ↔ sb se (nd p) v) := h_.2.2.2.2.2.2.2.2.2.2.2.2.2.2.2.1
theorem TF.ndr {n m : Nat} {se : Nat → Int64} {rk tn pa nd : Nat → Nat} (h_ : TF n m se rk tn pa nd) : ∀ p, p < n → rk p = tn (nd p) := h_.2.2.2.2.2.2.2.2.2.2.2.2.2.2.2.2.1
theorem TF.own {n m : Nat} {se : Nat → Int64} {rk tn pa nd : Nat → Nat} (h_ : TF n m se rk tn pa nd) : ∀ v, v < m → ∃ p, p < n ∧ nd p = v := h_.2.2.2.2.2.2.2.2.2.2.2.2.2.2.2.2.2
theorem TF.mk' {n m : Nat} {se : Nat → Int64} {rk tn pa nd : Nat → Nat} (m0 : 0 < m) (m64 : m ≤ 64) (n64 : n ≤ 64) (r16 : ∀ p, p < n → rk p < 16) (px : ∀ v q, v < m → hb (se v) q = true → q < n) (lam : ∀ v u x, v ≤ u → u < m → hb (se v) x = true → hb (se u) x = true → sb se u v) (str : ∀ v u, v < m → u < m → sb se u v → v ≤ u) (root : ∀ v, v < m → sb se v 0) (pal : ∀ v, 0 < v → v < m → pa v < v) (pas : ∀ v, 0 < v → v < m → sb se v (pa v)) (pam : ∀ v u, 0 < v → v < m → u < v → sb se v u → u ≤ pa v) (tnm : ∀ v u, v ≤ u → u < m → tn v ≤ tn u) (tnp : ∀ v, 0 < v → v < m → tn (pa v) < tn v) (t16 : ∀ v, v < m → tn v < 16) (ndl : ∀ p, p < n → nd p < m) (ndh : ∀ v p, v < m → p < n → (hb (se v) p = true ↔ sb se (nd p) v)) (ndr : ∀ p, p < n → rk p = tn (nd p)) (own : ∀ v, v < m → ∃ p, p < n ∧ nd p = v) : TF n m se rk tn pa nd := ⟨m0, m64, n64, r16, px, lam, str, root, pal, pas, pam, tnm, tnp, t16, ndl, ndh, ndr, own⟩
theorem sb_rf (se : Nat → Int64) (u : Nat) : sb se u u := fun _ h => h
theorem sb_tr {se : Nat → Int64} {a b d : Nat} (h : sb se a b) (h1 : sb se b d) : sb se a d := fun q z => h1 q (h q z)
theorem sb_sub {se : Nat → Int64} {u v : Nat} : sb se u v ↔ subV (se u) (se v) = 1 := (subV1 _ _).symm
theorem sb_sub0 {se : Nat → Int64} {u v : Nat} : ¬ sb se u v ↔ subV (se u) (se v) = 0 := by
  rw [sb_sub]
  rcases subV01 (se u) (se v) with z | z <;> rw [z] <;> decide
section TF
variable {n m : Nat} {se : Nat → Int64} {rk tn pa nd : Nat → Nat}
theorem TF.ne (h : TF n m se rk tn pa nd) {v : Nat} (hv : v < m) : ∃ p, p < n ∧ nd p = v ∧ hb (se v) p = true := by
  obtain ⟨p, h1, h2⟩ := h.own v hv
  exact ⟨p, h1, h2, (h.ndh v p hv h1).mpr (by rw [h2]; exact sb_rf _ _)⟩
theorem TF.lamS (h : TF n m se rk tn pa nd) {u a b : Nat} (hu : u < m) (hb' : b < m) (hab : a ≤ b) (h1 : sb se u a) (h2 : sb se u b) : sb se b a := by
  obtain ⟨p, _, _, h3⟩ := h.ne hu
  exact h.lam a b p hab hb' (h1 p h3) (h2 p h3)
theorem TF.up (h : TF n m se rk tn pa nd) {v u : Nat} (hv : v < m) (hu : u < m) : sb se v u ↔ (u = v ∨ (0 < v ∧ sb se (pa v) u)) := by
  constructor
  · intro hs
    have h1 := h.str u v hu hv hs
    rcases Nat.lt_or_eq_of_le h1 with e | e
    · right
      have h0 : 0 < v := by omega
      exact ⟨h0, h.lamS hv (Nat.lt_trans (h.pal v h0 hv) hv) (h.pam v u h0 hv e hs) hs (h.pas v h0 hv)⟩
    · exact Or.inl e
  · rintro (e | ⟨e, h1⟩)
    · subst e; exact sb_rf _ _
    · exact sb_tr (h.pas v e hv) h1
theorem TF.pan (h : TF n m se rk tn pa nd) {v : Nat} (h0 : 0 < v) (hv : v < m) : ¬ sb se (pa v) v := fun z => by
  have := h.str v (pa v) hv (Nat.lt_trans (h.pal v h0 hv) hv) z
  have := h.pal v h0 hv
  omega
theorem TF.pam' (h : TF n m se rk tn pa nd) {v : Nat} (h0 : 0 < v) (hv : v < m) : pa v < m := Nat.lt_trans (h.pal v h0 hv) hv
theorem TF.tns (h : TF n m se rk tn pa nd) {u v : Nat} (hu : u < m) (hv : v < m) (hs : sb se u v) : tn v ≤ tn u := h.tnm v u (h.str v u hv hu hs) hu
theorem TF.pn (h : TF n m se rk tn pa nd) {p : Nat} (hp : p < n) : hb (se (nd p)) p = true := (h.ndh _ p (h.ndl p hp) hp).mpr (sb_rf _ _)
end TF
theorem NT_TF {c r n m : Nat} {ei : Int32} {rk : Nat → Nat} {se : Nat → Int64} {kr : Nat → Int32} {tn pn : Nat → Nat} (hg : gOK c r n) (hr : rOK rk n) (h : NT c r n ei rk 16 0 m se kr tn pn) : TF n m se rk tn (fun v => (par se v).toNatClampNeg) (fun p => (lastV (fun u => hasV (se u) p) m).toNatClampNeg) := by
  have hm64 := NT_64 hg hr h
  have hpar : ∀ v, 0 < v → v < m → ∃ a, a < v ∧ (par se v).toNatClampNeg = a ∧ subV (se v) (se a) = 1 ∧ ∀ u, a < u → u < v → subV (se v) (se u) = 0 := fun v h0 hv => by
    obtain ⟨a, a1, a2, a3, a4⟩ := par_pos hg hr h h0 hv
    exact ⟨a, a1, by rw [a2]; exact nI_clamp (by omega), a3, a4⟩
  have hnd : ∀ p, p < n → ∃ v, v < m ∧ (lastV (fun u => hasV (se u) p) m).toNatClampNeg = v ∧ tn v = rk p ∧ hb (se v) p = true := fun p hp => by
    obtain ⟨v, v1, v2, v3⟩ := NT_nd hg hr h hp
    exact ⟨v, v1, by rw [NT_last hg hr h hp v1 v2 v3]; exact nI_clamp (by omega), v2, v3⟩
  have hlam : ∀ v u x, v ≤ u → u < m → hb (se v) x = true → hb (se u) x = true → sb se u v := fun v u x h1 h2 h3 h4 => by
    rcases Nat.lt_or_eq_of_le h1 with e | e
    · exact fun y hy => NT_lam hg hr h e h2 h3 h4 hy
    · subst e; exact sb_rf _ _
  refine (TF.mk'
      (m0 := (NT_root hg hr h).1)
      (m64 := hm64)
      (n64 := hg.n.2)
      (r16 := hr)
      (px := fun v q hv hq => (NT_px hg hr h hv hq).1)
      (lam := hlam)
      (str := ?_)
      (root := ?_)
      (pal := ?_)
      (pas := ?_)
      (pam := ?_)
      (tnm := ?_)
      (tnp := ?_)
      (t16 := fun v hv => (h.1 v hv).1)
      (ndl := ?_)
      (ndh := ?_)
      (ndr := ?_)
      (own := ?_))
  · intro v u hv hu hs
    rcases Nat.lt_or_ge u v with e | e
    · exact (NT_str hg hr h e hv hs).elim
    · exact e
  · intro v hv q hq
    exact (NT_root hg hr h).2 q (NT_px hg hr h hv hq).1
  · intro v h0 hv
    obtain ⟨a, a1, a2, a3, a4⟩ := hpar v h0 hv
    simp only [a2]; exact a1
  · intro v h0 hv
    obtain ⟨a, a1, a2, a3, a4⟩ := hpar v h0 hv
    simp only [a2]; exact (subV1 _ _).mp a3
  · intro v u h0 hv hu hs
    obtain ⟨a, a1, a2, a3, a4⟩ := hpar v h0 hv
    simp only [a2]
    rcases Nat.lt_or_ge a u with e | e
    · have := a4 u e hu
      rw [(subV1 _ _).mpr hs] at this
      exact absurd this (by decide)
    · exact e
  · intro v u h1 h2
    rcases Nat.lt_or_eq_of_le h1 with e | e
    · exact NT_tn h e h2
    · subst e; exact Nat.le_refl _
  · intro v h0 hv
    obtain ⟨a, a1, a2, a3, a4⟩ := hpar v h0 hv
    simp only [a2]
    rcases Nat.lt_or_eq_of_le (NT_tn h a1 hv) with e | e
    · exact e
    · have h1 := NT_ne hg hr h hv
      exact (NT_dj hg hr h a1 hv e ((subV1 _ _).mp a3 _ h1) h1).elim
  · intro p hp
    obtain ⟨v, v1, v2, v3, v4⟩ := hnd p hp
    simp only [v2]; exact v1
  · intro v p hv hp
    obtain ⟨w, w1, w2, w3, w4⟩ := hnd p hp
    simp only [w2]
    constructor
    · intro hq
      rcases Nat.lt_or_ge w v with e | e
      · have h1 := NT_tn h e hv
        have h2 := (NT_px hg hr h hv hq).2
        exact (NT_dj hg hr h e hv (by omega) w4 hq).elim
      · exact hlam v w p e w1 hq w4
    · exact fun hs => hs p w4
  · intro p hp
    obtain ⟨w, w1, w2, w3, w4⟩ := hnd p hp
    simp only [w2]; omega
  · intro v hv
    obtain ⟨i1, i2, q, i3, i4⟩ := (h.1 v hv).2.2.2.1
    have h1 := (NT_ex hg hr h hv q).mpr i3
    have h2 := (NT_px hg hr h hv h1).1
    exact ⟨q, h2, by simp only [NT_last hg hr h h2 hv i4.symm h1]; exact nI_clamp (by omega)⟩
theorem NT_par {c r n m : Nat} {ei : Int32} {rk : Nat → Nat} {se : Nat → Int64} {kr : Nat → Int32} {tn pn : Nat → Nat} (hg : gOK c r n) (hr : rOK rk n) (h : NT c r n ei rk 16 0 m se kr tn pn) {v : Nat} (h0 : 0 < v) (hv : v < m) : par se v = nI (par se v).toNatClampNeg := by
  have hm64 := NT_64 hg hr h
  obtain ⟨a, a1, a2, a3, a4⟩ := par_pos hg hr h h0 hv
  rw [a2, nI_clamp (by omega)]
theorem NT_nn {c r n m : Nat} {ei : Int32} {rk : Nat → Nat} {se : Nat → Int64} {kr : Nat → Int32} {tn pn : Nat → Nat} (hg : gOK c r n) (hr : rOK rk n) (h : NT c r n ei rk 16 0 m se kr tn pn) {p : Nat} (hp : p < n) : lastV (fun u => hasV (se u) p) m = nI (lastV (fun u => hasV (se u) p) m).toNatClampNeg := by
  have hm64 := NT_64 hg hr h
  obtain ⟨v, v1, v2, v3⟩ := NT_nd hg hr h hp
  rw [NT_last hg hr h hp v1 v2 v3, nI_clamp (by omega)]
/-! sums -/
def nsum (f : Nat → Nat) : Nat → Nat
  | 0 => 0
  | k + 1 => nsum f k + f k
theorem isum_n {g : Nat → Int32} {f : Nat → Nat} : ∀ k, (∀ u, u < k → g u = nI (f u)) → isum g k = nI (nsum f k)
  | 0, _ => rfl
  | k + 1, h => by unfold isum nsum; rw [isum_n k (fun u hu => h u (by omega)), h k (by omega), nI_add]
theorem nsum_cg {f g : Nat → Nat} : ∀ k, (∀ u, u < k → f u = g u) → nsum f k = nsum g k
  | 0, _ => rfl
  | k + 1, h => by unfold nsum; rw [nsum_cg k (fun u hu => h u (by omega)), h k (by omega)]
theorem nsum_le {f : Nat → Nat} {b : Nat} : ∀ k, (∀ u, u < k → f u ≤ b) → nsum f k ≤ b * k
  | 0, _ => Nat.zero_le _
  | k + 1, h => by
    have := nsum_le k (fun u hu => h u (by omega))
    have := h k (by omega)
    unfold nsum
    rw [Nat.mul_succ]
    omega
theorem nsum_mo {f g : Nat → Nat} : ∀ k, (∀ u, u < k → f u ≤ g u) → nsum f k ≤ nsum g k
  | 0, _ => Nat.le_refl _
  | k + 1, h => by
    have := nsum_mo k (fun u hu => h u (by omega))
    have := h k (by omega)
    unfold nsum
    omega
theorem nsum_z {f : Nat → Nat} : ∀ k, nsum f k = 0 ↔ ∀ u, u < k → f u = 0
  | 0 => ⟨fun _ u hu => by omega, fun _ => rfl⟩
  | k + 1 => by
    unfold nsum
    have ih := nsum_z (f := f) k
    constructor
    · intro h u hu
      rcases Nat.lt_or_eq_of_le (Nat.le_of_lt_succ hu) with e | e
      · exact ih.mp (by omega) u e
      · subst e; omega
    · intro h
      have := ih.mpr (fun u hu => h u (by omega))
      have := h k (by omega)
      omega
theorem isum_add (f g : Nat → Int32) : ∀ k, isum (fun u => f u + g u) k = isum f k + isum g k
  | 0 => by unfold isum; rfl
  | k + 1 => by
    unfold isum
    rw [isum_add f g k]
    ac_rfl
theorem isum_tail {f : Nat → Int32} {n : Nat} : ∀ d, (∀ u, n ≤ u → u < n + d → f u = 0) → isum f (n + d) = isum f n
  | 0, _ => rfl
  | d + 1, h => by
    rw [← Nat.add_assoc]
    show isum f (n + d) + f (n + d) = _
    rw [isum_tail d (fun u h1 h2 => h u h1 (by omega)), h (n + d) (by omega) (by omega), Int32.add_zero]
theorem isum_one {f : Nat → Int32} {a : Nat} : ∀ k, a < k → (∀ u, u < k → u ≠ a → f u = 0) → isum f k = f a
  | 0, h, _ => by omega
  | k + 1, h, hz => by
    unfold isum
    rcases Nat.lt_or_eq_of_le (Nat.le_of_lt_succ h) with e | e
    · rw [isum_one k e (fun u h1 h2 => hz u (by omega) h2), hz k (by omega) (by omega), Int32.add_zero]
    · subst e
      rw [isum_0 a (fun u hu => hz u (by omega) (by omega)), Int32.zero_add]
noncomputable def ind (P : Prop) (x : Int32) : Int32 := @ite _ P (Classical.propDecidable P) x 0
theorem ind_t {P : Prop} (h : P) (x : Int32) : ind P x = x := if_pos h
theorem ind_f {P : Prop} (h : ¬ P) (x : Int32) : ind P x = 0 := if_neg h
theorem ind_cg {P Q : Prop} (h : P ↔ Q) (x : Int32) : ind P x = ind Q x := by
  by_cases e : P
  · rw [ind_t e, ind_t (h.mp e)]
  · rw [ind_f e, ind_f (fun z => e (h.mpr z))]
theorem ind_or {P Q R : Prop} (h : R ↔ P ∨ Q) (hd : P → Q → False) (x : Int32) : ind R x = ind P x + ind Q x := by
  by_cases e : P
  · rw [ind_t e, ind_t (h.mpr (Or.inl e)), ind_f (fun z => hd e z), Int32.add_zero]
  · by_cases e2 : Q
    · rw [ind_f e, ind_t e2, ind_t (h.mpr (Or.inr e2)), Int32.zero_add]
    · rw [ind_f e, ind_f e2, ind_f (fun z => (h.mp z).elim e e2)]; rfl
/-- over the nodes by their own pixels = over the pixels -/
theorem own_sum {nd : Nat → Nat} {m : Nat} (hm : m < 2 ^ 31) (f : Nat → Int32) : ∀ n, (∀ p, p < n → nd p < m) → isum (fun u => owV (fun p => nI (nd p)) (nI u) n * f u) m = isum (fun p => f (nd p)) n
  | 0, _ => isum_0 m (fun u _ => by unfold owV isum; exact Int32.zero_mul)
  | n + 1, h => by
    have ih := own_sum hm f n (fun p hp => h p (by omega))
    have hn := h n (by omega)
    have e : isum (fun u => owV (fun p => nI (nd p)) (nI u) (n + 1) * f u) m = isum (fun u => owV (fun p => nI (nd p)) (nI u) n * f u + (if u = nd n then f u else 0)) m := isum_cg m (fun u hu => by
      show (owV (fun p => nI (nd p)) (nI u) n + (if nI (nd n) = nI u then 1 else 0)) * f u = _
      rw [Int32.add_mul]
      congr 1
      by_cases e : u = nd n
      · subst e; rw [if_pos rfl, if_pos rfl, Int32.one_mul]
      · rw [if_neg e, if_neg (fun z => e ((nI_eq (by omega) (by omega)).mp z).symm), Int32.zero_mul])
    rw [e, isum_add, ih]
    conv => rhs; unfold isum
    congr 1
    rw [isum_one m hn (fun u _ h2 => if_neg h2), if_pos rfl]
theorem isum_mul (x : Int32) (f : Nat → Int32) : ∀ k, isum (fun u => x * f u) k = x * isum f k
  | 0 => by unfold isum; exact Int32.mul_zero.symm
  | k + 1 => by unfold isum; rw [isum_mul x f k, Int32.mul_add]
/-! going down over all nodes, each into its parent -/
def Rj (se : Nat → Int64) (j u w : Nat) : Prop := sb se u w ∧ ∀ x, w < x → x ≤ j → ¬ sb se u x
section TG
variable {n m : Nat} {se : Nat → Int64} {rk tn pa nd : Nat → Nat}
theorem Rj_top (h : TF n m se rk tn pa nd) {u w : Nat} (hu : u < m) (hw : w < m) : Rj se (m - 1) u w ↔ u = w := by
  constructor
  · rintro ⟨h1, h2⟩
    have h3 := h.str w u hw hu h1
    rcases Nat.lt_or_eq_of_le h3 with e | e
    · exact (h2 u e (by omega) (sb_rf _ _)).elim
    · exact e.symm
  · intro e
    subst e
    exact ⟨sb_rf _ _, fun x h1 h2 h3 => by have := h.str x u (by omega) hu h3; omega⟩
theorem Rj_0 {u w : Nat} : Rj se 0 u w ↔ sb se u w := ⟨fun h => h.1, fun h => ⟨h, fun x h1 h2 => by omega⟩⟩
theorem Rj_s (h : TF n m se rk tn pa nd) {j u w : Nat} (hj : j + 1 < m) (hu : u < m) (hw : w < m) : Rj se j u w ↔ (Rj se (j + 1) u w ∨ (w = pa (j + 1) ∧ Rj se (j + 1) u (j + 1))) := by
  have hp := h.pal (j + 1) (by omega) hj
  constructor
  · rintro ⟨h1, h2⟩
    by_cases e : w < j + 1 ∧ sb se u (j + 1)
    · right
      obtain ⟨e1, e2⟩ := e
      have h3 : w ≤ pa (j + 1) := h.pam (j + 1) w (by omega) hj e1 (h.lamS hu hj (by omega) h1 e2)
      have h4 : sb se u (pa (j + 1)) := sb_tr e2 (h.pas (j + 1) (by omega) hj)
      refine ⟨?_, e2, fun x a1 a2 => by omega⟩
      rcases Nat.lt_or_eq_of_le h3 with z | z
      · exact (h2 _ z (by omega) h4).elim
      · exact z
    · left
      refine ⟨h1, fun x a1 a2 a3 => ?_⟩
      rcases Nat.lt_or_eq_of_le a2 with z | z
      · exact h2 x a1 (by omega) a3
      · subst z; exact e ⟨a1, a3⟩
  · rintro (⟨h1, h2⟩ | ⟨h1, h2, h3⟩)
    · exact ⟨h1, fun x a1 a2 => h2 x a1 (by omega)⟩
    · subst h1
      refine ⟨sb_tr h2 (h.pas (j + 1) (by omega) hj), fun x a1 a2 a3 => ?_⟩
      have := h.pam (j + 1) x (by omega) hj (by omega) (h.lamS hu hj (by omega) a3 h2)
      omega
theorem dit_ex (h : TF n m se rk tn pa nd) {Pr : Int32 → Prop} {I : Nat → (Nat → Int32) → Prop} {step : Nat → (Nat → Int32) → (Nat → Int32)} (hI : ∀ v s, v + 1 < m → I (v + 1) s → I v (step (v + 1) s)) (hs : ∀ v s, v + 1 < m → I (v + 1) s → ∀ w, w < m → (Pr (step (v + 1) s w) ↔ (Pr (s w) ∨ (w = pa (v + 1) ∧ Pr (s (v + 1)))))) {s0 : Nat → Int32} (h0 : I (m - 1) s0) : I 0 (dit step (m - 1) s0) ∧ ∀ w, w < m → (Pr (dit step (m - 1) s0 w) ↔ ∃ u, u < m ∧ sb se u w ∧ Pr (s0 u)) := by
  have key : ∀ j s, j < m → I j s → (∀ w, w < m → (Pr (s w) ↔ ∃ u, u < m ∧ Rj se j u w ∧ Pr (s0 u))) → I 0 (dit step j s) ∧ ∀ w, w < m → (Pr (dit step j s w) ↔ ∃ u, u < m ∧ sb se u w ∧ Pr (s0 u)) := by
    intro j
    induction j with
    | zero =>
      intro s _ h1 h2
      refine ⟨h1, fun w hw => ?_⟩
      show Pr (s w) ↔ _
      rw [h2 w hw]
      exact ⟨fun ⟨u, a1, a2, a3⟩ => ⟨u, a1, Rj_0.mp a2, a3⟩, fun ⟨u, a1, a2, a3⟩ => ⟨u, a1, Rj_0.mpr a2, a3⟩⟩
    | succ j ih =>
      intro s hj h1 h2
      show I 0 (dit step j (step (j + 1) s)) ∧ _
      refine ih (step (j + 1) s) (by omega) (hI j s hj h1) (fun w hw => ?_)
      rw [hs j s hj h1 w hw, h2 w hw, h2 (j + 1) hj]
      constructor
      · rintro (⟨u, a1, a2, a3⟩ | ⟨e, u, a1, a2, a3⟩)
        · exact ⟨u, a1, (Rj_s h hj a1 hw).mpr (Or.inl a2), a3⟩
        · exact ⟨u, a1, (Rj_s h hj a1 hw).mpr (Or.inr ⟨e, a2⟩), a3⟩
      · rintro ⟨u, a1, a2, a3⟩
        rcases (Rj_s h hj a1 hw).mp a2 with z | ⟨z1, z2⟩
        · exact Or.inl ⟨u, a1, z, a3⟩
        · exact Or.inr ⟨z1, u, a1, z2, a3⟩
  have hm0 := h.m0
  refine key (m - 1) s0 (by omega) h0 (fun w hw => ?_)
  constructor
  · intro z
    exact ⟨w, hw, (Rj_top h hw hw).mpr rfl, z⟩
  · rintro ⟨u, a1, a2, a3⟩
    rw [← (Rj_top h a1 hw).mp a2]; exact a3
theorem dit_sum (h : TF n m se rk tn pa nd) {s0 : Nat → Int32} : ∀ w, w < m → dit (smS pa) (m - 1) s0 w = isum (fun u => ind (sb se u w) (s0 u)) m := by
  have key : ∀ j s, j < m → (∀ w, w < m → s w = isum (fun u => ind (Rj se j u w) (s0 u)) m) → ∀ w, w < m → dit (smS pa) j s w = isum (fun u => ind (sb se u w) (s0 u)) m := by
    intro j
    induction j with
    | zero =>
      intro s _ h2 w hw
      show s w = _
      rw [h2 w hw]
      exact isum_cg m (fun u _ => ind_cg Rj_0 _)
    | succ j ih =>
      intro s hj h2
      show ∀ w, w < m → dit (smS pa) j (smS pa (j + 1) s) w = _
      refine ih _ (by omega) (fun w hw => ?_)
      have hp := h.pal (j + 1) (by omega) hj
      unfold smS
      by_cases e : w = pa (j + 1)
      · subst e
        rw [up_s, h2 _ hw, h2 _ hj, ← isum_add]
        refine isum_cg m (fun u hu => (ind_or ?_ ?_ _).symm)
        · rw [Rj_s h hj hu hw]
          exact or_congr Iff.rfl (and_iff_right rfl)
        · exact fun a1 a2 => a1.2 (j + 1) hp (Nat.le_refl _) a2.1
      · rw [up_n _ _ e, h2 w hw]
        refine isum_cg m (fun u hu => ind_cg ?_ _)
        rw [Rj_s h hj hu hw]
        exact ⟨fun z => Or.inl z, fun z => z.resolve_right (fun y => e y.1)⟩
  have hm0 := h.m0
  refine key (m - 1) s0 (by omega) (fun w hw => ?_)
  rw [isum_one m hw (fun u hu hne => ind_f (fun z => hne ((Rj_top h hu hw).mp z)) _), ind_t ((Rj_top h hw hw).mpr rfl)]
end TG

