/-! the nodes of an image: components that have a pixel of just their rank -/
def gOK (c r n : Nat) : Prop := 0 < c ∧ c ≤ 8 ∧ 0 < r ∧ r ≤ 8 ∧ c * r = n
theorem gOK.n {c r n : Nat} (h : gOK c r n) : 0 < n ∧ n ≤ 64 := by
  obtain ⟨h1, h2, h3, h4, h5⟩ := h
  subst h5
  exact ⟨Nat.mul_pos h1 h3, Nat.mul_le_mul h2 h4⟩
def rOK (rk : Nat → Nat) (n : Nat) : Prop := ∀ p, p < n → rk p < 16
abbrev inS (rk : Nat → Nat) (n t : Nat) (q : Nat) : Prop := q < n ∧ t ≤ rk q
abbrev cn (c n : Nat) (ei : Int32) (rk : Nat → Nat) (t p q : Nat) : Prop := rch (nbr c ei) (inS rk n t) p q
def Sg (rk : Nat → Nat) (n t : Nat) : Int64 := ofV (fun p => nI (rk p)) (nI t) n
def Sl (rk : Nat → Nat) (n t : Nat) : Int64 := Sg rk n t &&& (Sg rk n (t + 1) ^^^ -1)
def Cp (c r n : Nat) (ei : Int32) (rk : Nat → Nat) (t p : Nat) : Int64 := cpV c r ei (Sg rk n t) p
def cand (c n : Nat) (ei : Int32) (rk : Nat → Nat) (t p : Nat) : Prop := inS rk n t p ∧ (∀ q, q < p → ¬ cn c n ei rk t p q) ∧ ∃ q, cn c n ei rk t p q ∧ rk q = t
section ND
variable {c r n : Nat} {ei : Int32} {rk : Nat → Nat}
theorem hb_Sg (hg : gOK c r n) (hr : rOK rk n) {t : Nat} (ht : t ≤ 16) (q : Nat) : hb (Sg rk n t) q = true ↔ inS rk n t q := by
  unfold Sg
  rw [hb_of hg.n.2]
  constructor
  · rintro ⟨h1, h2⟩
    have := hr q h1
    refine ⟨h1, ?_⟩
    rw [nI_ltI (by omega) (by omega)] at h2
    omega
  · rintro ⟨h1, h2⟩
    have := hr q h1
    refine ⟨h1, ?_⟩
    rw [nI_ltI (by omega) (by omega)]
    omega
theorem hb_Sl (hg : gOK c r n) (hr : rOK rk n) {t : Nat} (ht : t < 16) (q : Nat) : hb (Sl rk n t) q = true ↔ (q < n ∧ rk q = t) := by
  unfold Sl
  rw [hb_and, Bool.and_eq_true, hb_Sg hg hr (by omega), hb_not, Bool.and_eq_true, decide_eq_true_eq, Bool.not_eq_true']
  have h64 := hg.n.2
  have h2 := hb_Sg hg hr (t := t + 1) (by omega) q
  constructor
  · rintro ⟨⟨h1, h3⟩, h4, h5⟩
    refine ⟨h1, ?_⟩
    rcases Nat.lt_or_ge t (rk q) with e | e
    · rw [h2.mpr ⟨h1, e⟩] at h5; exact absurd h5 (by decide)
    · omega
  · rintro ⟨h1, h3⟩
    refine ⟨⟨h1, by omega⟩, by omega, ?_⟩
    cases e : hb (Sg rk n (t + 1)) q
    · rfl
    · have := (h2.mp e).2; omega
theorem hb_Cp (hg : gOK c r n) (hr : rOK rk n) {t p : Nat} (ht : t ≤ 16) (hp : inS rk n t p) (q : Nat) : hb (Cp c r n ei rk t p) q = true ↔ cn c n ei rk t p q := by
  unfold Cp
  have hS := fun q => hb_Sg hg hr ht q
  obtain ⟨g1, g2, g3, g4, g5⟩ := hg
  rw [cp_rch g1 g2 g4 (fun q h => by rw [g5]; exact ((hS q).mp h).1) ei ((hS p).mpr hp) q]
  exact rch_cg (fun q => hS q)
theorem cn_in {t p q : Nat} (hp : inS rk n t p) (h : cn c n ei rk t p q) : inS rk n t q := rch_S h hp
theorem cn_sy {t p q : Nat} (hp : inS rk n t p) (h : cn c n ei rk t p q) : cn c n ei rk t q p := rch_sy (fun _ _ h => nbr_sym h) h hp
theorem cn_mo {t t' p q : Nat} (ht : t' ≤ t) (h : cn c n ei rk t p q) : cn c n ei rk t' p q := rch_mo (fun q hq => ⟨hq.1, Nat.le_trans ht hq.2⟩) h
/-- the model's step adds just the candidates -/
theorem lr_cand (hg : gOK c r n) (hr : rOK rk n) {t p : Nat} (ht : t < 16) (hp : p < n) (q : tT) (h : cand c n ei rk t p) : lrS c r ei (Sg rk n t) (Sl rk n t) (nI t) p q = (q.1 + 1, vp_updL q.2.1 q.1 (Cp c r n ei rk t p), upd q.2.2 q.1 (nI t)) := by
  have h64 := hg.n.2
  obtain ⟨h1, h2, q0, h3, h4⟩ := h
  have hC : lrC c r ei (Sg rk n t) p = Cp c r n ei rk t p := by
    unfold lrC
    rw [if_neg (fun z => by rw [hasM0 _ (by omega), (hb_Sg hg hr (by omega) p).mpr h1] at z; exact absurd z (by decide))]
    rfl
  unfold lrS
  rw [hC, if_pos ?_, if_neg ?_]
  · intro z
    rw [and0] at z
    exact z q0 ((hb_Cp hg hr (by omega) h1 q0).mpr h3) ((hb_Sl hg hr ht q0).mpr ⟨(cn_in h1 h3).1, h4⟩)
  · rw [and0]
    intro q e1 e2
    rw [hb_low (by omega), decide_eq_true_eq] at e2
    exact h2 q e2 ((hb_Cp hg hr (by omega) h1 q).mp e1)
theorem lr_ncand (hg : gOK c r n) (hr : rOK rk n) {t p : Nat} (ht : t < 16) (hp : p < n) (q : tT) (h : ¬ cand c n ei rk t p) : lrS c r ei (Sg rk n t) (Sl rk n t) (nI t) p q = q := by
  have h64 := hg.n.2
  unfold lrS
  by_cases h1 : inS rk n t p
  · have hC : lrC c r ei (Sg rk n t) p = Cp c r n ei rk t p := by
      unfold lrC
      rw [if_neg (fun z => by rw [hasM0 _ (by omega), (hb_Sg hg hr (by omega) p).mpr h1] at z; exact absurd z (by decide))]
      rfl
    rw [hC]
    by_cases e1 : (Cp c r n ei rk t p &&& (shlL 1 (nI p) - 1)) = 0
    · rw [if_pos e1]
      by_cases e2 : (Cp c r n ei rk t p &&& Sl rk n t) = 0
      · rw [if_pos e2]
      · exfalso
        apply h
        refine ⟨h1, fun q hq hcq => ?_, ?_⟩
        · rw [and0] at e1
          exact e1 q ((hb_Cp hg hr (by omega) h1 q).mpr hcq) (by rw [hb_low (by omega)]; simpa using hq)
        · refine Classical.byContradiction (fun hc => e2 ?_)
          rw [and0]
          intro q a1 a2
          exact hc ⟨q, (hb_Cp hg hr (by omega) h1 q).mp a1, ((hb_Sl hg hr ht q).mp a2).2⟩
    · rw [if_neg e1]
  · have hC : lrC c r ei (Sg rk n t) p = 0 := by
      unfold lrC
      rw [if_pos ((hasM0 _ (by omega)).mpr (by
        cases e : hb (Sg rk n t) p
        · rfl
        · exact (h1 ((hb_Sg hg hr (by omega) p).mp e)).elim))]
    rw [hC, if_pos (and0.mpr (fun q a _ => by rw [hb_0] at a; exact absurd a (by decide))), if_pos (and0.mpr (fun q a _ => by rw [hb_0] at a; exact absurd a (by decide)))]
/-- (t', p') comes ahead of (t, j) -/
abbrev lxl (t' p' t j : Nat) : Prop := t' < t ∨ t' = t ∧ p' < j
/-- the table of nodes when all ahead of (t, j) has been looked at -/
def NT (c r n : Nat) (ei : Int32) (rk : Nat → Nat) (t j m : Nat) (se : Nat → Int64) (kr : Nat → Int32) (tn pn : Nat → Nat) : Prop :=
  (∀ v, v < m → tn v < 16 ∧ kr v = nI (tn v) ∧ se v = Cp c r n ei rk (tn v) (pn v) ∧ cand c n ei rk (tn v) (pn v) ∧ lxl (tn v) (pn v) t j) ∧
  (∀ v u, v < u → u < m → lxl (tn v) (pn v) (tn u) (pn u)) ∧
  (∀ t' p', t' < 16 → lxl t' p' t j → cand c n ei rk t' p' → ∃ v, v < m ∧ tn v = t' ∧ pn v = p')
theorem NT_0 (se : Nat → Int64) (kr : Nat → Int32) : NT c r n ei rk 0 0 0 se kr (fun _ => 0) (fun _ => 0) := ⟨fun v hv => by omega, fun v u _ hu => by omega, fun t' p' _ h => by rcases h with h | ⟨_, h⟩ <;> omega⟩
theorem NT_add {t p m : Nat} {se : Nat → Int64} {kr : Nat → Int32} {tn pn : Nat → Nat} (ht : t < 16) (h : NT c r n ei rk t p m se kr tn pn) (hc : cand c n ei rk t p) : NT c r n ei rk t (p + 1) (m + 1) (vp_updL se m (Cp c r n ei rk t p)) (upd kr m (nI t)) (fun v => if v = m then t else tn v) (fun v => if v = m then p else pn v) := by
  obtain ⟨h1, h2, h3⟩ := h
  refine ⟨fun v hv => ?_, fun v u hvu hu => ?_, fun t' p' ht' hl hc' => ?_⟩
  · by_cases e : v = m
    · subst e
      simp only [if_true, vp_updL, upd]
      exact ⟨ht, trivial, trivial, hc, Or.inr ⟨rfl, by omega⟩⟩
    · simp only [e, if_false, vp_updL, upd]
      obtain ⟨a1, a2, a3, a4, a5⟩ := h1 v (by omega)
      exact ⟨a1, a2, a3, a4, a5.imp id (fun z => ⟨z.1, by omega⟩)⟩
  · have e1 : ¬ v = m := by omega
    simp only [e1, if_false]
    by_cases e : u = m
    · simp only [e, if_true]
      obtain ⟨a1, a2, a3, a4, a5⟩ := h1 v (by omega)
      exact a5
    · simp only [e, if_false]
      exact h2 v u hvu (by omega)
  · by_cases e : t' = t ∧ p' = p
    · exact ⟨m, by omega, by simp [e.1], by simp [e.2]⟩
    · obtain ⟨v, a1, a2, a3⟩ := h3 t' p' ht' (by rcases hl with hl | hl; exact Or.inl hl; right; omega) hc'
      have e1 : ¬ v = m := by omega
      exact ⟨v, by omega, by simp [e1, a2], by simp [e1, a3]⟩
theorem NT_skip {t p m : Nat} {se : Nat → Int64} {kr : Nat → Int32} {tn pn : Nat → Nat} (h : NT c r n ei rk t p m se kr tn pn) (hc : ¬ cand c n ei rk t p) : NT c r n ei rk t (p + 1) m se kr tn pn := by
  obtain ⟨h1, h2, h3⟩ := h
  refine ⟨fun v hv => ?_, h2, fun t' p' ht' hl hc' => ?_⟩
  · obtain ⟨a1, a2, a3, a4, a5⟩ := h1 v hv
    exact ⟨a1, a2, a3, a4, a5.imp id (fun z => ⟨z.1, by omega⟩)⟩
  · refine h3 t' p' ht' ?_ hc'
    rcases hl with hl | ⟨h5, h6⟩
    · exact Or.inl hl
    · subst h5
      refine Or.inr ⟨rfl, ?_⟩
      rcases Nat.lt_or_eq_of_le (Nat.le_of_lt_succ h6) with e | e
      · exact e
      · subst e; exact (hc hc').elim
theorem NT_next {t m : Nat} {se : Nat → Int64} {kr : Nat → Int32} {tn pn : Nat → Nat} (h : NT c r n ei rk t n m se kr tn pn) : NT c r n ei rk (t + 1) 0 m se kr tn pn := by
  obtain ⟨h1, h2, h3⟩ := h
  refine ⟨fun v hv => ?_, h2, fun t' p' ht' hl hc' => ?_⟩
  · obtain ⟨a1, a2, a3, a4, a5⟩ := h1 v hv
    exact ⟨a1, a2, a3, a4, Or.inl (by rcases a5 with z | z <;> omega)⟩
  · refine h3 t' p' ht' ?_ hc'
    have := hc'.1.1
    rcases hl with hl | ⟨_, h6⟩
    · rcases Nat.lt_or_eq_of_le (Nat.le_of_lt_succ hl) with e | e
      · exact Or.inl e
      · exact Or.inr ⟨e, this⟩
    · omega
/-- two nodes of one rank have no pixel in common -/
theorem NT_dj {t j m : Nat} {se : Nat → Int64} {kr : Nat → Int32} {tn pn : Nat → Nat} (hg : gOK c r n) (hr : rOK rk n) (h : NT c r n ei rk t j m se kr tn pn) {v u q : Nat} (hv : v < u) (hu : u < m) (ht : tn v = tn u) (h1 : hb (se v) q = true) (h2 : hb (se u) q = true) : False := by
  obtain ⟨a1, a2, a3⟩ := h
  obtain ⟨b1, b2, b3, b4, b5⟩ := a1 v (by omega)
  obtain ⟨d1, d2, d3, d4, d5⟩ := a1 u hu
  rw [b3, hb_Cp hg hr (by omega) b4.1] at h1
  rw [d3, hb_Cp hg hr (by omega) d4.1] at h2
  have hl := a2 v u hv hu
  rw [ht] at h1 hl
  have b4' := b4.1
  rw [ht] at b4'
  exact d4.2.1 (pn v) (by rcases hl with z | z <;> omega) (rch_tr h2 (cn_sy b4' h1))
/-- the own pixels of the first k nodes -/
def ownU (rk : Nat → Nat) (n : Nat) (se : Nat → Int64) (tn : Nat → Nat) (k : Nat) : Int64 := itr (fun u s => s ||| (se u &&& Sl rk n (tn u))) k 0
theorem NT_cd {t j m : Nat} {se : Nat → Int64} {kr : Nat → Int32} {tn pn : Nat → Nat} (hg : gOK c r n) (hr : rOK rk n) (h : NT c r n ei rk t j m se kr tn pn) : ∀ k, k ≤ m → k ≤ cd (ownU rk n se tn k) 64
  | 0, _ => Nat.zero_le _
  | k + 1, hk => by
    have ih := NT_cd hg hr h k (by omega)
    obtain ⟨b1, b2, b3, b4, b5⟩ := h.1 k (by omega)
    obtain ⟨i1, i2, q, i3, i4⟩ := b4
    have e2 : hb (se k &&& Sl rk n (tn k)) q = true := by
      rw [hb_and, b3, (hb_Cp hg hr (by omega) i1 q).mpr i3, (hb_Sl hg hr b1 q).mpr ⟨(cn_in i1 i3).1, i4⟩]
      rfl
    have e1 : hb (ownU rk n se tn k) q = false := by
      cases e : hb (ownU rk n se tn k) q
      · rfl
      · exfalso
        obtain ⟨u, hu, h5⟩ := (hb_or_itr _ q k).mp e
        rw [hb_and, Bool.and_eq_true] at h5
        have h6 := (hb_Sl hg hr (h.1 u (by omega)).1 q).mp h5.2
        have h7 := e2
        rw [hb_and, Bool.and_eq_true] at h7
        exact NT_dj hg hr h hu (by omega) (by omega) h5.1 h7.1
    have hs : ownU rk n se tn (k + 1) = ownU rk n se tn k ||| (se k &&& Sl rk n (tn k)) := rfl
    have := cd_st (x := ownU rk n se tn k) (y := ownU rk n se tn (k + 1)) (fun q h => by rw [hs, hb_or, h]; rfl) e1 (by rw [hs, hb_or, e2, Bool.or_true]) 64 (hb_lt e2)
    omega
theorem NT_64 {t j m : Nat} {se : Nat → Int64} {kr : Nat → Int32} {tn pn : Nat → Nat} (hg : gOK c r n) (hr : rOK rk n) (h : NT c r n ei rk t j m se kr tn pn) : m ≤ 64 := Nat.le_trans (NT_cd hg hr h m (Nat.le_refl _)) (cd_le _ _)
/-- the model's table -/
theorem lr_NT {t : Nat} (hg : gOK c r n) (hr : rOK rk n) (ht : t < 16) {q0 : tT} (h0 : ∃ tn pn, NT c r n ei rk t 0 q0.1 q0.2.1 q0.2.2 tn pn) : ∀ j, j ≤ n → ∃ tn pn, NT c r n ei rk t j (itr (lrS c r ei (Sg rk n t) (Sl rk n t) (nI t)) j q0).1 (itr (lrS c r ei (Sg rk n t) (Sl rk n t) (nI t)) j q0).2.1 (itr (lrS c r ei (Sg rk n t) (Sl rk n t) (nI t)) j q0).2.2 tn pn
  | 0, _ => h0
  | j + 1, hj => by
    obtain ⟨tn, pn, ih⟩ := lr_NT hg hr ht h0 j (by omega)
    rw [itr_s]
    by_cases hc : cand c n ei rk t j
    · rw [lr_cand hg hr ht (by omega) _ hc]
      exact ⟨_, _, NT_add ht ih hc⟩
    · rw [lr_ncand hg hr ht (by omega) _ hc]
      exact ⟨_, _, NT_skip ih hc⟩
end ND
theorem itr_cg {σ : Type} {f g : Nat → σ → σ} : ∀ (n : Nat) (s : σ), (∀ p q, p < n → f p q = g p q) → itr f n s = itr g n s
  | 0, _, _ => rfl
  | n + 1, s, h => by rw [itr_s, itr_s, itr_cg n s (fun p q hp => h p q (by omega)), h n _ (by omega)]
theorem ofV_cg {f g : Nat → Int32} {t : Int32} {n : Nat} (h : ∀ p, p < n → f p = g p) : ofV f t n = ofV g t n := by
  unfold ofV
  refine itr_cg n 0 (fun p q hp => ?_)
  unfold ofS ofO
  rw [h p hp]
theorem ltS_cg {c r n : Nat} {dg : Int32} {f g : Nat → Int32} (h : ∀ p, p < n → f p = g p) (t : Nat) (q : tT × (Nat → Int32)) : ltS c r n dg f t q = ltS c r n dg g t q := by
  unfold ltS ltI ltE
  rw [ofV_cg h, ofV_cg (t := nI (t + 1)) h]
/-- the model's tree in terms of ranks -/
def tre (c r n : Nat) (ei : Int32) (rk : Nat → Nat) (s0 : tT × (Nat → Int32)) (t : Nat) : tT × (Nat → Int32) := itr (ltS c r n ei (fun p => nI (rk p))) t s0
theorem tre_NT {c r n : Nat} {ei : Int32} {rk : Nat → Nat} (hg : gOK c r n) (hr : rOK rk n) {s0 : tT × (Nat → Int32)} (h0 : s0.1.1 = 0) : ∀ t, t ≤ 16 → ∃ tn pn, NT c r n ei rk t 0 (tre c r n ei rk s0 t).1.1 (tre c r n ei rk s0 t).1.2.1 (tre c r n ei rk s0 t).1.2.2 tn pn
  | 0, _ => ⟨_, _, by rw [show (tre c r n ei rk s0 0).1.1 = 0 from h0]; exact NT_0 _ _⟩
  | t + 1, ht => by
    have ih := tre_NT (ei := ei) hg hr h0 t (by omega)
    obtain ⟨tn, pn, h⟩ := lr_NT hg hr (by omega) ih n (Nat.le_refl _)
    exact ⟨tn, pn, NT_next h⟩

