/-! the tree of an image, said once for both sides -/
abbrev imgT : Type := Nat × Nat × Nat × Int32 × (Nat → Nat)
def img : Type := imgT
def img.tup (S : img) : imgT := S
def img.c (S : img) : Nat := S.tup.1
def img.r (S : img) : Nat := S.tup.2.1
def img.n (S : img) : Nat := S.tup.2.2.1
def img.ei (S : img) : Int32 := S.tup.2.2.2.1
def img.rk (S : img) : Nat → Nat := S.tup.2.2.2.2
def img.of (c_ : Nat) (r_ : Nat) (n_ : Nat) (ei_ : Int32) (rk_ : Nat → Nat) : img := show imgT from (c_, r_, n_, ei_, rk_)
def img.ok (X : img) : Prop := gOK X.c X.r X.n ∧ rOK X.rk X.n
def kT (X : img) : tT := (tre X.c X.r X.n X.ei X.rk ((0, fun _ => 0, fun _ => 0), fun _ => 0) 16).1
def kM (X : img) : Nat := (kT X).1
def kS (X : img) : Nat → Int64 := (kT X).2.1
def kK (X : img) : Nat → Int32 := (kT X).2.2
def kP (X : img) (v : Nat) : Int32 := par (kS X) v
def kC (X : img) (v : Nat) : Int32 := chn (kS X) (kM X) v
def kN (X : img) (p : Nat) : Int32 := lastV (fun u => hasV (kS X u) p) (kM X)
def kpa (X : img) (v : Nat) : Nat := (kP X v).toNatClampNeg
def knd (X : img) (p : Nat) : Nat := (kN X p).toNatClampNeg
def kQ (X : img) (v : Nat) : Int32 := prV (kP X) (kK X) (kC X) (kS X) (kM X) v
def kL (X : img) : lT := itr (mlS (kQ X) (kC X)) (kM X) (fun _ => 0, 0, fun _ => 0)
def kLo (X : img) : Nat → Int32 := (kL X).1
def kLf (X : img) : Nat := (kL X).2.1
/-! a tree is what its first m nodes say -/
theorem TF_se {n m : Nat} {se se' : Nat → Int64} {rk tn pa nd : Nat → Nat} (h : TF n m se rk tn pa nd) (he : ∀ v, v < m → se' v = se v) : TF n m se' rk tn pa nd := by
  have hs : ∀ u v, u < m → v < m → (sb se' u v ↔ sb se u v) := fun u v hu hv => by unfold sb; rw [he u hu, he v hv]
  exact (TF.mk'
      (m0 := h.m0)
      (m64 := h.m64)
      (n64 := h.n64)
      (r16 := h.r16)
      (px := fun v q hv hq => by rw [he v hv] at hq; exact h.px v q hv hq)
      (lam := fun v u x h1 h2 h3 h4 => by
      rw [he v (by omega)] at h3
      rw [he u h2] at h4
      exact (hs u v h2 (by omega)).mpr (h.lam v u x h1 h2 h3 h4))
      (str := fun v u hv hu hh => h.str v u hv hu ((hs u v hu hv).mp hh))
      (root := fun v hv => (hs v 0 hv h.m0).mpr (h.root v hv))
      (pal := h.pal)
      (pas := fun v h0 hv => (hs v (pa v) hv (h.pam' h0 hv)).mpr (h.pas v h0 hv))
      (pam := fun v u h0 hv hu hh => h.pam v u h0 hv hu ((hs v u hv (by omega)).mp hh))
      (tnm := h.tnm)
      (tnp := h.tnp)
      (t16 := h.t16)
      (ndl := h.ndl)
      (ndh := fun v p hv hp => by rw [he v hv, hs (nd p) v (h.ndl p hp) hv]; exact h.ndh v p hv hp)
      (ndr := h.ndr)
      (own := h.own))
theorem isS_se {m : Nat} {se se' : Nat → Int64} {tn pa : Nat → Nat} (he : ∀ v, v < m → se' v = se v) {v l : Nat} (hv : v < m) (h : isS m se tn pa v l) : isS m se' tn pa v l := by
  have hs : ∀ u v, u < m → v < m → (sb se' u v ↔ sb se u v) := fun u v hu hv => by unfold sb; rw [he u hu, he v hv]
  exact ⟨h.1, h.2.1, (hs l v h.1 hv).mpr h.2.2.1, fun l' a1 a2 a3 => h.2.2.2 l' a1 a2 ((hs l' v a1 hv).mp a3)⟩
/-! prominences exist -/
def proN (tn pa su : Nat → Nat) : Nat → Nat → Nat
  | 0, v => tn (su v) + 1
  | d + 1, v => if v = 0 then tn (su v) + 1 else if su (pa v) = su v then proN tn pa su d (pa v) else tn (su v) - tn (pa v)
theorem proN_f {m : Nat} {tn pa su : Nat → Nat} (hp : ∀ v, 0 < v → v < m → pa v < v) : ∀ d v, v ≤ d → v < m → proN tn pa su d v = proN tn pa su v v := by
  intro d
  induction d using Nat.strongRecOn with
  | ind d ih =>
    intro v hd hv
    rcases Nat.eq_zero_or_pos v with z | z
    · subst z
      cases d with
      | zero => rfl
      | succ d => show (if 0 = 0 then _ else _) = _; rw [if_pos rfl]; rfl
    · obtain ⟨e, rfl⟩ : ∃ e, d = e + 1 := ⟨d - 1, by omega⟩
      obtain ⟨w, rfl⟩ : ∃ w, v = w + 1 := ⟨v - 1, by omega⟩
      have hpv := hp (w + 1) z hv
      unfold proN
      rw [ih e (by omega) (pa (w + 1)) (by omega) (by omega), ih w (by omega) (pa (w + 1)) (by omega) (by omega)]
theorem proN_R {m : Nat} {tn pa su : Nat → Nat} (hp : ∀ v, 0 < v → v < m → pa v < v) : proR m tn pa su (fun v => proN tn pa su v v) := by
  intro v hv
  rcases Nat.eq_zero_or_pos v with z | z
  · subst z; simp only [if_true]; rfl
  · obtain ⟨w, rfl⟩ : ∃ w, v = w + 1 := ⟨v - 1, by omega⟩
    have hpv := hp (w + 1) z hv
    simp only
    conv => lhs; unfold proN
    rw [proN_f hp w (pa (w + 1)) (by omega) (by omega)]
theorem chn_lf {n m : Nat} {se : Nat → Int64} {rk tn pa nd : Nat → Nat} (h : TF n m se rk tn pa nd) (hpp : ∀ v, 0 < v → v < m → par se v = nI (pa v)) {v : Nat} (hv : v < m) : chn se m v = 0 ↔ lfP m pa v := by
  have hm := h.m64
  unfold chn
  rw [isum_n (f := fun u => if par se u = nI v then 1 else 0) m (fun u hu => by
    by_cases e : par se u = nI v
    · rw [if_pos e, if_pos e]; rfl
    · rw [if_neg e, if_neg e]; rfl)]
  have hle := nsum_le (f := fun u => if par se u = nI v then 1 else 0) (b := 1) m (fun u _ => by split <;> omega)
  have e0 : nI (nsum (fun u => if par se u = nI v then 1 else 0) m) = 0 ↔ nsum (fun u => if par se u = nI v then 1 else 0) m = 0 := nI_eq (b := 0) (by omega) (by omega)
  rw [e0, nsum_z]
  constructor
  · intro z u h0 hu e
    have := z u hu
    rw [if_pos (by rw [hpp u h0 hu, e])] at this
    exact absurd this (by decide)
  · intro z u hu
    rw [if_neg]
    intro e
    rcases Nat.eq_zero_or_pos u with w | w
    · subst w
      exact nI_nm1 (show v < 2 ^ 31 by omega) e.symm
    · rw [hpp u w hu] at e
      exact z u w hu ((nI_eq (by have := h.pal u w hu; omega) (by omega)).mp e)
/-- all about the tree of an image -/
theorem k_all {X : img} (hX : X.ok) : ∃ tn su P pn, NT X.c X.r X.n X.ei X.rk 16 0 (kM X) (kS X) (kK X) tn pn ∧ TA X.n (kM X) (kS X) X.rk tn (kpa X) (knd X) (kK X) (kP X) (kC X) (kN X) ∧ (∀ v, v < kM X → isS (kM X) (kS X) tn (kpa X) v (su v)) ∧ proR (kM X) tn (kpa X) su P := by
  obtain ⟨hg, hr⟩ := hX
  obtain ⟨tn, pn, hN⟩ := tre_NT (ei := X.ei) hg hr (s0 := ((0, fun _ => 0, fun _ => 0), fun _ => 0)) rfl 16 (Nat.le_refl _)
  have hN : NT X.c X.r X.n X.ei X.rk 16 0 (kM X) (kS X) (kK X) tn pn := hN
  have hT : TF X.n (kM X) (kS X) X.rk tn (kpa X) (knd X) := NT_TF hg hr hN
  have hpp : ∀ v, 0 < v → v < kM X → kP X v = nI (kpa X v) := fun v h0 hv => NT_par hg hr hN h0 hv
  have hA : TA X.n (kM X) (kS X) X.rk tn (kpa X) (knd X) (kK X) (kP X) (kC X) (kN X) := (TA.mk'
      (t := hT)
      (kr := fun v hv => (hN.1 v hv).2.1)
      (p0 := rfl)
      (pp := hpp)
      (ch := fun v hv => chn_lf hT hpp hv)
      (na := fun p hp => NT_nn hg hr hN hp))
  refine ⟨tn, fun v => (summV (kC X) (kK X) (kpa X) (kM X) (fun _ => 0) v).toNatClampNeg, _, pn, hN, hA, fun v hv => ?_, proN_R hT.pal⟩
  obtain ⟨l, l1, l2⟩ := summ_ok hA (fun _ => 0) hv
  have := l2.1
  have := hT.m64
  simp only [l1, nI_clamp (show l < 2 ^ 31 by omega)]
  exact l2
/-! the model's table does not hang on what was there -/
def agr (q q' : tT) : Prop := q.1 = q'.1 ∧ ∀ v, v < q.1 → q.2.1 v = q'.2.1 v ∧ q.2.2 v = q'.2.2 v
theorem lrS_ag (c r : Nat) (dg : Int32) (ins lef : Int64) (t : Int32) (p : Nat) {q q' : tT} (h : agr q q') : agr (lrS c r dg ins lef t p q) (lrS c r dg ins lef t p q') := by
  obtain ⟨h1, h2⟩ := h
  unfold lrS
  split
  · split
    · exact ⟨h1, h2⟩
    · refine ⟨by simp only; rw [h1], fun v hv => ?_⟩
      simp only at hv ⊢
      rw [← h1]
      by_cases e : v = q.1
      · subst e; simp only [vp_updL, upd, if_true]; exact ⟨trivial, trivial⟩
      · simp only [vp_updL, upd, e, if_false]; exact h2 v (by omega)
  · exact ⟨h1, h2⟩
theorem itr_ag {f : Nat → tT → tT} (hf : ∀ p q q', agr q q' → agr (f p q) (f p q')) {q q' : tT} (h : agr q q') : ∀ n, agr (itr f n q) (itr f n q')
  | 0 => h
  | n + 1 => by rw [itr_s, itr_s]; exact hf n _ _ (itr_ag hf h n)
theorem tre_ag {c r n : Nat} {ei : Int32} {rk : Nat → Nat} {s s' : tT × (Nat → Int32)} (h : agr s.1 s'.1) : ∀ t, agr (tre c r n ei rk s t).1 (tre c r n ei rk s' t).1
  | 0 => h
  | t + 1 => by
    have ih := tre_ag (c := c) (r := r) (n := n) (ei := ei) (rk := rk) h t
    unfold tre at ih ⊢
    rw [itr_s, itr_s]
    unfold ltS lrV
    exact itr_ag (fun p q q' => lrS_ag _ _ _ _ _ _ p) ih n
theorem par_cg {se se' : Nat → Int64} {v : Nat} (h : ∀ u, u ≤ v → se u = se' u) : par se v = par se' v := by
  unfold par
  exact lastV_cg v (fun u hu => by rw [h v (Nat.le_refl _), h u (by omega)])
theorem chn_cg {se se' : Nat → Int64} {m v : Nat} (h : ∀ u, u < m → se u = se' u) : chn se m v = chn se' m v := by
  unfold chn
  exact isum_cg m (fun u hu => by rw [par_cg (fun w hw => h w (by omega))])
/-- what a laid tree of the model holds -/
def mLd (X : img) (A : xA) (B : xB) : Prop := A 76 19 = nI (kM X) ∧ A 76 26 = nI (kLf X) ∧ (∀ v, v < kM X → B 84 v = kS X v ∧ A 85 v = kK X v ∧ A 86 v = kP X v ∧ A 87 v = kC X v ∧ (kC X v = 0 → A 89 v = kQ X v)) ∧ (∀ p, p < X.n → A 88 p = kN X p) ∧ ∀ i, i < kLf X → A 90 i = kLo X i
theorem k_lf {X : img} (hX : X.ok) : kLf X ≤ kM X ∧ (∀ i, i < kLf X → ∃ a, a < kM X ∧ kLo X i = nI a ∧ kC X a = 0) ∧ nI (kLf X) = leafV (kC X) (kM X) := by
  obtain ⟨tn, su, P, pn, hN, hA, hs, hP⟩ := k_all hX
  have := ml_ord (pv := kQ X) (ch := kC X) (pr := kQ X) (ch' := kC X) (old := fun _ => 0) (q0 := (fun _ => 0, 0, fun _ => 0)) hA.t.m64 rfl (fun v _ => Iff.rfl) (fun v _ _ => rfl) (kM X) (Nat.le_refl _)
  exact ⟨this.2.1, fun i hi => (this.2.2.1 i hi).2, this.2.2.2.2⟩
/-- the model's laying -/
theorem lay_ok {X : img} (hX : X.ok) {A : xA} {B : xB} (hei : A 76 6 = X.ei) (hrk : ∀ p, p < X.n → rkM A p = nI (X.rk p)) : (ltT A B X.c X.r X.n).1.1 ≤ 64 ∧ paOK (ltP A B X.c X.r X.n).1 (ltT A B X.c X.r X.n).1.1 ∧ (ltT A B X.c X.r X.n).1.1 = kM X ∧ mLd X (lyA (ltA2 A B X.c X.r X.n) (llV (ltA2 A B X.c X.r X.n) (ltB1 A B X.c X.r X.n) (ltT A B X.c X.r X.n).1.1)) (ltB1 A B X.c X.r X.n) := by
  have hX' := hX
  obtain ⟨tn, su, P, pn, hN, hA, hsu, hP⟩ := k_all hX
  obtain ⟨hg, hr⟩ := hX
  have hm64 := hA.t.m64
  have eT : ltT A B X.c X.r X.n = tre X.c X.r X.n X.ei X.rk ((0, B 84, A 85), A 88) 16 := by
    show itr (ltS X.c X.r X.n (A 76 6) (rkM A)) 16 _ = itr (ltS X.c X.r X.n X.ei fun p => nI (X.rk p)) 16 _
    rw [hei]
    exact itr_cg 16 _ (fun t q _ => ltS_cg hrk t q)
  have hag : agr (tre X.c X.r X.n X.ei X.rk ((0, B 84, A 85), A 88) 16).1 (kT X) := tre_ag (s := ((0, B 84, A 85), A 88)) (s' := ((0, fun _ => 0, fun _ => 0), fun _ => 0)) ⟨rfl, fun v hv => by simp only at hv; omega⟩ 16
  have hna := na_ok (ei := X.ei) (s0 := ((0, B 84, A 85), A 88)) hg hr rfl 16 (Nat.le_refl _)
  obtain ⟨tn2, pn2, hN2⟩ := tre_NT (ei := X.ei) hg hr (s0 := ((0, B 84, A 85), A 88)) rfl 16 (Nat.le_refl _)
  have ePd : ltP A B X.c X.r X.n = itr (pcS (ltT A B X.c X.r X.n).1.2.1 (ltT A B X.c X.r X.n).1.1) (ltT A B X.c X.r X.n).1.1 (A 86, A 87) := rfl
  have hpc := pc_ch hg hr hN2 (A 86, A 87) _ (Nat.le_refl _)
  rw [← eT] at hag hna hN2 hpc
  rw [← ePd] at hpc
  have e2 : ltA2 A B X.c X.r X.n = pcA (tA (updA A 76 18 1) (ltT A B X.c X.r X.n).1.1 (ltT A B X.c X.r X.n).1.2.2 (ltT A B X.c X.r X.n).2) (ltP A B X.c X.r X.n) := rfl
  have e3 : ltB1 A B X.c X.r X.n = setB B 84 (ltT A B X.c X.r X.n).1.2.1 := rfl
  rw [e2, e3]
  generalize ltT A B X.c X.r X.n = T at *
  generalize ltP A B X.c X.r X.n = P2 at *
  obtain ⟨⟨m, se, kr⟩, na⟩ := T
  obtain ⟨ag1, ag2⟩ := hag
  simp only at *
  have hm : m = kM X := ag1
  subst hm
  have hse : ∀ v, v < kM X → se v = kS X v := fun v hv => (ag2 v hv).1
  have hkr : ∀ v, v < kM X → kr v = kK X v := fun v hv => (ag2 v hv).2
  have hpar : ∀ v, v < kM X → P2.1 v = kP X v := fun v hv => by rw [hpc.1 v hv]; exact par_cg (fun u hu => hse u (by omega))
  have hch : ∀ v, v < kM X → P2.2 v = kC X v := fun v hv => by rw [hpc.2 v hv]; exact chn_cg hse
  have hpa : paOK P2.1 (kM X) := fun v hv => by rw [hpar v hv]; exact par_ok _ _
  refine ⟨hm64, hpa, rfl, ?_⟩
  have hT2 : TA X.n (kM X) se X.rk tn (kpa X) (knd X) kr P2.1 P2.2 na := (TA.mk'
      (t := TF_se hA.t hse)
      (kr := fun v hv => by rw [hkr v hv]; exact hA.kr v hv)
      (p0 := by rw [hpar 0 hA.t.m0]; exact hA.p0)
      (pp := fun v h0 hv => by rw [hpar v hv]; exact hA.pp v h0 hv)
      (ch := fun v hv => by rw [hch v hv]; exact hA.ch v hv)
      (na := fun p hp => by
      rw [hna p hp (hr p hp), ← hA.na p hp]
      exact lastV_cg (kM X) (fun u hu => by rw [hse u hu])))
  have hpr : ∀ l, l < kM X → kC X l = 0 → prV P2.1 kr P2.2 se (kM X) l = kQ X l := fun l hl hc => by
    have hlf := (hA.ch l hl).mp hc
    rw [pr_ok hT2 (fun v hv => isS_se hse hv (hsu v hv)) hP hl hlf]
    exact (pr_ok hA hsu hP hl hlf).symm
  obtain ⟨A2, hA2⟩ : ∃ A2, A2 = pcA (tA (updA A 76 18 1) (kM X) kr na) P2 := ⟨_, rfl⟩
  have a85 : A2 85 = kr := by rw [hA2]; rfl
  have a86 : A2 86 = P2.1 := by rw [hA2]; rfl
  have a87 : A2 87 = P2.2 := by rw [hA2]; rfl
  have a88 : A2 88 = na := by rw [hA2]; rfl
  have a19 : A2 76 19 = nI (kM X) := by rw [hA2]; rfl
  rw [← hA2]
  have b84 : setB B 84 se 84 = se := rfl
  have eL : llV A2 (setB B 84 se) (kM X) = itr (mlS (prV P2.1 kr P2.2 se (kM X)) P2.2) (kM X) (A2 90, 0, A2 89) := by unfold llV; rw [a85, a86, a87, b84]
  rw [eL]
  have o1 := ml_ord (pv := prV P2.1 kr P2.2 se (kM X)) (ch := P2.2) (pr := kQ X) (ch' := kC X) (old := fun _ => 0) (q0 := (A2 90, 0, A2 89)) hm64 rfl (fun v hv => by rw [hch v hv]) (fun v hv hc => (hpr v hv (by rw [← hch v hv]; exact hc)).symm) (kM X) (Nat.le_refl _)
  have o2 := ml_ord (pv := kQ X) (ch := kC X) (pr := kQ X) (ch' := kC X) (old := fun _ => 0) (q0 := (fun _ => 0, 0, fun _ => 0)) hm64 rfl (fun v _ => Iff.rfl) (fun v _ _ => rfl) (kM X) (Nat.le_refl _)
  generalize itr (mlS (prV P2.1 kr P2.2 se (kM X)) P2.2) (kM X) (A2 90, 0, A2 89) = Q at *
  have hcnt : Q.2.1 = kLf X := by
    have := o1.1.trans o2.1.symm
    exact this
  refine ⟨a19, ?_, fun v hv => ⟨hse v hv, ?_, ?_, ?_, fun hc => ?_⟩, fun p hp => ?_, fun i hi => ?_⟩
  · show nI Q.2.1 = _; rw [hcnt]
  · show A2 85 v = _; rw [a85]; exact hkr v hv
  · show A2 86 v = _; rw [a86]; exact hpar v hv
  · show A2 87 v = _; rw [a87]; exact hch v hv
  · show Q.2.2 v = _
    rw [o1.2.2.2.1 v hv (by rw [hch v hv]; exact hc)]
    exact hpr v hv hc
  · show A2 88 p = _
    rw [a88, hT2.na p hp]
    exact (hA.na p hp).symm
  · show Q.1 i = _
    rw [(o1.2.2.1 i (by rw [hcnt]; exact hi)).1]
    exact (o2.2.2.1 i hi).1.symm

