/-! the class's tree, once refreshed -/
def cLd (X : img) (A : xA) (B : xB) : Prop := cNd X 35 A B ∧ A 36 2 = nI X.n ∧ (∀ v w, v < kM X → w < 12 → A (57 + w) v = kAt X v w) ∧ ∀ i, i < kLf X → A 69 i = kLo X i
theorem k_m {X : img} (hX : X.ok) : 0 < kM X ∧ kM X ≤ 64 ∧ kLf X ≤ 64 := by
  obtain ⟨tn, su, P, pn, hN, hA, hsu, hP⟩ := k_all hX
  exact ⟨hA.t.m0, hA.t.m64, Nat.le_trans (k_lf hX).1 hA.t.m64⟩
theorem cNd_tr {X : img} (hX : X.ok) {A : xA} {B : xB} (h : cNd X 35 A B) : trOK A (kM X) (kpa X) := by
  obtain ⟨tn, su, P, pn, hN, hA, hsu, hP⟩ := k_all hX
  obtain ⟨c1, c2, c3, c4, c5⟩ := h
  refine ⟨c1, hA.t.m0, hA.t.m64, ?_, fun v h0 hv => ⟨?_, hA.t.pal v h0 hv⟩, fun v hv hne => ?_⟩
  · exact (c4 0 hA.t.m0).2.2.2.1
  · exact ((c4 v hv).2.2.2.1).trans (hA.pp v h0 hv)
  · rw [show A 41 v = kC X v from (c4 v hv).2.2.2.2] at hne
    have hl : ¬ lfP (kM X) (kpa X) v := fun z => hne ((hA.ch v hv).mpr z)
    obtain ⟨u, h0, hu, e⟩ : ∃ u, 0 < u ∧ u < kM X ∧ kpa X u = v := Classical.byContradiction (fun z => hl (fun u a1 a2 a3 => z ⟨u, a1, a2, a3⟩))
    exact ⟨u, by rw [← e]; exact hA.t.pal u h0 hu, hu, e⟩
theorem cNd_nd {X : img} (hX : X.ok) {A : xA} {B : xB} (h : cNd X 35 A B) : ∀ p, p < X.n → ∃ a, a < 64 ∧ A 42 p = nI a := fun p hp => by
  obtain ⟨tn, su, P, pn, hN, hA, hsu, hP⟩ := k_all hX
  exact ⟨knd X p, Nat.lt_of_lt_of_le (hA.t.ndl p hp) hA.t.m64, (h.2.2.2.2 p hp).trans (hA.na p hp)⟩
theorem meas_ok {X : img} (hX : X.ok) {A : xA} {B : xB} (h : cNd X 35 A B) (g0 : A 36 0 = nI X.c) (g2 : A 36 2 = nI X.n) (g3 : A 35 1 = X.ei) (b3 : B 36 3 = ushL (-1) (64 - nI X.c * nI X.r)) (b4 : B 36 4 = gL X.c X.r) (b5 : B 36 5 = gR X.c X.r) (b6 : B 36 6 = borderV (nI X.c) X.r) : cLd X (measA A B (kpa X) (kM X) X.c X.r X.n) B := by
  have hX' := hX
  obtain ⟨tn, su, P, pn, hN, hA, hsu, hP⟩ := k_all hX
  obtain ⟨hg, hr⟩ := hX
  have hT := hA.t
  have hm := hT.m64
  obtain ⟨c1, c2, c3, c4, c5⟩ := h
  have a38 : ∀ v, v < kM X → A 38 v = nI (tn v) := fun v hv => ((c4 v hv).2.1).trans (hA.kr v hv)
  have hC : TA X.n (kM X) (kS X) X.rk tn (kpa X) (knd X) (A 38) (A 40) (A 41) (A 42) := (TA.mk'
      (t := hT)
      (kr := a38)
      (p0 := ((c4 0 hT.m0).2.2.2.1).trans hA.p0)
      (pp := fun v h0 hv => ((c4 v hv).2.2.2.1).trans (hA.pp v h0 hv))
      (ch := fun v hv => by rw [show A 41 v = kC X v from (c4 v hv).2.2.2.2]; exact hA.ch v hv)
      (na := fun p hp => (c5 p hp).trans (hA.na p hp)))
  have how : ∀ v, v < kM X → A 39 v = owV (fun p => nI (knd X p)) (nI v) X.n := fun v hv => ((c4 v hv).2.2.1).trans (ow_cg hA.na)
  have hsum : ∀ v, v < kM X → suV A (kpa X) (kM X) v = nI (su v) := fun v hv => by
    obtain ⟨l, l1, l2⟩ := summ_ok hC (A 70) hv
    unfold suV
    rw [l1, isS_u l2 (hsu v hv)]
  have hpo : ∀ v, v < kM X → ndOK (A 40 v) v := fun v hv => by
    rcases Nat.eq_zero_or_pos v with z | z
    · subst z; exact Or.inl hC.p0
    · exact Or.inr ⟨kpa X v, hT.pal v z hv, hC.pp v z hv⟩
  have m0 : ∀ k, k ≠ 70 → k ≠ 71 → meA0 A (kpa X) (kM X) k = A k := fun k h1 h2 => by unfold meA0; rw [setA_n _ _ h2, setA_n _ _ h1]
  have m70 : meA0 A (kpa X) (kM X) 70 = suV A (kpa X) (kM X) := by unfold meA0; rw [setA_n _ _ (by decide), setA_s]
  have m71 : meA0 A (kpa X) (kM X) 71 = rsumV (A 39) (A 38) (kpa X) (kM X) (A 71) := by unfold meA0; rw [setA_s]
  have M := me_ok (A0 := meA0 A (kpa X) (kM X)) (B := B) (c := X.c) (r := X.r) (n := X.n) hm (fun v hv => by rw [m0 40 (by decide) (by decide)]; exact hpo v hv) (kM X) (Nat.le_refl _)
  have e1 : meA1 A B (kpa X) (kM X) X.c X.r X.n = itr (meS B X.c X.r X.n) (kM X) (meA0 A (kpa X) (kM X)) := rfl
  rw [← e1] at M
  rw [m0 35 (by decide) (by decide), m0 36 (by decide) (by decide), m0 38 (by decide) (by decide), m0 39 (by decide) (by decide), m0 40 (by decide) (by decide), m0 41 (by decide) (by decide), m70, m71] at M
  have hpro : ∀ v, v < kM X → meA1 A B (kpa X) (kM X) X.c X.r X.n 68 v = nI (P v) := by
    intro v
    induction v using Nat.strongRecOn with
    | ind v ih =>
      intro hv
      obtain ⟨_, _, _, _, _, _, _, _, _, _, _, i12⟩ := M v hv
      have hs1 := (hsu v hv).1
      have ht1 := hT.t16 _ hs1
      rw [i12, hsum v hv, nI_clamp (by omega), a38 _ hs1, hP v hv]
      rcases Nat.eq_zero_or_pos v with z | z
      · subst z
        rw [hC.p0, if_pos rfl, if_pos rfl, nI_1]
      · have hpl := hT.pal v z hv
        have hpm := hT.pam' z hv
        have hs2 := (hsu _ hpm).1
        rw [hC.pp v z hv, if_neg (nI_nm1 (by omega)), nI_clamp (by omega), hsum _ hpm, if_neg (show ¬ v = 0 by omega)]
        by_cases e : su (kpa X v) = su v
        · rw [if_pos (by rw [e]), if_pos e, ih _ hpl hpm]
        · rw [if_neg (fun q => e ((nI_eq (by omega) (by omega)).mp q)), if_neg e, a38 _ hpm, pk_sub]
          have := hT.tns hs1 hpm (sb_tr (hsu v hv).2.2.1 (hT.pas v z hv))
          exact this
  have hkQ : ∀ l, l < kM X → lfP (kM X) (kpa X) l → kQ X l = nI (P l) := fun l hl hlf => pr_ok hA hsu hP hl hlf
  have mo : ∀ k, (k < 57 ∨ 71 < k) → measA A B (kpa X) (kM X) X.c X.r X.n k = A k := fun k hk => by
    unfold measA
    rw [setA_n _ _ (by omega), e1, meI_o (by omega), m0 k (by omega) (by omega)]
  have ma : ∀ w, w < 12 → measA A B (kpa X) (kM X) X.c X.r X.n (57 + w) = meA1 A B (kpa X) (kM X) X.c X.r X.n (57 + w) := fun w hw => by
    unfold measA
    rw [setA_n _ _ (by omega)]
  refine ⟨?_, ?_, fun v w hv hw => ?_, fun i hi => ?_⟩
  · refine ⟨?_, ?_, ?_, fun v hv => ?_, fun p hp => ?_⟩
    · rw [mo 35 (by omega)]; exact c1
    · rw [mo 35 (by omega)]; exact c2
    · rw [mo 35 (by omega)]; exact c3
    · rw [mo 38 (by omega), mo 39 (by omega), mo 40 (by omega), mo 41 (by omega)]; exact c4 v hv
    · rw [mo 42 (by omega)]; exact c5 p hp
  · rw [mo 36 (by omega)]; exact g2
  · rw [ma w hw]
    obtain ⟨i1, i2, i3, i4, i5, i6, i7, i8, i9, i10, i11, _⟩ := M v hv
    have s1 : B 37 v = kS X v := (c4 v hv).1
    have hkK : kK X v = nI (tn v) := hA.kr v hv
    have hex : ∀ q, hb (kS X v) q = true ↔ rch (nbr X.c X.ei) (inS X.rk X.n (tn v)) (pn v) q := fun q => NT_ex hg hr hN hv q
    have hpx : ∀ q, hb (kS X v) q = true → q < X.n := fun q hq => hT.px v q hv hq
    have hs1 := (hsu v hv).1
    have ht1 := hT.t16 _ hs1
    have e38 : (A 38 v : Int32) = kK X v := (c4 v hv).2.1
    rcases w with _ | _ | _ | _ | _ | _ | _ | _ | _ | _ | _ | w
    · exact i1.trans e38
    · refine i2.trans ?_
      rw [s1, bc_c1]; rfl
    · exact i3.trans (c4 v hv).2.2.1
    · exact i4.trans (c4 v hv).2.2.2.1
    · exact i5.trans (c4 v hv).2.2.2.2
    · refine i6.trans ?_
      show _ = itr (heS (kS X v) (fun p => nI (X.rk p)) (kK X v)) X.n 0
      rw [hkK, he_ok hT (fun p hp => rfl) hv (hsu v hv), hsum v hv, nI_clamp (by omega), a38 _ hs1, a38 v hv, pk_sub (hT.tns hs1 hv (hsu v hv).2.2.1)]
    · refine i7.trans ?_
      show _ = srV (kS X v) (fun p => nI (X.rk p)) X.n - kK X v * c1V (kS X v) 64
      rw [rsum_ok hT a38 how (fun p hp => rfl) hv, s1, bc_c1, e38]
    · refine i8.trans ?_
      show _ = exV (kS X v) X.c X.n 0
      rw [b4, s1]
      exact width_ok hg hex hpx
    · refine i9.trans ?_
      show _ = exV (kS X v) X.c X.n 1
      rw [g0, s1]
      exact tall_ok hg hex hpx
    · refine i10.trans ?_
      show _ = peV (kS X v) X.c X.r X.n
      rw [g0, b5, s1]
      exact perim_ok hg hpx
    · refine i11.trans ?_
      show _ = hoV (kS X v) X.c X.r X.n X.ei X.n
      rw [g0, b4, b5, b3, b6, s1, g3]
      exact holes_ok hg
    · have : w = 0 := by omega
      subst this
      refine (hpro v hv).trans ?_
      exact (bp_ok hA hsu hP hkQ hv).symm
  · have e9 : measA A B (kpa X) (kM X) X.c X.r X.n 69 = ordV (meA1 A B (kpa X) (kM X) X.c X.r X.n 68) (A 41) (A 69) (kM X) := by unfold measA; rw [setA_s]
    rw [e9]
    have o2 := ml_ord (pv := kQ X) (ch := kC X) (pr := meA1 A B (kpa X) (kM X) X.c X.r X.n 68) (ch' := A 41) (old := A 69) (q0 := (fun _ => 0, 0, fun _ => 0)) hm rfl (fun v hv => by rw [show A 41 v = kC X v from (c4 v hv).2.2.2.2]) (fun v hv hc => (hpro v hv).trans (hkQ v hv ((hA.ch v hv).mp hc)).symm) (kM X) (Nat.le_refl _)
    exact (o2.2.2.1 i hi).1.symm
/-- the heap behind a refresh -/
def fA (X : img) (A : xA) (B : xB) : xA := updA (measA (bldA A B 35 X.n X.c X.r X.ei X.rk) (bldB A B 35 X.n X.c X.r X.ei X.rk) (kpa X) (kM X) X.c X.r X.n) 0 11 0
def fB (X : img) (A : xA) (B : xB) : xB := bldB A B 35 X.n X.c X.r X.ei X.rk
theorem fA_o {X : img} (hX : X.ok) {A : xA} {B : xB} {k : Nat} (hk : k < 35 ∨ 71 < k) (h0 : k ≠ 0) : fA X A B k = A k := by
  unfold fA
  rw [updA_n _ _ _ h0]
  unfold measA
  rw [setA_n _ _ (by omega)]
  show itr (meS _ X.c X.r X.n) (kM X) (meA0 _ (kpa X) (kM X)) k = A k
  rw [meI_o (by omega)]
  unfold meA0
  rw [setA_n _ _ (by omega), setA_n _ _ (by omega)]
  exact (bld_gr hX).2.2.1 k (by omega)
theorem fA_0 {X : img} (hX : X.ok) {A : xA} {B : xB} {j : Nat} : fA X A B 0 j = if j = 11 then 0 else A 0 j := by
  unfold fA
  rw [updA_get]
  by_cases e : j = 11
  · rw [if_pos ⟨rfl, e⟩, if_pos e]
  · rw [if_neg (fun z => e z.2), if_neg e]
    unfold measA
    rw [setA_n _ _ (by omega)]
    show itr (meS _ X.c X.r X.n) (kM X) (meA0 _ (kpa X) (kM X)) 0 j = A 0 j
    rw [meI_o (by omega)]
    unfold meA0
    rw [setA_n _ _ (by omega), setA_n _ _ (by omega)]
    exact congrFun ((bld_gr hX).2.2.1 0 (by omega)) j
theorem fB_o {X : img} (hX : X.ok) {A : xA} {B : xB} {k : Nat} (hk : k < 36 ∨ 44 < k) : fB X A B k = B k := (bld_gr hX).2.2.2 k (by omega) (by omega) (by omega)
theorem fA_ld {X : img} (hX : X.ok) {A : xA} {B : xB} : cLd X (fA X A B) (fB X A B) := by
  obtain ⟨⟨g0, g1, g2, g3⟩, ⟨b3, b4, b5, b6⟩, _, _⟩ := bld_gr hX (k := 35) (A := A) (B := B)
  have := meas_ok hX (bld_cNd hX (k := 35) (A := A) (B := B)) g0 g2 g3 b3 b4 b5 b6
  obtain ⟨⟨c1, c2, c3, c4, c5⟩, l2, l3, l4⟩ := this
  have u : ∀ k, k ≠ 0 → fA X A B k = measA (bldA A B 35 X.n X.c X.r X.ei X.rk) (bldB A B 35 X.n X.c X.r X.ei X.rk) (kpa X) (kM X) X.c X.r X.n k := fun k hk => updA_n _ _ _ hk
  refine ⟨⟨?_, ?_, ?_, fun v hv => ?_, fun p hp => ?_⟩, ?_, fun v w hv hw => ?_, fun i hi => ?_⟩
  · rw [u 35 (by decide)]; exact c1
  · rw [u 35 (by decide)]; exact c2
  · rw [u 35 (by decide)]; exact c3
  · rw [u 38 (by decide), u 39 (by decide), u 40 (by decide), u 41 (by decide)]; exact c4 v hv
  · rw [u 42 (by decide)]; exact c5 p hp
  · rw [u 36 (by decide)]; exact l2
  · rw [u (57 + w) (by omega)]; exact l3 v w hv hw
  · rw [u 69 (by decide)]; exact l4 i hi
/-- refresh, done or not -/
theorem ref_do {X : img} (hX : X.ok) {A : xA} {B : xB} {D : xD} (hc : A 1 0 = nI X.c) (hr : A 1 1 = nI X.r) (hei : A 0 10 = X.ei) (hei01 : A 0 10 = 0 ∨ A 0 10 = 1) (hrk : ∀ j, j < X.n → trn (A 2 j) (A 0 9) = nI (X.rk j)) : does0 mX7_refresh [.ref 0] A B D (eqQ none (if A 0 11 = 0 then A else fA X A B) (if A 0 11 = 0 then B else fB X A B) D) nx := by
  have hX' := hX
  obtain ⟨hg, hr16⟩ := hX
  obtain ⟨⟨g0, g1, g2, g3⟩, _, _, _⟩ := bld_gr hX' (k := 35) (A := A) (B := B)
  have := c_refresh (n := X.n) (m := kM X) (rk := X.rk) (pa := kpa X) (A := A) (B := B) (D := D) hc hr hg.2.1 hg.2.2.2.1 hg.2.2.2.2 hei01 (fun j hj => ⟨hr16 j hj, hrk j hj⟩) (fun _ => by
    rw [hei]
    exact ⟨cNd_tr hX' (bld_cNd hX'), g0, g1, g2⟩)
  unfold rfA rfB at this
  rw [hei] at this
  exact this

