/-! the class's built tree, and the attributes on both sides -/
theorem bld_ok {X : img} (hX : X.ok) {k : Nat} {A : xA} {B : xB} : FR k X.c X.r X.n X.ei X.rk (bldA0 A k (nI X.c) (nI X.r) X.ei) (bldB0 B k (nI X.c) X.r X.rk X.n) (bldR A B k X.n X.c X.r X.ei X.rk).1 (bldR A B k X.n X.c X.r X.ei X.rk).2.1 ∧ CI k X.n (bldR A B k X.n X.c X.r X.ei X.rk).1 (bldR A B k X.n X.c X.r X.ei X.rk).2.1 (kT X) := by
  obtain ⟨hg, hr⟩ := hX
  have h64 := hg.n.2
  have h0 := hg.n.1
  have := bld_sim (ei := X.ei) (k := k) (A0 := bldA0 A k (nI X.c) (nI X.r) X.ei) (B0 := bldB0 B k (nI X.c) X.r X.rk X.n) hg hr (q0 := (bldA0 A k (nI X.c) (nI X.r) X.ei, bldB0 B k (nI X.c) X.r X.rk X.n, ushL (-1) (64 - nI X.c * nI X.r))) (s0 := ((0, fun _ => 0, fun _ => 0), fun _ => 0)) rfl ?_ ?_ ?_ 16 (Nat.le_refl _)
  · have e : bldR A B k X.n X.c X.r X.ei X.rk = itr (bldS k X.n) 16 (bldA0 A k (nI X.c) (nI X.r) X.ei, bldB0 B k (nI X.c) X.r X.rk X.n, ushL (-1) (64 - nI X.c * nI X.r)) := by unfold bldR; rfl
    rw [e]
    unfold kT
    exact ⟨this.1, this.2.1⟩
  · refine ⟨⟨?_, ?_, ?_, ?_⟩, ⟨?_, ?_, fun t ht => ?_⟩, fun _ _ => rfl, fun _ _ => rfl, fun _ _ _ => rfl⟩
    · simp [bldA0, shapeA, filA_get, updA_get]
    · simp [bldA0, shapeA, filA_get, updA_get]
    · simp [bldA0, shapeA, filA_get, updA_get]
      rw [pk_mul, hg.2.2.2.2]
    · simp [bldA0, filA_get, updA_get]
    · simp [bldB0, wrB, setB_get, shapeB, updB_get, gL]
    · simp [bldB0, wrB, setB_get, shapeB, updB_get, gR]
    · simp [bldB0, wrB, setB_get, ht]
  · refine ⟨?_, fun v hv => by simp only at hv; omega, fun p hp => ?_, fun v hv => by simp only at hv; omega, fun v hv => by simp only at hv; omega, fun v hv => by simp only at hv; omega, fun v hv => by simp only at hv; omega, ?_⟩
    · simp [bldA0, filA_get, updA_get]; rfl
    · have : p < 64 := by omega
      simp [bldA0, filA_get, updA_get, this]; rfl
    · simp [bldA0, filA_get, updA_get]; rfl
  · intro x
    simp only
    rw [all_eq hg]
    exact hb_all h0 h64 x
/-- the class's arrays of nodes k -/
def cNd (X : img) (k : Nat) (A : xA) (B : xB) : Prop := A k 2 = nI (kM X) ∧ A k 3 = nI (kLf X) ∧ A k 4 = itr (dpS (kP X)) (kM X) 0 ∧ (∀ v, v < kM X → B (k + 2) v = kS X v ∧ A (k + 3) v = kK X v ∧ A (k + 4) v = owV (kN X) (nI v) X.n ∧ A (k + 5) v = kP X v ∧ A (k + 6) v = kC X v) ∧ ∀ p, p < X.n → A (k + 7) p = kN X p
theorem bldA_get {A : xA} {B : xB} {k n c r : Nat} {ei : Int32} {rk : Nat → Nat} {k' j : Nat} (h : k' ≠ k ∨ j ≠ 3) : bldA A B k n c r ei rk k' j = (bldR A B k n c r ei rk).1 k' j := by
  unfold bldA
  rw [updA_get, if_neg (fun z => h.elim (fun q => q z.1) (fun q => q z.2))]
theorem bld_cNd {X : img} (hX : X.ok) {k : Nat} {A : xA} {B : xB} : cNd X k (bldA A B k X.n X.c X.r X.ei X.rk) (bldB A B k X.n X.c X.r X.ei X.rk) := by
  obtain ⟨hF, hC⟩ := bld_ok hX (k := k) (A := A) (B := B)
  obtain ⟨tn, su, P, pn, hN, hA, hsu, hP⟩ := k_all hX
  have hm64 := hA.t.m64
  have hlf := (k_lf hX).2.2
  have hnI : (nI (kM X)).toNatClampNeg = kM X := nI_clamp (by omega)
  obtain ⟨c1, c2, c3, c4, c5, c6, c7, c8⟩ := hC
  change (bldR A B k X.n X.c X.r X.ei X.rk).1 k 2 = nI (kM X) at c1
  have hkp : ∀ v, v < kM X → (bldR A B k X.n X.c X.r X.ei X.rk).1 (k + 5) v = kP X v := c4
  have hkc : ∀ v, v < kM X → (bldR A B k X.n X.c X.r X.ei X.rk).1 (k + 6) v = kC X v := fun v hv => (c5 v hv).trans (by
    unfold kC chn
    exact isum_cg (kM X) (fun u hu => by rw [hkp u hu]; rfl))
  refine ⟨?_, ?_, ?_, fun v hv => ⟨(c2 v hv).1, ?_, ?_, ?_, ?_⟩, fun p hp => ?_⟩
  · rw [bldA_get (Or.inr (by decide))]; exact c1
  · unfold bldA
    rw [updA_ss, c1, hnI, hlf]
    unfold leafV
    exact isum_cg (kM X) (fun u hu => by rw [hkc u hu])
  · rw [bldA_get (Or.inr (by decide)), c8]
    have hpa : paOK (kP X) (kM X) := fun v hv => par_ok _ _
    rw [dps_ok hm64 hpa (dd := (bldR A B k X.n X.c X.r X.ei X.rk).1 (k + 8)) (fun v hv => by rw [c7 v hv, hkp v hv])]
    rfl
  · rw [bldA_get (Or.inl (by omega))]; exact (c2 v hv).2
  · rw [bldA_get (Or.inl (by omega)), c6 v hv]
    have e : ((kT X).2.2 v).toNatClampNeg = tn v := by
      rw [show (kT X).2.2 v = nI (tn v) from hA.kr v hv]
      exact nI_clamp (by have := hA.t.t16 v hv; omega)
    rw [e, hF.2.1.2.2 (tn v) (hA.t.t16 v hv)]
    refine (own_ok hA.t hv (fun q => hb_wr X.rk (tn v) X.n hA.t.n64 q)).trans ?_
    exact ow_cg (fun p hp => (hA.na p hp).symm)
  · rw [bldA_get (Or.inl (by omega))]; exact hkp v hv
  · rw [bldA_get (Or.inl (by omega))]; exact hkc v hv
  · rw [bldA_get (Or.inl (by omega))]; exact c3 p hp
theorem bld_gr {X : img} (hX : X.ok) {k : Nat} {A : xA} {B : xB} : (bldA A B k X.n X.c X.r X.ei X.rk (k + 1) 0 = nI X.c ∧ bldA A B k X.n X.c X.r X.ei X.rk (k + 1) 1 = nI X.r ∧ bldA A B k X.n X.c X.r X.ei X.rk (k + 1) 2 = nI X.n ∧ bldA A B k X.n X.c X.r X.ei X.rk k 1 = X.ei) ∧ (bldB A B k X.n X.c X.r X.ei X.rk (k + 1) 3 = ushL (-1) (64 - nI X.c * nI X.r) ∧ bldB A B k X.n X.c X.r X.ei X.rk (k + 1) 4 = gL X.c X.r ∧ bldB A B k X.n X.c X.r X.ei X.rk (k + 1) 5 = gR X.c X.r ∧ bldB A B k X.n X.c X.r X.ei X.rk (k + 1) 6 = borderV (nI X.c) X.r) ∧ (∀ k', (k' < k ∨ k + 8 < k') → bldA A B k X.n X.c X.r X.ei X.rk k' = A k') ∧ (∀ k', k' ≠ k + 1 → k' ≠ k + 2 → k' ≠ k + 9 → bldB A B k X.n X.c X.r X.ei X.rk k' = B k') := by
  obtain ⟨⟨⟨f1, f2, f3, f4⟩, ⟨f5, f6, f7⟩, f8, f9, f10⟩, hC⟩ := bld_ok hX (k := k) (A := A) (B := B)
  have hb' : ∀ j, bldB A B k X.n X.c X.r X.ei X.rk (k + 1) j = shapeB B (k + 1) (nI X.c) X.r (k + 1) j := fun j => by
    unfold bldB
    rw [f9 (k + 1) (by omega)]
    simp [bldB0, wrB, setB_get]
  refine ⟨⟨?_, ?_, ?_, ?_⟩, ⟨?_, ?_, ?_, ?_⟩, fun k' hk => ?_, fun k' h1 h2 h9 => ?_⟩
  · rw [bldA_get (Or.inl (by omega))]; exact f1
  · rw [bldA_get (Or.inl (by omega))]; exact f2
  · rw [bldA_get (Or.inl (by omega))]; exact f3
  · rw [bldA_get (Or.inr (by decide))]; exact f4
  · rw [hb']; simp [shapeB, updB_get]
  · rw [hb']; simp [shapeB, updB_get, gL]
  · rw [hb']; simp [shapeB, updB_get, gR]
  · rw [hb']; simp [shapeB, updB_get]
  · funext j
    rw [bldA_get (Or.inl (by omega)), f8 k' (by omega)]
    exact congrFun (bldA0_o (by omega) (by omega) (by omega)) j
  · unfold bldB
    rw [f9 k' h2]
    funext j
    simp [bldB0, wrB, setB_get, shapeB, updB_get, h1, h9]
/-- the attributes of an image's tree -/
def kAt (X : img) (v w : Nat) : Int32 := match w with
  | 0 => kK X v
  | 1 => c1V (kS X v) 64
  | 2 => owV (kN X) (nI v) X.n
  | 3 => kP X v
  | 4 => kC X v
  | 5 => itr (heS (kS X v) (fun p => nI (X.rk p)) (kK X v)) X.n 0
  | 6 => srV (kS X v) (fun p => nI (X.rk p)) X.n - kK X v * c1V (kS X v) 64
  | 7 => exV (kS X v) X.c X.n 0
  | 8 => exV (kS X v) X.c X.n 1
  | 9 => peV (kS X v) X.c X.r X.n
  | 10 => hoV (kS X v) X.c X.r X.n X.ei X.n
  | _ => itr (bpS (kQ X) (kC X) (kS X) v) (kM X) 0
theorem at_k {X : img} {A : xA} {B : xB} (hL : mLd X A B) (hei : A 76 6 = X.ei) (hrk : ∀ p, p < X.n → rkM A p = nI (X.rk p)) {v w : Nat} (hv : v < kM X) : atV A B X.c X.r X.n (kM X) v w = kAt X v w := by
  obtain ⟨l1, l2, l3, l4, l5⟩ := hL
  obtain ⟨s1, s2, s3, s4, s5⟩ := l3 v hv
  rcases w with _ | _ | _ | _ | _ | _ | _ | _ | _ | _ | _ | w
  · exact s2
  · show c1V (B 84 v) 64 = c1V (kS X v) 64
    rw [s1]
  · exact ow_cg l4
  · exact s3
  · exact s4
  · show itr (heS (B 84 v) (rkM A) (A 85 v)) X.n 0 = itr (heS (kS X v) (fun p => nI (X.rk p)) (kK X v)) X.n 0
    rw [s1, s2]
    exact itr_cg X.n 0 (fun p x hp => by unfold heS; rw [hrk p hp])
  · show srV (B 84 v) (rkM A) X.n - A 85 v * c1V (B 84 v) 64 = srV (kS X v) (fun p => nI (X.rk p)) X.n - kK X v * c1V (kS X v) 64
    rw [s1, s2, sr_cg hrk]
  · show exV (B 84 v) X.c X.n 0 = exV (kS X v) X.c X.n 0
    rw [s1]
  · show exV (B 84 v) X.c X.n 1 = exV (kS X v) X.c X.n 1
    rw [s1]
  · show peV (B 84 v) X.c X.r X.n = peV (kS X v) X.c X.r X.n
    rw [s1]
  · show hoV (B 84 v) X.c X.r X.n (A 76 6) X.n = hoV (kS X v) X.c X.r X.n X.ei X.n
    rw [s1, hei]
  · show itr (bpS (A 89) (A 87) (B 84) v) (kM X) 0 = itr (bpS (kQ X) (kC X) (kS X) v) (kM X) 0
    refine itr_cg (kM X) 0 (fun k x hk => ?_)
    obtain ⟨t1, t2, t3, t4, t5⟩ := l3 k hk
    unfold bpS lfV blV
    rw [t4, t1, s1]
    by_cases e : kC X k = 0
    · rw [t5 e]
    · rw [if_neg e, if_pos rfl, if_pos rfl]
/-! what measuring writes -/
theorem me_ok {A0 : xA} {B : xB} {c r n m : Nat} (hm : m ≤ 64) (hp : ∀ v, v < m → ndOK (A0 40 v) v) : ∀ j, j ≤ m → ∀ v, v < j →
    itr (meS B c r n) j A0 57 v = A0 38 v ∧ itr (meS B c r n) j A0 58 v = bcL (B 37 v) ∧ itr (meS B c r n) j A0 59 v = A0 39 v ∧ itr (meS B c r n) j A0 60 v = A0 40 v ∧ itr (meS B c r n) j A0 61 v = A0 41 v ∧ itr (meS B c r n) j A0 62 v = A0 38 (A0 70 v).toNatClampNeg - A0 38 v ∧ itr (meS B c r n) j A0 63 v = A0 71 v - A0 38 v * bcL (B 37 v) ∧
    itr (meS B c r n) j A0 64 v = widthV (B 36 4) (B 37 v) c ∧ itr (meS B c r n) j A0 65 v = tallV (A0 36 0) (B 37 v) r ∧ itr (meS B c r n) j A0 66 v = perimV (A0 36 0) (B 36 5) (B 37 v) ∧ itr (meS B c r n) j A0 67 v = holV (A0 36 0) (B 36 4) (B 36 5) (B 36 3) (B 36 6) (B 37 v) (A0 35 1) n ∧
    itr (meS B c r n) j A0 68 v = if A0 40 v = -1 then A0 38 (A0 70 v).toNatClampNeg + 1 else if A0 70 (A0 40 v).toNatClampNeg = A0 70 v then itr (meS B c r n) j A0 68 (A0 40 v).toNatClampNeg else A0 38 (A0 70 v).toNatClampNeg - A0 38 (A0 40 v).toNatClampNeg
  | 0, _, v, hv => by omega
  | j + 1, hj, v, hv => by
    have ih := me_ok (c := c) (r := r) (n := n) (B := B) hm hp j (by omega)
    have ho : ∀ k', (k' < 57 ∨ 68 < k') → itr (meS B c r n) j A0 k' = A0 k' := fun k' hk => meI_o hk j
    rw [itr_s]
    generalize itr (meS B c r n) j A0 = H at *
    have o36 := ho 36 (by omega)
    have o38 := ho 38 (by omega)
    have o39 := ho 39 (by omega)
    have o40 := ho 40 (by omega)
    have o41 := ho 41 (by omega)
    have o70 := ho 70 (by omega)
    have o71 := ho 71 (by omega)
    have o35 := ho 35 (by omega)
    rcases Nat.lt_or_eq_of_le (Nat.le_of_lt_succ hv) with e | e
    · have hne : ∀ k, meS B c r n j H k v = H k v := fun k => by
        have : ¬ v = j := by omega
        simp [meS, msA, mtA, updA_get, this]
      have hpv : ∀ a, a < v → meS B c r n j H 68 a = H 68 a := fun a ha => by
        have : ¬ a = j := by omega
        simp [meS, msA, mtA, updA_get, this]
      obtain ⟨i1, i2, i3, i4, i5, i6, i7, i8, i9, i10, i11, i12⟩ := ih v e
      refine ⟨(hne 57).trans i1, (hne 58).trans i2, (hne 59).trans i3, (hne 60).trans i4, (hne 61).trans i5, (hne 62).trans i6, (hne 63).trans i7, (hne 64).trans i8, (hne 65).trans i9, (hne 66).trans i10, (hne 67).trans i11, ?_⟩
      rw [hne 68, i12]
      rcases hp v (by omega) with z | ⟨a, ha, z⟩
      · rw [z, if_pos rfl, if_pos rfl]
      · rw [z, nI_clamp (by omega), hpv a ha]
    · subst e
      have hpro : proV (msA (mtA H B v) B v c r n) v = if A0 40 v = -1 then A0 38 (A0 70 v).toNatClampNeg + 1 else if A0 70 (A0 40 v).toNatClampNeg = A0 70 v then H 68 (A0 40 v).toNatClampNeg else A0 38 (A0 70 v).toNatClampNeg - A0 38 (A0 40 v).toNatClampNeg := by
        unfold proV
        have q : ∀ k', (k' < 57 ∨ 67 < k') → msA (mtA H B v) B v c r n k' = H k' := fun k' hk => by rw [msA_o (by omega), mtA_o (by omega)]
        rw [q 40 (by omega), q 70 (by omega), q 38 (by omega), q 68 (by omega), o40, o70, o38]
      refine ⟨?_, ?_, ?_, ?_, ?_, ?_, ?_, ?_, ?_, ?_, ?_, ?_⟩
      · simp [meS, msA, mtA, updA_get, o38]
      · simp [meS, msA, mtA, updA_get]
      · simp [meS, msA, mtA, updA_get, o39]
      · simp [meS, msA, mtA, updA_get, o40]
      · simp [meS, msA, mtA, updA_get, o41]
      · simp [meS, msA, mtA, updA_get, o38, o70]
      · simp [meS, msA, mtA, updA_get, o38, o71]
      · simp [meS, msA, updA_get]
      · simp [meS, msA, mtA, updA_get, o36]
      · simp [meS, msA, mtA, updA_get, o36]
      · simp [meS, msA, mtA, updA_get, o36, o35]
      · have e68 : meS B c r n v H 68 v = proV (msA (mtA H B v) B v c r n) v := by unfold meS; rw [updA_ss]
        rw [e68, hpro]
        rcases hp v (by omega) with z | ⟨a, ha, z⟩
        · rw [z, if_pos rfl, if_pos rfl]
        · have : meS B c r n v H 68 a = H 68 a := by
            have : ¬ a = v := by omega
            simp [meS, msA, mtA, updA_get, this]
          rw [z, nI_clamp (by omega), this]

