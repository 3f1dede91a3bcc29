/-! the class's calls, said of the state: questions about the tree -/
theorem isum_nn {g : Nat → Int32} {b : Nat} : ∀ k, (∀ u, u < k → ∃ x, x ≤ b ∧ g u = nI x) → ∃ y, y ≤ b * k ∧ isum g k = nI y
  | 0, _ => ⟨0, by omega, rfl⟩
  | k + 1, h => by
    obtain ⟨y, y1, y2⟩ := isum_nn k (fun u hu => h u (by omega))
    obtain ⟨x, x1, x2⟩ := h k (by omega)
    exact ⟨y + x, by rw [Nat.mul_succ]; omega, by unfold isum; rw [y2, x2, nI_add]⟩
theorem k_nn {X : img} (hX : X.ok) {v b : Nat} (hv : v < kM X) (hbb : b = 1 ∨ (5 ≤ b ∧ b < 12)) : ∃ x, x < 2 ^ 31 ∧ kAt X v b = nI x := by
  obtain ⟨tn, su, P, pn, hN, hA, hsu, hP⟩ := k_all hX
  obtain ⟨hg, hr⟩ := hX
  have hT := hA.t
  have h64 := hT.n64
  have hpx : ∀ q, hb (kS X v) q = true → q < X.n := fun q hq => hT.px v q hv hq
  have hex : ∀ q, hb (kS X v) q = true ↔ rch (nbr X.c X.ei) (inS X.rk X.n (tn v)) (pn v) q := fun q => NT_ex hg hr hN hv q
  rcases b with _ | _ | _ | _ | _ | _ | _ | _ | _ | _ | _ | _ | b
  · omega
  · have := cd_le (kS X v) 64
    exact ⟨_, by omega, c1V_cd _ 64 (Nat.le_refl _)⟩
  · omega
  · omega
  · omega
  · have := hT.t16 _ (hsu v hv).1
    refine ⟨tn (su v) - tn v, by omega, ?_⟩
    show itr (heS (kS X v) (fun p => nI (X.rk p)) (kK X v)) X.n 0 = _
    rw [hA.kr v hv]
    exact he_ok hT (fun p hp => rfl) hv (hsu v hv)
  · have e1 : srV (kS X v) (fun p => nI (X.rk p)) X.n = nI (nsum (fun p => if hb (kS X v) p = true then X.rk p else 0) X.n) := by
      unfold srV
      refine isum_n X.n (fun p hp => ?_)
      by_cases e : hb (kS X v) p = true
      · rw [if_neg (fun z => by rw [hasM0 _ (by omega), e] at z; exact absurd z (by decide)), if_pos e]
      · rw [if_pos ((hasM0 _ (by omega)).mpr (by simpa using e)), if_neg e]; rfl
    have e2 : cd (kS X v) 64 = nsum (fun p => if hb (kS X v) p = true then 1 else 0) X.n := by
      rw [cd_ns]
      have := nsum_tl (f := fun p => if hb (kS X v) p = true then 1 else 0) (n := X.n) (64 - X.n) (fun u h1 _ => if_neg (fun z => by have := hpx u z; omega))
      rw [show X.n + (64 - X.n) = 64 by omega] at this
      exact this
    have e3 : tn v * cd (kS X v) 64 ≤ nsum (fun p => if hb (kS X v) p = true then X.rk p else 0) X.n := by
      rw [e2, ← nsum_mulc]
      refine nsum_mo X.n (fun p hp => ?_)
      by_cases e : hb (kS X v) p = true
      · rw [if_pos e, if_pos e, hT.ndr p hp, Nat.mul_one]
        exact hT.tns (hT.ndl p hp) hv ((hT.ndh v p hv hp).mp e)
      · rw [if_neg e, if_neg e]; exact Nat.le_refl _
    have e4 := nsum_le (f := fun p => if hb (kS X v) p = true then X.rk p else 0) (b := 16) X.n (fun p hp => by
      have := hT.r16 p hp
      split <;> omega)
    refine ⟨nsum (fun p => if hb (kS X v) p = true then X.rk p else 0) X.n - tn v * cd (kS X v) 64, by omega, ?_⟩
    show srV (kS X v) (fun p => nI (X.rk p)) X.n - kK X v * c1V (kS X v) 64 = _
    rw [e1, hA.kr v hv, c1V_cd _ 64 (Nat.le_refl _), pk_mul, pk_sub e3]
  · obtain ⟨y, y1, y2⟩ := isum_nn (g := fun j => if (kS X v &&& shlL (gL X.c X.r) (nI j)) = 0 then 0 else 1) (b := 1) X.c (fun u _ => by
      by_cases e : (kS X v &&& shlL (gL X.c X.r) (nI u)) = 0
      · rw [if_pos e]; exact ⟨0, by omega, rfl⟩
      · rw [if_neg e]; exact ⟨1, by omega, rfl⟩)
    have := hg.2.1
    exact ⟨y, by omega, (width_ok hg hex hpx).symm.trans y2⟩
  · obtain ⟨y, y1, y2⟩ := isum_nn (g := fun j => if (kS X v &&& rowSetV (nI X.c) (nI j)) = 0 then 0 else 1) (b := 1) X.r (fun u _ => by
      by_cases e : (kS X v &&& rowSetV (nI X.c) (nI u)) = 0
      · rw [if_pos e]; exact ⟨0, by omega, rfl⟩
      · rw [if_neg e]; exact ⟨1, by omega, rfl⟩)
    have := hg.2.2.2.1
    exact ⟨y, by omega, (tall_ok hg hex hpx).symm.trans y2⟩
  · obtain ⟨y, y1, y2⟩ := isum_nn (g := fun p => if hasM (kS X v) (nI p) = 0 then 0 else 4 - c1V (bsV X.c X.r p 0 &&& kS X v) 64) (b := 4) X.n (fun p hp => by
      by_cases e : hasM (kS X v) (nI p) = 0
      · rw [if_pos e]; exact ⟨0, by omega, rfl⟩
      · rw [if_neg e, c1V_cd _ 64 (Nat.le_refl _)]
        have h4 : cd (bsV X.c X.r p 0 &&& kS X v) 64 ≤ 4 := by
          rw [pe_nb hg hpx hp]
          have : ∀ b : Bool, bN b ≤ 1 := fun b => by cases b <;> decide
          have a1 := this (hb (kS X v) (p + 1) && !decide ((p + 1) % X.c = 0))
          have a2 := this (decide (1 ≤ p) && hb (kS X v) (p - 1) && !decide (p % X.c = 0))
          have a3 := this (hb (kS X v) (p + X.c))
          have a4 := this (decide (X.c ≤ p) && hb (kS X v) (p - X.c))
          omega
        exact ⟨4 - cd (bsV X.c X.r p 0 &&& kS X v) 64, by omega, by rw [show (4 : Int32) = nI 4 from rfl, pk_sub h4]⟩)
    exact ⟨y, by omega, y2⟩
  · obtain ⟨y, y1, y2⟩ := isum_nn (g := hoO X.c X.r X.n X.ei (allM (nI X.n) &&& (kS X v ^^^ -1))) (b := 1) X.n (fun p hp => by
      unfold hoO
      split
      · exact ⟨0, by omega, rfl⟩
      · split
        · split
          · exact ⟨1, by omega, rfl⟩
          · exact ⟨0, by omega, rfl⟩
        · exact ⟨0, by omega, rfl⟩)
    exact ⟨y, by omega, y2⟩
  · have := P_17 hT hsu hP v hv
    exact ⟨P v, by omega, bp_ok hA hsu hP (fun l hl hlf => pr_ok hA hsu hP hl hlf) hv⟩
  · omega
theorem fa_b {b : Nat} (hb : b < 12) (h : ¬ isFAV (nI b) = 0) : b = 1 ∨ (5 ≤ b ∧ b < 12) := by
  by_cases e : b = 1
  · exact Or.inl e
  · right
    refine ⟨?_, hb⟩
    rcases Nat.lt_or_ge b 5 with z | z
    · exfalso
      apply h
      unfold isFAV
      rw [if_neg (show ¬ nI b = 1 from fun q => e ((nI_eq (b := 1) (by omega) (by omega)).mp q)), if_pos (show nI b < 5 from nI_lt (b := 5) z (by omega))]
    · exact z
section CT
variable {S : abs} {A : xA} {B : xB} {D : xD}
theorem C_ref (h : cRel S A B) (hS : S.ok) : ∃ A1 B1, (∀ D, does0 mX7_refresh [.ref 0] A B D (eqQ none A1 B1 D) nx) ∧ cRel S A1 B1 ∧ cLd S.X A1 B1 ∧ hiF A B A1 B1 := by
  have hX := abs.Xok hS
  have h64 := hS.g.n.2
  have hd := fun D => ref_do hX (A := A) (B := B) (D := D) h.c h.r h.ei (by rw [h.ei]; exact hS.ei) (fun j (hj : j < S.n) => by rw [h.lv j (by omega), h.dk]; exact (abs.rk hS (by omega)).1)
  by_cases e : A 0 11 = 0
  · refine ⟨A, B, fun D => ?_, h, h.st e, hiF_rf _ _⟩
    have := hd D
    rw [if_pos e, if_pos e] at this
    exact this
  · refine ⟨fA S.X A B, fB S.X A B, fun D => ?_, ?_, fA_ld hX, fun k hk => ⟨fA_o hX (by omega) (by omega), fB_o hX (by omega)⟩⟩
    · have := hd D
      rw [if_neg e, if_neg e] at this
      exact this
    · obtain ⟨x, x1, x2, x3⟩ := h.hx
      have u : ∀ k, k < 35 → k ≠ 0 → fA S.X A B k = A k := fun k h1 h2 => fA_o hX (by omega) h2
      exact (cRel.mk'
      (c := by rw [u 1 (by decide) (by decide)]; exact h.c)
      (r := by rw [u 1 (by decide) (by decide)]; exact h.r)
      (lv := fun j hj => by rw [u 2 (by decide) (by decide)]; exact h.lv j hj)
      (mr := fun j hj => by rw [u 3 (by decide) (by decide)]; exact h.mr j hj)
      (dk := by rw [fA_0 hX]; exact h.dk)
      (ei := by rw [fA_0 hX]; exact h.ei)
      (st := fun _ => fA_ld hX)
      (hx := ⟨x, x1, by rw [u 7 (by decide) (by decide)]; exact x2, fun i hi => cSl_o (Nat.mod_lt _ (by decide)) (x3 i hi) (fun k h1 h2 => u k (by omega) (by omega))⟩)
      (sz := by rw [u 7 (by decide) (by decide)]; exact h.sz)
      (len := by rw [u 33 (by decide) (by decide)]; exact h.len)
      (co := fun i hi => by rw [u 34 (by decide) (by decide)]; exact h.co i hi))
theorem cnt_ok (h : cRel S A B) (hL : cLd S.X A B) (hS : S.ok) {w : Nat} (hw : w < 8) : cntV A S.n w = S.cnt w := by
  have h64 := hS.g.n.2
  obtain ⟨⟨c1, c2, c3, _, _⟩, _, _, _⟩ := hL
  rcases w with _ | _ | _ | _ | _ | _ | _ | _ | w
  · exact h.c
  · exact h.r
  · show numV A 35 (nI 2) = _
    unfold numV
    rw [if_pos (show nI 2 = 2 from rfl)]; exact c1
  · show numV A 35 (nI 3) = _
    unfold numV
    rw [if_neg (by decide), if_neg (by decide)]; exact c2
  · show numV A 35 (nI 4) = _
    unfold numV
    rw [if_neg (by decide), if_pos (show nI 4 = 4 from rfl)]; exact c3
  · exact dl_eq (fun p hp => by rw [h.lv p (by omega)]; exact hS.lv p (by omega)) (fun p hp => h.lv p (by omega))
  · exact isum_cg S.n (fun p hp => h.lv p (by omega))
  · exact h.sz
  · omega
theorem cRel.nn (h : cRel S A B) (hS : S.ok) : A 1 0 * A 1 1 = nI S.n := by rw [h.c, h.r, pk_mul, hS.g.2.2.2.2]
theorem C_count (h : cRel S A B) (hS : S.ok) {v : Int32} : does0 mX7_count [.ref 0, .int v] A B D (CQ S A B D (inR v 8) (.int (S.cnt v.toNatClampNeg))) (CX S A B D (inR v 8) True sIA sIA) := by
  obtain ⟨A1, B1, hd, h1, hL, hf⟩ := C_ref h hS
  refine does_mo (p_count (hd D) (h1.nn hS) hS.g.n.2) ?_ ?_
  · rintro r A2 B2 D2 ⟨hv, rfl, rfl, rfl, rfl⟩
    obtain ⟨w, hw, rfl⟩ := inR_nI (n := 8) hv (by decide)
    refine ⟨hv, ?_, rfl, h1, hf⟩
    rw [nI_clamp (by omega), cnt_ok h1 hL hS hw]
  · rintro E A2 B2 D2 ⟨⟨hn, rfl⟩, rfl, rfl, rfl⟩
    exact ⟨Or.inl ⟨hn, rfl⟩, rfl, h, hiF_rf _ _⟩
theorem C_nodeOf (h : cRel S A B) (hS : S.ok) {i : Int32} : does0 mX7_nodeOf [.ref 0, .int i] A B D (CQ S A B D (inR i (nI S.n)) (.int (kN S.X i.toNatClampNeg))) (CX S A B D (inR i (nI S.n)) True sIO sIO) := by
  obtain ⟨x, x1, x2, x3⟩ := h.hx
  have h64 := hS.g.n.2
  obtain ⟨A1, B1, hd, h1, hL, hf⟩ := C_ref h hS
  refine does_mo (p_nodeOf (h.ok hS x1 x2) (hd D)) ?_ ?_
  · rintro r A2 B2 D2 ⟨hv, rfl, rfl, rfl, rfl⟩
    obtain ⟨p, hp, rfl⟩ := inR_nI hv (by omega)
    refine ⟨hv, ?_, rfl, h1, hf⟩
    rw [nI_clamp (by omega), show A2 42 p = kN S.X p from hL.1.2.2.2.2 p hp]
  · rintro E A2 B2 D2 ⟨⟨hn, rfl⟩, rfl, rfl, rfl⟩
    exact ⟨Or.inl ⟨hn, rfl⟩, rfl, h, hiF_rf _ _⟩
theorem C_attribute (h : cRel S A B) (hS : S.ok) {i a : Int32} : does0 mX7_attribute [.ref 0, .int i, .int a] A B D (CQ S A B D (inR i (nI (kM S.X)) ∧ inR a 12) (.int (kAt S.X i.toNatClampNeg a.toNatClampNeg))) (CX S A B D (inR i (nI (kM S.X))) (inR a 12) sIO sIA) := by
  have hk := k_m (abs.Xok hS)
  obtain ⟨A1, B1, hd, h1, hL, hf⟩ := C_ref h hS
  refine does_mo (p_attribute (hd D) hL.1.1 hk.2.1) ?_ ?_
  · rintro r A2 B2 D2 ⟨⟨hv, ha⟩, rfl, rfl, rfl, rfl⟩
    obtain ⟨p, hp, rfl⟩ := inR_nI hv (by omega)
    obtain ⟨w, hw, rfl⟩ := inR_nI (n := 12) ha (by decide)
    refine ⟨⟨hv, ha⟩, ?_, rfl, h1, hf⟩
    rw [nI_clamp (by omega), nI_clamp (by omega), hL.2.2.1 p w hp hw]
  · rintro E A2 B2 D2 ⟨hE, rfl, rfl, rfl⟩
    exact ⟨hE, rfl, h1, hf⟩
def kMn (X : img) (v : Nat) : UInt64 := FP.ddiv (FP.i2d (srV (kS X v) (fun p => nI (X.rk p)) X.n)) (FP.i2d (c1V (kS X v) 64))
theorem k_mn {X : img} (hX : X.ok) {v : Nat} (hv : v < kM X) : vf_n64 (kMn X v) ∧ 1 ≤ c1V (kS X v) 64 := by
  obtain ⟨tn, su, P, pn, hN, hA, hsu, hP⟩ := k_all hX
  have hT := hA.t
  have h64 := hT.n64
  have hpx : ∀ q, hb (kS X v) q = true → q < X.n := fun q hq => hT.px v q hv hq
  have e1 : srV (kS X v) (fun p => nI (X.rk p)) X.n = nI (nsum (fun p => if hb (kS X v) p = true then X.rk p else 0) X.n) := by
    unfold srV
    refine isum_n X.n (fun p hp => ?_)
    by_cases e : hb (kS X v) p = true
    · rw [if_neg (fun z => by rw [hasM0 _ (by omega), e] at z; exact absurd z (by decide)), if_pos e]
    · rw [if_pos ((hasM0 _ (by omega)).mpr (by simpa using e)), if_neg e]; rfl
  have e2 : cd (kS X v) 64 = nsum (fun p => if hb (kS X v) p = true then 1 else 0) X.n := by
    rw [cd_ns]
    have := nsum_tl (f := fun p => if hb (kS X v) p = true then 1 else 0) (n := X.n) (64 - X.n) (fun u h1 _ => if_neg (fun z => by have := hpx u z; omega))
    rw [show X.n + (64 - X.n) = 64 by omega] at this
    exact this
  have e3 : nsum (fun p => if hb (kS X v) p = true then X.rk p else 0) X.n ≤ 15 * cd (kS X v) 64 := by
    rw [e2, ← nsum_mulc]
    refine nsum_mo X.n (fun p hp => ?_)
    have := hT.r16 p hp
    by_cases e : hb (kS X v) p = true
    · rw [if_pos e, if_pos e]; omega
    · rw [if_neg e, if_neg e]; exact Nat.le_refl _
  have e4 := cd_le (kS X v) 64
  have e5 : 1 ≤ cd (kS X v) 64 := by
    obtain ⟨p, p1, _, p3⟩ := hT.ne hv
    rcases Nat.eq_zero_or_pos (cd (kS X v) 64) with z | z
    · exfalso
      rw [cd_ns, nsum_z] at z
      have := z p (by omega)
      rw [if_pos p3] at this
      exact absurd this (by decide)
    · exact z
  unfold kMn
  rw [e1, c1V_cd _ 64 (Nat.le_refl _)]
  exact ⟨fp_n e5 e4 e3, nI_le (a := 1) e5 (by omega)⟩
theorem C_meanRank (h : cRel S A B) (hS : S.ok) {i : Int32} : does0 mX7_meanRank [.ref 0, .int i] A B D (CQ S A B D (inR i (nI (kM S.X))) (.double (kMn S.X i.toNatClampNeg))) (CX S A B D (inR i (nI (kM S.X))) True sIO sIO) := by
  have hX := abs.Xok hS
  have hk := k_m hX
  obtain ⟨A1, B1, hd, h1, hL, hf⟩ := C_ref h hS
  have key : ∀ v, v < kM S.X → A1 58 v = c1V (kS S.X v) 64 ∧ A1 63 v + A1 38 v * A1 58 v = srV (kS S.X v) (fun p => nI (S.X.rk p)) S.X.n := fun v hv => by
    have a1 : A1 58 v = c1V (kS S.X v) 64 := hL.2.2.1 v 1 hv (by decide)
    have a6 : A1 63 v = srV (kS S.X v) (fun p => nI (S.X.rk p)) S.X.n - kK S.X v * c1V (kS S.X v) 64 := hL.2.2.1 v 6 hv (by decide)
    have a0 : A1 38 v = kK S.X v := (hL.1.2.2.2.1 v hv).2.1
    refine ⟨a1, ?_⟩
    rw [a6, a0, a1]
    have g : ∀ a b : Int32, a - b + b = a := fun a b => by grind
    exact g _ _
  refine does_mo (p_meanRank (hd D) hL.1.1 hk.2.1 (fun v hv => ?_)) ?_ ?_
  · obtain ⟨a1, a2⟩ := key v hv
    obtain ⟨b1, b2⟩ := k_mn hX hv
    rw [a2, a1]
    exact ⟨b2, b1⟩
  · rintro r A2 B2 D2 ⟨hv, rfl, rfl, rfl, rfl⟩
    obtain ⟨p, hp, rfl⟩ := inR_nI hv (by omega)
    refine ⟨hv, ?_, rfl, h1, hf⟩
    obtain ⟨a1, a2⟩ := key p hp
    rw [nI_clamp (by omega), a2, a1]
    rfl
  · rintro E A2 B2 D2 ⟨⟨hn, rfl⟩, rfl, rfl, rfl⟩
    exact ⟨Or.inl ⟨hn, rfl⟩, rfl, h1, hf⟩
theorem C_contains (h : cRel S A B) (hS : S.ok) {i j : Int32} : does0 mX7_contains [.ref 0, .int i, .int j] A B D (CQ S A B D (inR i (nI (kM S.X)) ∧ inR j (nI S.n)) (.int (hasM (kS S.X i.toNatClampNeg) j))) (CX S A B D (inR i (nI (kM S.X)) ∧ inR j (nI S.n)) True sIO sIO) := by
  have hk := k_m (abs.Xok hS)
  have h64 := hS.g.n.2
  obtain ⟨A1, B1, hd, h1, hL, hf⟩ := C_ref h hS
  refine does_mo (p_contains (hd D) hL.1.1 hk.2.1 (h1.nn hS) h64) ?_ ?_
  · rintro r A2 B2 D2 ⟨⟨hv, hj⟩, rfl, rfl, rfl, rfl⟩
    obtain ⟨p, hp, rfl⟩ := inR_nI hv (by omega)
    obtain ⟨q, hq, rfl⟩ := inR_nI hj (by omega)
    refine ⟨⟨hv, hj⟩, ?_, rfl, h1, hf⟩
    rw [nI_clamp (by omega), nI_clamp (by omega), show B2 37 p = kS S.X p from (hL.1.2.2.2.1 p hp).1, hasV_hb _ (by omega), hasM_hb _ (by omega)]
  · rintro E A2 B2 D2 ⟨⟨hn, rfl⟩, rfl, rfl, rfl⟩
    exact ⟨Or.inl ⟨hn, rfl⟩, rfl, h1, hf⟩
theorem k_cn {X : img} (hX : X.ok) {v : Nat} (hv : v < kM X) : kC X v = nI (cnP (kP X) (nI v) (kM X)) ∧ cnP (kP X) (nI v) (kM X) ≤ 64 := by
  have hk := k_m hX
  have := cnP_le (kP X) (nI v) (kM X)
  refine ⟨?_, by omega⟩
  unfold kC chn cnP
  refine isum_n (kM X) (fun u hu => ?_)
  show (if kP X u = nI v then (1 : Int32) else 0) = _
  by_cases e : kP X u = nI v
  · rw [if_pos e, if_pos e]; rfl
  · rw [if_neg e, if_neg e]; rfl
theorem C_child (h : cRel S A B) (hS : S.ok) {i j : Int32} : does0 mX7_child [.ref 0, .int i, .int j] A B D (CQ S A B D (inR i (nI (kM S.X)) ∧ inR j (kC S.X i.toNatClampNeg)) (.int (itr (chS (kP S.X) i) (kM S.X) (-1, j)).1)) (CX S A B D (inR i (nI (kM S.X)) ∧ inR j (kC S.X i.toNatClampNeg)) True sIO sIO) := by
  have hX := abs.Xok hS
  have hk := k_m hX
  obtain ⟨A1, B1, hd, h1, hL, hf⟩ := C_ref h hS
  have key : ∀ j, (inR i (nI (kM S.X)) ∧ inR j (A1 41 i.toNatClampNeg)) ↔ (inR i (nI (kM S.X)) ∧ inR j (kC S.X i.toNatClampNeg)) := fun j => by
    refine and_congr_right (fun hv => ?_)
    obtain ⟨p, hp, rfl⟩ := inR_nI hv (by omega)
    rw [nI_clamp (by omega), show A1 41 p = kC S.X p from (hL.1.2.2.2.1 p hp).2.2.2.2]
  refine does_mo (p_child (hd D) hL.1.1 hk.2.1) ?_ ?_
  · rintro r A2 B2 D2 ⟨hc, rfl, rfl, rfl, rfl⟩
    have hc := (key j).mp hc
    refine ⟨hc, ?_, rfl, h1, hf⟩
    obtain ⟨hv, hj⟩ := hc
    obtain ⟨p, hp, rfl⟩ := inR_nI hv (by omega)
    rw [nI_clamp (by omega)] at hj ⊢
    obtain ⟨k1, k2⟩ := k_cn hX hp
    rw [k1] at hj
    obtain ⟨q, hq, rfl⟩ := inR_nI hj (by omega)
    rw [child_ch (pr' := kP S.X) hk.2.1 hp (fun v hv => par_ok _ _) (fun u hu => (hL.1.2.2.2.1 u hu).2.2.2.1) hq]
  · rintro E A2 B2 D2 ⟨⟨hn, rfl⟩, rfl, rfl, rfl⟩
    exact ⟨Or.inl ⟨fun z => hn ((key j).mpr z), rfl⟩, rfl, h1, hf⟩
theorem C_leaf (h : cRel S A B) (hS : S.ok) {i : Int32} : does0 mX7_leaf [.ref 0, .int i] A B D (CQ S A B D (inR i (nI (kLf S.X))) (.int (kLo S.X i.toNatClampNeg))) (CX S A B D (inR i (nI (kLf S.X))) True sIO sIO) := by
  have hk := k_m (abs.Xok hS)
  obtain ⟨A1, B1, hd, h1, hL, hf⟩ := C_ref h hS
  refine does_mo (p_leaf (hd D) hL.1.2.1 hk.2.2) ?_ ?_
  · rintro r A2 B2 D2 ⟨hv, rfl, rfl, rfl, rfl⟩
    obtain ⟨p, hp, rfl⟩ := inR_nI hv (by omega)
    refine ⟨hv, ?_, rfl, h1, hf⟩
    rw [nI_clamp (by omega), hL.2.2.2 p hp]
  · rintro E A2 B2 D2 ⟨⟨hn, rfl⟩, rfl, rfl, rfl⟩
    exact ⟨Or.inl ⟨hn, rfl⟩, rfl, h1, hf⟩
theorem k_pr {X : img} (hX : X.ok) {v : Nat} (hv : v < kM X) (hc : kC X v = 0) : kAt X v 11 = kQ X v := by
  obtain ⟨tn, su, P, pn, hN, hA, hsu, hP⟩ := k_all hX
  show itr (bpS (kQ X) (kC X) (kS X) v) (kM X) 0 = _
  have hq : ∀ l, l < kM X → lfP (kM X) (kpa X) l → kQ X l = nI (P l) := fun l hl hlf => pr_ok hA hsu hP hl hlf
  rw [bp_ok hA hsu hP hq hv, hq v hv ((hA.ch v hv).mp hc)]
theorem C_prominence (h : cRel S A B) (hS : S.ok) {i : Int32} : does0 mX7_prominence [.ref 0, .int i] A B D (CQ S A B D (inR i (nI (kM S.X)) ∧ kC S.X i.toNatClampNeg = 0) (.int (kQ S.X i.toNatClampNeg))) (CX S A B D (inR i (nI (kM S.X))) (kC S.X i.toNatClampNeg = 0) sIO sIS) := by
  have hX := abs.Xok hS
  have hk := k_m hX
  obtain ⟨A1, B1, hd, h1, hL, hf⟩ := C_ref h hS
  have key : inR i (nI (kM S.X)) → A1 41 i.toNatClampNeg = kC S.X i.toNatClampNeg := fun hv => by
    obtain ⟨p, hp, rfl⟩ := inR_nI hv (by omega)
    rw [nI_clamp (by omega)]
    exact (hL.1.2.2.2.1 p hp).2.2.2.2
  refine does_mo (p_prominence (hd D) hL.1.1 hk.2.1) ?_ ?_
  · rintro r A2 B2 D2 ⟨⟨hv, hc⟩, rfl, rfl, rfl, rfl⟩
    rw [key hv] at hc
    refine ⟨⟨hv, hc⟩, ?_, rfl, h1, hf⟩
    obtain ⟨p, hp, rfl⟩ := inR_nI hv (by omega)
    rw [nI_clamp (by omega)] at hc ⊢
    rw [show A2 68 p = kAt S.X p 11 from hL.2.2.1 p 11 hp (by decide), k_pr hX hp hc]
  · rintro E A2 B2 D2 ⟨hE, rfl, rfl, rfl⟩
    refine ⟨?_, rfl, h1, hf⟩
    rcases hE with z | ⟨z1, z2, z3⟩
    · exact Or.inl z
    · exact Or.inr ⟨z1, by rw [← key z1]; exact z2, z3⟩
theorem C_component (h : cRel S A B) (hS : S.ok) {i v : Int32} : does0 mX7_component [.ref 0, .int i, .int v] A B D (CQ S A B D (inR i (nI S.n) ∧ btw v 0 15) (.int (cfV (kK S.X) (kS S.X) i v (kM S.X) (-1)))) (CX S A B D (inR i (nI S.n)) (btw v 0 15) sIO sIA) := by
  obtain ⟨x, x1, x2, x3⟩ := h.hx
  have hk := k_m (abs.Xok hS)
  have h64 := hS.g.n.2
  obtain ⟨A1, B1, hd, h1, hL, hf⟩ := C_ref h hS
  refine does_mo (p_component (h.ok hS x1 x2) (hd D) hL.1.1 hk.2.1) ?_ ?_
  · rintro r A2 B2 D2 ⟨⟨hi, hv⟩, rfl, rfl, rfl, rfl⟩
    obtain ⟨p, hp, rfl⟩ := inR_nI hi (by omega)
    refine ⟨⟨hi, hv⟩, ?_, rfl, h1, hf⟩
    rw [nI_clamp (by omega), low_cf (by omega) (fun v hv => ⟨(hL.1.2.2.2.1 v hv).2.1, (hL.1.2.2.2.1 v hv).1⟩)]
  · rintro E A2 B2 D2 ⟨hE, rfl, rfl, rfl⟩
    exact ⟨hE, rfl, h, hiF_rf _ _⟩
theorem C_meet (h : cRel S A B) (hS : S.ok) {i j : Int32} : does0 mX7_meet [.ref 0, .int i, .int j] A B D (CQ S A B D (inR i (nI S.n) ∧ inR j (nI S.n)) (.int (itr (meS2 (kS S.X) i j) (kM S.X) 0))) (CX S A B D (inR i (nI S.n) ∧ inR j (nI S.n)) True sIO sIO) := by
  obtain ⟨x, x1, x2, x3⟩ := h.hx
  have hk := k_m (abs.Xok hS)
  have h64 := hS.g.n.2
  obtain ⟨A1, B1, hd, h1, hL, hf⟩ := C_ref h hS
  obtain ⟨m, hm⟩ : ∃ m, kM S.X = m + 1 := ⟨kM S.X - 1, by omega⟩
  refine does_mo (p_meet (m := m) (h.ok hS x1 x2) (hd D) (by rw [← hm]; exact hL.1.1) (by omega)) ?_ ?_
  · rintro r A2 B2 D2 ⟨⟨hi, hj⟩, rfl, rfl, rfl, rfl⟩
    obtain ⟨p, hp, rfl⟩ := inR_nI hi (by omega)
    obtain ⟨q, hq, rfl⟩ := inR_nI hj (by omega)
    refine ⟨⟨hi, hj⟩, ?_, rfl, h1, hf⟩
    rw [nI_clamp (by omega), nI_clamp (by omega), small_me (se' := kS S.X) (by omega) (by omega) m (fun u hu => (hL.1.2.2.2.1 u (by omega)).1), hm]
  · rintro E A2 B2 D2 ⟨⟨hn, rfl⟩, rfl, rfl, rfl⟩
    exact ⟨Or.inl ⟨hn, rfl⟩, rfl, h, hiF_rf _ _⟩
theorem C_distance (h : cRel S A B) (hS : S.ok) {i j : Int32} : does0 mX7_distance [.ref 0, .int i, .int j] A B D (CQ S A B D (inR i (nI (kM S.X)) ∧ inR j (nI (kM S.X))) (.int (diV (kS S.X) (kP S.X) i.toNatClampNeg j.toNatClampNeg (kM S.X)))) (CX S A B D (inR i (nI (kM S.X)) ∧ inR j (nI (kM S.X))) True sIO sIO) := by
  have hX := abs.Xok hS
  have hk := k_m hX
  obtain ⟨tn, su, P, pn, hN, hA, hsu, hP⟩ := k_all hX
  obtain ⟨A1, B1, hd, h1, hL, hf⟩ := C_ref h hS
  refine does_mo (p_distance (hd D) hL.1.1 hk.2.1) ?_ ?_
  · rintro r A2 B2 D2 ⟨⟨hi, hj⟩, rfl, rfl, rfl, rfl⟩
    obtain ⟨p, hp, rfl⟩ := inR_nI hi (by omega)
    obtain ⟨q, hq, rfl⟩ := inR_nI hj (by omega)
    refine ⟨⟨hi, hj⟩, ?_, rfl, h1, hf⟩
    rw [nI_clamp (by omega), nI_clamp (by omega), ← steps_di hA.t hA.p0 hA.pp hp hq]
    have : ∀ u, u < kM S.X → B2 37 u = kS S.X u := fun u hu => (hL.1.2.2.2.1 u hu).1
    unfold stepsV
    rw [this p hp, this q hq, isum_cg (g := fun v => if subV (kS S.X p) (kS S.X v) = subV (kS S.X q) (kS S.X v) then 0 else 1) (kM S.X) (fun v hv => by rw [this v hv])]
  · rintro E A2 B2 D2 ⟨⟨hn, rfl⟩, rfl, rfl, rfl⟩
    exact ⟨Or.inl ⟨hn, rfl⟩, rfl, h1, hf⟩
end CT

