/-! the class's calls, said of the state: pictures, flags, input -/
abbrev CQ (S' : abs) (A : xA) (B : xB) (D : xD) (c : Prop) (v : Value) : Option Value → xA → xB → xD → Prop := fun r A1 B1 D1 => c ∧ r = some v ∧ D1 = D ∧ cRel S' A1 B1 ∧ hiF A B A1 B1
abbrev CX (S : abs) (A : xA) (B : xB) (D : xD) (c1 c2 : Prop) (E1 E2 : String) : String → xA → xB → xD → Prop := fun E A1 B1 D1 => ((¬ c1 ∧ E = E1) ∨ (c1 ∧ ¬ c2 ∧ E = E2)) ∧ D1 = D ∧ cRel S A1 B1 ∧ hiF A B A1 B1
theorem hiF_rf (A : xA) (B : xB) : hiF A B A B := fun _ _ => ⟨rfl, rfl⟩
theorem hiF_tr {A A1 A2 : xA} {B B1 B2 : xB} (h : hiF A B A1 B1) (h2 : hiF A1 B1 A2 B2) : hiF A B A2 B2 := fun k hk => ⟨(h2 k hk).1.trans (h k hk).1, (h2 k hk).2.trans (h k hk).2⟩
theorem cLd_k {X : img} {A A1 : xA} {B B1 : xB} (h : cLd X A B) (hA : ∀ k, (34 < k ∧ k < 45 ∨ 54 < k ∧ k < 70) → A1 k = A k) (hB : B1 37 = B 37) : cLd X A1 B1 := by
  obtain ⟨⟨c1, c2, c3, c4, c5⟩, l2, l3, l4⟩ := h
  refine ⟨⟨?_, ?_, ?_, fun v hv => ?_, fun p hp => ?_⟩, ?_, fun v w hv hw => ?_, fun i hi => ?_⟩
  · rw [hA 35 (by decide)]; exact c1
  · rw [hA 35 (by decide)]; exact c2
  · rw [hA 35 (by decide)]; exact c3
  · rw [hB, hA 38 (by decide), hA 39 (by decide), hA 40 (by decide), hA 41 (by decide)]; exact c4 v hv
  · rw [hA 42 (by decide)]; exact c5 p hp
  · rw [hA 36 (by decide)]; exact l2
  · rw [hA (57 + w) (by omega)]; exact l3 v w hv hw
  · rw [hA 69 (by decide)]; exact l4 i hi
/-- cells that say nothing of the state -/
theorem cRel_k {S : abs} {A A1 : xA} {B B1 : xB} (h : cRel S A B) (hA : ∀ k, (k < 4 ∨ 6 < k ∧ k < 33 ∨ 33 < k ∧ k < 45 ∨ 54 < k ∧ k < 70) → A1 k = A k) (h33 : A1 33 1 = A 33 1) (hB : B1 37 = B 37) : cRel S A1 B1 := (cRel.mk'
      (c := by rw [hA 1 (by decide)]; exact h.c)
      (r := by rw [hA 1 (by decide)]; exact h.r)
      (lv := fun j hj => by rw [hA 2 (by decide)]; exact h.lv j hj)
      (mr := fun j hj => by rw [hA 3 (by decide)]; exact h.mr j hj)
      (dk := by rw [hA 0 (by decide)]; exact h.dk)
      (ei := by rw [hA 0 (by decide)]; exact h.ei)
      (st := fun z => by rw [hA 0 (by decide)] at z; exact cLd_k (h.st z) (fun k hk => hA k (by omega)) hB)
      (hx := by
    obtain ⟨x, x1, x2, x3⟩ := h.hx
    exact ⟨x, x1, by rw [hA 7 (by decide)]; exact x2, fun i hi => cSl_o (Nat.mod_lt _ (by decide)) (x3 i hi) (fun k h1 h2 => hA k (by omega))⟩)
      (sz := by rw [hA 7 (by decide)]; exact h.sz)
      (len := by rw [h33]; exact h.len)
      (co := fun i hi => by rw [hA 34 (by decide)]; exact h.co i hi))
/-- after a step: stale, the image saved -/
theorem cRel_step {S : abs} {A A1 : xA} {B B1 : xB} (h : cRel S A B) (hS : S.ok) {x : Nat} (hx8 : x < 8) (hx : A 7 1 = nI x) (hh : ∀ i, i < S.sz → cSl A ((x + 8 - S.sz + i) % 8) (S.hc i) (S.hr i) (S.hl i) (S.hm i)) {c r n : Nat} {lv mr : Nat → Int32} (hc : A1 1 0 = nI c) (hr : A1 1 1 = nI r) (hl : ∀ j, j < 64 → A1 2 j = lv j) (hm : ∀ j, j < 64 → A1 3 j = mr j) (h9 : A1 0 9 = A 0 9) (h10 : A1 0 10 = A 0 10) (h11 : A1 0 11 = 1) (hA : ∀ k, k ≠ 0 → k ≠ 1 → k ≠ 2 → k ≠ 3 → k < 70 → A1 k = keepA A x S.sz k) : cRel (abs.of (c) (r) (n) S.push.sz S.len S.dk S.ei (lv) (mr) S.co S.push.hc S.push.hr S.push.hl S.push.hm) A1 B1 := (cRel.mk'
      (c := hc)
      (r := hr)
      (lv := hl)
      (mr := hm)
      (dk := h9.trans h.dk)
      (ei := h10.trans h.ei)
      (st := fun z => by rw [h11] at z; exact absurd z (by decide))
      (hx := keep_rel h hS hx8 hx hh hA)
      (sz := by
    rw [hA 7 (by decide) (by decide) (by decide) (by decide) (by decide)]
    unfold keepA
    rw [updA_ss]
    show nI (min (S.sz + 1) 8) = nI (min S.sz 7 + 1)
    congr 1
    omega)
      (len := by rw [hA 33 (by decide) (by decide) (by decide) (by decide) (by decide), keepA_o (by decide) (by omega) hx8]; exact h.len)
      (co := fun i hi => by rw [hA 34 (by decide) (by decide) (by decide) (by decide) (by decide), keepA_o (by decide) (by omega) hx8]; exact h.co i hi))
theorem keepA_h {A : xA} {x sz k : Nat} (hx : x < 8) (hk : 76 ≤ k) : keepA A x sz k = A k := keepA_o (by omega) (by omega) hx
section CL
variable {S : abs} {A : xA} {B : xB} {D : xD}
theorem C_begin (h : cRel S A B) (hS : S.ok) {u v : Int32} : does0 mX7_begin [.ref 0, .int u, .int v] A B D (CQ (S.sBegin u v) A B D (btw u 1 8 ∧ btw v 1 8) (.int (nI S.n))) (CX S A B D (btw u 1 8 ∧ btw v 1 8) True sIA sIA) := by
  obtain ⟨x, x1, x2, x3⟩ := h.hx
  refine does_mo (p_begin (h.ok hS x1 x2)) ?_ ?_
  · rintro r A1 B1 D1 ⟨⟨hu, hv⟩, rfl, rfl, rfl, rfl⟩
    obtain ⟨a, a1, a2, a3, rfl⟩ := btw_nI (lo := 1) (hi := 8) (by decide) hu
    obtain ⟨b, b1, b2, b3, rfl⟩ := btw_nI (lo := 1) (hi := 8) (by decide) hv
    refine ⟨⟨hu, hv⟩, rfl, rfl, ?_, fun k hk => ⟨?_, rfl⟩⟩
    · unfold abs.sBegin
      rw [nI_clamp a3, nI_clamp b3]
      refine cRel_step h hS x1 x2 x3 ?_ ?_ (fun j hj => ?_) (fun j hj => ?_) ?_ ?_ ?_ (fun k k0 k1 k2 k3 k4 => ?_)
      · rw [updA_n _ _ _ (by decide)]; simp [blankA, filA_get, updA_get]
      · rw [updA_n _ _ _ (by decide)]; simp [blankA, filA_get, updA_get]
      · rw [updA_n _ _ _ (by decide)]; simp [blankA, filA_get, hj]
      · rw [updA_n _ _ _ (by decide)]; simp [blankA, filA_get, hj]
      · rw [updA_sj _ _ _ (by decide), blankA_o (by decide) (by decide) (by decide), keepA_o (by decide) (by omega) x1]
      · rw [updA_sj _ _ _ (by decide), blankA_o (by decide) (by decide) (by decide), keepA_o (by decide) (by omega) x1]
      · rw [updA_ss]
      · rw [updA_n _ _ _ k0, blankA_o k1 (by omega) (by omega)]
    · rw [updA_n _ _ _ (by omega), blankA_o (by omega) (by omega) (by omega), keepA_h x1 hk]
  · rintro E A1 B1 D1 ⟨⟨hn, rfl⟩, rfl, rfl, rfl⟩
    exact ⟨Or.inl ⟨hn, rfl⟩, rfl, h, hiF_rf _ _⟩
theorem C_setLevel (h : cRel S A B) (hS : S.ok) {i v : Int32} : does0 mX7_setLevel [.ref 0, .int i, .int v] A B D (CQ (S.sLevel i.toNatClampNeg v) A B D (inR i (nI S.n) ∧ btw v 0 15) (.int (S.lv i.toNatClampNeg))) (CX S A B D (inR i (nI S.n)) (btw v 0 15) sIO sIA) := by
  obtain ⟨x, x1, x2, x3⟩ := h.hx
  have hn64 := hS.g.n.2
  refine does_mo (p_setLevel (h.ok hS x1 x2)) ?_ ?_
  · rintro r A1 B1 D1 ⟨⟨hu, hv⟩, rfl, rfl, rfl, rfl⟩
    obtain ⟨p, hp, rfl⟩ := inR_nI hu (by omega)
    refine ⟨⟨hu, hv⟩, ?_, rfl, ?_, fun k hk => ⟨?_, rfl⟩⟩
    · rw [nI_clamp (by omega), h.lv p (by omega)]
    · refine cRel_step h hS x1 x2 x3 ?_ ?_ (fun j hj => ?_) (fun j hj => ?_) ?_ ?_ ?_ (fun k k0 k1 k2 k3 k4 => ?_)
      · rw [updA_n _ _ _ (by decide), updA_n _ _ _ (by decide), keepA_o (by decide) (by omega) x1]; exact h.c
      · rw [updA_n _ _ _ (by decide), updA_n _ _ _ (by decide), keepA_o (by decide) (by omega) x1]; exact h.r
      · rw [updA_n _ _ _ (by decide), updA_get, keepA_o (by decide) (by omega) x1, h.lv j hj]
        unfold upd
        by_cases e : j = (nI p).toNatClampNeg
        · rw [if_pos ⟨rfl, e⟩, if_pos e]
        · rw [if_neg (fun z => e z.2), if_neg e]
      · rw [updA_n _ _ _ (by decide), updA_n _ _ _ (by decide), keepA_o (by decide) (by omega) x1]; exact h.mr j hj
      · rw [updA_sj _ _ _ (by decide), updA_n _ _ _ (by decide), keepA_o (by decide) (by omega) x1]
      · rw [updA_sj _ _ _ (by decide), updA_n _ _ _ (by decide), keepA_o (by decide) (by omega) x1]
      · rw [updA_ss]
      · rw [updA_n _ _ _ k0, updA_n _ _ _ k2]
    · rw [updA_n _ _ _ (by omega), updA_n _ _ _ (by omega), keepA_h x1 hk]
  · rintro E A1 B1 D1 ⟨hE, rfl, rfl, rfl⟩
    exact ⟨hE, rfl, h, hiF_rf _ _⟩
theorem C_setMarker (h : cRel S A B) (hS : S.ok) {i v : Int32} : does0 mX7_setMarker [.ref 0, .int i, .int v] A B D (CQ (S.sMark i.toNatClampNeg v) A B D (inR i (nI S.n) ∧ btw v 0 15) (.int (S.mr i.toNatClampNeg))) (CX S A B D (inR i (nI S.n)) (btw v 0 15) sIO sIA) := by
  obtain ⟨x, x1, x2, x3⟩ := h.hx
  have hn64 := hS.g.n.2
  refine does_mo (p_setMarker (h.ok hS x1 x2)) ?_ ?_
  · rintro r A1 B1 D1 ⟨⟨hu, hv⟩, rfl, rfl, rfl, rfl⟩
    obtain ⟨p, hp, rfl⟩ := inR_nI hu (by omega)
    refine ⟨⟨hu, hv⟩, ?_, rfl, ?_, fun k hk => ⟨updA_n _ _ _ (by omega), rfl⟩⟩
    · rw [nI_clamp (by omega), h.mr p (by omega)]
    · have u : ∀ k, k ≠ 3 → updA A 3 (nI p).toNatClampNeg v k = A k := fun k hk => updA_n _ _ _ hk
      exact (cRel.mk'
      (c := by rw [u 1 (by decide)]; exact h.c)
      (r := by rw [u 1 (by decide)]; exact h.r)
      (lv := fun j hj => by rw [u 2 (by decide)]; exact h.lv j hj)
      (mr := fun j hj => by
          show updA A 3 (nI p).toNatClampNeg v 3 j = upd S.mr (nI p).toNatClampNeg v j
          rw [updA_get]
          unfold upd
          by_cases e : j = (nI p).toNatClampNeg
          · rw [if_pos ⟨rfl, e⟩, if_pos e]
          · rw [if_neg (fun z => e z.2), if_neg e]; exact h.mr j hj)
      (dk := by rw [u 0 (by decide)]; exact h.dk)
      (ei := by rw [u 0 (by decide)]; exact h.ei)
      (st := fun z => by rw [u 0 (by decide)] at z; exact cLd_k (h.st z) (fun k hk => u k (by omega)) rfl)
      (hx := ⟨x, x1, by rw [u 7 (by decide)]; exact x2, fun i hi => cSl_o (Nat.mod_lt _ (by decide)) (x3 i hi) (fun k h1 h2 => u k (by omega))⟩)
      (sz := by rw [u 7 (by decide)]; exact h.sz)
      (len := by rw [u 33 (by decide)]; exact h.len)
      (co := fun i hi => by rw [u 34 (by decide)]; exact h.co i hi))
  · rintro E A1 B1 D1 ⟨hE, rfl, rfl, rfl⟩
    exact ⟨hE, rfl, h, hiF_rf _ _⟩
theorem C_level (h : cRel S A B) (hS : S.ok) {i : Int32} : does0 mX7_level [.ref 0, .int i] A B D (CQ S A B D (inR i (nI S.n)) (.int (S.lv i.toNatClampNeg))) (CX S A B D (inR i (nI S.n)) True sIO sIO) := by
  obtain ⟨x, x1, x2, x3⟩ := h.hx
  have hn64 := hS.g.n.2
  refine does_mo (p_level (h.ok hS x1 x2)) ?_ ?_
  · rintro r A1 B1 D1 ⟨hu, rfl, rfl, rfl, rfl⟩
    obtain ⟨p, hp, rfl⟩ := inR_nI hu (by omega)
    exact ⟨hu, by rw [nI_clamp (by omega), h.lv p (by omega)], rfl, h, hiF_rf _ _⟩
  · rintro E A1 B1 D1 ⟨⟨hn, rfl⟩, rfl, rfl, rfl⟩
    exact ⟨Or.inl ⟨hn, rfl⟩, rfl, h, hiF_rf _ _⟩
theorem C_marker (h : cRel S A B) (hS : S.ok) {i : Int32} : does0 mX7_marker [.ref 0, .int i] A B D (CQ S A B D (inR i (nI S.n)) (.int (S.mr i.toNatClampNeg))) (CX S A B D (inR i (nI S.n)) True sIO sIO) := by
  obtain ⟨x, x1, x2, x3⟩ := h.hx
  have hn64 := hS.g.n.2
  refine does_mo (p_marker (h.ok hS x1 x2)) ?_ ?_
  · rintro r A1 B1 D1 ⟨hu, rfl, rfl, rfl, rfl⟩
    obtain ⟨p, hp, rfl⟩ := inR_nI hu (by omega)
    exact ⟨hu, by rw [nI_clamp (by omega), h.mr p (by omega)], rfl, h, hiF_rf _ _⟩
  · rintro E A1 B1 D1 ⟨⟨hn, rfl⟩, rfl, rfl, rfl⟩
    exact ⟨Or.inl ⟨hn, rfl⟩, rfl, h, hiF_rf _ _⟩
theorem C_fill (h : cRel S A B) (hS : S.ok) {i j v : Int32} : does0 mX7_fill [.ref 0, .int i, .int j, .int v] A B D (CQ (S.sFill i.toNatClampNeg j.toNatClampNeg v) A B D ((inR i (nI S.n) ∧ inR j (nI S.n)) ∧ btw v 0 15) (.int (itr (mfS S.c i.toNatClampNeg j.toNatClampNeg v) S.n (0, S.lv)).1)) (CX S A B D (inR i (nI S.n) ∧ inR j (nI S.n)) (btw v 0 15) sIO sIA) := by
  obtain ⟨x, x1, x2, x3⟩ := h.hx
  have hn64 := hS.g.n.2
  refine does_mo (p_fill (h.ok hS x1 x2)) ?_ ?_
  · rintro r A1 B1 D1 ⟨⟨⟨hi, hj⟩, hv⟩, rfl, rfl, rfl, rfl⟩
    obtain ⟨p, hp, rfl⟩ := inR_nI hi (by omega)
    obtain ⟨q, hq, rfl⟩ := inR_nI hj (by omega)
    have ep : (nI p).toNatClampNeg = p := nI_clamp (by omega)
    have eq : (nI q).toNatClampNeg = q := nI_clamp (by omega)
    rw [ep, eq]
    obtain ⟨f1, f2⟩ := fill_eq (v := v) (f := A 2) (f' := S.lv) hS.g hp hq (fun j hj => h.lv j hj)
    refine ⟨⟨⟨hi, hj⟩, hv⟩, by rw [f1], rfl, ?_, fun k hk => ⟨?_, rfl⟩⟩
    · refine cRel_step h hS x1 x2 x3 ?_ ?_ (fun j hj => ?_) (fun j hj => ?_) ?_ ?_ ?_ (fun k k0 k1 k2 k3 k4 => ?_)
      · rw [setA_n _ _ (by decide), updA_n _ _ _ (by decide), keepA_o (by decide) (by omega) x1]; exact h.c
      · rw [setA_n _ _ (by decide), updA_n _ _ _ (by decide), keepA_o (by decide) (by omega) x1]; exact h.r
      · rw [setA_s]; exact f2 j hj
      · rw [setA_n _ _ (by decide), updA_n _ _ _ (by decide), keepA_o (by decide) (by omega) x1]; exact h.mr j hj
      · rw [setA_n _ _ (by decide), updA_sj _ _ _ (by decide), keepA_o (by decide) (by omega) x1]
      · rw [setA_n _ _ (by decide), updA_sj _ _ _ (by decide), keepA_o (by decide) (by omega) x1]
      · rw [setA_n _ _ (by decide), updA_ss]
      · rw [setA_n _ _ k2, updA_n _ _ _ k0]
    · rw [setA_n _ _ (by omega), updA_n _ _ _ (by omega), keepA_h x1 hk]
  · rintro E A1 B1 D1 ⟨hE, rfl, rfl, rfl⟩
    exact ⟨hE, rfl, h, hiF_rf _ _⟩
theorem C_markAll (h : cRel S A B) (hS : S.ok) : does0 mX7_markAll [.ref 0] A B D (CQ S.sMarkAll A B D True (.int (isum (fun p => if S.mr p = S.lv p then 0 else 1) S.n))) nx := by
  obtain ⟨x, x1, x2, x3⟩ := h.hx
  have hn64 := hS.g.n.2
  refine does_mo (p_markAll (h.ok hS x1 x2)) ?_ (fun E A' B' D' z => z)
  rintro r A1 B1 D1 ⟨rfl, rfl, rfl, rfl⟩
  obtain ⟨m1, m2⟩ := md_ok (A 2) (A 3) S.n
  rw [ma_md]
  refine ⟨trivial, ?_, rfl, ?_, fun k hk => ⟨setA_n _ _ (by omega), rfl⟩⟩
  · rw [m1, isum_cg (g := fun p => if S.mr p = S.lv p then 0 else 1) S.n (fun p hp => by rw [h.lv p (by omega), h.mr p (by omega)])]
  · have u : ∀ k, k ≠ 3 → setA A 3 (itr (mdS (A 2)) S.n (0, A 3)).2 k = A k := fun k hk => setA_n _ _ hk
    exact (cRel.mk'
      (c := by rw [u 1 (by decide)]; exact h.c)
      (r := by rw [u 1 (by decide)]; exact h.r)
      (lv := fun j hj => by rw [u 2 (by decide)]; exact h.lv j hj)
      (mr := fun j hj => by
        show setA A 3 (itr (mdS (A 2)) S.n (0, A 3)).2 3 j = if j < S.n then S.lv j else S.mr j
        rw [setA_s, m2 j, h.lv j hj, h.mr j hj])
      (dk := by rw [u 0 (by decide)]; exact h.dk)
      (ei := by rw [u 0 (by decide)]; exact h.ei)
      (st := fun z => by rw [u 0 (by decide)] at z; exact cLd_k (h.st z) (fun k hk => u k (by omega)) rfl)
      (hx := ⟨x, x1, by rw [u 7 (by decide)]; exact x2, fun i hi => cSl_o (Nat.mod_lt _ (by decide)) (x3 i hi) (fun k h1 h2 => u k (by omega))⟩)
      (sz := by rw [u 7 (by decide)]; exact h.sz)
      (len := by rw [u 33 (by decide)]; exact h.len)
      (co := fun i hi => by rw [u 34 (by decide)]; exact h.co i hi))
theorem C_difference (h : cRel S A B) (hS : S.ok) : does0 mX7_difference [.ref 0] A B D (CQ S A B D True (.int (mdV S.lv S.mr S.n))) nx := by
  obtain ⟨x, x1, x2, x3⟩ := h.hx
  have hn64 := hS.g.n.2
  refine does_mo (p_difference (h.ok hS x1 x2)) ?_ (fun E A' B' D' z => z)
  rintro r A1 B1 D1 ⟨rfl, rfl, rfl, rfl⟩
  refine ⟨trivial, ?_, rfl, h, hiF_rf _ _⟩
  rw [dif_eq (f' := S.lv) (g' := S.mr) (fun p hp => by rw [h.lv p (by omega)]; exact hS.lv p (by omega)) (fun p hp => by rw [h.mr p (by omega)]; exact hS.mr p (by omega)) (fun p hp => h.lv p (by omega)) (fun p hp => h.mr p (by omega))]
theorem C_setDark (h : cRel S A B) (hS : S.ok) {v : Int32} (hv : v = 0 ∨ v = 1) : does0 mX7_setDark [.ref 0, .int v] A B D (CQ (S.sDark v) A B D True (.int S.dk)) nx := by
  obtain ⟨x, x1, x2, x3⟩ := h.hx
  refine does_mo (p_setDark hv (by rw [h.dk]; exact hS.dk)) ?_ (fun E A' B' D' z => z)
  rintro r A1 B1 D1 ⟨rfl, rfl, rfl, rfl⟩
  have u : ∀ k, k ≠ 0 → updA (updA A 0 9 v) 0 11 1 k = A k := fun k hk => by rw [updA_n _ _ _ hk, updA_n _ _ _ hk]
  refine ⟨trivial, by rw [h.dk], rfl, ?_, fun k hk => ⟨u k (by omega), rfl⟩⟩
  exact (cRel.mk'
      (c := by rw [u 1 (by decide)]; exact h.c)
      (r := by rw [u 1 (by decide)]; exact h.r)
      (lv := fun j hj => by rw [u 2 (by decide)]; exact h.lv j hj)
      (mr := fun j hj => by rw [u 3 (by decide)]; exact h.mr j hj)
      (dk := by rw [updA_sj _ _ _ (by decide), updA_ss]; rfl)
      (ei := by rw [updA_sj _ _ _ (by decide), updA_sj _ _ _ (by decide)]; exact h.ei)
      (st := fun z => by rw [updA_ss] at z; exact absurd z (by decide))
      (hx := ⟨x, x1, by rw [u 7 (by decide)]; exact x2, fun i hi => cSl_o (Nat.mod_lt _ (by decide)) (x3 i hi) (fun k h1 h2 => u k (by omega))⟩)
      (sz := by rw [u 7 (by decide)]; exact h.sz)
      (len := by rw [u 33 (by decide)]; exact h.len)
      (co := fun i hi => by rw [u 34 (by decide)]; exact h.co i hi))
theorem C_setEight (h : cRel S A B) (hS : S.ok) {v : Int32} (hv : v = 0 ∨ v = 1) : does0 mX7_setEight [.ref 0, .int v] A B D (CQ (S.sEight v) A B D True (.int S.ei)) nx := by
  obtain ⟨x, x1, x2, x3⟩ := h.hx
  refine does_mo (p_setEight hv (by rw [h.ei]; exact hS.ei)) ?_ (fun E A' B' D' z => z)
  rintro r A1 B1 D1 ⟨rfl, rfl, rfl, rfl⟩
  have u : ∀ k, k ≠ 0 → updA (updA A 0 10 v) 0 11 1 k = A k := fun k hk => by rw [updA_n _ _ _ hk, updA_n _ _ _ hk]
  refine ⟨trivial, by rw [h.ei], rfl, ?_, fun k hk => ⟨u k (by omega), rfl⟩⟩
  exact (cRel.mk'
      (c := by rw [u 1 (by decide)]; exact h.c)
      (r := by rw [u 1 (by decide)]; exact h.r)
      (lv := fun j hj => by rw [u 2 (by decide)]; exact h.lv j hj)
      (mr := fun j hj => by rw [u 3 (by decide)]; exact h.mr j hj)
      (dk := by rw [updA_sj _ _ _ (by decide), updA_sj _ _ _ (by decide)]; exact h.dk)
      (ei := by rw [updA_sj _ _ _ (by decide), updA_ss]; rfl)
      (st := fun z => by rw [updA_ss] at z; exact absurd z (by decide))
      (hx := ⟨x, x1, by rw [u 7 (by decide)]; exact x2, fun i hi => cSl_o (Nat.mod_lt _ (by decide)) (x3 i hi) (fun k h1 h2 => u k (by omega))⟩)
      (sz := by rw [u 7 (by decide)]; exact h.sz)
      (len := by rw [u 33 (by decide)]; exact h.len)
      (co := fun i hi => by rw [u 34 (by decide)]; exact h.co i hi))
theorem C_undo (h : cRel S A B) (hS : S.ok) : does0 mX7_undo [.ref 0] A B D (CQ S.sUndo A B D (0 < S.sz) (.int (nI (S.sz - 1)))) (CX S A B D (0 < S.sz) True sIS sIS) := by
  obtain ⟨x, x1, x2, x3⟩ := h.hx
  have hs := hS.sz
  refine does_mo (p_undo (h.ok hS x1 x2)) ?_ ?_
  · rintro r A1 B1 D1 ⟨h0, rfl, rfl, rfl, rfl⟩
    obtain ⟨s1, s2, s3, s4⟩ := x3 (S.sz - 1) (by omega)
    obtain ⟨⟨c', r', e1, e2, _⟩, _, _⟩ := hS.h (S.sz - 1) (by omega)
    have es : (x + 8 - S.sz + (S.sz - 1)) % 8 = (x + 7) % 8 := by omega
    rw [es] at s1 s2 s3 s4
    have hk : ∀ k, k ≠ 0 → k ≠ 1 → k ≠ 2 → k ≠ 3 → k ≠ 7 → updA (backA A x (S.sz - 1)) 0 11 1 k = A k := fun k a0 a1 a2 a3 a7 => by
      rw [updA_n _ _ _ a0]
      unfold backA
      rw [copyA_o a1 a2 a3, updA_n _ _ _ a7, updA_n _ _ _ a7]
    have hsl : 9 + 3 * ((x + 7) % 8) ≠ 7 := by omega
    have hmod : (x + 7) % 8 < 8 := Nat.mod_lt _ (by decide)
    refine ⟨h0, rfl, rfl, ?_, fun k hk' => ⟨hk k (by omega) (by omega) (by omega) (by omega) (by omega), rfl⟩⟩
    exact (cRel.mk'
      (c := by
        show updA (backA A x (S.sz - 1)) 0 11 1 1 0 = nI (S.hc (S.sz - 1)).toNatClampNeg
        rw [updA_n _ _ _ (by decide)]
        unfold backA copyA
        rw [cpA_n _ _ (by decide), cpA_n _ _ (by decide), updA_sj _ _ _ (by decide), updA_ss, updA_n _ _ _ hsl, updA_n _ _ _ hsl, s1, e1, nI_clamp (by omega)])
      (r := by
        show updA (backA A x (S.sz - 1)) 0 11 1 1 1 = nI (S.hr (S.sz - 1)).toNatClampNeg
        rw [updA_n _ _ _ (by decide)]
        unfold backA copyA
        rw [cpA_n _ _ (by decide), cpA_n _ _ (by decide), updA_ss, updA_n _ _ _ hsl, updA_n _ _ _ hsl, s2, e2, nI_clamp (by omega)])
      (lv := fun j hj => by
        show updA (backA A x (S.sz - 1)) 0 11 1 2 j = S.hl (S.sz - 1) j
        rw [updA_n _ _ _ (by decide)]
        unfold backA copyA
        rw [cpA_n _ _ (by decide), cpA_s _ _ _ hj, updA_n _ _ _ (by omega), updA_n _ _ _ (by omega), updA_n _ _ _ (by omega), updA_n _ _ _ (by omega)]
        exact s3 j hj)
      (mr := fun j hj => by
        show updA (backA A x (S.sz - 1)) 0 11 1 3 j = S.hm (S.sz - 1) j
        rw [updA_n _ _ _ (by decide)]
        unfold backA copyA
        rw [cpA_s _ _ _ hj, cpA_n _ _ (by omega), updA_n _ _ _ (by omega), updA_n _ _ _ (by omega), updA_n _ _ _ (by omega), updA_n _ _ _ (by omega)]
        exact s4 j hj)
      (dk := by
        rw [updA_sj _ _ _ (by decide)]
        unfold backA
        rw [copyA_o (by decide) (by decide) (by decide), updA_n _ _ _ (by decide), updA_n _ _ _ (by decide)]
        exact h.dk)
      (ei := by
        rw [updA_sj _ _ _ (by decide)]
        unfold backA
        rw [copyA_o (by decide) (by decide) (by decide), updA_n _ _ _ (by decide), updA_n _ _ _ (by decide)]
        exact h.ei)
      (st := fun z => by rw [updA_ss] at z; exact absurd z (by decide))
      (hx := by
        refine ⟨(x + 7) % 8, hmod, ?_, fun i hi => ?_⟩
        · rw [updA_n _ _ _ (by decide)]
          unfold backA
          rw [copyA_o (by decide) (by decide) (by decide), updA_sj _ _ _ (by decide), updA_ss]
        · change i < S.sz - 1 at hi
          show cSl _ (((x + 7) % 8 + 8 - (S.sz - 1) + i) % 8) (S.hc i) (S.hr i) (S.hl i) (S.hm i)
          have e3 : ((x + 7) % 8 + 8 - (S.sz - 1) + i) % 8 = (x + 8 - S.sz + i) % 8 := by omega
          rw [e3]
          exact cSl_o (Nat.mod_lt _ (by decide)) (x3 i (by omega)) (fun k h1 h2 => hk k (by omega) (by omega) (by omega) (by omega) (by omega)))
      (sz := by
        rw [updA_n _ _ _ (by decide)]
        unfold backA
        rw [copyA_o (by decide) (by decide) (by decide), updA_ss]
        rfl)
      (len := by rw [hk 33 (by decide) (by decide) (by decide) (by decide) (by decide)]; exact h.len)
      (co := fun i hi => by rw [hk 34 (by decide) (by decide) (by decide) (by decide) (by decide)]; exact h.co i hi))
  · rintro E A1 B1 D1 ⟨⟨hn, rfl⟩, rfl, rfl, rfl⟩
    exact ⟨Or.inl ⟨hn, rfl⟩, rfl, h, hiF_rf _ _⟩
theorem C_append (h : cRel S A B) (hS : S.ok) {v : Int32} : does0 mX7_append [.ref 0, .int v] A B D (CQ (S.sApp v) A B D (btw v 32 126 ∧ S.len < 72) (.int (nI (S.len + 1)))) (CX S A B D (btw v 32 126) (S.len < 72) sIA sIS) := by
  obtain ⟨x, x1, x2, x3⟩ := h.hx
  refine does_mo (p_append (h.ok hS x1 x2)) ?_ ?_
  · rintro r A1 B1 D1 ⟨hv, rfl, rfl, rfl, rfl⟩
    have u : ∀ k, k ≠ 33 → k ≠ 34 → updA (updA A 34 S.len v) 33 1 (nI (S.len + 1)) k = A k := fun k h1 h2 => by rw [updA_n _ _ _ h1, updA_n _ _ _ h2]
    refine ⟨hv, rfl, rfl, ?_, fun k hk => ⟨u k (by omega) (by omega), rfl⟩⟩
    exact (cRel.mk'
      (c := by rw [u 1 (by decide) (by decide)]; exact h.c)
      (r := by rw [u 1 (by decide) (by decide)]; exact h.r)
      (lv := fun j hj => by rw [u 2 (by decide) (by decide)]; exact h.lv j hj)
      (mr := fun j hj => by rw [u 3 (by decide) (by decide)]; exact h.mr j hj)
      (dk := by rw [u 0 (by decide) (by decide)]; exact h.dk)
      (ei := by rw [u 0 (by decide) (by decide)]; exact h.ei)
      (st := fun z => by rw [u 0 (by decide) (by decide)] at z; exact cLd_k (h.st z) (fun k hk => u k (by omega) (by omega)) rfl)
      (hx := ⟨x, x1, by rw [u 7 (by decide) (by decide)]; exact x2, fun i hi => cSl_o (Nat.mod_lt _ (by decide)) (x3 i hi) (fun k h1 h2 => u k (by omega) (by omega))⟩)
      (sz := by rw [u 7 (by decide) (by decide)]; exact h.sz)
      (len := by rw [updA_ss]; rfl)
      (co := fun i hi => by
        rw [updA_n _ _ _ (by decide), updA_get]
        show _ = upd S.co S.len v i
        unfold upd
        by_cases e : i = S.len
        · rw [if_pos ⟨rfl, e⟩, if_pos e]
        · rw [if_neg (fun z => e z.2), if_neg e]
          change i < S.len + 1 at hi
          exact h.co i (by omega)))
  · rintro E A1 B1 D1 ⟨hE, rfl, rfl, rfl⟩
    exact ⟨hE, rfl, h, hiF_rf _ _⟩
theorem C_clearInput (h : cRel S A B) : does0 mX7_clearInput [.ref 0] A B D (CQ S.sClear A B D True (.int (nI S.len))) nx := by
  obtain ⟨x, x1, x2, x3⟩ := h.hx
  refine does_mo p_clearInput ?_ (fun E A' B' D' z => z)
  rintro r A1 B1 D1 ⟨rfl, rfl, rfl, rfl⟩
  have u : ∀ k, k ≠ 33 → updA A 33 1 0 k = A k := fun k h1 => updA_n _ _ _ h1
  refine ⟨trivial, by rw [h.len], rfl, ?_, fun k hk => ⟨u k (by omega), rfl⟩⟩
  exact (cRel.mk'
      (c := by rw [u 1 (by decide)]; exact h.c)
      (r := by rw [u 1 (by decide)]; exact h.r)
      (lv := fun j hj => by rw [u 2 (by decide)]; exact h.lv j hj)
      (mr := fun j hj => by rw [u 3 (by decide)]; exact h.mr j hj)
      (dk := by rw [u 0 (by decide)]; exact h.dk)
      (ei := by rw [u 0 (by decide)]; exact h.ei)
      (st := fun z => by rw [u 0 (by decide)] at z; exact cLd_k (h.st z) (fun k hk => u k (by omega)) rfl)
      (hx := ⟨x, x1, by rw [u 7 (by decide)]; exact x2, fun i hi => cSl_o (Nat.mod_lt _ (by decide)) (x3 i hi) (fun k h1 h2 => u k (by omega))⟩)
      (sz := by rw [u 7 (by decide)]; exact h.sz)
      (len := by rw [updA_ss]; rfl)
      (co := fun i hi => by change i < 0 at hi; omega))
/-- the class's reading beside the state's -/
theorem rdR_0 (f g : Nat → Int32) : rdR f 0 (0, 1, 0) (0, 0, 0, 0, g) := by
  refine ⟨⟨Nat.zero_le _, Nat.zero_le _, Nat.zero_le _, fun _ => rfl, rfl⟩, ⟨fun _ => rfl, fun _ => rfl⟩, rfl, rfl, rfl, rfl, fun row col hrc => ?_⟩
  simp only at hrc
  omega
theorem scan_rd (h : cRel S A B) : (scanV A S.len).1 = nI S.rd.1 ∧ (S.rd.1 = S.len → rdR (A 34) S.len (scanV A S.len).2 S.rd.2) := scan_rl h.co S.len 0 _ _ (Nat.zero_add _) (rdR_0 _ _)
theorem rd_le (S : abs) : S.rd.1 ≤ S.len := by have := rlV_le S.co S.len 0 (0, 0, 0, 0, fun _ => 0); unfold abs.rd; omega
theorem inp_k {q : Int32 × Int32 × Int32} {k : Nat} (hk : k ≠ 33) : inpA A q k = A k := setA_n _ _ hk
theorem inp_1 {q : Int32 × Int32 × Int32} : inpA A q 33 1 = A 33 1 := by unfold inpA; rw [setA_s]; simp
theorem C_firstError (h : cRel S A B) (hS : S.ok) : does0 mX7_firstError [.ref 0] A B D (CQ S A B D True (.int (nI S.rd.1))) nx := by
  obtain ⟨x, x1, x2, x3⟩ := h.hx
  refine does_mo (p_firstError (h.ok hS x1 x2)) ?_ (fun E A' B' D' z => z)
  rintro r A1 B1 D1 ⟨rfl, rfl, rfl, rfl⟩
  refine ⟨trivial, by rw [(scan_rd h).1], rfl, cRel_k h (fun k hk => inp_k (by omega)) inp_1 rfl, fun k hk => ⟨inp_k (by omega), rfl⟩⟩
theorem pic_ld (h : cRel S A B) (hS : S.ok) : ¬ isPicV (scanV A S.len) S.len = 0 ↔ ldC S.rd S.len := by
  obtain ⟨s1, s2⟩ := scan_rd h
  have hl := hS.len
  have hle := rd_le S
  unfold isPicV ldC
  rw [s1]
  by_cases e : S.rd.1 = S.len
  · obtain ⟨r1, r2, r3, r4, r5, r6, r7⟩ := s2 e
    obtain ⟨b1, b2, b3⟩ := rdI_b r1
    have b4 := r1.1
    rw [if_pos (by rw [e]), r4, r5]
    by_cases e2 : S.rd.2.2.2.1 = 0
    · rw [e2, if_pos (by decide)]
      exact ⟨fun z => (z rfl).elim, fun z => by omega⟩
    · rw [if_neg (nI_nle (by omega) (by omega))]
      by_cases e3 : S.rd.2.1 = 0
      · rw [if_pos e3, if_pos rfl]
        exact ⟨fun _ => ⟨e, by omega, Or.inl e3⟩, fun _ => by decide⟩
      · rw [if_neg e3]
        by_cases e4 : S.rd.2.2.2.1 = S.rd.2.1
        · rw [if_pos (by rw [e4])]
          exact ⟨fun _ => ⟨e, by omega, Or.inr e4⟩, fun _ => by decide⟩
        · rw [if_neg (fun z => e4 ((nI_eq (by omega) (by omega)).mp z))]
          exact ⟨fun z => (z rfl).elim, fun z => z.2.2.elim (fun q => (e3 q).elim) (fun q => (e4 q).elim)⟩
  · rw [if_neg (fun z => e ((nI_eq (by omega) (by omega)).mp z))]
    exact ⟨fun z => (z rfl).elim, fun z => (e z.1).elim⟩
/-- a good input's shape -/
theorem ld_sh {f : Nat → Int32} {len : Nat} {q : Int32 × Int32 × Int32} {R : Nat × rdT} (hl : ldC R len) (hr : rdR f len q R.2) : q.1 = nI R.2.2.2.1 ∧ q.2.1 = nI (R.2.2.1 + 1) ∧ gOK R.2.2.2.1 (R.2.2.1 + 1) (R.2.2.2.1 * (R.2.2.1 + 1)) ∧ R.2.2.2.2.1 = R.2.2.2.1 * (R.2.2.1 + 1) ∧ ∀ p, p < R.2.2.2.1 * (R.2.2.1 + 1) → R.2.2.2.2.2 p = lbV (f (p / R.2.2.2.1 * (R.2.2.2.1 + 1) + p % R.2.2.2.1)) ∧ ∃ x, x < 16 ∧ lbV (f (p / R.2.2.2.1 * (R.2.2.2.1 + 1) + p % R.2.2.2.1)) = nI x := by
  obtain ⟨r1, r2, r3, r4, r5, r6, r7⟩ := hr
  obtain ⟨b1, b2, b3⟩ := rdI_b r1
  have b4 := r1.1
  have b5 := r1.2.1
  have b6 := r1.2.2.2.2
  obtain ⟨_, l2, l3⟩ := hl
  have hc : (if R.2.1 = 0 then R.2.2.2.1 else R.2.1) = R.2.2.2.1 := by
    by_cases e : R.2.1 = 0
    · rw [if_pos e]
    · rw [if_neg e]; exact (l3.resolve_left e).symm
  refine ⟨by rw [r5, hc], r3, ⟨l2, b1, by omega, by omega, rfl⟩, ?_, fun p hp => ?_⟩
  · rw [b6]
    by_cases e : R.2.1 = 0
    · rw [e, r2.mp e]; simp
    · rw [l3.resolve_left e, Nat.mul_succ, Nat.mul_comm]
  · have h1 : p / R.2.2.2.1 < R.2.2.1 + 1 := Nat.div_lt_of_lt_mul hp
    have h2 := Nat.mod_lt p l2
    have h3 := Nat.div_add_mod p R.2.2.2.1
    by_cases e : R.2.1 = 0
    · have e2 := r2.mp e
      have e3 : p / R.2.2.2.1 = 0 := by rw [e2] at h1; exact Nat.lt_one_iff.mp h1
      have := r7 0 (p % R.2.2.2.1) (Or.inr ⟨e2.symm, h2⟩)
      rw [Nat.zero_mul, Nat.zero_mul, Nat.zero_add] at this
      rw [e3, Nat.zero_mul, Nat.zero_add]
      have e4 : p % R.2.2.2.1 = p := by rw [e3, Nat.mul_zero] at h3; omega
      rw [e4] at this ⊢
      exact this
    · have e4 := l3.resolve_left e
      have := r7 (p / R.2.2.2.1) (p % R.2.2.2.1) (by
        rcases Nat.lt_or_eq_of_le (Nat.le_of_lt_succ h1) with q | q
        · exact Or.inl ⟨q, by rw [← e4]; exact h2⟩
        · exact Or.inr ⟨q, h2⟩)
      rw [← e4, Nat.mul_comm (p / R.2.2.2.1) R.2.2.2.1, h3] at this
      exact this
theorem abs.sLoad_ok (h : cRel S A B) (hS : S.ok) (hl : ldC S.rd S.len) : S.sLoad.ok := by
  obtain ⟨s1, s2⟩ := scan_rd h
  obtain ⟨e1, e2, e3, e4, e5⟩ := ld_sh hl (s2 hl.1)
  have := abs.push_ok hS (c := S.rd.2.2.2.1) (r := S.rd.2.2.1 + 1) (n := S.rd.2.2.2.1 * (S.rd.2.2.1 + 1)) (lv := fun p => if p < S.rd.2.2.2.2.1 then S.rd.2.2.2.2.2 p else 0) (mr := fun _ => 0) e3 (fun p hp => by
    show ∃ a, a < 16 ∧ (if p < S.rd.2.2.2.2.1 then S.rd.2.2.2.2.2 p else 0) = nI a
    by_cases e : p < S.rd.2.2.2.2.1
    · rw [if_pos e]
      obtain ⟨a1, a2⟩ := e5 p (by rw [← e4]; exact e)
      rw [a1]; exact a2
    · rw [if_neg e]; exact ⟨0, by omega, rfl⟩) (lv16_0 _)
  exact (abs.ok.mk'
      (g := this.g)
      (sz := this.sz)
      (len := by show 0 ≤ 72; omega)
      (lv := this.lv)
      (mr := this.mr)
      (dk := this.dk)
      (ei := this.ei)
      (h := this.h))
theorem C_load (h : cRel S A B) (hS : S.ok) : does0 mX7_load [.ref 0] A B D (CQ S.sLoad A B D (ldC S.rd S.len) (.int (nI (S.rd.2.2.2.1 * (S.rd.2.2.1 + 1))))) (CX S A B D (ldC S.rd S.len) True sIS sIS) := by
  obtain ⟨x, x1, x2, x3⟩ := h.hx
  obtain ⟨s1, s2⟩ := scan_rd h
  have hpl := pic_ld h hS
  refine does_mo (p_load (cc := S.rd.2.2.2.1) (rr := S.rd.2.2.1 + 1) (h.ok hS x1 x2) (fun z => ?_)) ?_ ?_
  · have hl := hpl.mp z
    obtain ⟨e1, e2, e3, e4, e5⟩ := ld_sh hl (s2 hl.1)
    exact ⟨e1, e2, e3.2.1, e3.2.2.2.1⟩
  · rintro r A1 B1 D1 ⟨hz, rfl, rfl, rfl, rfl⟩
    have hl := hpl.mp hz
    obtain ⟨e1, e2, e3, e4, e5⟩ := ld_sh hl (s2 hl.1)
    have hk : ∀ k, k ≠ 0 → k ≠ 1 → k ≠ 2 → k ≠ 3 → k ≠ 33 → ldA A x S.sz S.len S.rd.2.2.2.1 (S.rd.2.2.1 + 1) k = keepA (inpA A (scanV A S.len).2) x S.sz k := fun k k0 k1 k2 k3 k33 => by
      unfold ldA
      rw [updA_n _ _ _ k0, updA_n _ _ _ k33]
      unfold wtA
      rw [setA_n _ _ k2, blankA_o k1 k2 k3]
    have hbase : cRel S (inpA A (scanV A S.len).2) B1 := cRel_k h (fun k hk => inp_k (by omega)) inp_1 rfl
    have hq : ∀ k j, k ≠ 0 → updA (updA (wtA (keepA (inpA A (scanV A S.len).2) x S.sz) S.rd.2.2.2.1 (S.rd.2.2.1 + 1)) 33 1 0) 0 11 1 k j = updA (wtA (keepA (inpA A (scanV A S.len).2) x S.sz) S.rd.2.2.2.1 (S.rd.2.2.1 + 1)) 33 1 0 k j := fun k j hk => by rw [updA_n _ _ _ hk]
    refine ⟨hl, by rw [pk_mul], rfl, ?_, fun k hk' => ⟨?_, rfl⟩⟩
    · have hst := cRel_step (B1 := B1) hbase hS x1 (by rw [inp_k (by decide)]; exact x2) (fun i hi => cSl_o (Nat.mod_lt _ (by decide)) (x3 i hi) (fun k _ _ => inp_k (by omega))) (c := S.rd.2.2.2.1) (r := S.rd.2.2.1 + 1) (n := S.rd.2.2.2.1 * (S.rd.2.2.1 + 1)) (lv := fun p => if p < S.rd.2.2.2.2.1 then S.rd.2.2.2.2.2 p else 0) (mr := fun _ => 0) (A1 := updA (ldA A x S.sz S.len S.rd.2.2.2.1 (S.rd.2.2.1 + 1)) 33 1 (nI S.len)) ?_ ?_ (fun j hj => ?_) (fun j hj => ?_) ?_ ?_ ?_ ?_
      · have u : ∀ k, k ≠ 33 → updA (ldA A x S.sz S.len S.rd.2.2.2.1 (S.rd.2.2.1 + 1)) 33 1 (nI S.len) k = ldA A x S.sz S.len S.rd.2.2.2.1 (S.rd.2.2.1 + 1) k := fun k hk => updA_n _ _ _ hk
        exact (cRel.mk'
      (c := by have := hst.c; rw [u 1 (by decide)] at this; exact this)
      (r := by have := hst.r; rw [u 1 (by decide)] at this; exact this)
      (lv := fun j hj => by have := hst.lv j hj; rw [u 2 (by decide)] at this; exact this)
      (mr := fun j hj => by have := hst.mr j hj; rw [u 3 (by decide)] at this; exact this)
      (dk := by have := hst.dk; rw [u 0 (by decide)] at this; exact this)
      (ei := by have := hst.ei; rw [u 0 (by decide)] at this; exact this)
      (st := fun z => by
            unfold ldA at z
            rw [updA_ss] at z
            exact absurd z (by decide))
      (hx := by
            obtain ⟨y, y1, y2, y3⟩ := hst.hx
            rw [u 7 (by decide)] at y2
            exact ⟨y, y1, y2, fun i hi => cSl_o (Nat.mod_lt _ (by decide)) (y3 i hi) (fun k _ _ => (u k (by omega)).symm)⟩)
      (sz := by have := hst.sz; rw [u 7 (by decide)] at this; exact this)
      (len := by unfold ldA; rw [updA_n _ _ _ (by decide), updA_ss]; rfl)
      (co := fun i hi => by change i < 0 at hi; omega))
      · rw [updA_n _ _ _ (by decide)]
        unfold ldA
        rw [hq 1 0 (by decide), updA_n _ _ _ (by decide)]
        unfold wtA
        rw [setA_n _ _ (by decide)]
        simp [blankA, filA_get, updA_get]
      · rw [updA_n _ _ _ (by decide)]
        unfold ldA
        rw [hq 1 1 (by decide), updA_n _ _ _ (by decide)]
        unfold wtA
        rw [setA_n _ _ (by decide)]
        simp [blankA, filA_get, updA_get]
      · rw [updA_n _ _ _ (by decide)]
        unfold ldA
        rw [hq 2 j (by decide), updA_n _ _ _ (by decide)]
        unfold wtA
        rw [setA_s, wr_ok _ e3.1, keepA_o (by decide) (by omega) x1, inp_k (by decide), e4, Nat.mul_comm (S.rd.2.2.1 + 1)]
        by_cases e : j < S.rd.2.2.2.1 * (S.rd.2.2.1 + 1)
        · rw [if_pos e, if_pos e, val_lb, (e5 j e).1]
        · rw [if_neg e, if_neg e]
          simp [blankA, filA_get, hj]
      · rw [updA_n _ _ _ (by decide)]
        unfold ldA
        rw [hq 3 j (by decide), updA_n _ _ _ (by decide)]
        unfold wtA
        rw [setA_n _ _ (by decide)]
        simp [blankA, filA_get, hj]
      · rw [updA_n _ _ _ (by decide)]
        unfold ldA
        rw [updA_sj _ _ _ (by decide), updA_n _ _ _ (by decide)]
        unfold wtA
        rw [setA_n _ _ (by decide), blankA_o (by decide) (by decide) (by decide), keepA_o (by decide) (by omega) x1]
      · rw [updA_n _ _ _ (by decide)]
        unfold ldA
        rw [updA_sj _ _ _ (by decide), updA_n _ _ _ (by decide)]
        unfold wtA
        rw [setA_n _ _ (by decide), blankA_o (by decide) (by decide) (by decide), keepA_o (by decide) (by omega) x1]
      · rw [updA_n _ _ _ (by decide)]
        unfold ldA
        rw [updA_ss]
      · intro k k0 k1 k2 k3 k4
        by_cases e : k = 33
        · subst e
          funext j
          rw [updA_get]
          by_cases ej : j = 1
          · rw [if_pos ⟨rfl, ej⟩, keepA_o (by decide) (by omega) x1, ej, inp_1]; exact h.len.symm
          · rw [if_neg (fun z => ej z.2)]
            unfold ldA
            rw [updA_n _ _ _ (by decide), updA_sj _ _ _ ej]
            unfold wtA
            rw [setA_n _ _ (by decide), blankA_o (by decide) (by decide) (by decide)]
        · rw [updA_n _ _ _ e]
          exact hk k k0 k1 k2 k3 e
    · rw [hk k (by omega) (by omega) (by omega) (by omega) (by omega), keepA_h x1 hk', inp_k (by omega)]
  · rintro E A1 B1 D1 ⟨⟨hz, rfl⟩, rfl, rfl, rfl⟩
    exact ⟨Or.inl ⟨fun z => hpl.mpr z hz, rfl⟩, rfl, cRel_k h (fun k hk => inp_k (by omega)) inp_1 rfl, fun k hk => ⟨inp_k (by omega), rfl⟩⟩
end CL

