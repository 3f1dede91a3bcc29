/-! the model's calls, said of the state: laying, pictures, flags, input -/
abbrev MQm (S S' : abs) (A : xA) (B : xB) (D : xD) (c1 c2 : Prop) (v z : Value) : Option Value → xA → xB → xD → Prop := fun r A1 B1 D1 => D1 = D ∧ loF A B A1 B1 ∧ ((c1 ∧ c2 ∧ r = some v ∧ mRel S' A1 B1 ∧ A1 76 0 = 0) ∨ (¬ c1 ∧ r = some z ∧ mRel S A1 B1 ∧ A1 76 0 = 1) ∨ (c1 ∧ ¬ c2 ∧ r = some z ∧ mRel S A1 B1 ∧ A1 76 0 = 2))
abbrev MQn (S' : abs) (A : xA) (B : xB) (D : xD) (v : Value) : Option Value → xA → xB → xD → Prop := fun r A1 B1 D1 => D1 = D ∧ loF A B A1 B1 ∧ r = some v ∧ mRel S' A1 B1
theorem loF_rf (A : xA) (B : xB) : loF A B A B := fun _ _ => ⟨rfl, rfl⟩
theorem loF_tr {A A1 A2 : xA} {B B1 B2 : xB} (h : loF A B A1 B1) (h2 : loF A1 B1 A2 B2) : loF A B A2 B2 := fun k hk => ⟨(h2 k hk).1.trans (h k hk).1, (h2 k hk).2.trans (h k hk).2⟩
theorem mRel_k {S : abs} {A A1 : xA} {B B1 : xB} (h : mRel S A B) (hA : ∀ k, (76 < k ∧ k < 83 ∨ 84 < k ∧ k < 91) → A1 k = A k) (hF : ∀ j, (j = 1 ∨ j = 2 ∨ j = 5 ∨ j = 6 ∨ j = 7 ∨ j = 11 ∨ j = 18 ∨ j = 19 ∨ j = 26) → A1 76 j = A 76 j) (hB : B1 84 = B 84) : mRel S A1 B1 := (mRel.mk'
      (c := by rw [hF 1 (by omega)]; exact h.c)
      (r := by rw [hF 2 (by omega)]; exact h.r)
      (lv := fun j hj => by rw [hA 77 (by omega)]; exact h.lv j hj)
      (mr := fun j hj => by rw [hA 78 (by omega)]; exact h.mr j hj)
      (dk := by rw [hF 5 (by omega)]; exact h.dk)
      (ei := by rw [hF 6 (by omega)]; exact h.ei)
      (st := fun z => by
    rw [hF 18 (by omega)] at z
    exact mLd_o (h.st z) (fun k h1 h2 => hA k (by omega)) (hF 19 (by omega)) (hF 26 (by omega)) hB)
      (hx := fun i hi => by rw [hA 79 (by omega), hA 80 (by omega), hA 81 (by omega)]; exact h.hx i hi)
      (sz := by rw [hF 7 (by omega)]; exact h.sz)
      (len := by rw [hF 11 (by omega)]; exact h.len)
      (co := fun i hi => by rw [hA 82 (by omega)]; exact h.co i hi))
theorem mRel_t {S : abs} {A : xA} {B : xB} (h : mRel S A B) (t : Int32) : mRel S (updA A 76 0 t) B := mRel_k h (fun k hk => updA_n _ _ _ (by omega)) (fun j hj => updA_sj _ _ _ (by omega)) rfl
theorem loF_t {A : xA} {B : xB} (t : Int32) : loF A B (updA A 76 0 t) B := fun k hk => ⟨updA_n _ _ _ (by omega), rfl⟩
/-- from the model's own contracts -/
theorem MQ_of {S S' : abs} {A A0 A1 : xA} {B B0 B1 : xB} {D : xD} {c1 c2 : Prop} {v z : Value} (h0 : mRel S A0 B0) (f0 : loF A B A0 B0) (h1 : c1 → c2 → mRel S' A1 B1 ∧ A1 76 0 = 0 ∧ loF A B A1 B1) : ∀ r A' B' D', mQz (some z) D c1 c2 (some v) A1 B1 A0 B0 r A' B' D' → MQm S S' A B D c1 c2 v z r A' B' D' := by
  rintro r A' B' D' ⟨rfl, (⟨a1, a2, rfl, rfl, rfl⟩ | ⟨a1, rfl, rfl, rfl⟩ | ⟨a1, a2, rfl, rfl, rfl⟩)⟩
  · obtain ⟨b1, b2, b3⟩ := h1 a1 a2
    exact ⟨rfl, b3, Or.inl ⟨a1, a2, rfl, b1, b2⟩⟩
  · exact ⟨rfl, loF_tr f0 (loF_t 1), Or.inr (Or.inl ⟨a1, rfl, mRel_t h0 1, updA_ss _ _ _ _⟩)⟩
  · exact ⟨rfl, loF_tr f0 (loF_t 2), Or.inr (Or.inr ⟨a1, a2, rfl, mRel_t h0 2, updA_ss _ _ _ _⟩)⟩
/-! laying -/
theorem lt_com {A A' : xA} {B B' : xB} {c r n : Nat} (h6 : A' 76 6 = A 76 6) (hr : rkM A' = rkM A) (h5 : A' 85 = A 85) (h86 : A' 86 = A 86) (h87 : A' 87 = A 87) (h88 : A' 88 = A 88) (h89 : A' 89 = A 89) (h90 : A' 90 = A 90) (hB : B' 84 = B 84) : ltT A' B' c r n = ltT A B c r n ∧ ltP A' B' c r n = ltP A B c r n ∧ llV (ltA2 A' B' c r n) (ltB1 A' B' c r n) (ltT A' B' c r n).1.1 = llV (ltA2 A B c r n) (ltB1 A B c r n) (ltT A B c r n).1.1 := by
  have e1 : ltT A' B' c r n = ltT A B c r n := by
    show itr (ltS c r n (A' 76 6) (rkM A')) 16 ((0, B' 84, A' 85), A' 88) = itr (ltS c r n (A 76 6) (rkM A)) 16 ((0, B 84, A 85), A 88)
    rw [h6, hr, h5, h88, hB]
  have e2 : ltP A' B' c r n = ltP A B c r n := by
    unfold ltP
    rw [e1, h86, h87]
  refine ⟨e1, e2, ?_⟩
  have g : ∀ (A : xA) (B : xB), llV (ltA2 A B c r n) (ltB1 A B c r n) (ltT A B c r n).1.1 = itr (mlS (prV (ltP A B c r n).1 (ltT A B c r n).1.2.2 (ltP A B c r n).2 (ltT A B c r n).1.2.1 (ltT A B c r n).1.1) (ltP A B c r n).2) (ltT A B c r n).1.1 (A 90, 0, A 89) := fun A B => by
    unfold llV ltA2 ltB1 ltA1
    generalize ltT A B c r n = T
    generalize ltP A B c r n = P
    rfl
  rw [g, g, e1, e2, h89, h90]
/-- what laying does to a heap -/
def ovA (A : xA) (T : tT × (Nat → Int32)) (P : (Nat → Int32) × (Nat → Int32)) (Q : lT) : xA := lyA (pcA (tA (updA A 76 18 1) T.1.1 T.1.2.2 T.2) P) Q
theorem lt_ov {A : xA} {B : xB} {c r n : Nat} (h : A 76 18 = 0) : ltA A B c r n = ovA A (ltT A B c r n) (ltP A B c r n) (llV (ltA2 A B c r n) (ltB1 A B c r n) (ltT A B c r n).1.1) := by
  unfold ltA
  rw [if_pos h]
  unfold ltA2 ltA1 ovA
  rfl
theorem ov_get (A : xA) (T : tT × (Nat → Int32)) (P : (Nat → Int32) × (Nat → Int32)) (Q : lT) (k j : Nat) : ovA A T P Q k j = if k = 90 then Q.1 j else if k = 89 then Q.2.2 j else if k = 87 then P.2 j else if k = 86 then P.1 j else if k = 88 then T.2 j else if k = 85 then T.1.2.2 j else if k = 76 ∧ j = 26 then nI Q.2.1 else if k = 76 ∧ j = 19 then nI T.1.1 else if k = 76 ∧ j = 18 then 1 else A k j := by
  unfold ovA lyA pcA tA
  simp only [setA_get, updA_get]
  grind
theorem ov_t (A : xA) (T : tT × (Nat → Int32)) (P : (Nat → Int32) × (Nat → Int32)) (Q : lT) (t : Int32) : ovA (updA A 76 0 t) T P Q = updA (ovA A T P Q) 76 0 t := by
  funext k j
  rw [updA_get, ov_get, ov_get, updA_get]
  by_cases e : k = 76 ∧ j = 0
  · obtain ⟨rfl, rfl⟩ := e
    simp
  · simp only [if_neg e]
theorem ov_94 (A : xA) (T : tT × (Nat → Int32)) (P : (Nat → Int32) × (Nat → Int32)) (Q : lT) (f : Nat → Int32) : ovA (setA A 94 f) T P Q = setA (ovA A T P Q) 94 f := by
  funext k j
  rw [setA_get, ov_get, ov_get, setA_get]
  by_cases e : k = 94
  · subst e
    simp
  · simp only [if_neg e]
theorem hB_84 (B : xB) (f : Nat → Int64) (g : Int64) : setB (hB B g) 84 f = hB (setB B 84 f) g := by
  funext k j
  unfold hB
  rw [updB_get, setB_get, setB_get, updB_get]
  by_cases e : k = 84
  · subst e
    simp
  · simp only [if_neg e]
section ML
variable {S : abs} {A : xA} {B : xB} {D : xD}
theorem M_rk (h : mRel S A B) (hS : S.ok) : ∀ p, p < S.n → rkM A p = nI (S.X.rk p) := fun p hp => by
  have h64 := hS.g.n.2
  show trn (A 77 p) (A 76 5) = _
  rw [h.lv p (by omega), h.dk]
  exact (abs.rk hS (by omega)).1
theorem M_lay (h : mRel S A B) (hS : S.ok) : ∃ A1 B1, (∀ t D, does0 mX8_layTree [.ref 76] (updA A 76 0 t) B D (eqQ none (updA A1 76 0 t) B1 D) nx) ∧ (∀ D, does0 mX8_layTree [.ref 76] A B D (eqQ none A1 B1 D) nx) ∧ (∀ f D, does0 mX8_layTree [.ref 76] (mrA A f) B D (eqQ none (mrA A1 f) B1 D) nx) ∧ (∀ g D, does0 mX8_layTree [.ref 76] (updA A 76 0 0) (hB B g) D (eqQ none (updA A1 76 0 0) (hB B1 g) D) nx) ∧ mRel S A1 B1 ∧ mLd S.X A1 B1 ∧ ¬ A1 76 18 = 0 ∧ loF A B A1 B1 ∧ A1 76 0 = A 76 0 := by
  have hX := abs.Xok hS
  by_cases e : A 76 18 = 0
  · have hG := h.g hS
    -- any heap that is the same where laying looks
    have key : ∀ (A' : xA) (B' : xB), (∀ k, 76 < k → k < 91 → A' k = A k) → (∀ j, j ≠ 0 → A' 76 j = A 76 j) → B' 84 = B 84 → ∀ D, does0 mX8_layTree [.ref 76] A' B' D (eqQ none (ovA A' (ltT A B S.c S.r S.n) (ltP A B S.c S.r S.n) (llV (ltA2 A B S.c S.r S.n) (ltB1 A B S.c S.r S.n) (ltT A B S.c S.r S.n).1.1)) (setB B' 84 (ltT A B S.c S.r S.n).1.2.1) D) nx := by
      intro A' B' h1 h2 h3 D
      have hr : rkM A' = rkM A := by
        funext p
        show trn (A' 77 p) (A' 76 5) = trn (A 77 p) (A 76 5)
        rw [h1 77 (by decide) (by decide), h2 5 (by decide)]
      obtain ⟨c1, c2, c3⟩ := lt_com (A := A) (A' := A') (B := B) (B' := B') (c := S.c) (r := S.r) (n := S.n) (h2 6 (by decide)) hr (h1 85 (by decide) (by decide)) (h1 86 (by decide) (by decide)) (h1 87 (by decide) (by decide)) (h1 88 (by decide) (by decide)) (h1 89 (by decide) (by decide)) (h1 90 (by decide) (by decide)) h3
      obtain ⟨l1, l2, _, _⟩ := lay_ok hX (A := A) (B := B) h.ei (M_rk h hS)
      have hl := m_layTree (D := D) (A := A') (B := B') (hG.o (h2 1 (by decide)) (h2 2 (by decide))) (by rw [c1]; exact l1) (by rw [c1, c2]; exact l2)
      rw [lt_ov (by rw [h2 18 (by decide)]; exact e), c1, c2] at hl
      rw [c1] at c3
      rw [c3] at hl
      unfold ltB ltB1 at hl
      rw [if_pos (by rw [h2 18 (by decide)]; exact e), c1] at hl
      exact hl
    obtain ⟨l1, l2, l3, l4⟩ := lay_ok hX (A := A) (B := B) h.ei (M_rk h hS)
    change mLd S.X (ovA A (ltT A B S.c S.r S.n) (ltP A B S.c S.r S.n) (llV (ltA2 A B S.c S.r S.n) (ltB1 A B S.c S.r S.n) (ltT A B S.c S.r S.n).1.1)) (setB B 84 (ltT A B S.c S.r S.n).1.2.1) at l4
    generalize ltT A B S.c S.r S.n = T at *
    generalize ltP A B S.c S.r S.n = P at *
    generalize llV (ltA2 A B S.c S.r S.n) (ltB1 A B S.c S.r S.n) T.1.1 = Q at *
    have o : ∀ k, (k < 76 ∨ 76 < k ∧ k < 85 ∨ 90 < k) → ovA A T P Q k = A k := fun k hk => by
      funext j
      rw [ov_get, if_neg (by omega), if_neg (by omega), if_neg (by omega), if_neg (by omega), if_neg (by omega), if_neg (by omega), if_neg (by omega), if_neg (by omega), if_neg (by omega)]
    have oj : ∀ j, j ≠ 26 → j ≠ 19 → j ≠ 18 → ovA A T P Q 76 j = A 76 j := fun j a1 a2 a3 => by
      rw [ov_get, if_neg (by omega), if_neg (by omega), if_neg (by omega), if_neg (by omega), if_neg (by omega), if_neg (by omega), if_neg (by omega), if_neg (by omega), if_neg (by omega)]
    refine ⟨ovA A T P Q, setB B 84 T.1.2.1, fun t D => ?_, fun D => ?_, fun f D => ?_, fun g D => ?_, ?_, l4, ?_, fun k hk => ⟨o k (by omega), setB_n _ _ (by omega)⟩, oj 0 (by decide) (by decide) (by decide)⟩
    · have := key (updA A 76 0 t) B (fun k h1 h2 => updA_n _ _ _ (by omega)) (fun j hj => updA_sj _ _ _ hj) rfl D
      rw [ov_t] at this
      exact this
    · exact key A B (fun k _ _ => rfl) (fun j _ => rfl) rfl D
    · have := key (mrA A f) B (fun k h1 h2 => by unfold mrA; rw [setA_n _ _ (by omega), updA_n _ _ _ (by omega)]) (fun j hj => by unfold mrA; rw [setA_n _ _ (by decide), updA_sj _ _ _ hj]) rfl D
      rw [show ovA (mrA A f) T P Q = mrA (ovA A T P Q) f by rw [ov_94, ov_t]] at this
      exact this
    · have := key (updA A 76 0 0) (hB B g) (fun k h1 h2 => updA_n _ _ _ (by omega)) (fun j hj => updA_sj _ _ _ hj) (updB_n _ _ _ (by decide)) D
      rw [ov_t, hB_84] at this
      exact this
    · exact (mRel.mk'
      (c := by rw [oj 1 (by decide) (by decide) (by decide)]; exact h.c)
      (r := by rw [oj 2 (by decide) (by decide) (by decide)]; exact h.r)
      (lv := fun j hj => by rw [o 77 (by omega)]; exact h.lv j hj)
      (mr := fun j hj => by rw [o 78 (by omega)]; exact h.mr j hj)
      (dk := by rw [oj 5 (by decide) (by decide) (by decide)]; exact h.dk)
      (ei := by rw [oj 6 (by decide) (by decide) (by decide)]; exact h.ei)
      (st := fun _ => l4)
      (hx := fun i hi => by rw [o 79 (by omega), o 80 (by omega), o 81 (by omega)]; exact h.hx i hi)
      (sz := by rw [oj 7 (by decide) (by decide) (by decide)]; exact h.sz)
      (len := by rw [oj 11 (by decide) (by decide) (by decide)]; exact h.len)
      (co := fun i hi => by rw [o 82 (by omega)]; exact h.co i hi))
    · rw [ov_get]; simp
  · refine ⟨A, B, fun t D => m_layDone (by rw [updA_sj _ _ _ (by decide)]; exact e), fun D => m_layDone e, fun f D => m_layDone (by unfold mrA; rw [setA_n _ _ (by decide), updA_sj _ _ _ (by decide)]; exact e), fun g D => m_layDone (by rw [updA_sj _ _ _ (by decide)]; exact e), h, h.st e, e, loF_rf _ _, rfl⟩
theorem M_T (h : mRel S A B) (hS : S.ok) (hL : mLd S.X A B) : mT A S.c S.r S.n (kM S.X) (kLf S.X) ∧ mRt A (kM S.X) := by
  have hX := abs.Xok hS
  have hk := k_m hX
  have hlf := k_lf hX
  obtain ⟨tn, su, P, pn, hN, hA, hsu, hP⟩ := k_all hX
  obtain ⟨l1, l2, l3, l4, l5⟩ := hL
  refine ⟨⟨h.g hS, l1, hk.1, hk.2.1, fun v hv => ?_, l2, hk.2.2, fun v hv => ?_, fun p hp => ?_, fun i hi => ?_⟩, fun v h0 hv => ?_⟩
  · rw [(l3 v hv).2.2.1]; exact par_ok _ _
  · obtain ⟨k1, k2⟩ := k_cn hX hv
    exact ⟨_, k2, ((l3 v hv).2.2.2.1).trans k1⟩
  · exact ⟨knd S.X p, hA.t.ndl p hp, (l4 p hp).trans (hA.na p hp)⟩
  · obtain ⟨a, a1, a2, _⟩ := hlf.2.1 i hi
    exact ⟨a, a1, (l5 i hi).trans a2⟩
  · exact ⟨kpa S.X v, hA.t.pal v h0 hv, ((l3 v hv).2.2.1).trans (hA.pp v h0 hv)⟩
/-! pictures -/
theorem svA_get (A : xA) (sz k j : Nat) (h79 : k ≠ 79) (h80 : k ≠ 80) (h81 : k ≠ 81) : svA A sz k j = if k = 76 ∧ j = 18 then 0 else if k = 76 ∧ j = 7 then nI (min sz 7 + 1) else A k j := by
  unfold svA svP
  simp only [updA_get, setA_get, upd]
  grind
theorem svA_o {sz k : Nat} (h76 : k ≠ 76) (h79 : k ≠ 79) (h80 : k ≠ 80) (h81 : k ≠ 81) : svA A sz k = A k := by
  funext j
  rw [svA_get _ _ _ _ h79 h80 h81, if_neg (fun z => h76 z.1), if_neg (fun z => h76 z.1)]
theorem svA_j {sz j : Nat} (h18 : j ≠ 18) (h7 : j ≠ 7) : svA A sz 76 j = A 76 j := by
  rw [svA_get _ _ _ _ (by decide) (by decide) (by decide), if_neg (fun z => h18 z.2), if_neg (fun z => h7 z.2)]
theorem mRel_step (h : mRel S A B) (hS : S.ok) {A0 A1 : xA} {B1 : xB} (h0 : ∀ k, 76 < k → k < 82 → A0 k = A k) (h01 : A0 76 1 = A 76 1) (h02 : A0 76 2 = A 76 2) {c r n : Nat} {lv mr : Nat → Int32} (hc : A1 76 1 = nI c) (hr : A1 76 2 = nI r) (hl : ∀ j, j < 64 → A1 77 j = lv j) (hm : ∀ j, j < 64 → A1 78 j = mr j) (h5 : A1 76 5 = A 76 5) (h6 : A1 76 6 = A 76 6) (h18 : A1 76 18 = 0) (h7 : A1 76 7 = nI (min S.sz 7 + 1)) (h11 : A1 76 11 = A 76 11) (h82 : A1 82 = A 82) (hA : A1 79 = svA A0 S.sz 79 ∧ A1 80 = svA A0 S.sz 80 ∧ A1 81 = svA A0 S.sz 81) : mRel (abs.of (c) (r) (n) S.push.sz S.len S.dk S.ei (lv) (mr) S.co S.push.hc S.push.hr S.push.hl S.push.hm) A1 B1 := (mRel.mk'
      (c := hc)
      (r := hr)
      (lv := hl)
      (mr := hm)
      (dk := h5.trans h.dk)
      (ei := h6.trans h.ei)
      (st := fun z => (z h18).elim)
      (hx := save_rel h hS h0 h01 h02 hA)
      (sz := h7)
      (len := h11.trans h.len)
      (co := fun i hi => by rw [h82]; exact h.co i hi))
theorem u0_o : ∀ k, 76 < k → k < 82 → updA A 76 0 0 k = A k := fun k hk _ => updA_n _ _ _ (by omega)
theorem M_begin (h : mRel S A B) (hS : S.ok) {u v : Int32} : does0 mX8_begin [.ref 76, .int u, .int v] A B D (MQm S (S.sBegin u v) A B D (btw u 1 8 ∧ btw v 1 8) True (.int (nI S.n)) (.int 0)) nx := by
  refine does_mo (m_begin (h.ok hS)) (MQ_of h (loF_rf _ _) (fun hc _ => ?_)) (fun E A' B' D' z => z)
  obtain ⟨hu, hv⟩ := hc
  obtain ⟨a, a1, a2, a3, rfl⟩ := btw_nI (lo := 1) (hi := 8) (by decide) hu
  obtain ⟨b, b1, b2, b3, rfl⟩ := btw_nI (lo := 1) (hi := 8) (by decide) hv
  have g : ∀ k j, clA (svA (updA A 76 0 0) S.sz) (nI a) (nI b) 64 k j = if k = 78 ∧ j < 64 then 0 else if k = 77 ∧ j < 64 then 0 else if k = 76 ∧ j = 2 then nI b else if k = 76 ∧ j = 1 then nI a else svA (updA A 76 0 0) S.sz k j := fun k j => by
    unfold clA
    simp only [filA_get, updA_get]
  refine ⟨?_, ?_, fun k hk => ⟨?_, rfl⟩⟩
  · unfold abs.sBegin
    rw [nI_clamp a3, nI_clamp b3]
    refine mRel_step h hS (A0 := updA A 76 0 0) u0_o (updA_sj _ _ _ (by decide)) (updA_sj _ _ _ (by decide)) ?_ ?_ (fun j hj => ?_) (fun j hj => ?_) ?_ ?_ ?_ ?_ ?_ ?_ ⟨?_, ?_, ?_⟩
    · rw [g]; simp
    · rw [g]; simp
    · rw [g]; simp [hj]
    · rw [g]; simp [hj]
    · rw [g, svA_j (by decide) (by decide), updA_sj _ _ _ (by decide)]; simp
    · rw [g, svA_j (by decide) (by decide), updA_sj _ _ _ (by decide)]; simp
    · rw [g, svA_get _ _ _ _ (by decide) (by decide) (by decide)]; simp
    · rw [g, svA_get _ _ _ _ (by decide) (by decide) (by decide)]; simp
    · rw [g, svA_j (by decide) (by decide), updA_sj _ _ _ (by decide)]; simp
    · funext j; rw [g, svA_o (by decide) (by decide) (by decide) (by decide), updA_n _ _ _ (by decide)]; simp
    · funext j; rw [g]; simp
    · funext j; rw [g]; simp
    · funext j; rw [g]; simp
  · rw [g, svA_j (by decide) (by decide), updA_ss]; simp
  · funext j
    rw [g, if_neg (by omega), if_neg (by omega), if_neg (by omega), if_neg (by omega), svA_o (by omega) (by omega) (by omega) (by omega), updA_n _ _ _ (by omega)]
/-- a save, then the levels -/
theorem M_lev (h : mRel S A B) (hS : S.ok) {A1 : xA} {f : Nat → Int32} {lv : Nat → Int32} (hA : A1 = setA (svA (updA A 76 0 0) S.sz) 77 f) (hf : ∀ j, j < 64 → f j = lv j) : mRel (abs.of S.c S.r S.n S.push.sz S.len S.dk S.ei (lv) S.mr S.co S.push.hc S.push.hr S.push.hl S.push.hm) A1 B ∧ A1 76 0 = 0 ∧ loF A B A1 B := by
  subst hA
  refine ⟨?_, ?_, fun k hk => ⟨?_, rfl⟩⟩
  · refine mRel_step h hS (A0 := updA A 76 0 0) u0_o (updA_sj _ _ _ (by decide)) (updA_sj _ _ _ (by decide)) ?_ ?_ (fun j hj => ?_) (fun j hj => ?_) ?_ ?_ ?_ ?_ ?_ ?_ ⟨?_, ?_, ?_⟩
    · rw [setA_n _ _ (by decide), svA_j (by decide) (by decide), updA_sj _ _ _ (by decide)]; exact h.c
    · rw [setA_n _ _ (by decide), svA_j (by decide) (by decide), updA_sj _ _ _ (by decide)]; exact h.r
    · rw [setA_s]; exact hf j hj
    · rw [setA_n _ _ (by decide), svA_o (by decide) (by decide) (by decide) (by decide), updA_n _ _ _ (by decide)]; exact h.mr j hj
    · rw [setA_n _ _ (by decide), svA_j (by decide) (by decide), updA_sj _ _ _ (by decide)]
    · rw [setA_n _ _ (by decide), svA_j (by decide) (by decide), updA_sj _ _ _ (by decide)]
    · rw [setA_n _ _ (by decide), svA_get _ _ _ _ (by decide) (by decide) (by decide)]; simp
    · rw [setA_n _ _ (by decide), svA_get _ _ _ _ (by decide) (by decide) (by decide)]; simp
    · rw [setA_n _ _ (by decide), svA_j (by decide) (by decide), updA_sj _ _ _ (by decide)]
    · rw [setA_n _ _ (by decide), svA_o (by decide) (by decide) (by decide) (by decide), updA_n _ _ _ (by decide)]
    · rw [setA_n _ _ (by decide)]
    · rw [setA_n _ _ (by decide)]
    · rw [setA_n _ _ (by decide)]
  · rw [setA_n _ _ (by decide), svA_j (by decide) (by decide), updA_ss]
  · rw [setA_n _ _ (by omega), svA_o (by omega) (by omega) (by omega) (by omega), updA_n _ _ _ (by omega)]
theorem M_setLevel (h : mRel S A B) (hS : S.ok) {i v : Int32} : does0 mX8_setLevel [.ref 76, .int i, .int v] A B D (MQm S (S.sLevel i.toNatClampNeg v) A B D (inR i (nI S.n)) (btw v 0 15) (.int (S.lv i.toNatClampNeg)) (.int 0)) nx := by
  have h64 := hS.g.n.2
  refine does_mo (m_setLevel (h.ok hS)) (fun r A' B' D' hq => ?_) (fun E A' B' D' z => z)
  refine MQ_of (A0 := A) (B0 := B) (A1 := updA (svA (updA A 76 0 0) S.sz) 77 i.toNatClampNeg v) (B1 := B) h (loF_rf _ _) (fun hc _ => ?_) r A' B' D' ?_
  · obtain ⟨p, hp, rfl⟩ := inR_nI hc (by omega)
    refine M_lev h hS (f := upd (svA (updA A 76 0 0) S.sz 77) (nI p).toNatClampNeg v) rfl (fun j hj => ?_)
    rw [svA_o (by decide) (by decide) (by decide) (by decide), updA_n _ _ _ (by decide)]
    unfold upd
    by_cases e : j = (nI p).toNatClampNeg
    · rw [if_pos e, if_pos e]
    · rw [if_neg e, if_neg e]; exact h.lv j hj
  · obtain ⟨hD, hq⟩ := hq
    refine ⟨hD, hq.imp (fun ⟨a1, a2, a3, a4⟩ => ⟨a1, a2, ?_, a4⟩) id⟩
    rw [a3]
    obtain ⟨p, hp, rfl⟩ := inR_nI a1 (by omega)
    rw [nI_clamp (by omega), h.lv p (by omega)]
theorem M_setMarker (h : mRel S A B) (hS : S.ok) {i v : Int32} : does0 mX8_setMarker [.ref 76, .int i, .int v] A B D (MQm S (S.sMark i.toNatClampNeg v) A B D (inR i (nI S.n)) (btw v 0 15) (.int (S.mr i.toNatClampNeg)) (.int 0)) nx := by
  have h64 := hS.g.n.2
  refine does_mo (m_setMarker (h.ok hS)) (fun r A' B' D' hq => ?_) (fun E A' B' D' z => z)
  refine MQ_of (A0 := A) (B0 := B) (A1 := updA (updA A 76 0 0) 78 i.toNatClampNeg v) (B1 := B) h (loF_rf _ _) (fun hc _ => ?_) r A' B' D' ?_
  · have u : ∀ k, k ≠ 78 → updA (updA A 76 0 0) 78 i.toNatClampNeg v k = updA A 76 0 0 k := fun k hk => updA_n _ _ _ hk
    have h' := mRel_t h 0
    refine ⟨?_, by rw [u 76 (by decide), updA_ss], fun k hk => ⟨by rw [u k (by omega), updA_n _ _ _ (by omega)], rfl⟩⟩
    exact (mRel.mk'
      (c := by rw [u 76 (by decide)]; exact h'.c)
      (r := by rw [u 76 (by decide)]; exact h'.r)
      (lv := fun j hj => by rw [u 77 (by decide)]; exact h'.lv j hj)
      (mr := fun j hj => by
        rw [updA_get]
        show _ = upd S.mr i.toNatClampNeg v j
        unfold upd
        by_cases e : j = i.toNatClampNeg
        · rw [if_pos ⟨rfl, e⟩, if_pos e]
        · rw [if_neg (fun z => e z.2), if_neg e]; exact h'.mr j hj)
      (dk := by rw [u 76 (by decide)]; exact h'.dk)
      (ei := by rw [u 76 (by decide)]; exact h'.ei)
      (st := fun z => by
        rw [u 76 (by decide)] at z
        exact mLd_o (h'.st z) (fun k h1 h2 => u k (by omega)) (by rw [u 76 (by decide)]) (by rw [u 76 (by decide)]) rfl)
      (hx := fun i hi => by rw [u 79 (by decide), u 80 (by decide), u 81 (by decide)]; exact h'.hx i hi)
      (sz := by rw [u 76 (by decide)]; exact h'.sz)
      (len := by rw [u 76 (by decide)]; exact h'.len)
      (co := fun i hi => by rw [u 82 (by decide)]; exact h'.co i hi))
  · obtain ⟨hD, hq⟩ := hq
    refine ⟨hD, hq.imp (fun ⟨a1, a2, a3, a4⟩ => ⟨a1, a2, ?_, a4⟩) id⟩
    rw [a3]
    obtain ⟨p, hp, rfl⟩ := inR_nI a1 (by omega)
    rw [nI_clamp (by omega), h.mr p (by omega)]
theorem M_same (h : mRel S A B) : mRel S (updA A 76 0 0) B ∧ updA A 76 0 0 76 0 = 0 ∧ loF A B (updA A 76 0 0) B := ⟨mRel_t h 0, updA_ss _ _ _ _, loF_t 0⟩
theorem M_level (h : mRel S A B) (hS : S.ok) {i : Int32} : does0 mX8_level [.ref 76, .int i] A B D (MQm S S A B D (inR i (nI S.n)) True (.int (S.lv i.toNatClampNeg)) (.int 0)) nx := by
  have h64 := hS.g.n.2
  refine does_mo (m_level (h.ok hS)) (fun r A' B' D' hq => ?_) (fun E A' B' D' z => z)
  refine MQ_of (A0 := A) (B0 := B) (A1 := updA A 76 0 0) (B1 := B) h (loF_rf _ _) (fun _ _ => M_same h) r A' B' D' ?_
  obtain ⟨hD, hq⟩ := hq
  refine ⟨hD, hq.imp (fun ⟨a1, a2, a3, a4⟩ => ⟨a1, a2, ?_, a4⟩) id⟩
  rw [a3]
  obtain ⟨p, hp, rfl⟩ := inR_nI a1 (by omega)
  rw [nI_clamp (by omega), h.lv p (by omega)]
theorem M_marker (h : mRel S A B) (hS : S.ok) {i : Int32} : does0 mX8_marker [.ref 76, .int i] A B D (MQm S S A B D (inR i (nI S.n)) True (.int (S.mr i.toNatClampNeg)) (.int 0)) nx := by
  have h64 := hS.g.n.2
  refine does_mo (m_marker (h.ok hS)) (fun r A' B' D' hq => ?_) (fun E A' B' D' z => z)
  refine MQ_of (A0 := A) (B0 := B) (A1 := updA A 76 0 0) (B1 := B) h (loF_rf _ _) (fun _ _ => M_same h) r A' B' D' ?_
  obtain ⟨hD, hq⟩ := hq
  refine ⟨hD, hq.imp (fun ⟨a1, a2, a3, a4⟩ => ⟨a1, a2, ?_, a4⟩) id⟩
  rw [a3]
  obtain ⟨p, hp, rfl⟩ := inR_nI a1 (by omega)
  rw [nI_clamp (by omega), h.mr p (by omega)]
theorem M_fill (h : mRel S A B) (hS : S.ok) {i j v : Int32} : does0 mX8_fill [.ref 76, .int i, .int j, .int v] A B D (MQm S (S.sFill i.toNatClampNeg j.toNatClampNeg v) A B D (inR i (nI S.n) ∧ inR j (nI S.n)) (btw v 0 15) (.int (itr (mfS S.c i.toNatClampNeg j.toNatClampNeg v) S.n (0, S.lv)).1) (.int 0)) nx := by
  have h64 := hS.g.n.2
  have key : inR i (nI S.n) ∧ inR j (nI S.n) → (itr (mfS S.c i.toNatClampNeg j.toNatClampNeg v) S.n (0, A 77)).1 = (itr (mfS S.c i.toNatClampNeg j.toNatClampNeg v) S.n (0, S.lv)).1 ∧ ∀ p, p < 64 → (itr (mfS S.c i.toNatClampNeg j.toNatClampNeg v) S.n (0, A 77)).2 p = (itr (mfS S.c i.toNatClampNeg j.toNatClampNeg v) S.n (0, S.lv)).2 p := fun ⟨hi, hj⟩ => by
    obtain ⟨p, hp, rfl⟩ := inR_nI hi (by omega)
    obtain ⟨q, hq, rfl⟩ := inR_nI hj (by omega)
    rw [nI_clamp (by omega), nI_clamp (by omega)]
    exact fiI_u h64 (fun j hj => h.lv j hj) (mf_ok hS.g hp hq) (mf_ok hS.g hp hq)
  refine does_mo (m_fill (h.ok hS)) (fun r A' B' D' hq => ?_) (fun E A' B' D' z => z)
  refine MQ_of (A0 := A) (B0 := B) (A1 := mfA A S.sz (itr (mfS S.c i.toNatClampNeg j.toNatClampNeg v) S.n (0, A 77)).2) (B1 := B) h (loF_rf _ _) (fun hc _ => M_lev h hS rfl (key hc).2) r A' B' D' ?_
  obtain ⟨hD, hq⟩ := hq
  refine ⟨hD, hq.imp (fun ⟨a1, a2, a3, a4⟩ => ⟨a1, a2, ?_, a4⟩) id⟩
  rw [a3, (key a1).1]
theorem M_markAll (h : mRel S A B) (hS : S.ok) : does0 mX8_markAll [.ref 76] A B D (MQn S.sMarkAll A B D (.int (isum (fun p => if S.mr p = S.lv p then 0 else 1) S.n))) nx := by
  have h64 := hS.g.n.2
  refine does_mo (m_markAll (h.ok hS)) ?_ (fun E A' B' D' z => z)
  rintro r A1 B1 D1 ⟨rfl, rfl, rfl, rfl⟩
  obtain ⟨m1, m2⟩ := md_ok (A 77) (A 78) S.n
  rw [mm_md]
  have u : ∀ k, k ≠ 78 → setA (updA A 76 0 0) 78 (itr (mdS (A 77)) S.n (0, A 78)).2 k = updA A 76 0 0 k := fun k hk => setA_n _ _ hk
  have h' := mRel_t h 0
  refine ⟨rfl, fun k hk => ⟨by rw [u k (by omega), updA_n _ _ _ (by omega)], rfl⟩, ?_, ?_⟩
  · rw [m1, isum_cg (g := fun p => if S.mr p = S.lv p then 0 else 1) S.n (fun p hp => by rw [h.lv p (by omega), h.mr p (by omega)])]
  · exact (mRel.mk'
      (c := by rw [u 76 (by decide)]; exact h'.c)
      (r := by rw [u 76 (by decide)]; exact h'.r)
      (lv := fun j hj => by rw [u 77 (by decide)]; exact h'.lv j hj)
      (mr := fun j hj => by
        show setA (updA A 76 0 0) 78 (itr (mdS (A 77)) S.n (0, A 78)).2 78 j = if j < S.n then S.lv j else S.mr j
        rw [setA_s, m2 j, h.lv j hj, h.mr j hj])
      (dk := by rw [u 76 (by decide)]; exact h'.dk)
      (ei := by rw [u 76 (by decide)]; exact h'.ei)
      (st := fun z => by
        rw [u 76 (by decide)] at z
        exact mLd_o (h'.st z) (fun k h1 h2 => u k (by omega)) (by rw [u 76 (by decide)]) (by rw [u 76 (by decide)]) rfl)
      (hx := fun i hi => by rw [u 79 (by decide), u 80 (by decide), u 81 (by decide)]; exact h'.hx i hi)
      (sz := by rw [u 76 (by decide)]; exact h'.sz)
      (len := by rw [u 76 (by decide)]; exact h'.len)
      (co := fun i hi => by rw [u 82 (by decide)]; exact h'.co i hi))
theorem M_difference (h : mRel S A B) (hS : S.ok) : does0 mX8_difference [.ref 76] A B D (MQn S A B D (.int (mdV S.lv S.mr S.n))) nx := by
  have h64 := hS.g.n.2
  refine does_mo (m_difference (h.ok hS)) ?_ (fun E A' B' D' z => z)
  rintro r A1 B1 D1 ⟨rfl, rfl, rfl, rfl⟩
  refine ⟨rfl, loF_t 0, ?_, mRel_t h 0⟩
  unfold mdV
  rw [isum_cg (g := fun p => apV (S.lv p) (S.mr p)) S.n (fun p hp => by rw [h.lv p (by omega), h.mr p (by omega)])]
theorem fl_rel (h : mRel S A B) {j : Nat} {v : Int32} {S' : abs} (hj : j = 5 ∨ j = 6) (h1 : S'.c = S.c ∧ S'.r = S.r ∧ S'.n = S.n ∧ S'.sz = S.sz ∧ S'.len = S.len ∧ S'.lv = S.lv ∧ S'.mr = S.mr ∧ S'.co = S.co ∧ S'.hc = S.hc ∧ S'.hr = S.hr ∧ S'.hl = S.hl ∧ S'.hm = S.hm) (h5 : (if j = 5 then v else A 76 5) = S'.dk) (h6 : (if j = 6 then v else A 76 6) = S'.ei) : mRel S' (updA (updA (updA A 76 0 0) 76 j v) 76 18 0) B ∧ loF A B (updA (updA (updA A 76 0 0) 76 j v) 76 18 0) B := by
  obtain ⟨e1, e2, e3, e4, e5, e6, e7, e8, e9, e10, e11, e12⟩ := h1
  have u : ∀ k, k ≠ 76 → updA (updA (updA A 76 0 0) 76 j v) 76 18 0 k = A k := fun k hk => by rw [updA_n _ _ _ hk, updA_n _ _ _ hk, updA_n _ _ _ hk]
  have uj : ∀ i, i ≠ 0 → i ≠ j → i ≠ 18 → updA (updA (updA A 76 0 0) 76 j v) 76 18 0 76 i = A 76 i := fun i h0 h1 h2 => by rw [updA_sj _ _ _ h2, updA_sj _ _ _ h1, updA_sj _ _ _ h0]
  refine ⟨?_, fun k hk => ⟨u k (by omega), rfl⟩⟩
  exact (mRel.mk'
      (c := by rw [uj 1 (by decide) (by omega) (by decide), e1]; exact h.c)
      (r := by rw [uj 2 (by decide) (by omega) (by decide), e2]; exact h.r)
      (lv := fun j hj => by rw [u 77 (by decide), e6]; exact h.lv j hj)
      (mr := fun j hj => by rw [u 78 (by decide), e7]; exact h.mr j hj)
      (dk := by
      rw [← h5, updA_sj _ _ _ (by decide), updA_get]
      by_cases e : j = 5
      · rw [if_pos ⟨rfl, e.symm⟩, if_pos e]
      · rw [if_neg (fun z => e z.2.symm), if_neg e, updA_sj _ _ _ (by decide)])
      (ei := by
      rw [← h6, updA_sj _ _ _ (by decide), updA_get]
      by_cases e : j = 6
      · rw [if_pos ⟨rfl, e.symm⟩, if_pos e]
      · rw [if_neg (fun z => e z.2.symm), if_neg e, updA_sj _ _ _ (by decide)])
      (st := fun z => (z (updA_ss _ _ _ _)).elim)
      (hx := fun i hi => by rw [u 79 (by decide), u 80 (by decide), u 81 (by decide), e9, e10, e11, e12]; exact h.hx i (by rw [← e4]; exact hi))
      (sz := by rw [uj 7 (by decide) (by omega) (by decide), e4]; exact h.sz)
      (len := by rw [uj 11 (by decide) (by omega) (by decide), e5]; exact h.len)
      (co := fun i hi => by rw [u 82 (by decide), e8]; exact h.co i (by rw [← e5]; exact hi)))
theorem M_setDark (h : mRel S A B) (hS : S.ok) {v : Int32} (hv : v = 0 ∨ v = 1) : does0 mX8_setDark [.ref 76, .int v] A B D (MQn (S.sDark v) A B D (.int S.dk)) nx := by
  refine does_mo (m_setDark hv (by rw [h.dk]; exact hS.dk)) ?_ (fun E A' B' D' z => z)
  rintro r A1 B1 D1 ⟨rfl, rfl, rfl, rfl⟩
  obtain ⟨q1, q2⟩ := fl_rel h (j := 5) (v := v) (S' := S.sDark v) (Or.inl rfl) ⟨rfl, rfl, rfl, rfl, rfl, rfl, rfl, rfl, rfl, rfl, rfl, rfl⟩ rfl h.ei
  exact ⟨rfl, q2, by rw [h.dk], q1⟩
theorem M_setEight (h : mRel S A B) (hS : S.ok) {v : Int32} (hv : v = 0 ∨ v = 1) : does0 mX8_setEight [.ref 76, .int v] A B D (MQn (S.sEight v) A B D (.int S.ei)) nx := by
  refine does_mo (m_setEight hv (by rw [h.ei]; exact hS.ei)) ?_ (fun E A' B' D' z => z)
  rintro r A1 B1 D1 ⟨rfl, rfl, rfl, rfl⟩
  obtain ⟨q1, q2⟩ := fl_rel h (j := 6) (v := v) (S' := S.sEight v) (Or.inr rfl) ⟨rfl, rfl, rfl, rfl, rfl, rfl, rfl, rfl, rfl, rfl, rfl, rfl⟩ h.dk rfl
  exact ⟨rfl, q2, by rw [h.ei], q1⟩
theorem M_undo (h : mRel S A B) (hS : S.ok) : does0 mX8_undo [.ref 76] A B D (MQm S S.sUndo A B D (0 < S.sz) True (.int (nI (S.sz - 1))) (.int 0)) nx := by
  refine does_mo (m_undo (h.ok hS)) (MQ_of h (loF_rf _ _) (fun h0 _ => ?_)) (fun E A' B' D' z => z)
  obtain ⟨s1, s2, s3, s4⟩ := h.hx (S.sz - 1) (by omega)
  obtain ⟨⟨c', r', e1, e2, a1, a2, a3, a4⟩, _, _⟩ := hS.h (S.sz - 1) (by omega)
  have g : ∀ k j, updA (unA A (S.sz - 1) 64) 76 18 0 k j = if k = 76 ∧ j = 18 then 0 else if k = 78 then (if j < 64 then A 81 (64 * (S.sz - 1) + j) else A 78 j) else if k = 77 then (if j < 64 then A 80 (64 * (S.sz - 1) + j) else A 77 j) else if k = 76 ∧ j = 2 then A 79 (2 * (S.sz - 1) + 1) else if k = 76 ∧ j = 1 then A 79 (2 * (S.sz - 1)) else if k = 76 ∧ j = 7 then nI (S.sz - 1) else if k = 76 ∧ j = 0 then 0 else A k j := fun k j => by
    unfold unA
    simp only [updA_get, setA_get]
  have u : ∀ k, k ≠ 76 → k ≠ 77 → k ≠ 78 → updA (unA A (S.sz - 1) 64) 76 18 0 k = A k := fun k h1 h2 h3 => by
    funext j
    rw [g]
    simp [h1, h2, h3]
  refine ⟨?_, by rw [g]; simp, fun k hk => ⟨u k (by omega) (by omega) (by omega), rfl⟩⟩
  exact (mRel.mk'
      (c := by
      show updA (unA A (S.sz - 1) 64) 76 18 0 76 1 = nI (S.hc (S.sz - 1)).toNatClampNeg
      rw [g]; simp; rw [s1, e1, nI_clamp (by omega)])
      (r := by
      show updA (unA A (S.sz - 1) 64) 76 18 0 76 2 = nI (S.hr (S.sz - 1)).toNatClampNeg
      rw [g]; simp; rw [s2, e2, nI_clamp (by omega)])
      (lv := fun j hj => by
      show updA (unA A (S.sz - 1) 64) 76 18 0 77 j = S.hl (S.sz - 1) j
      rw [g]; simp [hj]; exact s3 j hj)
      (mr := fun j hj => by
      show updA (unA A (S.sz - 1) 64) 76 18 0 78 j = S.hm (S.sz - 1) j
      rw [g]; simp [hj]; exact s4 j hj)
      (dk := by rw [g]; simp; exact h.dk)
      (ei := by rw [g]; simp; exact h.ei)
      (st := fun z => (z (updA_ss _ _ _ _)).elim)
      (hx := fun i hi => by
      rw [u 79 (by decide) (by decide) (by decide), u 80 (by decide) (by decide) (by decide), u 81 (by decide) (by decide) (by decide)]
      exact h.hx i (by change i < S.sz - 1 at hi; omega))
      (sz := by rw [g]; simp; rfl)
      (len := by rw [g]; simp; exact h.len)
      (co := fun i hi => by rw [u 82 (by decide) (by decide) (by decide)]; exact h.co i hi))
theorem M_append (h : mRel S A B) (hS : S.ok) {v : Int32} : does0 mX8_append [.ref 76, .int v] A B D (MQm S (S.sApp v) A B D (btw v 32 126) (S.len < 72) (.int (nI (S.len + 1))) (.int 0)) nx := by
  refine does_mo (m_append (h.ok hS)) (MQ_of h (loF_rf _ _) (fun _ _ => ?_)) (fun E A' B' D' z => z)
  have u : ∀ k, k ≠ 76 → k ≠ 82 → updA (updA (updA A 76 0 0) 82 S.len v) 76 11 (nI (S.len + 1)) k = A k := fun k h1 h2 => by rw [updA_n _ _ _ h1, updA_n _ _ _ h2, updA_n _ _ _ h1]
  have uj : ∀ j, j ≠ 0 → j ≠ 11 → updA (updA (updA A 76 0 0) 82 S.len v) 76 11 (nI (S.len + 1)) 76 j = A 76 j := fun j h1 h2 => by rw [updA_sj _ _ _ h2, updA_n _ _ _ (by decide), updA_sj _ _ _ h1]
  refine ⟨?_, by rw [updA_sj _ _ _ (by decide), updA_n _ _ _ (by decide), updA_ss], fun k hk => ⟨u k (by omega) (by omega), rfl⟩⟩
  exact (mRel.mk'
      (c := by rw [uj 1 (by decide) (by decide)]; exact h.c)
      (r := by rw [uj 2 (by decide) (by decide)]; exact h.r)
      (lv := fun j hj => by rw [u 77 (by decide) (by decide)]; exact h.lv j hj)
      (mr := fun j hj => by rw [u 78 (by decide) (by decide)]; exact h.mr j hj)
      (dk := by rw [uj 5 (by decide) (by decide)]; exact h.dk)
      (ei := by rw [uj 6 (by decide) (by decide)]; exact h.ei)
      (st := fun z => by
      rw [uj 18 (by decide) (by decide)] at z
      exact mLd_o (h.st z) (fun k h1 h2 => u k (by omega) (by omega)) (uj 19 (by decide) (by decide)) (uj 26 (by decide) (by decide)) rfl)
      (hx := fun i hi => by rw [u 79 (by decide) (by decide), u 80 (by decide) (by decide), u 81 (by decide) (by decide)]; exact h.hx i hi)
      (sz := by rw [uj 7 (by decide) (by decide)]; exact h.sz)
      (len := by rw [updA_ss]; rfl)
      (co := fun i hi => by
      rw [updA_n _ _ _ (by decide), updA_get]
      show _ = upd S.co S.len v i
      unfold upd
      by_cases e : i = S.len
      · rw [if_pos ⟨rfl, e⟩, if_pos e]
      · rw [if_neg (fun z => e z.2), if_neg e, updA_n _ _ _ (by decide)]
        change i < S.len + 1 at hi
        exact h.co i (by omega)))
theorem clr_rel (h : mRel S A B) : mRel S.sClear (updA A 76 11 0) B := by
  have u : ∀ k, k ≠ 76 → updA A 76 11 0 k = A k := fun k h1 => updA_n _ _ _ h1
  have uj : ∀ j, j ≠ 11 → updA A 76 11 0 76 j = A 76 j := fun j h1 => updA_sj _ _ _ h1
  exact (mRel.mk'
      (c := by rw [uj 1 (by decide)]; exact h.c)
      (r := by rw [uj 2 (by decide)]; exact h.r)
      (lv := fun j hj => by rw [u 77 (by decide)]; exact h.lv j hj)
      (mr := fun j hj => by rw [u 78 (by decide)]; exact h.mr j hj)
      (dk := by rw [uj 5 (by decide)]; exact h.dk)
      (ei := by rw [uj 6 (by decide)]; exact h.ei)
      (st := fun z => by
      rw [uj 18 (by decide)] at z
      exact mLd_o (h.st z) (fun k h1 h2 => u k (by omega)) (uj 19 (by decide)) (uj 26 (by decide)) rfl)
      (hx := fun i hi => by rw [u 79 (by decide), u 80 (by decide), u 81 (by decide)]; exact h.hx i hi)
      (sz := by rw [uj 7 (by decide)]; exact h.sz)
      (len := by rw [updA_ss]; rfl)
      (co := fun i hi => by change i < 0 at hi; omega))
theorem M_clearInput (h : mRel S A B) : does0 mX8_clearInput [.ref 76] A B D (MQn S.sClear A B D (.int (nI S.len))) nx := by
  refine does_mo m_clearInput ?_ (fun E A' B' D' z => z)
  rintro r A1 B1 D1 ⟨rfl, rfl, rfl, rfl⟩
  exact ⟨rfl, fun k hk => ⟨by rw [updA_n _ _ _ (by omega), updA_n _ _ _ (by omega)], rfl⟩, by rw [h.len], clr_rel (mRel_t h 0)⟩
/-- two readings of the same text -/
def rdE (q q' : rdT) : Prop := q.1 = q'.1 ∧ q.2.1 = q'.2.1 ∧ q.2.2.1 = q'.2.2.1 ∧ q.2.2.2.1 = q'.2.2.2.1 ∧ ∀ k, k < q.2.2.2.1 → q.2.2.2.2 k = q'.2.2.2.2 k
theorem tm_E {c : Int32} {q q' : rdT} (h : rdE q q') : (tmV c q).1 = (tmV c q').1 ∧ rdE (tmV c q).2 (tmV c q').2 := by
  obtain ⟨w, a, b, d, f⟩ := q
  obtain ⟨w', a', b', d', f'⟩ := q'
  obtain ⟨h1, h2, h3, h4, h5⟩ := h
  simp only at h1 h2 h3 h4 h5
  subst h1 h2 h3 h4
  unfold tmV
  by_cases e : c = 47
  · rw [if_pos e, if_pos e]
    exact ⟨rfl, rfl, rfl, rfl, rfl, h5⟩
  · rw [if_neg e, if_neg e]
    by_cases e1 : lbV c = -1
    · rw [if_pos e1, if_pos e1]
      exact ⟨rfl, rfl, rfl, rfl, rfl, h5⟩
    · rw [if_neg e1, if_neg e1]
      simp only
      by_cases e2 : (if w = 0 then 8 else w) ≤ b
      · rw [if_pos e2, if_pos e2]
        exact ⟨rfl, rfl, rfl, rfl, rfl, h5⟩
      · rw [if_neg e2, if_neg e2]
        refine ⟨rfl, rfl, rfl, rfl, rfl, fun k hk => ?_⟩
        simp only at hk ⊢
        by_cases e3 : k = d
        · subst e3; rw [up_s, up_s]
        · rw [up_n _ _ e3, up_n _ _ e3]; exact h5 k (by omega)
theorem rl_E {f g : Nat → Int32} : ∀ d i q q', (∀ k, i ≤ k → k < i + d → f k = g k) → rdE q q' → (rlV f d i q).1 = (rlV g d i q').1 ∧ rdE (rlV f d i q).2 (rlV g d i q').2
  | 0, i, q, q', _, h => ⟨rfl, h⟩
  | d + 1, i, q, q', hf, h => by
    obtain ⟨t1, t2⟩ := tm_E (c := f i) h
    unfold rlV
    rw [← hf i (by omega) (by omega), ← t1]
    by_cases e : (tmV (f i) q).1 = 0
    · rw [if_pos e, if_pos e]; exact ⟨rfl, t2⟩
    · rw [if_neg e, if_neg e]
      exact rl_E d (i + 1) _ _ (fun k h1 h2 => hf k (by omega) (by omega)) t2
theorem rd_M (h : mRel S A B) : (rlR A S.len).1 = S.rd.1 ∧ rdE (rlR A S.len).2 S.rd.2 := rl_E S.len 0 _ _ (fun k _ hk => h.co k (by omega)) ⟨rfl, rfl, rfl, rfl, fun k hk => absurd hk (Nat.not_lt_zero _)⟩
theorem rdA_k {q : rdT} {k : Nat} (h76 : k ≠ 76) (h83 : k ≠ 83) : rdA A q k = A k := by unfold rdA; rw [setA_n _ _ h83, setA_n _ _ h76]
theorem rdA_j {q : rdT} {j : Nat} (h : ¬ (13 ≤ j ∧ j ≤ 16)) : rdA A q 76 j = A 76 j := by
  unfold rdA
  rw [setA_n _ _ (by decide), setA_s, if_neg (by omega), if_neg (by omega), if_neg (by omega), if_neg (by omega)]
theorem rd_rel (h : mRel S A B) {q : rdT} : mRel S (rdA A q) B := mRel_k h (fun k hk => rdA_k (by omega) (by omega)) (fun j hj => rdA_j (by omega)) rfl
theorem M_firstError (h : mRel S A B) (hS : S.ok) : does0 mX8_firstError [.ref 76] A B D (MQn S A B D (.int (nI S.rd.1))) nx := by
  refine does_mo (m_firstError (h.ok hS)) ?_ (fun E A' B' D' z => z)
  rintro r A1 B1 D1 ⟨rfl, rfl, rfl, rfl⟩
  exact ⟨rfl, fun k hk => ⟨by rw [rdA_k (by omega) (by omega), updA_n _ _ _ (by omega)], rfl⟩, by rw [(rd_M h).1], rd_rel (mRel_t h 0)⟩
theorem M_load (h : mRel S A B) (hS : S.ok) (hR : ldC S.rd S.len → gOK S.rd.2.2.2.1 (S.rd.2.2.1 + 1) (S.rd.2.2.2.1 * (S.rd.2.2.1 + 1)) ∧ S.rd.2.2.2.2.1 = S.rd.2.2.2.1 * (S.rd.2.2.1 + 1)) : does0 mX8_load [.ref 76] A B D (MQm S S.sLoad A B D (ldC S.rd S.len) True (.int (nI (S.rd.2.2.2.1 * (S.rd.2.2.1 + 1)))) (.int 0)) nx := by
  obtain ⟨r1, q1, q2, q3, q4, q5⟩ := rd_M h
  have hl : ldC (rlR A S.len) S.len ↔ ldC S.rd S.len := by
    unfold ldC
    rw [r1, q1, q3]
  refine does_mo (m_load (h.ok hS)) (fun r A' B' D' hq => ?_) (fun E A' B' D' z => z)
  refine MQ_of (A0 := rdA A (rlR A S.len).2) (B0 := B) (A1 := updA (lcA (mlA A S.sz (rlR A S.len).2) (rlR A S.len).2.2.2.2.1) 76 11 0) (B1 := B) (rd_rel h) (fun k hk => ⟨rdA_k (by omega) (by omega), rfl⟩) (fun hc _ => ?_) r A' B' D' ?_
  · obtain ⟨g0, g1⟩ := hR hc
    have h64 := g0.n.2
    have base := rd_rel h (q := (rlR A S.len).2)
    have gm : ∀ k j, mlA A S.sz (rlR A S.len).2 k j = if k = 78 ∧ j < 64 then 0 else if k = 77 ∧ j < 64 then 0 else if k = 76 ∧ j = 2 then nI ((rlR A S.len).2.2.1 + 1) else if k = 76 ∧ j = 1 then nI (rlR A S.len).2.2.2.1 else svA (updA (rdA A (rlR A S.len).2) 76 0 0) S.sz k j := fun k j => by
      unfold mlA clA
      simp only [filA_get, updA_get]
    have gl : ∀ k, k ≠ 77 → lcA (mlA A S.sz (rlR A S.len).2) (rlR A S.len).2.2.2.2.1 k = mlA A S.sz (rlR A S.len).2 k := fun k hk => setA_n _ _ hk
    have m83 : mlA A S.sz (rlR A S.len).2 83 = (rlR A S.len).2.2.2.2.2 := by
      funext j
      rw [gm, svA_o (by decide) (by decide) (by decide) (by decide), updA_n _ _ _ (by decide)]
      simp
      unfold rdA
      rw [setA_s]
    have hst : mRel (abs.of (S.rd.2.2.2.1) (S.rd.2.2.1 + 1) (S.rd.2.2.2.1 * (S.rd.2.2.1 + 1)) S.push.sz S.len S.dk S.ei (fun p => if p < S.rd.2.2.2.2.1 then S.rd.2.2.2.2.2 p else 0) (fun _ => 0) S.co S.push.hc S.push.hr S.push.hl S.push.hm) (lcA (mlA A S.sz (rlR A S.len).2) (rlR A S.len).2.2.2.2.1) B := by
      refine mRel_step base hS (A0 := updA (rdA A (rlR A S.len).2) 76 0 0) u0_o (updA_sj _ _ _ (by decide)) (updA_sj _ _ _ (by decide)) ?_ ?_ (fun j hj => ?_) (fun j hj => ?_) ?_ ?_ ?_ ?_ ?_ ?_ ⟨?_, ?_, ?_⟩
      · rw [gl 76 (by decide), gm]; simp [q3]
      · rw [gl 76 (by decide), gm]; simp [q2]
      · unfold lcA
        rw [setA_s, m83, q4]
        by_cases e : j < S.rd.2.2.2.2.1
        · rw [if_pos e, if_pos e]; exact q5 j (by rw [q4]; exact e)
        · rw [if_neg e, if_neg e, gm]; simp [hj]
      · rw [gl 78 (by decide), gm]; simp [hj]
      · rw [gl 76 (by decide), gm, svA_j (by decide) (by decide), updA_sj _ _ _ (by decide)]; simp
      · rw [gl 76 (by decide), gm, svA_j (by decide) (by decide), updA_sj _ _ _ (by decide)]; simp
      · rw [gl 76 (by decide), gm, svA_get _ _ _ _ (by decide) (by decide) (by decide)]; simp
      · rw [gl 76 (by decide), gm, svA_get _ _ _ _ (by decide) (by decide) (by decide)]; simp
      · rw [gl 76 (by decide), gm, svA_j (by decide) (by decide), updA_sj _ _ _ (by decide)]; simp
      · funext j; rw [gl 82 (by decide), gm, svA_o (by decide) (by decide) (by decide) (by decide), updA_n _ _ _ (by decide)]; simp
      · funext j; rw [gl 79 (by decide), gm]; simp
      · funext j; rw [gl 80 (by decide), gm]; simp
      · funext j; rw [gl 81 (by decide), gm]; simp
    refine ⟨clr_rel hst, ?_, fun k hk => ⟨?_, rfl⟩⟩
    · rw [updA_sj _ _ _ (by decide), gl 76 (by decide), gm, svA_j (by decide) (by decide), updA_ss]; simp
    · funext j
      rw [updA_n _ _ _ (by omega), gl k (by omega), gm, if_neg (by omega), if_neg (by omega), if_neg (by omega), if_neg (by omega), svA_o (by omega) (by omega) (by omega) (by omega), updA_n _ _ _ (by omega), rdA_k (by omega) (by omega)]
  · obtain ⟨hD, hq⟩ := hq
    refine ⟨hD, ?_⟩
    rw [hl, q3, q2] at hq
    exact hq
end ML

