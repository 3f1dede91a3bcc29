/-! the class's calls, said of the state: filters -/
theorem prn_73 {X : img} (hX : X.ok) {A : xA} {B : xB} (hL : cLd X A B) {b v : Nat} (hb : b < 12) (hv : v < kM X) {t u : Int32} : prnA A (57 + b) t u (kpa X) (kM X) 73 v = kRem X b t u v := by
  obtain ⟨tn, su, P, pn, hN, hA, hsu, hP⟩ := k_all hX
  unfold prnA
  rw [setA_n _ _ (by decide), setA_s]
  exact rem_eq hA.t (fun w hw => hL.2.2.1 w b hw hb) hv
theorem prn_74 {X : img} (hX : X.ok) {A : xA} {B : xB} (hL : cLd X A B) {b v : Nat} (hb : b < 12) (hv : v < kM X) {t u : Int32} : prnA A (57 + b) t u (kpa X) (kM X) 74 v = kNv X b t u v := by
  obtain ⟨tn, su, P, pn, hN, hA, hsu, hP⟩ := k_all hX
  have hr : ∀ w, w < kM X → (remV (A (57 + b)) (A 73) t u (kpa X) (kM X) w = 0 ↔ kRem X b t u w = 0) := fun w hw => by
    rw [show remV (A (57 + b)) (A 73) t u (kpa X) (kM X) w = kRem X b t u w from rem_eq hA.t (fun w hw => hL.2.2.1 w b hw hb) hw]
  have hk : ∀ w, w < kM X → A 38 w = kK X w := fun w hw => (hL.1.2.2.2.1 w hw).2.1
  unfold prnA
  rw [setA_s]
  unfold kNv
  by_cases e : u = 3
  · rw [if_pos e, if_pos e]; exact as_cg hA.t hk hr v hv
  · rw [if_neg e, if_neg e]; exact si_cg hA.t hk hr v hv
theorem k_nv {X : img} (hX : X.ok) {b v : Nat} {t u : Int32} (hv : v < kM X) {tn : Nat → Nat} (hT : TF X.n (kM X) (kS X) X.rk tn (kpa X) (knd X)) (hk : ∀ w, w < kM X → kK X w = nI (tn w)) : ∃ x, x ≤ tn v ∧ kNv X b t u v = nI x := by
  unfold kNv
  by_cases e : u = 3
  · rw [if_pos e]; exact as_le hT hk v hv
  · rw [if_neg e]; exact si_le hT hk v hv
theorem k_nr16 {X : img} (hX : X.ok) {b p : Nat} {t u : Int32} (hp : p < X.n) : ∃ x, x < 16 ∧ kNr X b t u p = nI x := by
  obtain ⟨tn, su, P, pn, hN, hA, hsu, hP⟩ := k_all hX
  obtain ⟨x, x1, x2⟩ := k_nv hX (b := b) (t := t) (u := u) (hA.t.ndl p hp) hA.t hA.kr
  exact ⟨x, by have := hA.t.t16 _ (hA.t.ndl p hp); omega, x2⟩
section CF
variable {S : abs} {A : xA} {B : xB} {D : xD}
theorem loss_k (hS : S.ok) (h : cRel S A B) (hL : cLd S.X A B) {b : Nat} (hb : b < 12) {t u : Int32} : lossV (A 39) (A 38) (prnA A (57 + b) t u (kpa S.X) (kM S.X) 74) (kM S.X) = S.loss b t u := by
  have hX := abs.Xok hS
  have h64 := hS.g.n.2
  obtain ⟨tn, su, P, pn, hN, hA, hsu, hP⟩ := k_all hX
  refine loss_ok hA.t (fun v hv => ((hL.1.2.2.2.1 v hv).2.1).trans (hA.kr v hv)) (fun v hv => ((hL.1.2.2.2.1 v hv).2.2.1).trans (ow_cg hA.na)) (fun v hv => ?_) (fun p (hp : p < S.n) => (abs.rk hS (by omega)).1) (fun p hp => ?_)
  · rw [prn_74 hX hL hb hv]; exact k_nv hX hv hA.t hA.kr
  · rw [prn_74 hX hL hb (hA.t.ndl p hp)]; rfl
theorem chg_k (hS : S.ok) (h : cRel S A B) (hL : cLd S.X A B) {nr : Nat → Int32} {nv : Nat → Int32} (hn : ∀ v, v < kM S.X → nr v = nv v) : chgV (A 39) (A 38) nr (kM S.X) = S.chg (fun p => nv (knd S.X p)) := by
  have hX := abs.Xok hS
  have h64 := hS.g.n.2
  obtain ⟨tn, su, P, pn, hN, hA, hsu, hP⟩ := k_all hX
  refine chg_ok hA.t (fun v hv => ((hL.1.2.2.2.1 v hv).2.1).trans (hA.kr v hv)) (fun v hv => ((hL.1.2.2.2.1 v hv).2.2.1).trans (ow_cg hA.na)) (fun p (hp : p < S.n) => (abs.rk hS (by omega)).1) (fun p hp => ?_)
  exact (hn _ (hA.t.ndl p hp)).symm
/-- a repaint -/
theorem paint_rel (hS : S.ok) (h : cRel S A B) (hL : cLd S.X A B) {nv : Nat → Int32} (hn : ∀ v, v < kM S.X → A 74 v = nv v) {x : Nat} (x1 : x < 8) (x2 : A 7 1 = nI x) (x3 : ∀ i, i < S.sz → cSl A ((x + 8 - S.sz + i) % 8) (S.hc i) (S.hr i) (S.hl i) (S.hm i)) : cRel (S.paint (fun p => nv (knd S.X p))) (rpA A x S.sz S.n) B ∧ ∀ k, 76 ≤ k → rpA A x S.sz S.n k = A k := by
  have hX := abs.Xok hS
  have h64 := hS.g.n.2
  obtain ⟨tn, su, P, pn, hN, hA, hsu, hP⟩ := k_all hX
  constructor
  · refine cRel_step h hS x1 x2 x3 ?_ ?_ (fun j hj => ?_) (fun j hj => ?_) ?_ ?_ ?_ (fun k k0 k1 k2 k3 k4 => ?_)
    · unfold rpA; rw [updA_n _ _ _ (by decide), setA_n _ _ (by decide), keepA_o (by decide) (by omega) x1]; exact h.c
    · unfold rpA; rw [updA_n _ _ _ (by decide), setA_n _ _ (by decide), keepA_o (by decide) (by omega) x1]; exact h.r
    · unfold rpA
      rw [updA_n _ _ _ (by decide), setA_s, rp_ok]
      by_cases e : j < S.n
      · have hnd := hA.t.ndl j e
        rw [if_pos e, if_pos e, show A 42 j = kN S.X j from hL.1.2.2.2.2 j e, h.dk]
        show trn (A 74 (knd S.X j)) S.dk = _
        rw [hn _ hnd]
      · rw [if_neg e, if_neg e]; exact h.lv j hj
    · unfold rpA; rw [updA_n _ _ _ (by decide), setA_n _ _ (by decide), keepA_o (by decide) (by omega) x1]; exact h.mr j hj
    · unfold rpA; rw [updA_sj _ _ _ (by decide), setA_n _ _ (by decide), keepA_o (by decide) (by omega) x1]
    · unfold rpA; rw [updA_sj _ _ _ (by decide), setA_n _ _ (by decide), keepA_o (by decide) (by omega) x1]
    · unfold rpA; rw [updA_ss]
    · unfold rpA; rw [updA_n _ _ _ k0, setA_n _ _ k2]
  · intro k hk
    unfold rpA
    rw [updA_n _ _ _ (by omega), setA_n _ _ (by omega), keepA_h x1 hk]
theorem prn_rel (h : cRel S A B) {kv m : Nat} {t u : Int32} {pa : Nat → Nat} : cRel S (prnA A kv t u pa m) B := cRel_k h (fun k hk => prnA_o (by omega) (by omega)) (by rw [prnA_o (by decide) (by decide)]) rfl
theorem prn_ld {X : img} (h : cLd X A B) {kv m : Nat} {t u : Int32} {pa : Nat → Nat} : cLd X (prnA A kv t u pa m) B := cLd_k h (fun k hk => prnA_o (by omega) (by omega)) rfl
theorem prn_hi {kv m : Nat} {t u : Int32} {pa : Nat → Nat} : hiF A B (prnA A kv t u pa m) B := fun k hk => ⟨prnA_o (by omega) (by omega), rfl⟩
theorem C_verdict (h : cRel S A B) (hS : S.ok) {i a t u : Int32} : does0 mX7_verdict [.ref 0, .int i, .int a, .int t, .int u] A B D (CQ S A B D (inR i (nI (kM S.X)) ∧ fOK a t u) (.int (verV (kAt S.X i.toNatClampNeg a.toNatClampNeg) (kRem S.X a.toNatClampNeg t u i.toNatClampNeg) t))) (CX S A B D (inR i (nI (kM S.X))) (fOK a t u) sIO sIA) := by
  have hX := abs.Xok hS
  have hk := k_m hX
  obtain ⟨A1, B1, hd, h1, hL, hf⟩ := C_ref h hS
  refine does_mo (p_verdict (hd D) (cNd_tr hX hL.1)) ?_ ?_
  · rintro r A2 B2 D2 ⟨⟨hv, ho⟩, rfl, rfl, rfl, rfl⟩
    obtain ⟨p, hp, rfl⟩ := inR_nI hv (by omega)
    obtain ⟨b, hb, rfl⟩ := fo_nI ho
    refine ⟨⟨hv, ho⟩, ?_, rfl, prn_rel h1, hiF_tr hf prn_hi⟩
    rw [nI_clamp (by omega), nI_clamp (by omega), prn_73 hX hL hb hp, hL.2.2.1 p b hp hb]
  · rintro E A2 B2 D2 ⟨hE, rfl, rfl, rfl⟩
    exact ⟨hE, rfl, h1, hf⟩
theorem C_filtered (h : cRel S A B) (hS : S.ok) {i a t u : Int32} : does0 mX7_filtered [.ref 0, .int i, .int a, .int t, .int u] A B D (CQ S A B D (inR i (nI S.n) ∧ fOK a t u) (.int (trn (kNr S.X a.toNatClampNeg t u i.toNatClampNeg) S.dk))) (CX S A B D (inR i (nI S.n)) (fOK a t u) sIO sIA) := by
  obtain ⟨x, x1, x2, x3⟩ := h.hx
  have hX := abs.Xok hS
  have h64 := hS.g.n.2
  obtain ⟨tn, su, P, pn, hN, hA, hsu, hP⟩ := k_all hX
  obtain ⟨A1, B1, hd, h1, hL, hf⟩ := C_ref h hS
  refine does_mo (p_filtered (h.ok hS x1 x2) (hd D) (cNd_tr hX hL.1) (cNd_nd hX hL.1)) ?_ ?_
  · rintro r A2 B2 D2 ⟨⟨hv, ho⟩, rfl, rfl, rfl, rfl⟩
    obtain ⟨p, hp, rfl⟩ := inR_nI hv (by omega)
    obtain ⟨b, hb, rfl⟩ := fo_nI ho
    refine ⟨⟨hv, ho⟩, ?_, rfl, prn_rel h1, hiF_tr hf prn_hi⟩
    rw [nI_clamp (by omega), nI_clamp (by omega), show A1 42 p = kN S.X p from hL.1.2.2.2.2 p hp, show (kN S.X p).toNatClampNeg = knd S.X p from rfl, prn_74 hX hL hb (hA.t.ndl p hp), h1.dk]
    rfl
  · rintro E A2 B2 D2 ⟨hE, rfl, rfl, rfl⟩
    exact ⟨hE, rfl, h, hiF_rf _ _⟩
theorem C_loss (h : cRel S A B) (hS : S.ok) {a t u : Int32} : does0 mX7_loss [.ref 0, .int a, .int t, .int u] A B D (CQ S A B D (fOK a t u) (.int (S.loss a.toNatClampNeg t u))) (CX S A B D (fOK a t u) True sIA sIA) := by
  have hX := abs.Xok hS
  obtain ⟨A1, B1, hd, h1, hL, hf⟩ := C_ref h hS
  refine does_mo (p_loss (hd D) (cNd_tr hX hL.1)) ?_ ?_
  · rintro r A2 B2 D2 ⟨ho, rfl, rfl, rfl, rfl⟩
    obtain ⟨b, hb, rfl⟩ := fo_nI ho
    refine ⟨ho, ?_, rfl, prn_rel h1, hiF_tr hf prn_hi⟩
    rw [nI_clamp (by omega), loss_k hS h1 hL hb]
  · rintro E A2 B2 D2 ⟨⟨hn, rfl⟩, rfl, rfl, rfl⟩
    exact ⟨Or.inl ⟨hn, rfl⟩, rfl, h, hiF_rf _ _⟩
theorem C_filter (h : cRel S A B) (hS : S.ok) {a t u : Int32} : does0 mX7_filter [.ref 0, .int a, .int t, .int u] A B D (CQ (S.paint (kNr S.X a.toNatClampNeg t u)) A B D (fOK a t u) (.int (S.chg (kNr S.X a.toNatClampNeg t u)))) (CX S A B D (fOK a t u) True sIA sIA) := by
  have hX := abs.Xok hS
  obtain ⟨A1, B1, hd, h1, hL, hf⟩ := C_ref h hS
  obtain ⟨x, x1, x2, x3⟩ := h1.hx
  refine does_mo (p_filter (hd D) (h1.ok hS x1 x2) (cNd_tr hX hL.1) (cNd_nd hX hL.1)) ?_ ?_
  · rintro r A2 B2 D2 ⟨ho, rfl, rfl, rfl, rfl⟩
    obtain ⟨b, hb, rfl⟩ := fo_nI ho
    rw [nI_clamp (by omega)]
    obtain ⟨q1, q2⟩ := paint_rel hS (prn_rel h1 (kv := 57 + b) (t := t) (u := u) (pa := kpa S.X) (m := kM S.X)) (prn_ld hL) (nv := kNv S.X b t u) (fun v hv => prn_74 hX hL hb hv) x1 (by rw [prnA_o (by decide) (by decide)]; exact x2) (fun i hi => cSl_o (Nat.mod_lt _ (by decide)) (x3 i hi) (fun k _ _ => prnA_o (by omega) (by omega)))
    refine ⟨ho, ?_, rfl, q1, fun k hk => ⟨?_, (hf k hk).2⟩⟩
    · rw [chg_k hS h1 hL (nv := kNv S.X b t u) (fun v hv => prn_74 hX hL hb hv)]; rfl
    · rw [q2 k hk, (prn_hi (A := A1) (B := B2) k hk).1, (hf k hk).1]
  · rintro E A2 B2 D2 ⟨⟨hn, rfl⟩, rfl, rfl, rfl⟩
    exact ⟨Or.inl ⟨hn, rfl⟩, rfl, h, hiF_rf _ _⟩
/-! threshold -/
theorem k_th (hS : S.ok) {b : Nat} (hb : b = 1 ∨ (5 ≤ b ∧ b < 12)) : ∃ Ln : Nat → Nat, (∀ t, t ≤ 999 → S.loss b (nI t) 1 = nI (Ln t) ∧ Ln t < 1000000) ∧ (∀ s t, s ≤ t → t ≤ 999 → Ln s ≤ Ln t) ∧ Ln 0 = 0 := by
  have hX := abs.Xok hS
  have h64 := hS.g.n.2
  obtain ⟨tn, su, P, pn, hN, hA, hsu, hP⟩ := k_all hX
  have hT := hA.t
  have hx : ∀ t v, v < kM S.X → ∃ x, x ≤ tn v ∧ kNv S.X b (nI t) 1 v = nI x := fun t v hv => k_nv hX hv hT hA.kr
  have hxe : ∀ t v, v < kM S.X → kNv S.X b (nI t) 1 v = nI (kNv S.X b (nI t) 1 v).toNatClampNeg ∧ (kNv S.X b (nI t) 1 v).toNatClampNeg ≤ tn v := fun t v hv => by
    obtain ⟨x, x1, x2⟩ := hx t v hv
    have := hT.t16 v hv
    rw [x2, nI_clamp (by omega)]
    exact ⟨rfl, x1⟩
  refine ⟨fun t => nsum (fun p => S.X.rk p - (kNv S.X b (nI t) 1 (knd S.X p)).toNatClampNeg) S.n, fun t ht => ⟨?_, ?_⟩, fun s t hst ht => ?_, ?_⟩
  · unfold abs.loss
    refine isum_n S.n (fun p hp => ?_)
    have hv := hT.ndl p hp
    obtain ⟨x1, x2⟩ := hxe t _ hv
    have h16 := hT.t16 _ hv
    have hr := hT.ndr p hp
    have hr16 := hT.r16 p hp
    show apV (S.lv p) (trn (kNv S.X b (nI t) 1 (knd S.X p)) S.dk) = _
    rw [x1, nI_clamp (by omega), ap_trn hr16 (by omega) (abs.rk hS (by omega)).1, (ab_tab _ hr16 _ (by omega)).2.2]
    congr 1
    omega
  · have := nsum_le (f := fun p => S.X.rk p - (kNv S.X b (nI t) 1 (knd S.X p)).toNatClampNeg) (b := 16) S.n (fun p hp => by have := hT.r16 p hp; omega)
    simp only
    omega
  · refine nsum_mo S.n (fun p hp => ?_)
    have hv := hT.ndl p hp
    have hmo := si_mo hT (kr := kK S.X) (rem := kRem S.X b (nI s) 1) (rem' := kRem S.X b (nI t) 1) (s := fun _ => 0) (s' := fun _ => 0) hA.kr (fun v v0 hv z => by
      unfold kRem at z ⊢
      rw [rem_m hT _ _ _ hv] at z ⊢
      unfold remP at z ⊢
      rw [if_pos rfl] at z ⊢
      refine z.imp id (fun z w w1 w2 w3 y => z w w1 w2 w3 (Int32.lt_of_lt_of_le y (nI_le hst (by omega))))) (knd S.X p) hv
    obtain ⟨x, y, x1, x2, x3, x4⟩ := hmo
    have h16 := hT.t16 _ hv
    have e1 : kNv S.X b (nI t) 1 (knd S.X p) = nI x := by unfold kNv; rw [if_neg (by decide)]; exact x3
    have e2 : kNv S.X b (nI s) 1 (knd S.X p) = nI y := by unfold kNv; rw [if_neg (by decide)]; exact x4
    rw [e1, e2, nI_clamp (by omega), nI_clamp (by omega)]
    omega
  · refine (nsum_z S.n).mpr (fun p hp => ?_)
    have hv := hT.ndl p hp
    have h16 := hT.t16 _ hv
    have e1 : kNv S.X b (nI 0) 1 (knd S.X p) = kK S.X (knd S.X p) := by
      unfold kNv
      rw [if_neg (by decide)]
      refine si_all hT (fun v v0 hv => ?_) (knd S.X p) hv
      unfold kRem
      rw [rem_m hT _ _ _ hv]
      unfold remP
      rw [if_pos rfl]
      refine Or.inr (fun w w1 w2 w3 => ?_)
      obtain ⟨y, y1, y2⟩ := k_nn hX w2 hb
      show ¬ kAt S.X w b < nI 0
      rw [y2]
      exact nI_pos y1
    rw [e1, hA.kr _ hv, nI_clamp (by omega), hT.ndr p hp]
    exact Nat.sub_self _
theorem C_threshold (h : cRel S A B) (hS : S.ok) {a bd : Int32} : does0 mX7_threshold [.ref 0, .int a, .int bd] A B D (CQ S A B D (¬ isFAV a = 0 ∧ btw bd 0 999) (.int (thF (fun t => S.loss a.toNatClampNeg (nI t) 1) bd 1000 0))) (CX S A B D (¬ isFAV a = 0 ∧ btw bd 0 999) True sIA sIA) := by
  have hX := abs.Xok hS
  obtain ⟨A1, B1, hd, h1, hL, hf⟩ := C_ref h hS
  refine does_mo (p_threshold (hd D) (cNd_tr hX hL.1)) ?_ ?_
  · intro r A2 B2 D2 hq
    obtain ⟨⟨hfa, hbd⟩, q1, q2, q3, q4⟩ := hq
    subst q3 q4
    obtain ⟨b, hb, rfl⟩ := fa_nI hfa
    obtain ⟨c, _, c2, c3, rfl⟩ := btw_nI (lo := 0) (hi := 999) (by decide) hbd
    rw [nI_clamp (by omega)] at q1 q2 ⊢
    obtain ⟨Ln, l1, l2, l3⟩ := k_th hS (fa_b hb hfa)
    have key := th_ok (kv := 57 + b) (m := kM S.X) (pa := kpa S.X) (bd := nI c) (b := c) (L := Ln) (I := fun A' => cRel S A' B2 ∧ cLd S.X A' B2 ∧ hiF A B A' B2) rfl (by omega) (fun t ht => (l1 t ht).2) l2 (fun A' t hI ht => by
      obtain ⟨i1, i2, i3⟩ := hI
      exact ⟨by rw [loss_k hS i1 i2 hb, (l1 t ht).1], prn_rel i1, prn_ld i2, hiF_tr i3 prn_hi⟩) 10 (0, A1) (Nat.zero_le _) ⟨h1, hL, hf⟩ (by show Ln 0 ≤ c; omega)
    generalize thV (57 + b) (nI c) (kpa S.X) (kM S.X) 10 (0, A1) = R at *
    obtain ⟨k1, k2, ⟨k3, k4, k5⟩, k6⟩ := key
    subst q2
    refine ⟨⟨hfa, hbd⟩, ?_, rfl, k3, k5⟩
    rw [q1, thF_W (Ln := Ln) (b := c) (W := R.1) (by omega) l1 k1 (fun t ht => Nat.le_trans (l2 t R.1 ht k1) k2) (fun t h1 h2 => k6 t h1 (by show t < 0 + 2 ^ 10; omega) h2) 1000 0 rfl (Nat.zero_le _)]
  · rintro E A2 B2 D2 ⟨⟨hn, rfl⟩, rfl, rfl, rfl⟩
    exact ⟨Or.inl ⟨hn, rfl⟩, rfl, h, hiF_rf _ _⟩
/-! reconstruction -/
theorem rb_u {X : img} (hX : X.ok) {na mr old kr na' mr' old' kr' : Nat → Int32} {mk : Nat → Nat} (hmk : ∀ p, mk p < 16) (hna : ∀ p, p < X.n → na p = kN X p) (hmr : ∀ p, p < X.n → mr p = nI (mk p)) (hk : ∀ v, v < kM X → kr v = kK X v) (hna' : ∀ p, p < X.n → na' p = kN X p) (hmr' : ∀ p, p < X.n → mr' p = nI (mk p)) (hk' : ∀ v, v < kM X → kr' v = kK X v) {v : Nat} (hv : v < kM X) : rbV na mr old kr (kpa X) X.n (kM X) v = rbV na' mr' old' kr' (kpa X) X.n (kM X) v := by
  obtain ⟨tn, su, P, pn, hN, hA, hsu, hP⟩ := k_all hX
  obtain ⟨x, x1, x2, x3, x4⟩ := rb_ok (old := old) hA.t hmk (fun p hp => (hna p hp).trans (hA.na p hp)) hmr (fun v hv => (hk v hv).trans (hA.kr v hv)) v hv
  obtain ⟨y, y1, y2, y3, y4⟩ := rb_ok (old := old') hA.t hmk (fun p hp => (hna' p hp).trans (hA.na p hp)) hmr' (fun v hv => (hk' v hv).trans (hA.kr v hv)) v hv
  rw [x3, y3]
  congr 1
  rcases Nat.lt_trichotomy x y with z | z | z
  · have := (x4 y (by omega)).mpr ((y4 y (by omega)).mp (Nat.le_refl _)); omega
  · exact z
  · have := (y4 x (by omega)).mpr ((x4 x (by omega)).mp (Nat.le_refl _)); omega
theorem k_rb16 {X : img} (hX : X.ok) {mr : Nat → Int32} {mk : Nat → Nat} (hmk : ∀ p, mk p < 16) (hmr : ∀ p, p < X.n → mr p = nI (mk p)) {p : Nat} (hp : p < X.n) : ∃ x, x < 16 ∧ kRb X mr p = nI x := by
  obtain ⟨tn, su, P, pn, hN, hA, hsu, hP⟩ := k_all hX
  obtain ⟨x, x1, x2, x3, x4⟩ := rb_ok (old := fun _ => 0) hA.t hmk hA.na hmr hA.kr _ (hA.t.ndl p hp)
  exact ⟨x, x1, x3⟩
theorem rec_paint (hS : S.ok) (h1 : cRel S A B) (hL : cLd S.X A B) {f : Nat → Int32} {mk : Nat → Nat} (hmk : ∀ p, mk p < 16) (hf : ∀ p, p < S.n → f p = nI (mk p)) {g : Nat → Int32} (hg : ∀ p, p < S.n → g p = f p) {x : Nat} (x1 : x < 8) (x2 : A 7 1 = nI x) (x3 : ∀ i, i < S.sz → cSl A ((x + 8 - S.sz + i) % 8) (S.hc i) (S.hr i) (S.hl i) (S.hm i)) : chgV (A 39) (A 38) (recA A f (kpa S.X) S.n (kM S.X) 74) (kM S.X) = S.chg (kRb S.X g) ∧ cRel (S.paint (kRb S.X g)) (rpA (recA A f (kpa S.X) S.n (kM S.X)) x S.sz S.n) B ∧ ∀ k, 76 ≤ k → rpA (recA A f (kpa S.X) S.n (kM S.X)) x S.sz S.n k = A k := by
  have hX := abs.Xok hS
  have u : ∀ k, k ≠ 74 → k ≠ 75 → recA A f (kpa S.X) S.n (kM S.X) k = A k := fun k h1 h2 => by unfold recA; rw [setA_n _ _ h1, setA_n _ _ h2]
  have e74 : recA A f (kpa S.X) S.n (kM S.X) 74 = rbV (A 42) (itr (mkS f) S.n (A 75)) (A 74) (A 38) (kpa S.X) S.n (kM S.X) := by unfold recA; rw [setA_s]
  have hv : ∀ v, v < kM S.X → recA A f (kpa S.X) S.n (kM S.X) 74 v = rbV (kN S.X) g (fun _ => 0) (kK S.X) (kpa S.X) S.X.n (kM S.X) v := fun v hv => by
    rw [e74]
    exact rb_u hX hmk (fun p hp => hL.1.2.2.2.2 p hp) (fun p (hp : p < S.n) => by rw [mk_ok, if_pos hp]; exact hf p hp) (fun v hv => (hL.1.2.2.2.1 v hv).2.1) (fun _ _ => rfl) (fun p (hp : p < S.n) => (hg p hp).trans (hf p hp)) (fun _ _ => rfl) hv
  refine ⟨?_, ?_⟩
  · rw [chg_k hS h1 hL hv]; rfl
  · obtain ⟨q1, q2⟩ := paint_rel hS (cRel_k h1 (fun k hk => u k (by omega) (by omega)) (by rw [u 33 (by decide) (by decide)]) rfl) (cLd_k hL (fun k hk => u k (by omega) (by omega)) rfl) hv x1 (by rw [u 7 (by decide) (by decide)]; exact x2) (fun i hi => cSl_o (Nat.mod_lt _ (by decide)) (x3 i hi) (fun k _ _ => u k (by omega) (by omega)))
    exact ⟨q1, fun k hk => (q2 k hk).trans (u k (by omega) (by omega))⟩
/-- ranks of the markers, as numbers -/
theorem mk_nat (f : Nat → Int32) (n : Nat) (h : ∀ p, p < n → ∃ a, a < 16 ∧ f p = nI a) : ∃ mk : Nat → Nat, (∀ p, mk p < 16) ∧ ∀ p, p < n → f p = nI (mk p) := by
  refine ⟨fun p => if p < n then (f p).toNatClampNeg else 0, fun p => ?_, fun p hp => ?_⟩
  · by_cases e : p < n
    · obtain ⟨a, a1, a2⟩ := h p e
      simp only [if_pos e, a2, nI_clamp (show a < 2 ^ 31 by omega)]
      exact a1
    · simp only [if_neg e]; omega
  · obtain ⟨a, a1, a2⟩ := h p hp
    simp only [if_pos hp, a2, nI_clamp (show a < 2 ^ 31 by omega)]
def abs.mkR (S : abs) (p : Nat) : Int32 := trn (S.mr p) S.dk
def abs.mkS (S : abs) (v : Int32) (p : Nat) : Int32 := imax 0 (trn (S.lv p) S.dk - v)
theorem mkR_16 (hS : S.ok) : ∀ p, p < S.n → ∃ a, a < 16 ∧ S.mkR p = nI a := fun p hp => trn_16 (hS.mr p (Nat.lt_of_lt_of_le hp hS.g.n.2))
theorem mkS_16 (hS : S.ok) {v : Int32} (hv : btw v 0 15) : ∀ p, p < S.n → ∃ a, a < 16 ∧ S.mkS v p = nI a := fun p hp => by
  obtain ⟨a, a1, a2⟩ := trn_16 (dk := S.dk) (hS.lv p (Nat.lt_of_lt_of_le hp hS.g.n.2))
  obtain ⟨c, c1, rfl⟩ := btw15 hv
  unfold abs.mkS imax
  rw [a2]
  by_cases e : c < a
  · rw [pk_sub (by omega), if_pos (show (0 : Int32) < nI (a - c) from nI_lt (a := 0) (by omega) (by omega))]
    exact ⟨a - c, by omega, rfl⟩
  · refine ⟨0, by omega, ?_⟩
    rw [if_neg]
    · rfl
    · intro z
      rcases Nat.lt_or_eq_of_le (Nat.le_of_not_lt e) with q | q
      · exact absurd (Int32.lt_trans (pk_sneg (by omega) q) z) (Int32.lt_irrefl)
      · rw [q, pk_sub (Nat.le_refl _), Nat.sub_self] at z
        exact absurd z (by decide)
theorem C_reconstruct (h : cRel S A B) (hS : S.ok) : does0 mX7_reconstruct [.ref 0] A B D (CQ (S.paint (kRb S.X S.mkR)) A B D True (.int (S.chg (kRb S.X S.mkR)))) nx := by
  have hX := abs.Xok hS
  have h64 := hS.g.n.2
  obtain ⟨A1, B1, hd, h1, hL, hf⟩ := C_ref h hS
  obtain ⟨x, x1, x2, x3⟩ := h1.hx
  obtain ⟨mk, m1, m2⟩ := mk_nat _ _ (mkR_16 hS)
  refine does_mo (p_reconstruct (hd D) (h1.ok hS x1 x2) (cNd_tr hX hL.1) hL.2.1 (cNd_nd hX hL.1)) ?_ (fun E A' B' D' z => z)
  rintro r A2 B2 D2 ⟨rfl, rfl, rfl, rfl⟩
  obtain ⟨q0, q1, q2⟩ := rec_paint hS h1 hL (f := fun p => trn (A1 3 p) (A1 0 9)) m1 (fun p hp => by rw [h1.mr p (by omega), h1.dk]; exact m2 p hp) (g := S.mkR) (fun p hp => by rw [h1.mr p (by omega), h1.dk]; rfl) x1 x2 x3
  refine ⟨trivial, by rw [q0], rfl, q1, fun k hk => ⟨?_, (hf k hk).2⟩⟩
  rw [q2 k hk, (hf k hk).1]
theorem C_suppress (h : cRel S A B) (hS : S.ok) {v : Int32} : does0 mX7_suppress [.ref 0, .int v] A B D (CQ (S.paint (kRb S.X (S.mkS v))) A B D (btw v 0 15) (.int (S.chg (kRb S.X (S.mkS v))))) (CX S A B D (btw v 0 15) True sIA sIA) := by
  have hX := abs.Xok hS
  have h64 := hS.g.n.2
  obtain ⟨A1, B1, hd, h1, hL, hf⟩ := C_ref h hS
  obtain ⟨x, x1, x2, x3⟩ := h1.hx
  refine does_mo (p_suppress (hd D) (h1.ok hS x1 x2) (cNd_tr hX hL.1) hL.2.1 (cNd_nd hX hL.1)) ?_ ?_
  · rintro r A2 B2 D2 ⟨hv, rfl, rfl, rfl, rfl⟩
    obtain ⟨mk, m1, m2⟩ := mk_nat _ _ (mkS_16 hS hv)
    obtain ⟨q0, q1, q2⟩ := rec_paint hS h1 hL (f := fun p => imax 0 (trn (A1 2 p) (A1 0 9) - v)) m1 (fun p hp => by rw [h1.lv p (by omega), h1.dk]; exact m2 p hp) (g := S.mkS v) (fun p hp => by rw [h1.lv p (by omega), h1.dk]; rfl) x1 x2 x3
    refine ⟨hv, by rw [q0], rfl, q1, fun k hk => ⟨?_, (hf k hk).2⟩⟩
    rw [q2 k hk, (hf k hk).1]
  · rintro E A2 B2 D2 ⟨⟨hn, rfl⟩, rfl, rfl, rfl⟩
    exact ⟨Or.inl ⟨hn, rfl⟩, rfl, h, hiF_rf _ _⟩
theorem C_keepPeaks (h : cRel S A B) (hS : S.ok) {v : Int32} : does0 mX7_keepPeaks [.ref 0, .int v] A B D (CQ (S.paint (kKp S.X (min v.toNatClampNeg (kLf S.X)))) A B D (btw v 0 64) (.int (S.chg (kKp S.X (min v.toNatClampNeg (kLf S.X)))))) (CX S A B D (btw v 0 64) True sIA sIA) := by
  have hX := abs.Xok hS
  have hk := k_m hX
  have hlf := k_lf hX
  obtain ⟨tn, su, P, pn, hN, hA, hsu, hP⟩ := k_all hX
  obtain ⟨A1, B1, hd, h1, hL, hf⟩ := C_ref h hS
  obtain ⟨x, x1, x2, x3⟩ := h1.hx
  refine does_mo (p_keepPeaks (hd D) (h1.ok hS x1 x2) (cNd_tr hX hL.1) (cNd_nd hX hL.1) hL.1.2.1 hk.2.2 (fun i hi => ?_)) ?_ ?_
  · obtain ⟨a, a1, a2, _⟩ := hlf.2.1 i hi
    exact ⟨a, by omega, (hL.2.2.2 i hi).trans a2⟩
  · rintro r A2 B2 D2 ⟨hv, rfl, rfl, rfl, rfl⟩
    generalize hK : min v.toNatClampNeg (kLf S.X) = K
    have hK2 : K ≤ kLf S.X := by omega
    have u : ∀ k, k ≠ 73 → k ≠ 74 → klA A1 (kpa S.X) (kM S.X) K k = A1 k := fun k h1 h2 => by unfold klA; rw [setA_n _ _ h2, setA_n _ _ h1]
    have hv74 : ∀ w, w < kM S.X → klA A1 (kpa S.X) (kM S.X) K 74 w = kSi S.X (fun v => kpV (kLo S.X) (kS S.X) K v) w := fun w hw => by
      unfold klA
      rw [setA_s]
      refine si_cg hA.t (fun v hv => (hL.1.2.2.2.1 v hv).2.1) (fun v hv => ?_) w hw
      rw [kl_kp hA.t (lo' := kLo S.X) (fun i hi => ⟨hL.2.2.2 i (by omega), by
        obtain ⟨a, a1, a2, _⟩ := hlf.2.1 i (by omega)
        exact ⟨a, a1, (hL.2.2.2 i (by omega)).trans a2⟩⟩) hv]
    obtain ⟨q1, q2⟩ := paint_rel hS (cRel_k h1 (fun k hk => u k (by omega) (by omega)) (by rw [u 33 (by decide) (by decide)]) rfl) (cLd_k hL (fun k hk => u k (by omega) (by omega)) rfl) hv74 x1 (by rw [u 7 (by decide) (by decide)]; exact x2) (fun i hi => cSl_o (Nat.mod_lt _ (by decide)) (x3 i hi) (fun k _ _ => u k (by omega) (by omega)))
    refine ⟨hv, ?_, rfl, q1, fun k hk => ⟨?_, (hf k hk).2⟩⟩
    · rw [chg_k hS h1 hL hv74]; rfl
    · rw [q2 k hk, u k (by omega) (by omega), (hf k hk).1]
  · rintro E A2 B2 D2 ⟨⟨hn, rfl⟩, rfl, rfl, rfl⟩
    exact ⟨Or.inl ⟨hn, rfl⟩, rfl, h, hiF_rf _ _⟩
/-! another level, the complement, the hash -/
def abs.wit (S : abs) (p : Nat) (v : Int32) : abs := (abs.of S.c S.r S.n S.sz S.len S.dk S.ei (upd S.lv p v) S.mr S.co S.hc S.hr S.hl S.hm)
theorem abs.wit_ok (hS : S.ok) {p : Nat} {v : Int32} (hv : btw v 0 15) : (S.wit p v).ok := (abs.ok.mk'
      (g := hS.g)
      (sz := hS.sz)
      (len := hS.len)
      (lv := lv16_upd hS.lv (btw15 hv))
      (mr := hS.mr)
      (dk := hS.dk)
      (ei := hS.ei)
      (h := hS.h))
theorem C_ifLevel (h : cRel S A B) (hS : S.ok) {i v w : Int32} : does0 mX7_ifLevel [.ref 0, .int i, .int v, .int w] A B D (CQ S A B D (inR i (nI S.n) ∧ btw v 0 15 ∧ btw w 2 4) (.int ((S.wit i.toNatClampNeg v).cnt w.toNatClampNeg))) (CX S A B D (inR i (nI S.n)) (btw v 0 15 ∧ btw w 2 4) sIO sIA) := by
  obtain ⟨x, x1, x2, x3⟩ := h.hx
  have h64 := hS.g.n.2
  have hlv : ∀ p j, j < 64 → tpA A p v 5 j = upd S.lv p v j := fun p j hj => by
    unfold tpA
    rw [updA_get]
    unfold upd
    by_cases e : j = p
    · rw [if_pos ⟨rfl, e⟩, if_pos e]
    · rw [if_neg (fun z => e z.2), if_neg e]
      unfold copyA
      rw [cpA_n _ _ (by decide), cpA_s _ _ _ hj, updA_n _ _ _ (by decide), updA_n _ _ _ (by decide)]
      exact h.lv j hj
  refine does_mo (p_ifLevel (rk := (S.wit i.toNatClampNeg v).X.rk) (h.ok hS x1 x2) (by rw [h.ei]; exact hS.ei) (fun hi hv j hj => ?_)) ?_ ?_
  · have := abs.rk (abs.wit_ok (p := i.toNatClampNeg) hS hv) (p := j) (by omega)
    refine ⟨this.2, ?_⟩
    rw [hlv _ j (by omega), h.dk]
    exact this.1
  · intro r A2 B2 D2 hq
    obtain ⟨⟨hi, hv, hw⟩, q1, q2, q3, q4⟩ := hq
    have hX := abs.Xok (abs.wit_ok (p := i.toNatClampNeg) hS hv)
    rw [h.ei] at q1 q2 q3
    have hN := bld_cNd hX (k := 45) (A := tpA A i.toNatClampNeg v) (B := B)
    have hG := bld_gr hX (k := 45) (A := tpA A i.toNatClampNeg v) (B := B)
    change cNd (S.wit i.toNatClampNeg v).X 45 (bldA (tpA A i.toNatClampNeg v) B 45 S.n S.c S.r S.ei (S.wit i.toNatClampNeg v).X.rk) (bldB (tpA A i.toNatClampNeg v) B 45 S.n S.c S.r S.ei (S.wit i.toNatClampNeg v).X.rk) at hN
    have u1 : ∀ k, (k < 45 ∨ 53 < k) → bldA (tpA A i.toNatClampNeg v) B 45 S.n S.c S.r S.ei (S.wit i.toNatClampNeg v).X.rk k = tpA A i.toNatClampNeg v k := fun k hk => hG.2.2.1 k (by omega)
    have u2 : ∀ k, k ≠ 4 → k ≠ 5 → k ≠ 6 → tpA A i.toNatClampNeg v k = A k := fun k h4 h5 h6 => by
      unfold tpA
      rw [updA_n _ _ _ h5, copyA_o h4 h5 h6]
    have u : ∀ k, (k < 4 ∨ 6 < k ∧ k < 45 ∨ 53 < k) → bldA (tpA A i.toNatClampNeg v) B 45 S.n S.c S.r S.ei (S.wit i.toNatClampNeg v).X.rk k = A k := fun k hk => by rw [u1 k (by omega), u2 k (by omega) (by omega) (by omega)]
    have ub : ∀ k, k ≠ 46 → k ≠ 47 → k ≠ 54 → bldB (tpA A i.toNatClampNeg v) B 45 S.n S.c S.r S.ei (S.wit i.toNatClampNeg v).X.rk k = B k := fun k h1 h2 h3 => hG.2.2.2 k (by omega) (by omega) (by omega)
    rw [← q2] at u u1 hN
    rw [← q3] at ub hN
    rw [← q2] at q1
    refine ⟨⟨hi, hv, hw⟩, ?_, q4, cRel_k h (fun k hk => u k (by omega)) (by rw [u 33 (by omega)]) (ub 37 (by decide) (by decide) (by decide)), fun k hk => ⟨u k (by omega), ub k (by omega) (by omega) (by omega)⟩⟩
    obtain ⟨w', w1, w2, w3, rfl⟩ := btw_nI (lo := 2) (hi := 4) (by decide) hw
    rw [nI_clamp w3, q1]
    obtain ⟨c1, c2, c3, _, _⟩ := hN
    unfold numV
    rcases (show w' = 2 ∨ w' = 3 ∨ w' = 4 by omega) with e | e | e
    · subst e
      rw [if_pos (show nI 2 = 2 from rfl), c1]; rfl
    · subst e
      rw [if_neg (by decide), if_neg (by decide), c2]; rfl
    · subst e
      rw [if_neg (by decide), if_pos (show nI 4 = 4 from rfl), c3]; rfl
  · rintro E A2 B2 D2 ⟨hE, rfl, rfl, rfl⟩
    exact ⟨hE, rfl, h, hiF_rf _ _⟩
theorem C_complement (h : cRel S A B) (hS : S.ok) : does0 mX7_complement [.ref 0] A B D (CQ S.sComp A B D True (.int (nI (kM S.sComp.X)))) nx := by
  obtain ⟨x, x1, x2, x3⟩ := h.hx
  have hst : cRel S.sComp (cmA A x S.sz S.n) B := by
    refine cRel_step h hS x1 x2 x3 ?_ ?_ (fun j hj => ?_) (fun j hj => ?_) ?_ ?_ ?_ (fun k k0 k1 k2 k3 k4 => ?_)
    · unfold cmA; rw [updA_n _ _ _ (by decide), setA_n _ _ (by decide), keepA_o (by decide) (by omega) x1]; exact h.c
    · unfold cmA; rw [updA_n _ _ _ (by decide), setA_n _ _ (by decide), keepA_o (by decide) (by omega) x1]; exact h.r
    · unfold cmA
      rw [updA_n _ _ _ (by decide), setA_s, cm_ok, h.lv j hj]
    · unfold cmA; rw [updA_n _ _ _ (by decide), setA_n _ _ (by decide), keepA_o (by decide) (by omega) x1]; exact h.mr j hj
    · unfold cmA; rw [updA_sj _ _ _ (by decide), setA_n _ _ (by decide), keepA_o (by decide) (by omega) x1]
    · unfold cmA; rw [updA_sj _ _ _ (by decide), setA_n _ _ (by decide), keepA_o (by decide) (by omega) x1]
    · unfold cmA; rw [updA_ss]
    · unfold cmA; rw [updA_n _ _ _ k0, setA_n _ _ k2]
  obtain ⟨A1, B1, hd, h1, hL, hf⟩ := C_ref hst (abs.sComp_ok hS)
  refine does_mo (p_complement (h.ok hS x1 x2) (hd D)) ?_ (fun E A' B' D' z => z)
  rintro r A2 B2 D2 ⟨rfl, rfl, rfl, rfl⟩
  refine ⟨trivial, by rw [hL.1.1], rfl, h1, fun k hk => ⟨?_, (hf k hk).2⟩⟩
  rw [(hf k hk).1]
  unfold cmA
  rw [updA_n _ _ _ (by omega), setA_n _ _ (by omega), keepA_h x1 hk]
theorem hl_cg {f g : Nat → Int32} {n : Nat} {s : Int64} (h : ∀ i, i < n → f i = g i) : itr (hlS f) n s = itr (hlS g) n s := itr_cg n s (fun i q hi => by unfold hlS; rw [h i hi])
theorem C_digest (h : cRel S A B) (hS : S.ok) : does0 mX7_digest [.ref 0] A B D (CQ S A B D True (.long S.dg)) nx := by
  have hX := abs.Xok hS
  have hk := k_m hX
  have h64 := hS.g.n.2
  obtain ⟨A1, B1, hd, h1, hL, hf⟩ := C_ref h hS
  refine does_mo (p_digest (lf := kLf S.X) (len := S.len) (hd D) (h1.nn hS) h64 (cNd_tr hX hL.1) hL.1.2.1 hk.2.2 h1.len hS.len) ?_ (fun E A' B' D' z => z)
  rintro r A2 B2 D2 ⟨rfl, rfl, rfl, rfl⟩
  refine ⟨trivial, ?_, rfl, ?_, ?_⟩
  · have e0 : dg0 A1 S.n = S.dg1 := by
      unfold dg0 abs.dg1
      rw [h1.dk, h1.ei]
      exact itr_cg 8 _ (fun w q hw => by unfold dgN; rw [cnt_ok h1 hL hS hw])
    have e2 : dg2 A1 S.n (kM S.X) (kLf S.X) = S.dg2 := by
      unfold dg2 abs.dg2
      rw [e0, hl_cg hL.2.2.2, itr_cg (f := hpS (A1 2) (A1 3) (A1 42)) (g := hpS S.lv S.mr (kN S.X)) S.n _ (fun p q hp => by unfold hpS; rw [h1.lv p (by omega), h1.mr p (by omega), show A1 42 p = kN S.X p from hL.1.2.2.2.2 p hp]), itr_cg (f := htS A1) (g := fun v h => itr (fun a h => mixV h (kAt S.X v a)) 12 h) (kM S.X) _ (fun v q hv => by
        unfold htS
        exact itr_cg 12 q (fun a q ha => by unfold haS; rw [hL.2.2.1 v a hv ha]))]
    have l1 := loss_k hS h1 hL (b := 1) (by decide) (t := 3) (u := 1)
    have l2 := loss_k hS (prn_rel h1 (kv := 58) (t := 3) (u := 1) (pa := kpa S.X) (m := kM S.X)) (prn_ld hL) (b := 6) (by decide) (t := 4) (u := 3)
    rw [prnA_o (by decide) (by decide), prnA_o (by decide) (by decide)] at l2
    unfold dgV dg3 abs.dg
    rw [e2, l1, show dgA A1 (kpa S.X) (kM S.X) 74 = prnA (prnA A1 58 3 1 (kpa S.X) (kM S.X)) 63 4 3 (kpa S.X) (kM S.X) 74 from rfl, l2, hl_cg h1.co]
  · exact prn_rel (prn_rel h1)
  · exact hiF_tr hf (hiF_tr prn_hi prn_hi)
end CF

