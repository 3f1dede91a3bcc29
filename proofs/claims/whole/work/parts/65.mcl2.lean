/-! the model's calls, said of the state: the tree -/
theorem mLd_k {X : img} {A A1 : xA} {B B1 : xB} (h : mLd X A B) (hA : ∀ k, 84 < k → k < 91 → A1 k = A k) (h76 : A1 76 19 = A 76 19 ∧ A1 76 26 = A 76 26) (hB : B1 84 = B 84) : mLd X A1 B1 := mLd_o h hA h76.1 h76.2 hB
theorem mLd_t {X : img} {A : xA} {B : xB} (h : mLd X A B) (t : Int32) : mLd X (updA A 76 0 t) B := mLd_k h (fun k h1 _ => updA_n _ _ _ (by omega)) ⟨updA_sj _ _ _ (by decide), updA_sj _ _ _ (by decide)⟩ rfl
theorem cf_cg {rk rk' : Nat → Int32} {se se' : Nat → Int64} {p m : Nat} {t : Int32} (hp : p < 64) (h : ∀ v, v < m → rk v = rk' v ∧ se v = se' v) : cfV rk se (nI p) t m (-1) = cfV rk' se' (nI p) t m (-1) := by
  rw [← low_cf (rk := rk) (se := se) hp (fun v _ => ⟨rfl, rfl⟩), low_cf hp h]
/-- the tree's new ranks in the model's heap -/
theorem nr_k {X : img} (hX : X.ok) {H : xA} {B : xB} {rem : Nat → Int32} (hL : mLd X H B) (hr : ∀ v, v < kM X → H 92 v = rem v) (h0 : ¬ rem 0 = 0) {p : Nat} (hp : p < X.n) : nrV H B (kM X) p 0 = kSi X rem (knd X p) ∧ nrV H B (kM X) p 1 = kAs X rem (knd X p) := by
  obtain ⟨tn, su, P, pn, hN, hA, hsu, hP⟩ := k_all hX
  have hT := hA.t
  have hm := hT.m64
  obtain ⟨l1, l2, l3, l4, l5⟩ := hL
  have hT2 : TF X.n (kM X) (B 84) X.rk tn (kpa X) (knd X) := TF_se hT (fun v hv => (l3 v hv).1)
  have hpp : ∀ v, 0 < v → v < kM X → H 86 v = nI (kpa X v) := fun v h0 hv => ((l3 v hv).2.2.1).trans (hA.pp v h0 hv)
  have hk : ∀ v, v < kM X → H 85 v = kK X v := fun v hv => (l3 v hv).2.1
  have hr2 : ∀ v, v < kM X → (H 92 v = 0 ↔ rem v = 0) := fun v hv => by rw [hr v hv]
  have hnd := hT.ndl p hp
  constructor
  · unfold nrV kSi
    rw [if_pos rfl, l4 p hp, show (kN X p).toNatClampNeg = knd X p from rfl, ← si_nw hT (kr := H 85) (rem := H 92) (s := fun _ => 0) hpp (fun v _ => Iff.rfl) (fun z => h0 ((hr2 0 hT.m0).mp z)) 64 (knd X p) hnd (by omega)]
    exact si_cg hT hk hr2 _ hnd
  · unfold nrV kAs
    rw [if_neg (by decide), ← as_ns hT2 (kr := H 85) (rem := H 92) (s := fun _ => 0) hpp (fun v _ => Iff.rfl) hp]
    exact as_cg hT hk hr2 _ hnd
section MT
variable {S : abs} {A : xA} {B : xB} {D : xD}
theorem fl_91 (h : mRel S A B) (hS : S.ok) (hL : mLd S.X A B) {w v : Nat} (hv : v < kM S.X) {t u : Int32} : flA A B S.c S.r S.n (kM S.X) w t u 91 v = kAt S.X v w := by
  unfold flA
  rw [setA_n _ _ (by decide), setA_s]
  unfold vaM
  rw [if_pos hv]
  exact at_k hL h.ei (M_rk h hS) hv
theorem fl_92 (h : mRel S A B) (hS : S.ok) (hL : mLd S.X A B) {w v : Nat} (hv : v < kM S.X) {t u : Int32} : flA A B S.c S.r S.n (kM S.X) w t u 92 v = kRem S.X w t u v := by
  unfold flA
  rw [setA_s]
  unfold reM
  rw [if_pos hv]
  refine rm_cg hv (fun w' hw' => ?_) (fun w' hw' => (hL.2.2.1 w' hw').1)
  unfold vaM
  rw [if_pos hw']
  exact at_k hL h.ei (M_rk h hS) hw'
theorem fl_o {c r n m w k : Nat} {t u : Int32} (h1 : k ≠ 91) (h2 : k ≠ 92) : flA A B c r n m w t u k = A k := by unfold flA; rw [setA_n _ _ h2, setA_n _ _ h1]
theorem fl_rel2 (h : mRel S A B) {c r n m w : Nat} {t u : Int32} : mRel S (flA A B c r n m w t u) B := mRel_k h (fun k hk => fl_o (by omega) (by omega)) (fun j _ => by rw [fl_o (by decide) (by decide)]) rfl
theorem fl_ld {X : img} (h : mLd X A B) {c r n m w : Nat} {t u : Int32} : mLd X (flA A B c r n m w t u) B := mLd_k h (fun k _ _ => fl_o (by omega) (by omega)) ⟨by rw [fl_o (by decide) (by decide)], by rw [fl_o (by decide) (by decide)]⟩ rfl
theorem fl_lo {c r n m w : Nat} {t u : Int32} : loF A B (flA A B c r n m w t u) B := fun k hk => ⟨fl_o (by omega) (by omega), rfl⟩
theorem kr0 {X : img} {a : Nat} {t u : Int32} : ¬ kRem X a t u 0 = 0 := by unfold kRem; rw [rm_0]; decide
theorem nr_fl (h : mRel S A B) (hS : S.ok) (hL : mLd S.X A B) {w p : Nat} {t u : Int32} (hp : p < S.n) : nrV (flA A B S.c S.r S.n (kM S.X) w t u) B (kM S.X) p (if u = 3 then 1 else 0) = kNr S.X w t u p := by
  obtain ⟨n1, n2⟩ := nr_k (abs.Xok hS) (rem := kRem S.X w t u) (fl_ld hL) (fun v hv => fl_92 h hS hL hv) kr0 hp
  unfold kNr kNv
  by_cases e : u = 3
  · rw [if_pos e, if_pos e]; exact n2
  · rw [if_neg e, if_neg e]; exact n1
theorem lo_fl (h : mRel S A B) (hS : S.ok) (hL : mLd S.X A B) {w : Nat} {t u : Int32} : loV (flA A B S.c S.r S.n (kM S.X) w t u) B (kM S.X) (if u = 3 then 1 else 0) S.n = S.loss w t u := by
  have h64 := hS.g.n.2
  unfold loV abs.loss
  refine isum_cg S.n (fun p hp => ?_)
  rw [nr_fl h hS hL hp, fl_o (by decide) (by decide), fl_o (by decide) (by decide), h.lv p (by omega), h.dk]
theorem mc_ok (h : mRel S A B) (hS : S.ok) (hL : mLd S.X A B) {w : Nat} (hw : w < 8) : mcV A S.n (kM S.X) w = S.cnt w := by
  have h64 := hS.g.n.2
  have hk := k_m (abs.Xok hS)
  obtain ⟨l1, l2, l3, l4, l5⟩ := hL
  rcases w with _ | _ | _ | _ | _ | _ | _ | _ | w
  · exact h.c
  · exact h.r
  · exact l1
  · exact l2
  · exact dps_cg hk.2.1 (fun v hv => by rw [(l3 v hv).2.2.1]; exact par_ok _ _) (fun v hv => (l3 v hv).2.2.1)
  · show c1V (lvb (A 77) S.n).toInt64 64 = c1V (lvb S.lv S.n).toInt64 64
    rw [lvb_cg S.n (fun p hp => h.lv p (by omega))]
  · exact isum_cg S.n (fun p hp => h.lv p (by omega))
  · exact h.sz
  · omega
theorem M_count (h : mRel S A B) (hS : S.ok) {v : Int32} : does0 mX8_count [.ref 76, .int v] A B D (MQm S S A B D (inR v 8) True (.int (S.cnt v.toNatClampNeg)) (.int 0)) nx := by
  obtain ⟨A1, B1, y1, y2, y3, y4, h1, hL, hn, hf, h0⟩ := M_lay h hS
  obtain ⟨hT, hR⟩ := M_T h1 hS hL
  refine does_mo (m_count ⟨y1, y2, hn⟩ hT) (fun r A' B' D' hq => ?_) (fun E A' B' D' z => z)
  refine MQ_of (A0 := A) (B0 := B) (A1 := updA A1 76 0 0) (B1 := B1) h (loF_rf _ _) (fun _ _ => ⟨mRel_t h1 0, updA_ss _ _ _ _, loF_tr hf (loF_t 0)⟩) r A' B' D' ?_
  obtain ⟨hD, hq⟩ := hq
  refine ⟨hD, hq.imp (fun ⟨a1, a2, a3, a4⟩ => ⟨a1, a2, ?_, a4⟩) id⟩
  rw [a3]
  obtain ⟨w, hw, rfl⟩ := inR_nI (n := 8) a1 (by decide)
  rw [nI_clamp (by omega), mc_ok h1 hS hL hw]
theorem M_nodeOf (h : mRel S A B) (hS : S.ok) {i : Int32} : does0 mX8_nodeOf [.ref 76, .int i] A B D (MQm S S A B D (inR i (nI S.n)) True (.int (kN S.X i.toNatClampNeg)) (.int 0)) nx := by
  have h64 := hS.g.n.2
  obtain ⟨A1, B1, y1, y2, y3, y4, h1, hL, hn, hf, h0⟩ := M_lay h hS
  refine does_mo (m_nodeOf (m := 0) (lf := 0) (h.g hS) ⟨y1, y2, hn⟩) (fun r A' B' D' hq => ?_) (fun E A' B' D' z => z)
  refine MQ_of (A0 := A1) (B0 := B1) (A1 := updA A1 76 0 0) (B1 := B1) h1 hf (fun _ _ => ⟨mRel_t h1 0, updA_ss _ _ _ _, loF_tr hf (loF_t 0)⟩) r A' B' D' ?_
  obtain ⟨hD, hq⟩ := hq
  refine ⟨hD, hq.imp (fun ⟨a1, a2, a3, a4⟩ => ⟨a1, a2, ?_, a4⟩) id⟩
  rw [a3]
  obtain ⟨p, hp, rfl⟩ := inR_nI a1 (by omega)
  rw [nI_clamp (by omega), hL.2.2.2.1 p hp]
theorem M_attribute (h : mRel S A B) (hS : S.ok) {i a : Int32} : does0 mX8_attribute [.ref 76, .int i, .int a] A B D (MQm S S A B D (inR i (nI (kM S.X))) (inR a 12) (.int (kAt S.X i.toNatClampNeg a.toNatClampNeg)) (.int 0)) nx := by
  have hk := k_m (abs.Xok hS)
  obtain ⟨A1, B1, y1, y2, y3, y4, h1, hL, hn, hf, h0⟩ := M_lay h hS
  obtain ⟨hT, hR⟩ := M_T h1 hS hL
  refine does_mo (m_attribute ⟨y1, y2, hn⟩ hT) (fun r A' B' D' hq => ?_) (fun E A' B' D' z => z)
  refine MQ_of (A0 := A1) (B0 := B1) (A1 := updA A1 76 0 0) (B1 := B1) h1 hf (fun _ _ => ⟨mRel_t h1 0, updA_ss _ _ _ _, loF_tr hf (loF_t 0)⟩) r A' B' D' ?_
  obtain ⟨hD, hq⟩ := hq
  refine ⟨hD, hq.imp (fun ⟨a1, a2, a3, a4⟩ => ⟨a1, a2, ?_, a4⟩) id⟩
  rw [a3]
  obtain ⟨p, hp, rfl⟩ := inR_nI a1 (by omega)
  rw [nI_clamp (by omega)]
  exact congrArg (fun z => some (Value.int z)) (at_k hL h1.ei (M_rk h1 hS) hp)
theorem M_meanRank (h : mRel S A B) (hS : S.ok) {i : Int32} : does0 mX8_meanRank [.ref 76, .int i] A B D (MQm S S A B D (inR i (nI (kM S.X))) True (.double (kMn S.X i.toNatClampNeg)) (.double 0)) nx := by
  have hX := abs.Xok hS
  have hk := k_m hX
  obtain ⟨A1, B1, y1, y2, y3, y4, h1, hL, hn, hf, h0⟩ := M_lay h hS
  obtain ⟨hT, hR⟩ := M_T h1 hS hL
  have key : ∀ v, v < kM S.X → mnV A1 B1 S.n v = kMn S.X v := fun v hv => by
    unfold mnV kMn
    rw [(hL.2.2.1 v hv).1, sr_cg (M_rk h1 hS)]
    rfl
  refine does_mo (m_meanRank ⟨y1, y2, hn⟩ hT (fun v hv => by rw [key v hv]; exact (k_mn hX hv).1)) (fun r A' B' D' hq => ?_) (fun E A' B' D' z => z)
  refine MQ_of (A0 := A1) (B0 := B1) (A1 := updA A1 76 0 0) (B1 := B1) h1 hf (fun _ _ => ⟨mRel_t h1 0, updA_ss _ _ _ _, loF_tr hf (loF_t 0)⟩) r A' B' D' ?_
  obtain ⟨hD, hq⟩ := hq
  refine ⟨hD, hq.imp (fun ⟨a1, a2, a3, a4⟩ => ⟨a1, a2, ?_, a4⟩) id⟩
  rw [a3]
  obtain ⟨p, hp, rfl⟩ := inR_nI a1 (by omega)
  rw [nI_clamp (by omega), key p hp]
theorem M_contains (h : mRel S A B) (hS : S.ok) {i j : Int32} : does0 mX8_contains [.ref 76, .int i, .int j] A B D (MQm S S A B D (inR i (nI (kM S.X)) ∧ inR j (nI S.n)) True (.int (hasM (kS S.X i.toNatClampNeg) j)) (.int 0)) nx := by
  have hk := k_m (abs.Xok hS)
  obtain ⟨A1, B1, y1, y2, y3, y4, h1, hL, hn, hf, h0⟩ := M_lay h hS
  obtain ⟨hT, hR⟩ := M_T h1 hS hL
  refine does_mo (m_contains ⟨y1, y2, hn⟩ hT) (fun r A' B' D' hq => ?_) (fun E A' B' D' z => z)
  refine MQ_of (A0 := A1) (B0 := B1) (A1 := updA A1 76 0 0) (B1 := B1) h1 hf (fun _ _ => ⟨mRel_t h1 0, updA_ss _ _ _ _, loF_tr hf (loF_t 0)⟩) r A' B' D' ?_
  obtain ⟨hD, hq⟩ := hq
  refine ⟨hD, hq.imp (fun ⟨a1, a2, a3, a4⟩ => ⟨a1, a2, ?_, a4⟩) id⟩
  rw [a3]
  obtain ⟨p, hp, rfl⟩ := inR_nI a1.1 (by omega)
  rw [nI_clamp (by omega), (hL.2.2.1 p hp).1]
theorem M_child (h : mRel S A B) (hS : S.ok) {i j : Int32} : does0 mX8_child [.ref 76, .int i, .int j] A B D (MQm S S A B D (inR i (nI (kM S.X)) ∧ inR j (kC S.X i.toNatClampNeg)) True (.int (itr (chS (kP S.X) i) (kM S.X) (-1, j)).1) (.int 0)) nx := by
  have hk := k_m (abs.Xok hS)
  obtain ⟨A1, B1, y1, y2, y3, y4, h1, hL, hn, hf, h0⟩ := M_lay h hS
  obtain ⟨hT, hR⟩ := M_T h1 hS hL
  have key : (inR i (nI (kM S.X)) ∧ inR j (A1 87 i.toNatClampNeg)) ↔ (inR i (nI (kM S.X)) ∧ inR j (kC S.X i.toNatClampNeg)) := by
    refine and_congr_right (fun hv => ?_)
    obtain ⟨p, hp, rfl⟩ := inR_nI hv (by omega)
    rw [nI_clamp (by omega), (hL.2.2.1 p hp).2.2.2.1]
  refine does_mo (m_child ⟨y1, y2, hn⟩ hT) (fun r A' B' D' hq => ?_) (fun E A' B' D' z => z)
  refine MQ_of (A0 := A1) (B0 := B1) (A1 := updA A1 76 0 0) (B1 := B1) h1 hf (fun _ _ => ⟨mRel_t h1 0, updA_ss _ _ _ _, loF_tr hf (loF_t 0)⟩) r A' B' D' ?_
  obtain ⟨hD, hq⟩ := hq
  rw [key] at hq
  refine ⟨hD, hq.imp (fun ⟨a1, a2, a3, a4⟩ => ⟨a1, a2, ?_, a4⟩) id⟩
  rw [a3, itr_cg (f := chS (A1 86) i) (g := chS (kP S.X) i) (kM S.X) _ (fun k q hk => by unfold chS; rw [(hL.2.2.1 k hk).2.2.1])]
theorem M_leaf (h : mRel S A B) (hS : S.ok) {i : Int32} : does0 mX8_leaf [.ref 76, .int i] A B D (MQm S S A B D (inR i (nI (kLf S.X))) True (.int (kLo S.X i.toNatClampNeg)) (.int 0)) nx := by
  have hk := k_m (abs.Xok hS)
  obtain ⟨A1, B1, y1, y2, y3, y4, h1, hL, hn, hf, h0⟩ := M_lay h hS
  obtain ⟨hT, hR⟩ := M_T h1 hS hL
  refine does_mo (m_leaf ⟨y1, y2, hn⟩ hT) (fun r A' B' D' hq => ?_) (fun E A' B' D' z => z)
  refine MQ_of (A0 := A1) (B0 := B1) (A1 := updA A1 76 0 0) (B1 := B1) h1 hf (fun _ _ => ⟨mRel_t h1 0, updA_ss _ _ _ _, loF_tr hf (loF_t 0)⟩) r A' B' D' ?_
  obtain ⟨hD, hq⟩ := hq
  refine ⟨hD, hq.imp (fun ⟨a1, a2, a3, a4⟩ => ⟨a1, a2, ?_, a4⟩) id⟩
  rw [a3]
  obtain ⟨p, hp, rfl⟩ := inR_nI a1 (by omega)
  rw [nI_clamp (by omega), hL.2.2.2.2 p hp]
theorem M_prominence (h : mRel S A B) (hS : S.ok) {i : Int32} : does0 mX8_prominence [.ref 76, .int i] A B D (MQm S S A B D (inR i (nI (kM S.X))) (kC S.X i.toNatClampNeg = 0) (.int (kQ S.X i.toNatClampNeg)) (.int 0)) nx := by
  have hk := k_m (abs.Xok hS)
  obtain ⟨A1, B1, y1, y2, y3, y4, h1, hL, hn, hf, h0⟩ := M_lay h hS
  obtain ⟨hT, hR⟩ := M_T h1 hS hL
  have key : inR i (nI (kM S.X)) → A1 87 i.toNatClampNeg = kC S.X i.toNatClampNeg := fun hv => by
    obtain ⟨p, hp, rfl⟩ := inR_nI hv (by omega)
    rw [nI_clamp (by omega), (hL.2.2.1 p hp).2.2.2.1]
  refine does_mo (m_prominence ⟨y1, y2, hn⟩ hT) (fun r A' B' D' hq => ?_) (fun E A' B' D' z => z)
  refine MQ_of (A0 := A1) (B0 := B1) (A1 := updA A1 76 0 0) (B1 := B1) h1 hf (fun _ _ => ⟨mRel_t h1 0, updA_ss _ _ _ _, loF_tr hf (loF_t 0)⟩) r A' B' D' ?_
  obtain ⟨hD, hq⟩ := hq
  refine ⟨hD, ?_⟩
  rcases hq with ⟨a1, a2, a3, a4⟩ | hq | ⟨a1, a2, a3⟩
  · rw [key a1] at a2
    refine Or.inl ⟨a1, a2, ?_, a4⟩
    rw [a3]
    obtain ⟨p, hp, rfl⟩ := inR_nI a1 (by omega)
    rw [nI_clamp (by omega)] at a2 ⊢
    rw [(hL.2.2.1 p hp).2.2.2.2 a2]
  · exact Or.inr (Or.inl hq)
  · rw [key a1] at a2
    exact Or.inr (Or.inr ⟨a1, a2, a3⟩)
theorem M_component (h : mRel S A B) (hS : S.ok) {i t : Int32} : does0 mX8_component [.ref 76, .int i, .int t] A B D (MQm S S A B D (inR i (nI S.n)) (btw t 0 15) (.int (cfV (kK S.X) (kS S.X) i t (kM S.X) (-1))) (.int 0)) nx := by
  have hk := k_m (abs.Xok hS)
  have h64 := hS.g.n.2
  obtain ⟨A1, B1, y1, y2, y3, y4, h1, hL, hn, hf, h0⟩ := M_lay h hS
  obtain ⟨hT, hR⟩ := M_T h1 hS hL
  refine does_mo (m_component ⟨y1, y2, hn⟩ hT) (fun r A' B' D' hq => ?_) (fun E A' B' D' z => z)
  refine MQ_of (A0 := A1) (B0 := B1) (A1 := updA A1 76 0 0) (B1 := B1) h1 hf (fun _ _ => ⟨mRel_t h1 0, updA_ss _ _ _ _, loF_tr hf (loF_t 0)⟩) r A' B' D' ?_
  obtain ⟨hD, hq⟩ := hq
  refine ⟨hD, hq.imp (fun ⟨a1, a2, a3, a4⟩ => ⟨a1, a2, ?_, a4⟩) id⟩
  rw [a3]
  obtain ⟨p, hp, rfl⟩ := inR_nI a1 (by omega)
  rw [cf_cg (by omega) (fun v hv => ⟨(hL.2.2.1 v hv).2.1, (hL.2.2.1 v hv).1⟩)]
theorem M_meet (h : mRel S A B) (hS : S.ok) {i j : Int32} : does0 mX8_meet [.ref 76, .int i, .int j] A B D (MQm S S A B D (inR i (nI S.n) ∧ inR j (nI S.n)) True (.int (itr (meS2 (kS S.X) i j) (kM S.X) 0)) (.int 0)) nx := by
  have hk := k_m (abs.Xok hS)
  obtain ⟨A1, B1, y1, y2, y3, y4, h1, hL, hn, hf, h0⟩ := M_lay h hS
  obtain ⟨hT, hR⟩ := M_T h1 hS hL
  refine does_mo (m_meet ⟨y1, y2, hn⟩ hT) (fun r A' B' D' hq => ?_) (fun E A' B' D' z => z)
  refine MQ_of (A0 := A1) (B0 := B1) (A1 := updA A1 76 0 0) (B1 := B1) h1 hf (fun _ _ => ⟨mRel_t h1 0, updA_ss _ _ _ _, loF_tr hf (loF_t 0)⟩) r A' B' D' ?_
  obtain ⟨hD, hq⟩ := hq
  refine ⟨hD, hq.imp (fun ⟨a1, a2, a3, a4⟩ => ⟨a1, a2, ?_, a4⟩) id⟩
  rw [a3, itr_cg (f := meS2 (B1 84) i j) (g := meS2 (kS S.X) i j) (kM S.X) _ (fun k q hk => by unfold meS2; rw [(hL.2.2.1 k hk).1])]
theorem M_distance (h : mRel S A B) (hS : S.ok) {i j : Int32} : does0 mX8_distance [.ref 76, .int i, .int j] A B D (MQm S S A B D (inR i (nI (kM S.X)) ∧ inR j (nI (kM S.X))) True (.int (diV (kS S.X) (kP S.X) i.toNatClampNeg j.toNatClampNeg (kM S.X))) (.int 0)) nx := by
  have hk := k_m (abs.Xok hS)
  obtain ⟨A1, B1, y1, y2, y3, y4, h1, hL, hn, hf, h0⟩ := M_lay h hS
  obtain ⟨hT, hR⟩ := M_T h1 hS hL
  refine does_mo (m_distance ⟨y1, y2, hn⟩ hT) (fun r A' B' D' hq => ?_) (fun E A' B' D' z => z)
  refine MQ_of (A0 := A1) (B0 := B1) (A1 := updA A1 76 0 0) (B1 := B1) h1 hf (fun _ _ => ⟨mRel_t h1 0, updA_ss _ _ _ _, loF_tr hf (loF_t 0)⟩) r A' B' D' ?_
  obtain ⟨hD, hq⟩ := hq
  refine ⟨hD, hq.imp (fun ⟨a1, a2, a3, a4⟩ => ⟨a1, a2, ?_, a4⟩) id⟩
  rw [a3]
  obtain ⟨p, hp, rfl⟩ := inR_nI a1.1 (by omega)
  obtain ⟨q, hq', rfl⟩ := inR_nI a1.2 (by omega)
  rw [nI_clamp (by omega), nI_clamp (by omega)]
  have hpa : paOK (A1 86) (kM S.X) := fun v hv => by rw [(hL.2.2.1 v hv).2.2.1]; exact par_ok _ _
  have hpe : ∀ v, v < kM S.X → A1 86 v = kP S.X v := fun v hv => (hL.2.2.1 v hv).2.2.1
  unfold diV
  rw [dp_cg hk.2.1 hpa hpe _ p hp, dp_cg hk.2.1 hpa hpe _ q hq', isum_cg (f := diO (B1 84) p q) (g := diO (kS S.X) p q) (kM S.X) (fun k hk' => by
    unfold diO blV
    rw [(hL.2.2.1 k hk').1, (hL.2.2.1 p hp).1, (hL.2.2.1 q hq').1])]
/-! filters -/
theorem M_verdict (h : mRel S A B) (hS : S.ok) {i a t u : Int32} : does0 mX8_verdict [.ref 76, .int i, .int a, .int t, .int u] A B D (MQm S S A B D (inR i (nI (kM S.X))) (fOK a t u) (.int (verV (kAt S.X i.toNatClampNeg a.toNatClampNeg) (kRem S.X a.toNatClampNeg t u i.toNatClampNeg) t)) (.int 0)) nx := by
  have hk := k_m (abs.Xok hS)
  obtain ⟨A1, B1, y1, y2, y3, y4, h1, hL, hn, hf, h0⟩ := M_lay h hS
  obtain ⟨hT, hR⟩ := M_T h1 hS hL
  have h1' := mRel_t h1 0
  have hL' := mLd_t hL 0
  refine does_mo (m_verdict ⟨y1, y2, hn⟩ hT) (fun r A' B' D' hq => ?_) (fun E A' B' D' z => z)
  refine MQ_of (A0 := A1) (B0 := B1) (A1 := flA (updA A1 76 0 0) B1 S.c S.r S.n (kM S.X) a.toNatClampNeg t u) (B1 := B1) h1 hf (fun _ _ => ⟨fl_rel2 h1', by rw [fl_o (by decide) (by decide), updA_ss], loF_tr hf (loF_tr (loF_t 0) fl_lo)⟩) r A' B' D' ?_
  obtain ⟨hD, hq⟩ := hq
  refine ⟨hD, hq.imp (fun ⟨a1, a2, a3, a4⟩ => ⟨a1, a2, ?_, a4⟩) id⟩
  rw [a3]
  obtain ⟨p, hp, rfl⟩ := inR_nI a1 (by omega)
  rw [nI_clamp (by omega)]
  unfold mvV verV
  rw [fl_91 h1' hS hL' hp, fl_92 h1' hS hL' hp]
theorem M_filtered (h : mRel S A B) (hS : S.ok) {i a t u : Int32} : does0 mX8_filtered [.ref 76, .int i, .int a, .int t, .int u] A B D (MQm S S A B D (inR i (nI S.n)) (fOK a t u) (.int (trn (kNr S.X a.toNatClampNeg t u i.toNatClampNeg) S.dk)) (.int 0)) nx := by
  have h64 := hS.g.n.2
  obtain ⟨A1, B1, y1, y2, y3, y4, h1, hL, hn, hf, h0⟩ := M_lay h hS
  obtain ⟨hT, hR⟩ := M_T h1 hS hL
  have h1' := mRel_t h1 0
  have hL' := mLd_t hL 0
  refine does_mo (m_filtered (h.g hS) ⟨y1, y2, hn⟩ hT hR) (fun r A' B' D' hq => ?_) (fun E A' B' D' z => z)
  refine MQ_of (A0 := A) (B0 := B) (A1 := flA (updA A1 76 0 0) B1 S.c S.r S.n (kM S.X) a.toNatClampNeg t u) (B1 := B1) h (loF_rf _ _) (fun _ _ => ⟨fl_rel2 h1', by rw [fl_o (by decide) (by decide), updA_ss], loF_tr hf (loF_tr (loF_t 0) fl_lo)⟩) r A' B' D' ?_
  obtain ⟨hD, hq⟩ := hq
  refine ⟨hD, hq.imp (fun ⟨a1, a2, a3, a4⟩ => ⟨a1, a2, ?_, a4⟩) id⟩
  rw [a3]
  obtain ⟨p, hp, rfl⟩ := inR_nI a1 (by omega)
  rw [nI_clamp (by omega), nr_fl h1' hS hL' hp, h1.dk]
theorem M_loss (h : mRel S A B) (hS : S.ok) {a t u : Int32} : does0 mX8_loss [.ref 76, .int a, .int t, .int u] A B D (MQm S S A B D (fOK a t u) True (.int (S.loss a.toNatClampNeg t u)) (.int 0)) nx := by
  obtain ⟨A1, B1, y1, y2, y3, y4, h1, hL, hn, hf, h0⟩ := M_lay h hS
  obtain ⟨hT, hR⟩ := M_T h1 hS hL
  have h1' := mRel_t h1 0
  have hL' := mLd_t hL 0
  refine does_mo (m_loss ⟨y1, y2, hn⟩ hT hR) (fun r A' B' D' hq => ?_) (fun E A' B' D' z => z)
  refine MQ_of (A0 := A) (B0 := B) (A1 := flA (updA A1 76 0 0) B1 S.c S.r S.n (kM S.X) a.toNatClampNeg t u) (B1 := B1) h (loF_rf _ _) (fun _ _ => ⟨fl_rel2 h1', by rw [fl_o (by decide) (by decide), updA_ss], loF_tr hf (loF_tr (loF_t 0) fl_lo)⟩) r A' B' D' ?_
  obtain ⟨hD, hq⟩ := hq
  refine ⟨hD, hq.imp (fun ⟨a1, a2, a3, a4⟩ => ⟨a1, a2, ?_, a4⟩) id⟩
  rw [a3, lo_fl h1' hS hL']
/-- all pixels get new ranks -/
theorem made_rel (h : mRel S A B) (hS : S.ok) {H : xA} {nr : Nat → Int32} (hH : ∀ k, (76 < k ∧ k < 83) → H k = A k) (hF : ∀ j, (j = 1 ∨ j = 2 ∨ j = 5 ∨ j = 6 ∨ j = 7 ∨ j = 11) → H 76 j = A 76 j) (h93 : ∀ p, p < S.n → H 93 p = nr p) : (mdR H S.n).1 = S.chg nr ∧ mRel (S.paint nr) (mdA H S.sz S.n) B ∧ (∀ k, (k < 76 ∨ 94 < k) → mdA H S.sz S.n k = H k) ∧ mdA H S.sz S.n 76 0 = H 76 0 := by
  have h64 := hS.g.n.2
  obtain ⟨m1, m2⟩ := md_ok (fun p => trn (H 93 p) (H 76 5)) (H 77) S.n
  have e5 := hF 5 (by omega)
  have e77 := hH 77 (by omega)
  have u : ∀ k, k ≠ 77 → mdA H S.sz S.n k = svA H S.sz k := fun k hk => setA_n _ _ hk
  refine ⟨?_, ?_, fun k hk => ?_, ?_⟩
  · unfold mdR abs.chg
    rw [m1]
    refine isum_cg S.n (fun p hp => ?_)
    rw [h93 p hp, e5, e77, h.lv p (by omega), h.dk]
  · refine mRel_step h hS (A0 := H) (fun k h1 h2 => hH k (by omega)) (hF 1 (by omega)) (hF 2 (by omega)) ?_ ?_ (fun j hj => ?_) (fun j hj => ?_) ?_ ?_ ?_ ?_ ?_ ?_ ⟨?_, ?_, ?_⟩
    · rw [u 76 (by decide), svA_j (by decide) (by decide), hF 1 (by omega)]; exact h.c
    · rw [u 76 (by decide), svA_j (by decide) (by decide), hF 2 (by omega)]; exact h.r
    · unfold mdA
      rw [setA_s]
      unfold mdR
      rw [m2 j]
      by_cases e : j < S.n
      · rw [if_pos e, if_pos e, h93 j e, e5, h.dk]
      · rw [if_neg e, if_neg e, e77]; exact h.lv j hj
    · rw [u 78 (by decide), svA_o (by decide) (by decide) (by decide) (by decide), hH 78 (by omega)]; exact h.mr j hj
    · rw [u 76 (by decide), svA_j (by decide) (by decide), hF 5 (by omega)]
    · rw [u 76 (by decide), svA_j (by decide) (by decide), hF 6 (by omega)]
    · rw [u 76 (by decide), svA_get _ _ _ _ (by decide) (by decide) (by decide)]; simp
    · rw [u 76 (by decide), svA_get _ _ _ _ (by decide) (by decide) (by decide)]; simp
    · rw [u 76 (by decide), svA_j (by decide) (by decide), hF 11 (by omega)]
    · rw [u 82 (by decide), svA_o (by decide) (by decide) (by decide) (by decide), hH 82 (by omega)]
    · rw [u 79 (by decide)]
    · rw [u 80 (by decide)]
    · rw [u 81 (by decide)]
  · rw [u k (by omega), svA_o (by omega) (by omega) (by omega) (by omega)]
  · rw [u 76 (by decide), svA_j (by decide) (by decide)]
theorem M_filter (h : mRel S A B) (hS : S.ok) {a t u : Int32} : does0 mX8_filter [.ref 76, .int a, .int t, .int u] A B D (MQm S (S.paint (kNr S.X a.toNatClampNeg t u)) A B D (fOK a t u) True (.int (S.chg (kNr S.X a.toNatClampNeg t u))) (.int 0)) nx := by
  obtain ⟨A1, B1, y1, y2, y3, y4, h1, hL, hn, hf, h0⟩ := M_lay h hS
  obtain ⟨hT, hR⟩ := M_T h1 hS hL
  have h1' := mRel_t h1 0
  have hL' := mLd_t hL 0
  refine does_mo (m_filter ⟨y1, y2, hn⟩ hT hR h1.sz hS.sz) (fun r A' B' D' hq => ?_) (fun E A' B' D' z => z)
  generalize hH : flA (updA A1 76 0 0) B1 S.c S.r S.n (kM S.X) a.toNatClampNeg t u = H at hq
  have ho : ∀ k, k ≠ 93 → trmA H B1 (kM S.X) S.n (if u = 3 then 1 else 0) k = H k := fun k hk => setA_n _ _ hk
  have hk : ∀ k, k ≠ 91 → k ≠ 92 → k ≠ 76 → H k = A1 k := fun k k1 k2 k3 => by rw [← hH, fl_o k1 k2, updA_n _ _ _ k3]
  have hj : ∀ j, j ≠ 0 → H 76 j = A1 76 j := fun j j0 => by rw [← hH, fl_o (by decide) (by decide), updA_sj _ _ _ j0]
  obtain ⟨q1, q2, q3, q4⟩ := made_rel h1 hS (H := trmA H B1 (kM S.X) S.n (if u = 3 then 1 else 0)) (nr := kNr S.X a.toNatClampNeg t u) (fun k hk' => by rw [ho k (by omega), hk k (by omega) (by omega) (by omega)]) (fun j hj' => by rw [ho 76 (by decide), hj j (by omega)]) (fun p hp => by
    unfold trmA
    rw [setA_s]
    unfold mkF
    rw [if_pos hp, ← hH]
    exact nr_fl h1' hS hL' hp)
  refine MQ_of (A0 := A) (B0 := B) (A1 := mdA (trmA H B1 (kM S.X) S.n (if u = 3 then 1 else 0)) S.sz S.n) (B1 := B1) h (loF_rf _ _) (fun _ _ => ⟨q2, ?_, fun k hk' => ⟨?_, (hf k hk').2⟩⟩) r A' B' D' ?_
  · rw [q4, ho 76 (by decide), ← hH, fl_o (by decide) (by decide), updA_ss]
  · rw [q3 k hk', ho k (by omega), hk k (by omega) (by omega) (by omega), (hf k hk').1]
  · rw [q1] at hq
    exact hq
theorem thH_k {A2 : xA} {m K k : Nat} (hk : k ≠ 92) : thH A2 B m K k = A2 k := by
  cases K with
  | zero => rfl
  | succ K => exact setA_n _ _ hk
theorem M_threshold (h : mRel S A B) (hS : S.ok) {a bd : Int32} : does0 mX8_threshold [.ref 76, .int a, .int bd] A B D (MQm S S A B D (¬ isFAV a = 0 ∧ btw bd 0 999) True (.int (thF (fun t => S.loss a.toNatClampNeg (nI t) 1) bd 1000 0)) (.int 0)) nx := by
  obtain ⟨A1, B1, y1, y2, y3, y4, h1, hL, hn, hf, h0⟩ := M_lay h hS
  obtain ⟨hT, hR⟩ := M_T h1 hS hL
  have h1' := mRel_t h1 0
  have hL' := mLd_t hL 0
  have key := thM_F (A2 := thA2 A1 B1 S.c S.r S.n (kM S.X) a.toNatClampNeg) (B := B1) (m := kM S.X) (n := S.n) (bd := bd) (L := fun t => S.loss a.toNatClampNeg (nI t) 1) (fun t ht => by
    have e : thH (thA2 A1 B1 S.c S.r S.n (kM S.X) a.toNatClampNeg) B1 (kM S.X) (t + 1) = flA (updA A1 76 0 0) B1 S.c S.r S.n (kM S.X) a.toNatClampNeg (nI t) 1 := by
      show setA (setA (updA A1 76 0 0) 91 _) 92 _ = setA (setA (updA A1 76 0 0) 91 _) 92 _
      rfl
    have := lo_fl h1' hS hL' (w := a.toNatClampNeg) (t := nI t) (u := 1)
    rw [if_neg (by decide)] at this
    rw [e]
    exact this) 1000 0 rfl
  refine does_mo (m_threshold ⟨y1, y2, hn⟩ hT hR) (fun r A' B' D' hq => ?_) (fun E A' B' D' z => z)
  rw [key] at hq
  generalize (thM (thA2 A1 B1 S.c S.r S.n (kM S.X) a.toNatClampNeg) B1 (kM S.X) S.n bd 1000 0).2 = K at hq
  have ho : ∀ k, k ≠ 91 → k ≠ 92 → thH (thA2 A1 B1 S.c S.r S.n (kM S.X) a.toNatClampNeg) B1 (kM S.X) K k = updA A1 76 0 0 k := fun k k1 k2 => by rw [thH_k k2]; exact setA_n _ _ k1
  refine MQ_of (A0 := A) (B0 := B) (A1 := thH (thA2 A1 B1 S.c S.r S.n (kM S.X) a.toNatClampNeg) B1 (kM S.X) K) (B1 := B1) h (loF_rf _ _) (fun _ _ => ⟨mRel_k h1' (fun k hk => ho k (by omega) (by omega)) (fun j _ => by rw [ho 76 (by decide) (by decide)]) rfl, by rw [ho 76 (by decide) (by decide), updA_ss], loF_tr hf (loF_tr (loF_t 0) (fun k hk => ⟨ho k (by omega) (by omega), rfl⟩))⟩) r A' B' D' hq
/-! reconstruction -/
theorem rc_ok (h : mRel S A B) (hS : S.ok) (hL : mLd S.X A B) : rcOK A B S.n (kM S.X) := by
  have hX := abs.Xok hS
  have hk := k_m hX
  have h64 := hS.g.n.2
  obtain ⟨tn, su, P, pn, hN, hA, hsu, hP⟩ := k_all hX
  refine ⟨hL.1, hk.2.1, fun p hp => ⟨S.X.rk p, (abs.rk hS (by omega)).2, M_rk h hS p hp, fun t h0 ht => ?_⟩⟩
  obtain ⟨a, a1, a2, _⟩ := cf_ok hA.t hA.kr hp ht
  exact ⟨a, a1, by rw [cf_cg (by omega) (fun v hv => ⟨(hL.2.2.1 v hv).2.1, (hL.2.2.1 v hv).1⟩)]; exact a2⟩
theorem rec_made (h1 : mRel S A B) (hS : S.ok) (hL : mLd S.X A B) {f g : Nat → Int32} {mk : Nat → Nat} (hmk : ∀ p, mk p < 16) (hf : ∀ p, p < S.n → f p = nI (mk p)) (hg : ∀ p, p < S.n → g p = nI (mk p)) : (mdR (rcA (mrA A f) B (kM S.X) S.n S.n) S.n).1 = S.chg (kRb S.X g) ∧ mRel (S.paint (kRb S.X g)) (mdA (rcA (mrA A f) B (kM S.X) S.n S.n) S.sz S.n) B ∧ (∀ k, (k < 76 ∨ 94 < k) → mdA (rcA (mrA A f) B (kM S.X) S.n S.n) S.sz S.n k = A k) ∧ mdA (rcA (mrA A f) B (kM S.X) S.n S.n) S.sz S.n 76 0 = 0 := by
  have hX := abs.Xok hS
  have h64 := hS.g.n.2
  obtain ⟨tn, su, P, pn, hN, hA, hsu, hP⟩ := k_all hX
  have uk : ∀ k, k ≠ 76 → k ≠ 94 → mrA A f k = A k := fun k k1 k2 => by unfold mrA; rw [setA_n _ _ k2, updA_n _ _ _ k1]
  have uj : ∀ j, j ≠ 0 → mrA A f 76 j = A 76 j := fun j j0 => by unfold mrA; rw [setA_n _ _ (by decide), updA_sj _ _ _ j0]
  have ho : ∀ k, k ≠ 93 → rcA (mrA A f) B (kM S.X) S.n S.n k = mrA A f k := fun k hk => setA_n _ _ hk
  have hmr : mRel S (mrA A f) B := mRel_k h1 (fun k hk => uk k (by omega) (by omega)) (fun j hj => uj j (by omega)) rfl
  obtain ⟨q1, q2, q3, q4⟩ := made_rel h1 hS (H := rcA (mrA A f) B (kM S.X) S.n S.n) (nr := kRb S.X g) (fun k hk => by rw [ho k (by omega), uk k (by omega) (by omega)]) (fun j hj => by rw [ho 76 (by decide), uj j (by omega)]) (fun p hp => by
    unfold rcA
    rw [setA_s]
    unfold mkF
    rw [if_pos hp]
    show rcV (mrA A f) B (kM S.X) S.n p (rkM (mrA A f) p).toNatClampNeg = _
    rw [M_rk hmr hS p hp, nI_clamp (by have := (abs.rk hS (p := p) (by omega)).2; omega)]
    unfold kRb
    exact rc_rb hA.t hmk hA.na (fun p (hp : p < S.n) => hg p hp) hA.kr (fun v hv => by rw [uk 85 (by decide) (by decide)]; exact ((hL.2.2.1 v hv).2.1).trans (hA.kr v hv)) (fun v hv => (hL.2.2.1 v hv).1) (fun p (hp : p < S.n) => by unfold mrA; rw [setA_s]; exact hf p hp) hp)
  refine ⟨q1, q2, fun k hk => ?_, ?_⟩
  · rw [q3 k hk, ho k (by omega), uk k (by omega) (by omega)]
  · rw [q4, ho 76 (by decide)]
    unfold mrA
    rw [setA_n _ _ (by decide), updA_ss]
theorem M_reconstruct (h : mRel S A B) (hS : S.ok) : does0 mX8_reconstruct [.ref 76] A B D (MQn (S.paint (kRb S.X S.mkR)) A B D (.int (S.chg (kRb S.X S.mkR)))) nx := by
  have h64 := hS.g.n.2
  obtain ⟨A1, B1, y1, y2, y3, y4, h1, hL, hn, hf, h0⟩ := M_lay h hS
  obtain ⟨mk, m1, m2⟩ := mk_nat _ _ (mkR_16 hS)
  refine does_mo (m_reconstruct (h.g hS) (h1.g hS) y3 (rc_ok h1 hS hL) h1.sz hS.sz) ?_ (fun E A' B' D' z => z)
  intro r A' B' D' hq
  obtain ⟨e1, e2, e3, e4⟩ := hq
  obtain ⟨q1, q2, q3, q4⟩ := rec_made h1 hS hL (f := mk94 (A 94) (fun p => trn (A 78 p) (A 76 5)) S.n) (g := S.mkR) m1 (fun p hp => by
    unfold mk94
    rw [if_pos hp]
    show trn (A 78 p) (A 76 5) = _
    rw [h.mr p (by omega), h.dk]
    exact m2 p hp) m2
  rw [← e2] at q2 q3
  rw [q1] at e1
  refine ⟨e4, fun k hk => ⟨(q3 k hk).trans (hf k hk).1, by rw [e3]; exact (hf k hk).2⟩, e1, by rw [e3]; exact q2⟩
theorem gr0 (a : Int32) : grV a 0 = imax 0 a := by
  unfold grV imax
  by_cases e : a ≤ 0
  · rw [if_pos e, if_neg (Int32.not_lt.mpr e)]
  · rw [if_neg e, if_pos (Int32.not_le.mp e)]
theorem M_suppress (h : mRel S A B) (hS : S.ok) {v : Int32} : does0 mX8_suppress [.ref 76, .int v] A B D (MQm S (S.paint (kRb S.X (S.mkS v))) A B D (btw v 0 15) True (.int (S.chg (kRb S.X (S.mkS v)))) (.int 0)) nx := by
  have h64 := hS.g.n.2
  obtain ⟨A1, B1, y1, y2, y3, y4, h1, hL, hn, hf, h0⟩ := M_lay h hS
  refine does_mo (m_suppress (h.g hS) (h1.g hS) y3 (rc_ok h1 hS hL) h1.sz hS.sz) (fun r A' B' D' hq => ?_) (fun E A' B' D' z => z)
  have key : btw v 0 15 → (mdR (rcA (mrA A1 (mk94 (A 94) (fun p => grV (trn (A 77 p) (A 76 5) - v) 0) S.n)) B1 (kM S.X) S.n S.n) S.n).1 = S.chg (kRb S.X (S.mkS v)) ∧ mRel (S.paint (kRb S.X (S.mkS v))) (mdA (rcA (mrA A1 (mk94 (A 94) (fun p => grV (trn (A 77 p) (A 76 5) - v) 0) S.n)) B1 (kM S.X) S.n S.n) S.sz S.n) B1 ∧ (∀ k, (k < 76 ∨ 94 < k) → mdA (rcA (mrA A1 (mk94 (A 94) (fun p => grV (trn (A 77 p) (A 76 5) - v) 0) S.n)) B1 (kM S.X) S.n S.n) S.sz S.n k = A1 k) ∧ mdA (rcA (mrA A1 (mk94 (A 94) (fun p => grV (trn (A 77 p) (A 76 5) - v) 0) S.n)) B1 (kM S.X) S.n S.n) S.sz S.n 76 0 = 0 := fun hv => by
    obtain ⟨mk, m1, m2⟩ := mk_nat _ _ (mkS_16 hS hv)
    exact rec_made h1 hS hL (f := mk94 (A 94) (fun p => grV (trn (A 77 p) (A 76 5) - v) 0) S.n) (g := S.mkS v) m1 (fun p hp => by
      unfold mk94
      rw [if_pos hp]
      show grV (trn (A 77 p) (A 76 5) - v) 0 = _
      rw [h.lv p (by omega), h.dk, gr0]
      exact m2 p hp) m2
  generalize hH : rcA (mrA A1 (mk94 (A 94) (fun p => grV (trn (A 77 p) (A 76 5) - v) 0) S.n)) B1 (kM S.X) S.n S.n = H at *
  refine MQ_of (A0 := A) (B0 := B) (A1 := mdA H S.sz S.n) (B1 := B1) h (loF_rf _ _) (fun hv _ => ?_) r A' B' D' ?_
  · obtain ⟨q1, q2, q3, q4⟩ := key hv
    exact ⟨q2, q4, fun k hk => ⟨(q3 k hk).trans (hf k hk).1, (hf k hk).2⟩⟩
  · obtain ⟨hD, hq⟩ := hq
    refine ⟨hD, hq.imp (fun ⟨a1, a2, a3, a4⟩ => ⟨a1, a2, ?_, a4⟩) id⟩
    rw [a3, (key a1).1]
theorem M_keepPeaks (h : mRel S A B) (hS : S.ok) {v : Int32} : does0 mX8_keepPeaks [.ref 76, .int v] A B D (MQm S (S.paint (kKp S.X (min v.toNatClampNeg (kLf S.X)))) A B D (btw v 0 64) True (.int (S.chg (kKp S.X (min v.toNatClampNeg (kLf S.X))))) (.int 0)) nx := by
  have hX := abs.Xok hS
  have hk := k_m hX
  have hlf := k_lf hX
  obtain ⟨A1, B1, y1, y2, y3, y4, h1, hL, hn, hf, h0⟩ := M_lay h hS
  obtain ⟨hT, hR⟩ := M_T h1 hS hL
  refine does_mo (m_keepPeaks ⟨y1, y2, hn⟩ hT hR h1.sz hS.sz) (fun r A' B' D' hq => ?_) (fun E A' B' D' z => z)
  generalize hK : min v.toNatClampNeg (kLf S.X) = K at *
  have hK2 : K ≤ kLf S.X := by omega
  have hkp : ∀ k, k ≠ 76 → k ≠ 92 → kpA A1 B1 K (kM S.X) k = A1 k := fun k k1 k2 => by unfold kpA; rw [setA_n _ _ k2, updA_n _ _ _ k1]
  have hkj : ∀ j, j ≠ 0 → kpA A1 B1 K (kM S.X) 76 j = A1 76 j := fun j j0 => by unfold kpA; rw [setA_n _ _ (by decide), updA_sj _ _ _ j0]
  have ho : ∀ k, k ≠ 93 → trmA (kpA A1 B1 K (kM S.X)) B1 (kM S.X) S.n 0 k = kpA A1 B1 K (kM S.X) k := fun k hk => setA_n _ _ hk
  obtain ⟨q1, q2, q3, q4⟩ := made_rel h1 hS (H := trmA (kpA A1 B1 K (kM S.X)) B1 (kM S.X) S.n 0) (nr := kKp S.X K) (fun k hk' => by rw [ho k (by omega), hkp k (by omega) (by omega)]) (fun j hj' => by rw [ho 76 (by decide), hkj j (by omega)]) (fun p hp => by
    unfold trmA
    rw [setA_s]
    unfold mkF
    rw [if_pos hp]
    refine (nr_k hX (rem := fun v => kpV (kLo S.X) (kS S.X) K v) (mLd_k hL (fun k h1 h2 => hkp k (by omega) (by omega)) ⟨hkj 19 (by decide), hkj 26 (by decide)⟩ rfl) (fun v hv => ?_) ?_ hp).1
    · unfold kpA
      rw [setA_s]
      unfold kpM
      rw [if_pos hv]
      exact kp_cg hk.2.1 hv (fun i hi => ⟨hL.2.2.2.2 i (by omega), by
        obtain ⟨a, a1, a2, _⟩ := hlf.2.1 i (by omega)
        exact ⟨a, a1, (hL.2.2.2.2 i (by omega)).trans a2⟩⟩) (fun w hw => (hL.2.2.1 w hw).1)
    · obtain ⟨tn, su, P, pn, hN, hA, hsu, hP⟩ := k_all hX
      exact (kp_ok hA.t hk.1 K (fun i hi => by
        obtain ⟨a, a1, a2, _⟩ := hlf.2.1 i (by omega)
        exact ⟨a, a1, a2⟩)).mpr (Or.inl rfl))
  refine MQ_of (A0 := A) (B0 := B) (A1 := mdA (trmA (kpA A1 B1 K (kM S.X)) B1 (kM S.X) S.n 0) S.sz S.n) (B1 := B1) h (loF_rf _ _) (fun _ _ => ⟨q2, ?_, fun k hk' => ⟨?_, (hf k hk').2⟩⟩) r A' B' D' ?_
  · rw [q4, ho 76 (by decide)]
    unfold kpA
    rw [setA_n _ _ (by decide), updA_ss]
  · rw [q3 k hk', ho k (by omega), hkp k (by omega) (by omega), (hf k hk').1]
  · rw [q1] at hq
    exact hq
/-! another level, the complement, the hash -/
theorem M_ifLevel (h : mRel S A B) (hS : S.ok) {i v w : Int32} : does0 mX8_ifLevel [.ref 76, .int i, .int v, .int w] A B D (MQm S S A B D (inR i (nI S.n)) (btw v 0 15 ∧ btw w 2 4) (.int ((S.wit i.toNatClampNeg v).cnt w.toNatClampNeg)) (.int 0)) nx := by
  have h64 := hS.g.n.2
  -- the heap in which the tree is laid
  have key : inR i (nI S.n) → btw v 0 15 → ∃ A2 B2, (∀ D, does0 mX8_layTree [.ref 76] (updA (updA (updA A 76 0 0) 77 i.toNatClampNeg v) 76 18 0) B D (eqQ none A2 B2 D) nx) ∧ mRel (S.wit i.toNatClampNeg v) A2 B2 ∧ mLd (S.wit i.toNatClampNeg v).X A2 B2 ∧ loF (updA (updA (updA A 76 0 0) 77 i.toNatClampNeg v) 76 18 0) B A2 B2 ∧ A2 76 0 = 0 := fun hi hv => by
    have u : ∀ k, k ≠ 76 → k ≠ 77 → updA (updA (updA A 76 0 0) 77 i.toNatClampNeg v) 76 18 0 k = A k := fun k h1 h2 => by rw [updA_n _ _ _ h1, updA_n _ _ _ h2, updA_n _ _ _ h1]
    have uj : ∀ j, j ≠ 0 → j ≠ 18 → updA (updA (updA A 76 0 0) 77 i.toNatClampNeg v) 76 18 0 76 j = A 76 j := fun j h1 h2 => by rw [updA_sj _ _ _ h2, updA_n _ _ _ (by decide), updA_sj _ _ _ h1]
    have hm : mRel (S.wit i.toNatClampNeg v) (updA (updA (updA A 76 0 0) 77 i.toNatClampNeg v) 76 18 0) B := (mRel.mk'
      (c := by rw [uj 1 (by decide) (by decide)]; exact h.c)
      (r := by rw [uj 2 (by decide) (by decide)]; exact h.r)
      (lv := fun j hj => by
        rw [updA_n _ _ _ (by decide), updA_get]
        show _ = upd S.lv i.toNatClampNeg v j
        unfold upd
        by_cases e : j = i.toNatClampNeg
        · rw [if_pos ⟨rfl, e⟩, if_pos e]
        · rw [if_neg (fun z => e z.2), if_neg e, updA_n _ _ _ (by decide)]; exact h.lv j hj)
      (mr := fun j hj => by rw [u 78 (by decide) (by decide)]; exact h.mr j hj)
      (dk := by rw [uj 5 (by decide) (by decide)]; exact h.dk)
      (ei := by rw [uj 6 (by decide) (by decide)]; exact h.ei)
      (st := fun z => (z (updA_ss _ _ _ _)).elim)
      (hx := fun i hi => by rw [u 79 (by decide) (by decide), u 80 (by decide) (by decide), u 81 (by decide) (by decide)]; exact h.hx i hi)
      (sz := by rw [uj 7 (by decide) (by decide)]; exact h.sz)
      (len := by rw [uj 11 (by decide) (by decide)]; exact h.len)
      (co := fun i hi => by rw [u 82 (by decide) (by decide)]; exact h.co i hi))
    obtain ⟨A2, B2, y1, y2, y3, y4, h1, hL, hn, hf, h0⟩ := M_lay hm (abs.wit_ok hS hv)
    exact ⟨A2, B2, y2, h1, hL, hf, by rw [h0, updA_sj _ _ _ (by decide), updA_n _ _ _ (by decide), updA_ss]⟩
  obtain ⟨A2, B2, hk⟩ : ∃ A2 B2, inR i (nI S.n) → btw v 0 15 → (∀ D, does0 mX8_layTree [.ref 76] (updA (updA (updA A 76 0 0) 77 i.toNatClampNeg v) 76 18 0) B D (eqQ none A2 B2 D) nx) ∧ mRel (S.wit i.toNatClampNeg v) A2 B2 ∧ mLd (S.wit i.toNatClampNeg v).X A2 B2 ∧ loF (updA (updA (updA A 76 0 0) 77 i.toNatClampNeg v) 76 18 0) B A2 B2 ∧ A2 76 0 = 0 := by
    by_cases e : inR i (nI S.n) ∧ btw v 0 15
    · obtain ⟨A2, B2, q⟩ := key e.1 e.2
      exact ⟨A2, B2, fun _ _ => q⟩
    · exact ⟨A, B, fun a b => (e ⟨a, b⟩).elim⟩
  refine does_mo (m_ifLevel (m := kM (S.wit i.toNatClampNeg v).X) (lf := kLf (S.wit i.toNatClampNeg v).X) (A2 := A2) (B2 := B2) (h.g hS) (fun a b => (hk a b).1 D) (fun a b => (M_T (hk a b).2.1 (abs.wit_ok hS b) (hk a b).2.2.1).1)) (fun r A' B' D' hq => ?_) (fun E A' B' D' z => z)
  refine MQ_of (A0 := A) (B0 := B) (A1 := updA (updA A2 77 i.toNatClampNeg (A 77 i.toNatClampNeg)) 76 18 0) (B1 := B2) h (loF_rf _ _) (fun hi hc => ?_) r A' B' D' ?_
  · obtain ⟨_, h1, hL, hf, h0⟩ := hk hi hc.1
    have u : ∀ k, k ≠ 76 → k ≠ 77 → updA (updA A2 77 i.toNatClampNeg (A 77 i.toNatClampNeg)) 76 18 0 k = A2 k := fun k h1 h2 => by rw [updA_n _ _ _ h1, updA_n _ _ _ h2]
    have uj : ∀ j, j ≠ 18 → updA (updA A2 77 i.toNatClampNeg (A 77 i.toNatClampNeg)) 76 18 0 76 j = A2 76 j := fun j h1 => by rw [updA_sj _ _ _ h1, updA_n _ _ _ (by decide)]
    refine ⟨?_, by rw [uj 0 (by decide)]; exact h0, fun k hk' => ⟨?_, (hf k hk').2⟩⟩
    · exact (mRel.mk'
      (c := by rw [uj 1 (by decide)]; exact h1.c)
      (r := by rw [uj 2 (by decide)]; exact h1.r)
      (lv := fun j hj => by
          rw [updA_n _ _ _ (by decide), updA_get]
          by_cases e : j = i.toNatClampNeg
          · rw [if_pos ⟨rfl, e⟩, ← e]; exact h.lv j hj
          · rw [if_neg (fun z => e z.2), h1.lv j hj]
            exact up_n _ _ e)
      (mr := fun j hj => by rw [u 78 (by decide) (by decide)]; exact h1.mr j hj)
      (dk := by rw [uj 5 (by decide)]; exact h1.dk)
      (ei := by rw [uj 6 (by decide)]; exact h1.ei)
      (st := fun z => (z (updA_ss _ _ _ _)).elim)
      (hx := fun i hi => by rw [u 79 (by decide) (by decide), u 80 (by decide) (by decide), u 81 (by decide) (by decide)]; exact h1.hx i hi)
      (sz := by rw [uj 7 (by decide)]; exact h1.sz)
      (len := by rw [uj 11 (by decide)]; exact h1.len)
      (co := fun i hi => by rw [u 82 (by decide) (by decide)]; exact h1.co i hi))
    · rw [u k (by omega) (by omega), (hf k hk').1, updA_n _ _ _ (by omega), updA_n _ _ _ (by omega), updA_n _ _ _ (by omega)]
  · obtain ⟨hD, hq⟩ := hq
    refine ⟨hD, hq.imp (fun ⟨a1, a2, a3, a4⟩ => ⟨a1, a2, ?_, a4⟩) id⟩
    obtain ⟨_, h1, hL, _, _⟩ := hk a1 a2.1
    obtain ⟨w', w1, w2, w3, rfl⟩ := btw_nI (lo := 2) (hi := 4) (by decide) a2.2
    rw [a3, nI_clamp w3]
    exact congrArg (fun z => some (Value.int z)) (mc_ok h1 (abs.wit_ok hS a2.1) hL (by omega))
theorem M_complement (h : mRel S A B) (hS : S.ok) : does0 mX8_complement [.ref 76] A B D (MQn S.sComp A B D (.int (nI (kM S.sComp.X)))) nx := by
  obtain ⟨q1, q2, q3⟩ := M_lev h hS (A1 := mcA A S.sz S.n) (f := itr cmS S.n (A 77)) (lv := fun p => if p < S.n then 15 - S.lv p else S.lv p) rfl (fun j hj => by rw [cm_ok, h.lv j hj])
  obtain ⟨A1, B1, y1, y2, y3, y4, h1, hL, hn, hf, h0⟩ := M_lay q1 (abs.sComp_ok hS)
  refine does_mo (m_complement (h.ok hS) (y2 D)) ?_ (fun E A' B' D' z => z)
  rintro r A' B' D' ⟨rfl, rfl, rfl, rfl⟩
  refine ⟨rfl, loF_tr q3 hf, ?_, h1⟩
  exact congrArg (fun z => some (Value.int z)) hL.1
theorem itr12 (f : Nat → Nat → Int32) (s : Int64) : ∀ m, itr (fun k h => mixV h (f (k / 12) (k % 12))) (12 * m) s = itr (fun v h => itr (fun a h => mixV h (f v a)) 12 h) m s
  | 0 => by rw [Nat.mul_zero, itr_0, itr_0]
  | m + 1 => by
    have ih := itr12 f s m
    have in12 : ∀ j, j ≤ 12 → itr (fun k h => mixV h (f (k / 12) (k % 12))) (12 * m + j) s = itr (fun a h => mixV h (f m a)) j (itr (fun k h => mixV h (f (k / 12) (k % 12))) (12 * m) s) := by
      intro j
      induction j with
      | zero => intro _; rw [Nat.add_zero, itr_0]
      | succ j ih2 =>
        intro hj
        rw [← Nat.add_assoc, itr_s, itr_s, ih2 (by omega), show (12 * m + j) / 12 = m by omega, show (12 * m + j) % 12 = j by omega]
    generalize hT : (12 : Nat) = T at in12 ⊢
    have e : T * (m + 1) = T * m + T := Nat.mul_succ _ _
    rw [e, in12 T (Nat.le_refl _)]
    rw [hT] at ih
    rw [ih, itr_s (fun v h => itr (fun a h => mixV h (f v a)) T h) m s]
theorem M_digest (h : mRel S A B) (hS : S.ok) : does0 mX8_digest [.ref 76] A B D (MQn S A B D (.long S.dg)) nx := by
  have h64 := hS.g.n.2
  obtain ⟨A1, B1, y1, y2, y3, y4, h1, hL, hn, hf, h0⟩ := M_lay h hS
  obtain ⟨hT, hR⟩ := M_T h1 hS hL
  have h1' := mRel_t h1 0
  have hL' := mLd_t hL 0
  refine does_mo (m_digest y4 hn hT hR h1.len hS.len) ?_ (fun E A' B' D' z => z)
  intro r A' B' D' hq
  obtain ⟨e1, e2, e3, e4⟩ := hq
  have g1 : mg1 A A1 S.n (kM S.X) = S.dg1 := by
    unfold mg1 mg0 abs.dg1
    rw [h.dk, h.ei]
    exact itr_cg 8 _ (fun w q hw => by unfold mgN; rw [mc_ok h1 hS hL hw])
  have g2 : mg2 A A1 B1 S.c S.r S.n (kM S.X) (kLf S.X) = S.dg2 := by
    unfold mg2 abs.dg2
    rw [g1, hl_cg hL.2.2.2.2, itr_cg (f := hpS (A1 77) (A1 78) (A1 88)) (g := hpS S.lv S.mr (kN S.X)) S.n _ (fun p q hp => by unfold hpS; rw [h1.lv p (by omega), h1.mr p (by omega), hL.2.2.2.1 p hp]), itr_cg (f := mgT A1 B1 S.c S.r S.n (kM S.X)) (g := fun k h => mixV h (kAt S.X (k / 12) (k % 12))) (12 * kM S.X) _ (fun k q hk => by
      unfold mgT
      exact congrArg (mixV q) (at_k hL h1.ei (M_rk h1 hS) (show k / 12 < kM S.X by omega))), itr12]
  have l1 := lo_fl h1' hS hL' (w := 1) (t := 3) (u := 1)
  have l2 := lo_fl (fl_rel2 h1' (c := S.c) (r := S.r) (n := S.n) (m := kM S.X) (w := 1) (t := 3) (u := 1)) hS (fl_ld hL') (w := 6) (t := 4) (u := 3)
  rw [if_neg (by decide)] at l1
  rw [if_pos rfl] at l2
  have g4 : mg4 A A1 B1 S.c S.r S.n (kM S.X) (kLf S.X) S.len = S.dg := by
    unfold mg4 mg3 abs.dg
    rw [g2, hl_cg h1.co]
    show itr (hlS S.co) S.len (mixV (mixV (mixV S.dg2 (loV (flA (updA A1 76 0 0) B1 S.c S.r S.n (kM S.X) 1 3 1) B1 (kM S.X) 0 S.n)) (loV (flA (flA (updA A1 76 0 0) B1 S.c S.r S.n (kM S.X) 1 3 1) B1 S.c S.r S.n (kM S.X) 6 4 3) B1 (kM S.X) 1 S.n)) (nI S.len)) = _
    rw [l1, l2]
  have uB : ∀ k, k ≠ 76 → B' k = B1 k := fun k hk => by rw [e3]; exact updB_n _ _ _ hk
  have uA : ∀ k, k ≠ 91 → k ≠ 92 → A' k = updA A1 76 0 0 k := fun k k1 k2 => by rw [e2]; unfold mgA2 mgA1; rw [fl_o k1 k2, fl_o k1 k2]
  refine ⟨e4, fun k hk => ⟨?_, ?_⟩, by rw [e1, g4], ?_⟩
  · rw [uA k (by omega) (by omega), updA_n _ _ _ (by omega), (hf k hk).1]
  · rw [uB k (by omega), (hf k hk).2]
  · exact mRel_k h1' (fun k hk => uA k (by omega) (by omega)) (fun j _ => by rw [uA 76 (by decide) (by decide)]) (uB 84 (by decide))
end MT

