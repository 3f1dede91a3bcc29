/-! the model: leaves, the whole tree -/
abbrev lT : Type := (Nat → Int32) × Nat × (Nat → Int32)
def lyA (A : xA) (q : lT) : xA := setA (setA (updA A 76 26 (nI q.2.1)) 89 q.2.2) 90 q.1
def mlS (pv : Nat → Int32) (ch : Nat → Int32) (v : Nat) (q : lT) : lT := if ch v = 0 then (upd (shf (upd q.2.2 v (pv v)) (pv v) q.2.1 q.1).1 (shf (upd q.2.2 v (pv v)) (pv v) q.2.1 q.1).2 (nI v), q.2.1 + 1, upd q.2.2 v (pv v)) else q
theorem mlI_ok {pv ch : Nat → Int32} {q0 : lT} (h0 : q0.2.1 = 0) : ∀ (v : Nat), v ≤ 64 → (itr (mlS pv ch) v q0).2.1 ≤ v ∧ ∀ i, i < (itr (mlS pv ch) v q0).2.1 → ∃ a, a < 64 ∧ (itr (mlS pv ch) v q0).1 i = nI a
  | 0, _ => ⟨Nat.le_of_eq h0, fun i hi => absurd (show i < q0.2.1 from hi) (by omega)⟩
  | v + 1, hv => by
    obtain ⟨h1, h2⟩ := mlI_ok (pv := pv) (ch := ch) h0 v (by omega)
    rw [itr_s]
    generalize itr (mlS pv ch) v q0 = q at h1 h2 ⊢
    unfold mlS
    by_cases c : ch v = 0
    · rw [if_pos c]
      have hs := shf_ok (pr := upd q.2.2 v (pv v)) (x := pv v) (p0 := q.2.1) q.2.1 q.1 ⟨Nat.le_refl _, fun i hi hne => h2 i (by omega)⟩
      refine ⟨by simp only; omega, fun i hi => ?_⟩
      simp only at hi ⊢
      by_cases e : i = (shf (upd q.2.2 v (pv v)) (pv v) q.2.1 q.1).2
      · rw [e, up_s]; exact ⟨v, by omega, rfl⟩
      · rw [up_n _ _ e]; exact hs.2 i (by omega) e
    · rw [if_neg c]; exact ⟨by omega, h2⟩
theorem i_layLeaves {Q : Option Value → xA → xB → xD → Prop} {j pl : Nat} {A : xA} {B : xB} {D : xD} {R2 : (Nat → Int32) × Nat} (hj : j < 64) (hpl : pl < 64) (K : go0 mX8_layLeaves Q nx 0 0 85 [(0, .ref 76), (1, .int (nI j)), (2, .int (nI R2.2))] [] (setA A 90 R2.1) B D) :
    ∀ p, ∀ lv, lvOK lv pl p → shf (A 89) (A 89 j) p lv = R2 → go0 mX8_layLeaves Q nx 0 0 39 [(0, .ref 76), (1, .int (nI j)), (2, .int (nI p))] [] (setA A 90 lv) B D :=
  dn_ind (fun p ih lv hlv hx => by
    have hp := hlv.1
    refine xi_iload_n dX8_layLeaves_39 rfl rfl ?_
    refine xi_if_le (tgt := 85) dX8_layLeaves_40 rfl (fun h40 => ?_) (fun h40 => ?_)
    · have e : p = 0 := nI_le0 (by omega) h40
      subst e
      refine xgo_pick [0, 1, 2] rfl ?_
      rw [← hx] at K
      exact K
    · obtain ⟨u, rfl⟩ := nI_gt0 h40
      obtain ⟨a, ha, hla⟩ := hlv.2 u (by omega) (by omega)
      unfold shf at hx
      refine xi_aload_n dX8_layLeaves_43 rfl rfl ?_
      refine xi_getfield3 dX8_layLeaves_44 fX8_54 g76 r76_25 ?_
      refine xi_aload_n dX8_layLeaves_47 rfl rfl ?_
      refine xi_getfield3 dX8_layLeaves_48 fX8_57 g76 r76_27 ?_
      refine xi_iload_n dX8_layLeaves_51 rfl rfl ?_
      refine xi_iconst (v := 1) dX8_layLeaves_52 (by decide) ?_
      refine xi_isub dX8_layLeaves_53 ?_
      refine ia dX8_layLeaves_54 g90 s90 (nI_pred u) (by omega) (Nat.le_of_ble_eq_true rfl) ?_
      rw [setA_s]
      refine ia dX8_layLeaves_55 g89 s89 hla ha (Nat.le_of_ble_eq_true rfl) ?_
      refine xi_aload_n dX8_layLeaves_56 rfl rfl ?_
      refine xi_getfield3 dX8_layLeaves_57 fX8_54 g76 r76_25 ?_
      refine xi_iload_n dX8_layLeaves_60 rfl rfl ?_
      refine ia dX8_layLeaves_61 g89 s89 rfl (by omega) (Nat.le_of_ble_eq_true rfl) ?_
      refine xi_icmp_ge (tgt := 85) dX8_layLeaves_62 rfl (fun h62 => ?_) (fun h62 => ?_)
      · refine xgo_pick [0, 1, 2] rfl ?_
        rw [if_neg (fun q => absurd (show A 89 j ≤ A 89 a from h62) (by rw [hla, nI_clamp (by omega)] at q; exact Int32.not_le.mpr q))] at hx
        rw [← hx] at K
        exact K
      · refine xi_aload_n dX8_layLeaves_65 rfl rfl ?_
        refine xi_getfield3 dX8_layLeaves_66 fX8_57 g76 r76_27 ?_
        refine xi_iload_n dX8_layLeaves_69 rfl rfl ?_
        refine xi_aload_n dX8_layLeaves_70 rfl rfl ?_
        refine xi_getfield3 dX8_layLeaves_71 fX8_57 g76 r76_27 ?_
        refine xi_iload_n dX8_layLeaves_74 rfl rfl ?_
        refine xi_iconst (v := 1) dX8_layLeaves_75 (by decide) ?_
        refine xi_isub dX8_layLeaves_76 ?_
        refine ia dX8_layLeaves_77 g90 s90 (nI_pred u) (by omega) (Nat.le_of_ble_eq_true rfl) ?_
        rw [setA_s]
        refine is dX8_layLeaves_78 g90 s90 rfl (by omega) (Nat.le_of_ble_eq_true rfl) ?_
        refine xi_iinc (v := (-1)) dX8_layLeaves_79 rfl (by decide) (Nat.le_of_ble_eq_true rfl) ?_
        refine xi_goto (tgt := 39) dX8_layLeaves_82 rfl ?_
        refine xgo_pick [0, 1, 2] rfl ?_
        rw [pk_m1, setA_u]
        rw [if_pos (by rw [hla, nI_clamp (by omega)]; exact Int32.not_le.mp h62)] at hx
        refine ih u rfl _ ⟨by omega, fun i hi hne => ?_⟩ hx
        by_cases e : i = u + 1
        · subst e; rw [up_s]; exact ⟨a, ha, hla⟩
        · rw [up_n _ _ e]; exact hlv.2 i hi e
    )
def llV (A : xA) (B : xB) (m : Nat) : lT := itr (mlS (prV (A 86) (A 85) (A 87) (B 84) m) (A 87)) m (A 90, 0, A 89)
theorem m_layLeaves {m : Nat} {A : xA} {B : xB} {D : xD} (hm : A 76 19 = nI m) (hm64 : m ≤ 64) (hpa : paOK (A 86) m) : does0 mX8_layLeaves [.ref 76] A B D (eqQ none (lyA A (llV A B m)) B D) nx := by
  refine does_go (by decide) rfl (Nat.le_of_ble_eq_true rfl) rfl ?_
  unfold llV
  generalize hpv : prV (A 86) (A 85) (A 87) (B 84) m = pv
  generalize hR : itr (mlS pv (A 87)) m (A 90, 0, A 89) = R
  have loop := up_ind (n := m) (P := fun j => ∀ q : lT, q = itr (mlS pv (A 87)) j (A 90, 0, A 89) → go0 mX8_layLeaves (eqQ none (lyA A R) B D) nx 0 0 7 [(0, .ref 76), (1, .int (nI j))] [] (lyA A q) B D) (fun j hj ih q hq => by
    have hok := mlI_ok (pv := pv) (ch := A 87) (q0 := (A 90, 0, A 89)) rfl j (by omega)
    rw [← hq] at hok
    refine xi_iload_n dX8_layLeaves_7 rfl rfl ?_
    refine xi_aload_n dX8_layLeaves_8 rfl rfl ?_
    refine xi_getfield0 dX8_layLeaves_9 fX8_116 g76 ?_
    rw [show lyA A q 76 19 = nI m from hm]
    refine xi_icmp_ge (tgt := 108) dX8_layLeaves_12 rfl (fun h12 => ?_) (fun h12 => ?_)
    · have e : j = m := ge_eq hj (by omega) h12
      subst e
      refine go_ret (r := none) dX8_layLeaves_108 (Nat.le_of_ble_eq_true rfl) (Nat.le_of_ble_eq_true rfl) ?_
      exact ⟨rfl, by rw [← hR, hq], rfl, rfl⟩
    · have hl : j < m := nge_lt hj (by omega) h12
      refine xi_aload_n dX8_layLeaves_15 rfl rfl ?_
      refine xi_iload_n dX8_layLeaves_16 rfl rfl ?_
      refine cV1 (av := [_]) dX8_layLeaves_17 lX8_184 rfl ⟨rfl, rfl⟩ rfl ⟨(Nat.le_of_ble_eq_true rfl), (Nat.le_of_ble_eq_true rfl)⟩ ⟨(Nat.le_of_ble_eq_true rfl), (Nat.le_of_ble_eq_true rfl)⟩ (Nat.le_of_ble_eq_true rfl) g76 rfl rfl (m_isLeaf (by omega)) ?_
      refine xi_if_eq (tgt := 102) dX8_layLeaves_20 rfl (fun h20 => ?_) (fun h20 => ?_)
      · have e0 : ¬ A 87 j = 0 := fun z => by rw [show lfV (lyA A q 87) j = 1 from if_pos z] at h20; exact absurd h20 (by decide)
        refine xi_iinc (v := 1) dX8_layLeaves_102 rfl (by decide) (Nat.le_of_ble_eq_true rfl) ?_
        refine xi_goto (tgt := 7) dX8_layLeaves_105 rfl ?_
        refine xgo_pick [0, 1] rfl ?_
        rw [nI_1]
        exact ih hl q (by rw [itr_s, ← hq]; exact (if_neg e0).symm)
      · have e0 : A 87 j = 0 := Classical.not_not.mp (fun z => h20 (if_neg z))
        have fin := ih hl (upd (shf (upd q.2.2 j (pv j)) (pv j) q.2.1 q.1).1 (shf (upd q.2.2 j (pv j)) (pv j) q.2.1 q.1).2 (nI j), q.2.1 + 1, upd q.2.2 j (pv j)) (by rw [itr_s, ← hq]; exact (if_pos e0).symm)
        have hs2 := (shf_ok (pr := upd q.2.2 j (pv j)) (x := pv j) (p0 := q.2.1) q.2.1 q.1 ⟨Nat.le_refl _, fun i hi hne => hok.2 i (by omega)⟩).1
        generalize hR2 : shf (upd q.2.2 j (pv j)) (pv j) q.2.1 q.1 = R2 at fin hs2
        refine xi_aload_n dX8_layLeaves_23 rfl rfl ?_
        refine xi_getfield3 dX8_layLeaves_24 fX8_54 g76 r76_25 ?_
        refine xi_iload_n dX8_layLeaves_27 rfl rfl ?_
        refine xi_aload_n dX8_layLeaves_28 rfl rfl ?_
        refine xi_iload_n dX8_layLeaves_29 rfl rfl ?_
        refine cV1 (av := [_]) dX8_layLeaves_30 lX8_193 rfl ⟨rfl, rfl⟩ rfl ⟨(Nat.le_of_ble_eq_true rfl), (Nat.le_of_ble_eq_true rfl)⟩ ⟨(Nat.le_of_ble_eq_true rfl), (Nat.le_of_ble_eq_true rfl)⟩ (Nat.le_of_ble_eq_true rfl) g76 rfl rfl (m_prominenceOf (A := lyA A q) hl hm64 hm hpa) ?_
        rw [show prV (lyA A q 86) (lyA A q 85) (lyA A q 87) (B 84) m j = pv j from by rw [← hpv]; rfl]
        refine is dX8_layLeaves_33 g89 s89 rfl (by omega) (Nat.le_of_ble_eq_true rfl) ?_
        refine xi_aload_n dX8_layLeaves_34 rfl rfl ?_
        refine xi_getfield0 dX8_layLeaves_35 fX8_190 g76 ?_
        rw [show updA (lyA A q) 89 j (pv j) 76 26 = nI q.2.1 from rfl]
        refine xi_istore_n dX8_layLeaves_38 rfl (Nat.le_of_ble_eq_true rfl) ?_
        refine xgo_pick [0, 1, 2] rfl ?_
        rw [show updA (lyA A q) 89 j (pv j) = setA (setA (updA A 76 26 (nI q.2.1)) 89 (upd q.2.2 j (pv j))) 90 q.1 by clear ih fin; funext k' i; simp only [lyA, updA_get, setA_get, upd]; grind (splits := 40)]
        refine i_layLeaves (j := j) (pl := q.2.1) (R2 := R2) (by omega) (by omega) ?_ q.2.1 q.1 ⟨Nat.le_refl _, fun i hi hne => hok.2 i (by omega)⟩ (by rw [show setA (updA A 76 26 (nI q.2.1)) 89 (upd q.2.2 j (pv j)) 89 = upd q.2.2 j (pv j) from setA_s _ _ _, up_s]; exact hR2)
        refine xi_aload_n dX8_layLeaves_85 rfl rfl ?_
        refine xi_getfield3 dX8_layLeaves_86 fX8_57 g76 r76_27 ?_
        refine xi_iload_n dX8_layLeaves_89 rfl rfl ?_
        refine xi_iload_n dX8_layLeaves_90 rfl rfl ?_
        refine is dX8_layLeaves_91 g90 s90 rfl (by omega) (Nat.le_of_ble_eq_true rfl) ?_
        refine xi_aload_n dX8_layLeaves_92 rfl rfl ?_
        refine xi_dup dX8_layLeaves_93 rfl ?_
        refine xi_getfield0 dX8_layLeaves_94 fX8_190 g76 ?_
        rw [show updA (setA (setA (updA A 76 26 (nI q.2.1)) 89 (upd q.2.2 j (pv j))) 90 R2.1) 90 R2.2 (nI j) 76 26 = nI q.2.1 from rfl]
        refine xi_iconst (v := 1) dX8_layLeaves_97 (by decide) ?_
        refine xi_iadd dX8_layLeaves_98 ?_
        rw [nI_1]
        refine xi_putfield0 dX8_layLeaves_99 fX8_190 g76 pX8_190 ?_
        refine xi_iinc (v := 1) dX8_layLeaves_102 rfl (by decide) (Nat.le_of_ble_eq_true rfl) ?_
        refine xi_goto (tgt := 7) dX8_layLeaves_105 rfl ?_
        refine xgo_pick [0, 1] rfl ?_
        rw [nI_1]
        rw [show lyA A (upd R2.1 R2.2 (nI j), q.2.1 + 1, upd q.2.2 j (pv j)) = updA (updA (setA (setA (updA A 76 26 (nI q.2.1)) 89 (upd q.2.2 j (pv j))) 90 R2.1) 90 R2.2 (nI j)) 76 26 (nI (q.2.1 + 1)) by clear ih fin; funext k' i; simp only [lyA, updA_get, setA_get, upd]; grind (splits := 40)] at fin
        exact fin
    )
  refine xi_aload_n dX8_layLeaves_0 rfl rfl ?_
  refine xi_iconst (v := 0) dX8_layLeaves_1 (by decide) ?_
  refine xi_putfield0 dX8_layLeaves_2 fX8_190 g76 pX8_190 ?_
  refine xi_iconst (v := 0) dX8_layLeaves_5 (by decide) ?_
  refine xi_istore_n dX8_layLeaves_6 rfl (Nat.le_of_ble_eq_true rfl) ?_
  refine xgo_pick [0, 1] rfl ?_
  have l0 := loop 0 (Nat.zero_le _) (A 90, 0, A 89) rfl
  rw [show lyA A (A 90, 0, A 89) = updA A 76 26 0 by clear loop l0; funext k' i; simp only [lyA, updA_get, setA_get, nI_0]; grind (splits := 40)] at l0
  exact l0
theorem hb_of {rk : Nat → Int32} {t : Int32} {n : Nat} (hn : n ≤ 64) (q : Nat) : hb (ofV rk t n) q = true ↔ (q < n ∧ ¬ rk q < t) := by
  unfold ofV
  rw [show itr (ofS rk t) n 0 = itr (fun k s => s ||| ofO rk t k) n 0 from rfl, hb_or_itr]
  constructor
  · rintro ⟨k, hk, h⟩
    unfold ofO at h
    by_cases e : rk k < t
    · rw [if_pos e, hb_0] at h; exact absurd h (by decide)
    · rw [if_neg e, hb_bit (by omega), decide_eq_true_eq] at h
      subst h
      exact ⟨hk, e⟩
  · rintro ⟨h1, h2⟩
    refine ⟨q, h1, ?_⟩
    unfold ofO
    rw [if_neg h2, hb_bit (by omega), decide_eq_true_eq]
abbrev ltI (rk : Nat → Int32) (n t : Nat) : Int64 := ofV rk (nI t) n
abbrev ltE (rk : Nat → Int32) (n t : Nat) : Int64 := ofV rk (nI t) n &&& (ofV rk (nI (t + 1)) n ^^^ -1)
def ltS (c r n : Nat) (dg : Int32) (rk : Nat → Int32) (t : Nat) (q : tT × (Nat → Int32)) : tT × (Nat → Int32) := (lrV c r n dg (ltI rk n t) (ltE rk n t) (nI t) q.1, naV n (ltE rk n t) (nI t) (lrV c r n dg (ltI rk n t) (ltE rk n t) (nI t) q.1) q.2)
theorem ltS_le (c r n : Nat) (dg : Int32) (rk : Nat → Int32) (t : Nat) (q : tT × (Nat → Int32)) : q.1.1 ≤ (ltS c r n dg rk t q).1.1 := itr_le (g := fun q : tT => q.1) (lrS_le c r dg _ _ _) q.1 (Nat.zero_le n)
/-- the parent of v, among those seen -/
def pmS (se : Nat → Int64) (v u : Nat) (x : Int32) : Int32 := if blV se v u = 0 then x else if x = -1 then nI u else if blV se u x.toNatClampNeg = 0 then x else nI u
def pmV (se : Nat → Int64) (m v : Nat) : Int32 := itr (pmS se v) m (-1)
theorem pmS_ok (se : Nat → Int64) (v : Nat) : ∀ k, ndOK (itr (pmS se v) k (-1)) k
  | 0 => Or.inl rfl
  | k + 1 => by
    have ih := pmS_ok se v k
    rw [itr_s]
    unfold pmS
    have ih2 : ndOK (itr (pmS se v) k (-1)) (k + 1) := ih.imp id (fun ⟨a, h1, h2⟩ => ⟨a, by omega, h2⟩)
    (repeat' split) <;> first | exact ih2 | exact Or.inr ⟨k, by omega, rfl⟩
def pcS (se : Nat → Int64) (m v : Nat) (q : (Nat → Int32) × (Nat → Int32)) : (Nat → Int32) × (Nat → Int32) := (upd q.1 v (pmV se m v), if pmV se m v = -1 then upd q.2 v 0 else upd (upd q.2 v 0) (pmV se m v).toNatClampNeg (upd q.2 v 0 (pmV se m v).toNatClampNeg + 1))
def pcA (A : xA) (q : (Nat → Int32) × (Nat → Int32)) : xA := setA (setA A 86 q.1) 87 q.2
abbrev ltT (A : xA) (B : xB) (c r n : Nat) : tT × (Nat → Int32) := itr (ltS c r n (A 76 6) (rkM A)) 16 ((0, B 84, A 85), A 88)
def ltA1 (A : xA) (B : xB) (c r n : Nat) : xA := tA (updA A 76 18 1) (ltT A B c r n).1.1 (ltT A B c r n).1.2.2 (ltT A B c r n).2
def ltP (A : xA) (B : xB) (c r n : Nat) : (Nat → Int32) × (Nat → Int32) := itr (pcS (ltT A B c r n).1.2.1 (ltT A B c r n).1.1) (ltT A B c r n).1.1 (A 86, A 87)
def ltA2 (A : xA) (B : xB) (c r n : Nat) : xA := pcA (ltA1 A B c r n) (ltP A B c r n)
def ltB1 (A : xA) (B : xB) (c r n : Nat) : xB := setB B 84 (ltT A B c r n).1.2.1
def ltA (A : xA) (B : xB) (c r n : Nat) : xA := if A 76 18 = 0 then lyA (ltA2 A B c r n) (llV (ltA2 A B c r n) (ltB1 A B c r n) (ltT A B c r n).1.1) else A
def ltB (A : xA) (B : xB) (c r n : Nat) : xB := if A 76 18 = 0 then ltB1 A B c r n else B
theorem m_layTree {c r n : Nat} {A : xA} {B : xB} {D : xD} (h : mG A c r n) (hM : (ltT A B c r n).1.1 ≤ 64) (hpa : paOK (ltP A B c r n).1 (ltT A B c r n).1.1) : does0 mX8_layTree [.ref 76] A B D (eqQ none (ltA A B c r n) (ltB A B c r n) D) nx := by
  refine does_go (by decide) rfl (Nat.le_of_ble_eq_true rfl) rfl ?_
  obtain ⟨hn, hn0, hn64⟩ := h.n
  by_cases hL : A 76 18 = 0
  · unfold ltA ltB
    rw [if_pos hL, if_pos hL]
    have hgA : ∀ m rk f, mG (tA (updA A 76 18 1) m rk f) c r n := fun m rk f => h.o (tA_o (by decide) (by decide) (by decide)) (tA_o (by decide) (by decide) (by decide))
    have hnA : ∀ m rk f, tA (updA A 76 18 1) m rk f 76 1 * tA (updA A 76 18 1) m rk f 76 2 = nI n := fun m rk f => (hgA m rk f).n.1
    have hrk : ∀ m rk f, rkM (tA (updA A 76 18 1) m rk f) = rkM A := fun m rk f => rfl
    have loop2 : ∀ j, j ≤ (ltT A B c r n).1.1 → ∀ q, q = itr (pcS (ltT A B c r n).1.2.1 (ltT A B c r n).1.1) j (A 86, A 87) → go0 mX8_layTree (eqQ none (lyA (ltA2 A B c r n) (llV (ltA2 A B c r n) (ltB1 A B c r n) (ltT A B c r n).1.1)) (ltB1 A B c r n) D) nx 0 0 51 [(0, .ref 76), (1, .int (nI j))] [] (pcA (ltA1 A B c r n) q) (ltB1 A B c r n) D := by
      have e19 : ∀ q, pcA (ltA1 A B c r n) q 76 19 = nI (ltT A B c r n).1.1 := fun q => rfl
      have eB : ltB1 A B c r n 84 = (ltT A B c r n).1.2.1 := setB_s _ _ _
      have eP : ltA2 A B c r n = pcA (ltA1 A B c r n) (ltP A B c r n) := rfl
      have eP2 : ltP A B c r n = itr (pcS (ltT A B c r n).1.2.1 (ltT A B c r n).1.1) (ltT A B c r n).1.1 (A 86, A 87) := rfl
      generalize ltA2 A B c r n = A2 at eP ⊢
      generalize ltP A B c r n = P2 at eP eP2 hpa
      generalize ltB1 A B c r n = B1 at eB ⊢
      generalize ltA1 A B c r n = A1 at e19 eP ⊢
      generalize (ltT A B c r n).1 = T at *
      obtain ⟨m, se, rk⟩ := T
      simp only at *
      refine up_ind (fun j hj ih q hq => ?_)
      have inner : j < m → ∀ k, k ≤ m → ∀ x, x = itr (pmS se j) k (-1) → go0 mX8_layTree (eqQ none (lyA A2 (llV A2 B1 m)) B1 D) nx 0 0 75 [(0, .ref 76), (1, .int (nI j)), (2, .int (nI k))] [] (pcA A1 (upd q.1 j x, upd q.2 j 0)) B1 D := by
        intro hl
        refine up_ind (fun k hk ihk x hx => ?_)
        have hxo := pmS_ok se j k
        rw [← hx] at hxo
        have e86 : pcA A1 (upd q.1 j x, upd q.2 j 0) 86 j = x := by show upd q.1 j x j = x; exact up_s _ _ _
        have zz86 : ∀ y, updA (pcA A1 (upd q.1 j x, upd q.2 j 0)) 86 j y = pcA A1 (upd q.1 j y, upd q.2 j 0) := fun y => by clear ih ihk; funext k' i; simp only [pcA, updA_get, setA_get, upd]; grind (splits := 40)
        refine xi_iload_n dX8_layTree_75 rfl rfl ?_
        refine xi_aload_n dX8_layTree_76 rfl rfl ?_
        refine xi_getfield0 dX8_layTree_77 fX8_116 g76 ?_
        rw [e19]
        refine xi_icmp_ge (tgt := 148) dX8_layTree_80 rfl (fun h80 => ?_) (fun h80 => ?_)
        · have e : k = m := ge_eq hk (by omega) h80
          subst e
          have ih1 := ih hl
          rw [itr_s, ← hq] at ih1
          unfold pcS at ih1
          rw [show pmV se k j = x from hx.symm] at ih1
          refine xi_aload_n dX8_layTree_148 rfl rfl ?_
          refine xi_getfield3 dX8_layTree_149 fX8_45 g76 r76_22 ?_
          refine xi_iload_n dX8_layTree_152 rfl rfl ?_
          refine ia dX8_layTree_153 g86 s86 rfl (by omega) (Nat.le_of_ble_eq_true rfl) ?_
          rw [e86]
          refine xi_iconst (v := (-1)) dX8_layTree_154 (by decide) ?_
          refine xi_icmp_eq (tgt := 173) dX8_layTree_155 rfl (fun h155 => ?_) (fun h155 => ?_)
          · refine xi_iinc (v := 1) dX8_layTree_173 rfl (by decide) (Nat.le_of_ble_eq_true rfl) ?_
            refine xi_goto (tgt := 51) dX8_layTree_176 rfl ?_
            refine xgo_pick [0, 1] rfl ?_
            rw [nI_1]
            exact ih1 (upd q.1 j x, upd q.2 j 0) (by rw [if_pos h155])
          · obtain ⟨a, ha, rfl⟩ : ∃ a, a < k ∧ x = nI a := hxo.elim (fun z => (h155 z).elim) id
            rw [if_neg h155, nI_clamp (by omega)] at ih1
            refine xi_aload_n dX8_layTree_158 rfl rfl ?_
            refine xi_getfield3 dX8_layTree_159 fX8_48 g76 r76_23 ?_
            refine xi_aload_n dX8_layTree_162 rfl rfl ?_
            refine xi_getfield3 dX8_layTree_163 fX8_45 g76 r76_22 ?_
            refine xi_iload_n dX8_layTree_166 rfl rfl ?_
            refine ia dX8_layTree_167 g86 s86 rfl (by omega) (Nat.le_of_ble_eq_true rfl) ?_
            rw [e86]
            refine xi_dup2 dX8_layTree_168 rfl rfl ?_
            refine ia dX8_layTree_169 g87 s87 rfl (by omega) (Nat.le_of_ble_eq_true rfl) ?_
            rw [show pcA A1 (upd q.1 j (nI a), upd q.2 j 0) 87 a = upd q.2 j 0 a from rfl]
            refine xi_iconst (v := 1) dX8_layTree_170 (by decide) ?_
            refine xi_iadd dX8_layTree_171 ?_
            refine is dX8_layTree_172 g87 s87 rfl (by omega) (Nat.le_of_ble_eq_true rfl) ?_
            refine xi_iinc (v := 1) dX8_layTree_173 rfl (by decide) (Nat.le_of_ble_eq_true rfl) ?_
            refine xi_goto (tgt := 51) dX8_layTree_176 rfl ?_
            refine xgo_pick [0, 1] rfl ?_
            rw [nI_1]
            have e := ih1 _ rfl
            rw [show pcA A1 (upd q.1 j (nI a), upd (upd q.2 j 0) a (upd q.2 j 0 a + 1)) = updA (pcA A1 (upd q.1 j (nI a), upd q.2 j 0)) 87 a (upd q.2 j 0 a + 1) by clear ih ihk ih1 e; funext k' i; simp only [pcA, updA_get, setA_get, upd]; grind (splits := 40)] at e
            exact e
        · have hkl : k < m := nge_lt hk (by omega) h80
          have ih1 := ihk hkl
          rw [itr_s, ← hx] at ih1
          unfold pmS at ih1
          refine xi_aload_n dX8_layTree_83 rfl rfl ?_
          refine xi_iload_n dX8_layTree_84 rfl rfl ?_
          refine xi_iload_n dX8_layTree_85 rfl rfl ?_
          refine cV1 (av := [_, _]) dX8_layTree_86 lX8_170 rfl ⟨rfl, rfl⟩ rfl ⟨(Nat.le_of_ble_eq_true rfl), (Nat.le_of_ble_eq_true rfl)⟩ ⟨(Nat.le_of_ble_eq_true rfl), (Nat.le_of_ble_eq_true rfl)⟩ (Nat.le_of_ble_eq_true rfl) g76 rfl rfl (m_isBelow (by omega) (by omega)) ?_
          rw [eB]
          refine xi_if_eq (tgt := 120) dX8_layTree_89 rfl (fun h89 => ?_) (fun h89 => ?_)
          · refine xi_iconst (v := 0) dX8_layTree_120 (by decide) ?_
            refine xi_istore_n dX8_layTree_121 rfl (Nat.le_of_ble_eq_true rfl) ?_
            refine xi_aload_n dX8_layTree_122 rfl rfl ?_
            refine xi_getfield3 dX8_layTree_123 fX8_45 g76 r76_22 ?_
            refine xi_iload_n dX8_layTree_126 rfl rfl ?_
            refine xi_iload_n dX8_layTree_127 rfl rfl ?_
            refine xi_if_eq (tgt := 135) dX8_layTree_128 rfl (fun _ => ?_) (fun h => absurd h (show ¬ (¬ (0 : Int32) = 0) by decide))
            refine xi_aload_n dX8_layTree_135 rfl rfl ?_
            refine xi_getfield3 dX8_layTree_136 fX8_45 g76 r76_22 ?_
            refine xi_iload_n dX8_layTree_139 rfl rfl ?_
            refine ia dX8_layTree_140 g86 s86 rfl (by omega) (Nat.le_of_ble_eq_true rfl) ?_
            refine is dX8_layTree_141 g86 s86 rfl (by omega) (Nat.le_of_ble_eq_true rfl) ?_
            refine xi_iinc (v := 1) dX8_layTree_142 rfl (by decide) (Nat.le_of_ble_eq_true rfl) ?_
            refine xi_goto (tgt := 75) dX8_layTree_145 rfl ?_
            refine xgo_pick [0, 1, 2] rfl ?_
            rw [nI_1]
            first | rw [e86, zz86] | rw [zz86]
            exact ih1 x (by rw [if_pos h89])
          · refine xi_aload_n dX8_layTree_92 rfl rfl ?_
            refine xi_getfield3 dX8_layTree_93 fX8_45 g76 r76_22 ?_
            refine xi_iload_n dX8_layTree_96 rfl rfl ?_
            refine ia dX8_layTree_97 g86 s86 rfl (by omega) (Nat.le_of_ble_eq_true rfl) ?_
            rw [e86]
            refine xi_iconst (v := (-1)) dX8_layTree_98 (by decide) ?_
            refine xi_icmp_eq (tgt := 116) dX8_layTree_99 rfl (fun h99 => ?_) (fun h99 => ?_)
            · refine xi_iconst (v := 1) dX8_layTree_116 (by decide) ?_
              refine xi_goto (tgt := 121) dX8_layTree_117 rfl ?_
              refine xi_istore_n dX8_layTree_121 rfl (Nat.le_of_ble_eq_true rfl) ?_
              refine xi_aload_n dX8_layTree_122 rfl rfl ?_
              refine xi_getfield3 dX8_layTree_123 fX8_45 g76 r76_22 ?_
              refine xi_iload_n dX8_layTree_126 rfl rfl ?_
              refine xi_iload_n dX8_layTree_127 rfl rfl ?_
              refine xi_if_eq (tgt := 135) dX8_layTree_128 rfl (fun h => absurd h (show ¬ ((1 : Int32) = 0) by decide)) (fun _ => ?_)
              refine xi_iload_n dX8_layTree_131 rfl rfl ?_
              refine xi_goto (tgt := 141) dX8_layTree_132 rfl ?_
              refine is dX8_layTree_141 g86 s86 rfl (by omega) (Nat.le_of_ble_eq_true rfl) ?_
              refine xi_iinc (v := 1) dX8_layTree_142 rfl (by decide) (Nat.le_of_ble_eq_true rfl) ?_
              refine xi_goto (tgt := 75) dX8_layTree_145 rfl ?_
              refine xgo_pick [0, 1, 2] rfl ?_
              rw [nI_1]
              rw [zz86]
              exact ih1 _ (by rw [if_neg h89, if_pos h99])
            · obtain ⟨a, ha, rfl⟩ : ∃ a, a < k ∧ x = nI a := hxo.elim (fun z => (h99 z).elim) id
              refine xi_aload_n dX8_layTree_102 rfl rfl ?_
              refine xi_iload_n dX8_layTree_103 rfl rfl ?_
              refine xi_aload_n dX8_layTree_104 rfl rfl ?_
              refine xi_getfield3 dX8_layTree_105 fX8_45 g76 r76_22 ?_
              refine xi_iload_n dX8_layTree_108 rfl rfl ?_
              refine ia dX8_layTree_109 g86 s86 rfl (by omega) (Nat.le_of_ble_eq_true rfl) ?_
              rw [e86]
              refine cV1 (av := [_, _]) dX8_layTree_110 lX8_170 rfl ⟨rfl, rfl⟩ rfl ⟨(Nat.le_of_ble_eq_true rfl), (Nat.le_of_ble_eq_true rfl)⟩ ⟨(Nat.le_of_ble_eq_true rfl), (Nat.le_of_ble_eq_true rfl)⟩ (Nat.le_of_ble_eq_true rfl) g76 rfl rfl (m_isBelow (by omega) (by omega)) ?_
              rw [eB]
              refine xi_if_eq (tgt := 120) dX8_layTree_113 rfl (fun h113 => ?_) (fun h113 => ?_)
              · refine xi_iconst (v := 0) dX8_layTree_120 (by decide) ?_
                refine xi_istore_n dX8_layTree_121 rfl (Nat.le_of_ble_eq_true rfl) ?_
                refine xi_aload_n dX8_layTree_122 rfl rfl ?_
                refine xi_getfield3 dX8_layTree_123 fX8_45 g76 r76_22 ?_
                refine xi_iload_n dX8_layTree_126 rfl rfl ?_
                refine xi_iload_n dX8_layTree_127 rfl rfl ?_
                refine xi_if_eq (tgt := 135) dX8_layTree_128 rfl (fun _ => ?_) (fun h => absurd h (show ¬ (¬ (0 : Int32) = 0) by decide))
                refine xi_aload_n dX8_layTree_135 rfl rfl ?_
                refine xi_getfield3 dX8_layTree_136 fX8_45 g76 r76_22 ?_
                refine xi_iload_n dX8_layTree_139 rfl rfl ?_
                refine ia dX8_layTree_140 g86 s86 rfl (by omega) (Nat.le_of_ble_eq_true rfl) ?_
                refine is dX8_layTree_141 g86 s86 rfl (by omega) (Nat.le_of_ble_eq_true rfl) ?_
                refine xi_iinc (v := 1) dX8_layTree_142 rfl (by decide) (Nat.le_of_ble_eq_true rfl) ?_
                refine xi_goto (tgt := 75) dX8_layTree_145 rfl ?_
                refine xgo_pick [0, 1, 2] rfl ?_
                rw [nI_1]
                rw [e86, zz86]
                exact ih1 _ (by rw [if_neg h89, if_neg h99, nI_clamp (by omega), if_pos h113])
              · refine xi_iconst (v := 1) dX8_layTree_116 (by decide) ?_
                refine xi_goto (tgt := 121) dX8_layTree_117 rfl ?_
                refine xi_istore_n dX8_layTree_121 rfl (Nat.le_of_ble_eq_true rfl) ?_
                refine xi_aload_n dX8_layTree_122 rfl rfl ?_
                refine xi_getfield3 dX8_layTree_123 fX8_45 g76 r76_22 ?_
                refine xi_iload_n dX8_layTree_126 rfl rfl ?_
                refine xi_iload_n dX8_layTree_127 rfl rfl ?_
                refine xi_if_eq (tgt := 135) dX8_layTree_128 rfl (fun h => absurd h (show ¬ ((1 : Int32) = 0) by decide)) (fun _ => ?_)
                refine xi_iload_n dX8_layTree_131 rfl rfl ?_
                refine xi_goto (tgt := 141) dX8_layTree_132 rfl ?_
                refine is dX8_layTree_141 g86 s86 rfl (by omega) (Nat.le_of_ble_eq_true rfl) ?_
                refine xi_iinc (v := 1) dX8_layTree_142 rfl (by decide) (Nat.le_of_ble_eq_true rfl) ?_
                refine xi_goto (tgt := 75) dX8_layTree_145 rfl ?_
                refine xgo_pick [0, 1, 2] rfl ?_
                rw [nI_1]
                rw [zz86]
                exact ih1 _ (by rw [if_neg h89, if_neg h99, nI_clamp (by omega), if_neg h113])
      refine xi_iload_n dX8_layTree_51 rfl rfl ?_
      refine xi_aload_n dX8_layTree_52 rfl rfl ?_
      refine xi_getfield0 dX8_layTree_53 fX8_116 g76 ?_
      rw [e19]
      refine xi_icmp_ge (tgt := 179) dX8_layTree_56 rfl (fun h56 => ?_) (fun h56 => ?_)
      · have e : j = m := ge_eq hj (by omega) h56
        subst e
        have e2 : q = P2 := by rw [hq, eP2]
        subst e2
        refine xi_aload_n dX8_layTree_179 rfl rfl ?_
        refine cV1 (av := []) dX8_layTree_180 lX8_174 rfl ⟨rfl, rfl⟩ rfl ⟨(Nat.le_of_ble_eq_true rfl), (Nat.le_of_ble_eq_true rfl)⟩ ⟨(Nat.le_of_ble_eq_true rfl), (Nat.le_of_ble_eq_true rfl)⟩ (Nat.le_of_ble_eq_true rfl) g76 rfl rfl (m_layLeaves (m := j) (A := pcA A1 q) (e19 _) (by omega) hpa) ?_
        refine go_ret (r := none) dX8_layTree_183 (Nat.le_of_ble_eq_true rfl) (Nat.le_of_ble_eq_true rfl) ?_
        exact ⟨rfl, by rw [eP], rfl, rfl⟩
      · have hl : j < m := nge_lt hj (by omega) h56
        refine xi_aload_n dX8_layTree_59 rfl rfl ?_
        refine xi_getfield3 dX8_layTree_60 fX8_45 g76 r76_22 ?_
        refine xi_iload_n dX8_layTree_63 rfl rfl ?_
        refine xi_iconst (v := (-1)) dX8_layTree_64 (by decide) ?_
        refine is dX8_layTree_65 g86 s86 rfl (by omega) (Nat.le_of_ble_eq_true rfl) ?_
        refine xi_aload_n dX8_layTree_66 rfl rfl ?_
        refine xi_getfield3 dX8_layTree_67 fX8_48 g76 r76_23 ?_
        refine xi_iload_n dX8_layTree_70 rfl rfl ?_
        refine xi_iconst (v := 0) dX8_layTree_71 (by decide) ?_
        refine is dX8_layTree_72 g87 s87 rfl (by omega) (Nat.le_of_ble_eq_true rfl) ?_
        refine xi_iconst (v := 0) dX8_layTree_73 (by decide) ?_
        refine xi_istore_n dX8_layTree_74 rfl (Nat.le_of_ble_eq_true rfl) ?_
        refine xgo_pick [0, 1, 2] rfl ?_
        have l0 := inner hl 0 (Nat.zero_le _) (-1) rfl
        rw [show pcA A1 (upd q.1 j (-1), upd q.2 j 0) = updA (updA (pcA A1 q) 86 j (-1)) 87 j 0 by clear ih inner l0; funext k' i; simp only [pcA, updA_get, setA_get, upd]; grind (splits := 40)] at l0
        exact l0
    have loop1 := up_ind (n := 16) (P := fun t => ∀ q, q = itr (ltS c r n (A 76 6) (rkM A)) t ((0, B 84, A 85), A 88) → go0 mX8_layTree (eqQ none (lyA (ltA2 A B c r n) (llV (ltA2 A B c r n) (ltB1 A B c r n) (ltT A B c r n).1.1)) (ltB1 A B c r n) D) nx 0 0 20 [(0, .ref 76), (1, .int (nI t))] [] (tA (updA A 76 18 1) q.1.1 q.1.2.2 q.2) (setB B 84 q.1.2.1) D) (fun t ht ih q hq => by
      have hmo : ∀ t, t ≤ 16 → (itr (ltS c r n (A 76 6) (rkM A)) t ((0, B 84, A 85), A 88)).1.1 ≤ 64 := fun t ht => Nat.le_trans (itr_le (g := fun q : tT × (Nat → Int32) => q.1.1) (ltS_le c r n (A 76 6) (rkM A)) _ ht) hM
      refine xi_iload_n dX8_layTree_20 rfl rfl ?_
      refine xi_bipush (v := 15) dX8_layTree_21 (by decide) ?_
      refine xi_icmp_gt (tgt := 49) dX8_layTree_23 rfl (fun h23 => ?_) (fun h23 => ?_)
      · have e : t = 16 := by have := (nI_ltI (a := 15) (b := t) (by decide) (by omega)).mp h23; omega
        subst e
        refine xi_iconst (v := 0) dX8_layTree_49 (by decide) ?_
        refine xi_istore_n dX8_layTree_50 rfl (Nat.le_of_ble_eq_true rfl) ?_
        refine xgo_pick [0, 1] rfl ?_
        have l0 := loop2 0 (Nat.zero_le _) _ rfl
        rw [show pcA (ltA1 A B c r n) (itr (pcS (ltT A B c r n).1.2.1 (ltT A B c r n).1.1) 0 (A 86, A 87)) = tA (updA A 76 18 1) q.1.1 q.1.2.2 q.2 by
          rw [show itr (pcS (ltT A B c r n).1.2.1 (ltT A B c r n).1.1) 0 (A 86, A 87) = (A 86, A 87) from rfl]
          unfold ltA1 ltT
          rw [← hq]
          clear ih l0 loop2
          funext k' i; simp only [pcA, tA, updA_get, setA_get]; grind (splits := 40)] at l0
        unfold ltB1 ltT at l0
        rw [← hq] at l0
        unfold ltB1 ltT
        rw [← hq]
        exact l0
      · have hl : t < 16 := by have := mt (nI_ltI (a := 15) (b := t) (by decide) (by omega)).mpr h23; omega
        refine xi_aload_n dX8_layTree_26 rfl rfl ?_
        refine xi_iload_n dX8_layTree_27 rfl rfl ?_
        refine xi_aload_n dX8_layTree_28 rfl rfl ?_
        refine xi_iload_n dX8_layTree_29 rfl rfl ?_
        refine cV1 (av := [_]) dX8_layTree_30 lX8_162 rfl ⟨rfl, rfl⟩ rfl ⟨(Nat.le_of_ble_eq_true rfl), (Nat.le_of_ble_eq_true rfl)⟩ ⟨(Nat.le_of_ble_eq_true rfl), (Nat.le_of_ble_eq_true rfl)⟩ (Nat.le_of_ble_eq_true rfl) g76 rfl rfl (m_ofRank (hnA _ _ _) hn64) ?_
        rw [hrk]
        refine xi_aload_n dX8_layTree_33 rfl rfl ?_
        refine xi_iload_n dX8_layTree_34 rfl rfl ?_
        refine xi_iconst (v := 1) dX8_layTree_35 (by decide) ?_
        refine xi_iadd dX8_layTree_36 ?_
        rw [nI_1]
        refine cV1 (av := [_]) dX8_layTree_37 lX8_162 rfl ⟨rfl, rfl⟩ rfl ⟨(Nat.le_of_ble_eq_true rfl), (Nat.le_of_ble_eq_true rfl)⟩ ⟨(Nat.le_of_ble_eq_true rfl), (Nat.le_of_ble_eq_true rfl)⟩ (Nat.le_of_ble_eq_true rfl) g76 rfl rfl (m_ofRank (hnA _ _ _) hn64) ?_
        rw [hrk]
        refine cV1 (av := [_, _, _]) dX8_layTree_40 lX8_166 rfl ⟨rfl, rfl⟩ rfl ⟨(Nat.le_of_ble_eq_true rfl), (Nat.le_of_ble_eq_true rfl)⟩ ⟨(Nat.le_of_ble_eq_true rfl), (Nat.le_of_ble_eq_true rfl)⟩ (Nat.le_of_ble_eq_true rfl) g76 rfl rfl (m_layRank (A := updA A 76 18 1) (c := c) (r := r) (n := n) (q0 := q.1) (dg := A 76 6) rfl h (fun z hz => ((hb_of hn64 z).mp hz).1) (by have := hmo (t + 1) (by omega); rw [itr_s, ← hq] at this; exact this)) ?_
        refine xi_iinc (v := 1) dX8_layTree_43 rfl (by decide) (Nat.le_of_ble_eq_true rfl) ?_
        refine xi_goto (tgt := 20) dX8_layTree_46 rfl ?_
        refine xgo_pick [0, 1] rfl ?_
        rw [nI_1]
        have e := ih hl (ltS c r n (A 76 6) (rkM A) t q) (by rw [itr_s, ← hq])
        unfold ltS at e
        exact e
      )
    refine xi_aload_n dX8_layTree_0 rfl rfl ?_
    refine xi_getfield1 dX8_layTree_1 fX8_97 g76 ?_
    refine xi_if_eq (tgt := 8) dX8_layTree_4 rfl (fun h4 => ?_) (fun h4 => ?_)
    · refine xi_aload_n dX8_layTree_8 rfl rfl ?_
      refine xi_iconst (v := 1) dX8_layTree_9 (by decide) ?_
      refine xi_putfield1 dX8_layTree_10 fX8_97 g76 pX8_97 (by first | exact Or.inl rfl | exact Or.inr rfl) ?_
      refine xi_aload_n dX8_layTree_13 rfl rfl ?_
      refine xi_iconst (v := 0) dX8_layTree_14 (by decide) ?_
      refine xi_putfield0 dX8_layTree_15 fX8_116 g76 pX8_116 ?_
      refine xi_iconst (v := 0) dX8_layTree_18 (by decide) ?_
      refine xi_istore_n dX8_layTree_19 rfl (Nat.le_of_ble_eq_true rfl) ?_
      refine xgo_pick [0, 1] rfl ?_
      have l0 := loop1 0 (Nat.zero_le _) _ rfl
      rw [show itr (ltS c r n (A 76 6) (rkM A)) 0 ((0, B 84, A 85), A 88) = ((0, B 84, A 85), A 88) from rfl] at l0
      rw [show setB B 84 (((0, B 84, A 85), A 88) : tT × (Nat → Int32)).1.2.1 = B from setB_self B 84, show tA (updA A 76 18 1) (((0, B 84, A 85), A 88) : tT × (Nat → Int32)).1.1 (((0, B 84, A 85), A 88) : tT × (Nat → Int32)).1.2.2 (((0, B 84, A 85), A 88) : tT × (Nat → Int32)).2 = updA (updA A 76 18 1) 76 19 0 by clear l0 loop1 loop2; funext k' i; simp only [tA, updA_get, setA_get, nI_0]; grind (splits := 40)] at l0
      exact l0
    · exact absurd hL h4
  · unfold ltA ltB
    rw [if_neg hL, if_neg hL]
    refine xi_aload_n dX8_layTree_0 rfl rfl ?_
    refine xi_getfield1 dX8_layTree_1 fX8_97 g76 ?_
    refine xi_if_eq (tgt := 8) dX8_layTree_4 rfl (fun h4 => ?_) (fun h4 => ?_)
    · exact absurd h4 hL
    · refine go_ret (r := none) dX8_layTree_7 (Nat.le_of_ble_eq_true rfl) (Nat.le_of_ble_eq_true rfl) ?_
      exact ⟨rfl, rfl, rfl, rfl⟩

