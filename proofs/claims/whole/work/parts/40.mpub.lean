/-! the model: questions about the tree -/
/-- layTree at A, B leads to A1, B1 -/
def laid (A : xA) (B : xB) (A1 : xA) (B1 : xB) : Prop := (∀ t D, does0 mX8_layTree [.ref 76] (updA A 76 0 t) B D (eqQ none (updA A1 76 0 t) B1 D) nx) ∧ (∀ D, does0 mX8_layTree [.ref 76] A B D (eqQ none A1 B1 D) nx) ∧ ¬ A1 76 18 = 0
/-- the laid tree is usable -/
def mT (A : xA) (c r n m lf : Nat) : Prop := mG A c r n ∧ A 76 19 = nI m ∧ 0 < m ∧ m ≤ 64 ∧ paOK (A 86) m ∧ A 76 26 = nI lf ∧ lf ≤ 64 ∧ (∀ v, v < m → ∃ k, k ≤ 64 ∧ A 87 v = nI k) ∧ (∀ p, p < n → ∃ q, q < m ∧ A 88 p = nI q) ∧ (∀ i, i < lf → ∃ a, a < m ∧ A 90 i = nI a)
theorem wch {j : Int32} {k : Nat} (hk : k < 2 ^ 31) : ¬ wiV j 0 (nI k - 1) = 0 ↔ inR j (nI k) := by
  rcases Nat.eq_zero_or_pos k with e | e
  · subst e
    rw [wi_ne]
    unfold btw inR
    constructor
    · rintro ⟨a, b⟩
      exfalso
      obtain ⟨p, hp, rfl⟩ := nI_of a
      apply b
      rcases Nat.eq_zero_or_pos p with z | z
      · subst z; decide
      · exact Int32.lt_of_lt_of_le (show nI 0 - 1 < nI 0 by decide) (nI_le (Nat.zero_le p) hp)
    · rintro ⟨a, b⟩
      exact (a b).elim
  · exact wpx e hk
theorem wch0 {j : Int32} {k : Nat} (hk : k < 2 ^ 31) : wiV j 0 (nI k - 1) = 0 ↔ ¬ inR j (nI k) := by
  rw [← wch hk]; exact Classical.not_not.symm
theorem wp8 {j : Int32} : ¬ wiV j 0 7 = 0 ↔ inR j 8 := wch (k := 8) (by decide)
theorem wp12 {j : Int32} : ¬ wiV j 0 11 = 0 ↔ inR j 12 := wch (k := 12) (by decide)
theorem nn_ {a b : Prop} (h : ¬ a ↔ b) : a ↔ ¬ b := by rw [← h]; exact Classical.not_not.symm
def mcV (A : xA) (n m w : Nat) : Int32 := match w with
  | 0 => A 76 1
  | 1 => A 76 2
  | 2 => A 76 19
  | 3 => A 76 26
  | 4 => itr (dpS (A 86)) m 0
  | 5 => c1V (lvb (A 77) n).toInt64 64
  | 6 => isum (A 77) n
  | _ => A 76 7
theorem m_countOf {n m w : Nat} (hw : w < 8) {A A1 : xA} {B B1 : xB} {D : xD} (hlt : does0 mX8_layTree [.ref 76] A B D (eqQ none A1 B1 D) nx) (hn : A1 76 1 * A1 76 2 = nI n) (hn64 : n ≤ 64) (hm : A1 76 19 = nI m) (hm64 : m ≤ 64) (hpa : paOK (A1 86) m) : does0 mX8_countOf [.ref 76, .int (nI w)] A B D (eqQ (some (.int (mcV A1 n m w))) A1 B1 D) nx := by
  refine does_go (by decide) rfl (Nat.le_of_ble_eq_true rfl) rfl ?_
  refine xi_aload_n dX8_countOf_0 rfl rfl ?_
  refine cV1 (av := []) dX8_countOf_1 lX8_113 rfl ⟨rfl, rfl⟩ rfl ⟨(Nat.le_of_ble_eq_true rfl), (Nat.le_of_ble_eq_true rfl)⟩ ⟨(Nat.le_of_ble_eq_true rfl), (Nat.le_of_ble_eq_true rfl)⟩ (Nat.le_of_ble_eq_true rfl) g76 rfl rfl (hlt) ?_
  refine xi_iload_n dX8_countOf_4 rfl rfl ?_
  rcases (show w = 0 ∨ w = 1 ∨ w = 2 ∨ w = 3 ∨ w = 4 ∨ w = 5 ∨ w = 6 ∨ w = 7 by omega) with rfl | rfl | rfl | rfl | rfl | rfl | rfl | rfl
  · refine xi_tableIn (off := 43) (tgt := 48) dX8_countOf_5 (by decide) (by decide) (by decide) rfl ?_
    refine xi_aload_n dX8_countOf_48 rfl rfl ?_
    refine xi_getfield0 dX8_countOf_49 fX8_7 g76 ?_
    refine go_ret (r := some (.int _)) dX8_countOf_52 (Nat.le_of_ble_eq_true rfl) (Nat.le_of_ble_eq_true rfl) ?_
    exact ⟨rfl, rfl, rfl, rfl⟩
  · refine xi_tableIn (off := 48) (tgt := 53) dX8_countOf_5 (by decide) (by decide) (by decide) rfl ?_
    refine xi_aload_n dX8_countOf_53 rfl rfl ?_
    refine xi_getfield0 dX8_countOf_54 fX8_13 g76 ?_
    refine go_ret (r := some (.int _)) dX8_countOf_57 (Nat.le_of_ble_eq_true rfl) (Nat.le_of_ble_eq_true rfl) ?_
    exact ⟨rfl, rfl, rfl, rfl⟩
  · refine xi_tableIn (off := 53) (tgt := 58) dX8_countOf_5 (by decide) (by decide) (by decide) rfl ?_
    refine xi_aload_n dX8_countOf_58 rfl rfl ?_
    refine xi_getfield0 dX8_countOf_59 fX8_116 g76 ?_
    refine go_ret (r := some (.int _)) dX8_countOf_62 (Nat.le_of_ble_eq_true rfl) (Nat.le_of_ble_eq_true rfl) ?_
    exact ⟨rfl, rfl, rfl, rfl⟩
  · refine xi_tableIn (off := 58) (tgt := 63) dX8_countOf_5 (by decide) (by decide) (by decide) rfl ?_
    refine xi_aload_n dX8_countOf_63 rfl rfl ?_
    refine xi_getfield0 dX8_countOf_64 fX8_190 g76 ?_
    refine go_ret (r := some (.int _)) dX8_countOf_67 (Nat.le_of_ble_eq_true rfl) (Nat.le_of_ble_eq_true rfl) ?_
    exact ⟨rfl, rfl, rfl, rfl⟩
  · refine xi_tableIn (off := 63) (tgt := 68) dX8_countOf_5 (by decide) (by decide) (by decide) rfl ?_
    refine xi_aload_n dX8_countOf_68 rfl rfl ?_
    refine cV1 (av := []) dX8_countOf_69 lX8_206 rfl ⟨rfl, rfl⟩ rfl ⟨(Nat.le_of_ble_eq_true rfl), (Nat.le_of_ble_eq_true rfl)⟩ ⟨(Nat.le_of_ble_eq_true rfl), (Nat.le_of_ble_eq_true rfl)⟩ (Nat.le_of_ble_eq_true rfl) g76 rfl rfl (m_deepest hm hm64 hpa) ?_
    refine go_ret (r := some (.int _)) dX8_countOf_72 (Nat.le_of_ble_eq_true rfl) (Nat.le_of_ble_eq_true rfl) ?_
    exact ⟨rfl, rfl, rfl, rfl⟩
  · refine xi_tableIn (off := 68) (tgt := 73) dX8_countOf_5 (by decide) (by decide) (by decide) rfl ?_
    refine xi_aload_n dX8_countOf_73 rfl rfl ?_
    refine cV1 (av := []) dX8_countOf_74 lX8_209 rfl ⟨rfl, rfl⟩ rfl ⟨(Nat.le_of_ble_eq_true rfl), (Nat.le_of_ble_eq_true rfl)⟩ ⟨(Nat.le_of_ble_eq_true rfl), (Nat.le_of_ble_eq_true rfl)⟩ (Nat.le_of_ble_eq_true rfl) g76 rfl rfl (m_differentLevels hn hn64) ?_
    refine go_ret (r := some (.int _)) dX8_countOf_77 (Nat.le_of_ble_eq_true rfl) (Nat.le_of_ble_eq_true rfl) ?_
    exact ⟨rfl, rfl, rfl, rfl⟩
  · refine xi_tableIn (off := 73) (tgt := 78) dX8_countOf_5 (by decide) (by decide) (by decide) rfl ?_
    refine xi_aload_n dX8_countOf_78 rfl rfl ?_
    refine cV1 (av := []) dX8_countOf_79 lX8_212 rfl ⟨rfl, rfl⟩ rfl ⟨(Nat.le_of_ble_eq_true rfl), (Nat.le_of_ble_eq_true rfl)⟩ ⟨(Nat.le_of_ble_eq_true rfl), (Nat.le_of_ble_eq_true rfl)⟩ (Nat.le_of_ble_eq_true rfl) g76 rfl rfl (m_sumOfLevels hn hn64) ?_
    refine go_ret (r := some (.int _)) dX8_countOf_82 (Nat.le_of_ble_eq_true rfl) (Nat.le_of_ble_eq_true rfl) ?_
    exact ⟨rfl, rfl, rfl, rfl⟩
  · refine xi_tableOut (tgt := 83) dX8_countOf_5 (by decide) rfl ?_
    refine xi_aload_n dX8_countOf_83 rfl rfl ?_
    refine xi_getfield0 dX8_countOf_84 fX8_90 g76 ?_
    refine go_ret (r := some (.int _)) dX8_countOf_87 (Nat.le_of_ble_eq_true rfl) (Nat.le_of_ble_eq_true rfl) ?_
    exact ⟨rfl, rfl, rfl, rfl⟩
theorem mcV_t (A : xA) (t : Int32) (n m w : Nat) : mcV (updA A 76 0 t) n m w = mcV A n m w := by unfold mcV; split <;> rfl
theorem m_count {c r n m lf : Nat} {v : Int32} {A A1 : xA} {B B1 : xB} {D : xD} (hl : laid A B A1 B1) (hT : mT A1 c r n m lf) : does0 mX8_count [.ref 76, .int v] A B D (mQ D (inR v 8) True (some (.int (mcV A1 n m v.toNatClampNeg))) (updA A1 76 0 0) B1 A B) nx := by
  refine does_go (by decide) rfl (Nat.le_of_ble_eq_true rfl) rfl ?_
  obtain ⟨hG, hm, hm0, hm64, hpa, -⟩ := hT
  obtain ⟨hn, hn0, hn64⟩ := hG.n
  refine xi_aload_n dX8_count_0 rfl rfl ?_
  refine xi_iload_n dX8_count_1 rfl rfl ?_
  refine xi_iconst (v := 0) dX8_count_2 (by decide) ?_
  refine xi_bipush (v := 7) dX8_count_3 (by decide) ?_
  refine cS1 (av := [_, _, _]) dX8_count_5 lX8_80 rfl ⟨rfl, rfl⟩ rfl ⟨(Nat.le_of_ble_eq_true rfl), (Nat.le_of_ble_eq_true rfl)⟩ ⟨(Nat.le_of_ble_eq_true rfl), (Nat.le_of_ble_eq_true rfl)⟩ (Nat.le_of_ble_eq_true rfl) (m_within) ?_
  refine xi_if_eq (tgt := 15) dX8_count_8 rfl (fun h8 => ?_) (fun h8 => ?_)
  · refine xi_iconst (v := 1) dX8_count_15 (by decide) ?_
    refine xi_putfield0 dX8_count_16 fX8_73 g76 pX8_73 ?_
    refine xi_aload_n dX8_count_19 rfl rfl ?_
    refine xi_getfield0 dX8_count_20 fX8_73 g76 ?_
    refine xi_if_le (tgt := 30) dX8_count_23 rfl (fun h => absurd h (show ¬ ((1 : Int32) ≤ 0) by decide)) (fun _ => ?_)
    refine xi_iconst (v := 0) dX8_count_26 (by decide) ?_
    refine xi_goto (tgt := 35) dX8_count_27 rfl ?_
    refine go_ret (r := some (.int _)) dX8_count_35 (Nat.le_of_ble_eq_true rfl) (Nat.le_of_ble_eq_true rfl) ?_
    exact ⟨rfl, Or.inr (Or.inl ⟨(nn_ wp8).mp h8, rfl, rfl, rfl⟩)⟩
  · have hp0 := wp8.mp h8
    obtain ⟨w, hw, rfl⟩ := inR_nI (n := 8) hp0 (by decide)
    refine xi_iconst (v := 0) dX8_count_11 (by decide) ?_
    refine xi_goto (tgt := 16) dX8_count_12 rfl ?_
    refine xi_putfield0 dX8_count_16 fX8_73 g76 pX8_73 ?_
    refine xi_aload_n dX8_count_19 rfl rfl ?_
    refine xi_getfield0 dX8_count_20 fX8_73 g76 ?_
    refine xi_if_le (tgt := 30) dX8_count_23 rfl (fun _ => ?_) (fun h => absurd h (show ¬ (¬ (0 : Int32) ≤ 0) by decide))
    refine xi_aload_n dX8_count_30 rfl rfl ?_
    refine xi_iload_n dX8_count_31 rfl rfl ?_
    refine cV1 (av := [_]) dX8_count_32 lX8_215 rfl ⟨rfl, rfl⟩ rfl ⟨(Nat.le_of_ble_eq_true rfl), (Nat.le_of_ble_eq_true rfl)⟩ ⟨(Nat.le_of_ble_eq_true rfl), (Nat.le_of_ble_eq_true rfl)⟩ (Nat.le_of_ble_eq_true rfl) g76 rfl rfl (m_countOf hw (hl.1 _ _) hn hn64 hm hm64 hpa) ?_
    refine go_ret (r := some (.int _)) dX8_count_35 (Nat.le_of_ble_eq_true rfl) (Nat.le_of_ble_eq_true rfl) ?_
    exact ⟨rfl, Or.inl ⟨hp0, trivial, by rw [nI_clamp (by omega), mcV_t], rfl, rfl⟩⟩
theorem m_nodeOf {c r n m lf : Nat} {i : Int32} {A A1 : xA} {B B1 : xB} {D : xD} (hG0 : mG A c r n) (hl : laid A B A1 B1) : does0 mX8_nodeOf [.ref 76, .int i] A B D (mQ D (inR i (nI n)) True (some (.int (A1 88 i.toNatClampNeg))) (updA A1 76 0 0) B1 A1 B1) nx := by
  refine does_go (by decide) rfl (Nat.le_of_ble_eq_true rfl) rfl ?_
  obtain ⟨hn, hn0, hn64⟩ := hG0.n
  refine xi_aload_n dX8_nodeOf_0 rfl rfl ?_
  refine xi_aload_n dX8_nodeOf_1 rfl rfl ?_
  refine xi_iload_n dX8_nodeOf_2 rfl rfl ?_
  refine cV1 (av := [_]) dX8_nodeOf_3 lX8_106 rfl ⟨rfl, rfl⟩ rfl ⟨(Nat.le_of_ble_eq_true rfl), (Nat.le_of_ble_eq_true rfl)⟩ ⟨(Nat.le_of_ble_eq_true rfl), (Nat.le_of_ble_eq_true rfl)⟩ (Nat.le_of_ble_eq_true rfl) g76 rfl rfl (m_isPixel) ?_
  rw [hn]
  refine xi_if_eq (tgt := 13) dX8_nodeOf_6 rfl (fun h6 => ?_) (fun h6 => ?_)
  · have hp0 := (wpx0 hn0 (by omega)).mp h6
    refine xi_iconst (v := 1) dX8_nodeOf_13 (by decide) ?_
    refine xi_putfield0 dX8_nodeOf_14 fX8_73 g76 pX8_73 ?_
    refine xi_aload_n dX8_nodeOf_17 rfl rfl ?_
    refine cV1 (av := []) dX8_nodeOf_18 lX8_113 rfl ⟨rfl, rfl⟩ rfl ⟨(Nat.le_of_ble_eq_true rfl), (Nat.le_of_ble_eq_true rfl)⟩ ⟨(Nat.le_of_ble_eq_true rfl), (Nat.le_of_ble_eq_true rfl)⟩ (Nat.le_of_ble_eq_true rfl) g76 rfl rfl (hl.1 _ _) ?_
    refine xi_aload_n dX8_nodeOf_21 rfl rfl ?_
    refine xi_getfield0 dX8_nodeOf_22 fX8_73 g76 ?_
    refine xi_if_le (tgt := 32) dX8_nodeOf_25 rfl (fun h => absurd h (show ¬ ((1 : Int32) ≤ 0) by decide)) (fun _ => ?_)
    refine xi_iconst (v := 0) dX8_nodeOf_28 (by decide) ?_
    refine xi_goto (tgt := 38) dX8_nodeOf_29 rfl ?_
    refine go_ret (r := some (.int _)) dX8_nodeOf_38 (Nat.le_of_ble_eq_true rfl) (Nat.le_of_ble_eq_true rfl) ?_
    exact ⟨rfl, Or.inr (Or.inl ⟨hp0, rfl, rfl, rfl⟩)⟩
  · have hp0 := (wpx hn0 (by omega)).mp h6
    obtain ⟨p, hp, rfl⟩ := inR_nI hp0 (by omega)
    refine xi_iconst (v := 0) dX8_nodeOf_9 (by decide) ?_
    refine xi_goto (tgt := 14) dX8_nodeOf_10 rfl ?_
    refine xi_putfield0 dX8_nodeOf_14 fX8_73 g76 pX8_73 ?_
    refine xi_aload_n dX8_nodeOf_17 rfl rfl ?_
    refine cV1 (av := []) dX8_nodeOf_18 lX8_113 rfl ⟨rfl, rfl⟩ rfl ⟨(Nat.le_of_ble_eq_true rfl), (Nat.le_of_ble_eq_true rfl)⟩ ⟨(Nat.le_of_ble_eq_true rfl), (Nat.le_of_ble_eq_true rfl)⟩ (Nat.le_of_ble_eq_true rfl) g76 rfl rfl (hl.1 _ _) ?_
    refine xi_aload_n dX8_nodeOf_21 rfl rfl ?_
    refine xi_getfield0 dX8_nodeOf_22 fX8_73 g76 ?_
    refine xi_if_le (tgt := 32) dX8_nodeOf_25 rfl (fun _ => ?_) (fun h => absurd h (show ¬ (¬ (0 : Int32) ≤ 0) by decide))
    refine xi_aload_n dX8_nodeOf_32 rfl rfl ?_
    refine xi_getfield3 dX8_nodeOf_33 fX8_51 g76 r76_24 ?_
    refine xi_iload_n dX8_nodeOf_36 rfl rfl ?_
    refine ia dX8_nodeOf_37 g88 s88 rfl (by omega) (Nat.le_of_ble_eq_true rfl) ?_
    refine go_ret (r := some (.int _)) dX8_nodeOf_38 (Nat.le_of_ble_eq_true rfl) (Nat.le_of_ble_eq_true rfl) ?_
    exact ⟨rfl, Or.inl ⟨hp0, trivial, by rw [nI_clamp (by omega)]; rfl, rfl, rfl⟩⟩
theorem m_isNode {m : Nat} {i : Int32} {A A1 : xA} {B B1 : xB} {D : xD} (hlt : does0 mX8_layTree [.ref 76] A B D (eqQ none A1 B1 D) nx) (hm : A1 76 19 = nI m) : does0 mX8_isNode [.ref 76, .int i] A B D (eqQ (some (.int (wiV i 0 (nI m - 1)))) A1 B1 D) nx := by
  refine does_go (by decide) rfl (Nat.le_of_ble_eq_true rfl) rfl ?_
  refine xi_aload_n dX8_isNode_0 rfl rfl ?_
  refine cV1 (av := []) dX8_isNode_1 lX8_113 rfl ⟨rfl, rfl⟩ rfl ⟨(Nat.le_of_ble_eq_true rfl), (Nat.le_of_ble_eq_true rfl)⟩ ⟨(Nat.le_of_ble_eq_true rfl), (Nat.le_of_ble_eq_true rfl)⟩ (Nat.le_of_ble_eq_true rfl) g76 rfl rfl (hlt) ?_
  refine xi_iload_n dX8_isNode_4 rfl rfl ?_
  refine xi_iconst (v := 0) dX8_isNode_5 (by decide) ?_
  refine xi_aload_n dX8_isNode_6 rfl rfl ?_
  refine xi_getfield0 dX8_isNode_7 fX8_116 g76 ?_
  rw [hm]
  refine xi_iconst (v := 1) dX8_isNode_10 (by decide) ?_
  refine xi_isub dX8_isNode_11 ?_
  refine cS1 (av := [_, _, _]) dX8_isNode_12 lX8_80 rfl ⟨rfl, rfl⟩ rfl ⟨(Nat.le_of_ble_eq_true rfl), (Nat.le_of_ble_eq_true rfl)⟩ ⟨(Nat.le_of_ble_eq_true rfl), (Nat.le_of_ble_eq_true rfl)⟩ (Nat.le_of_ble_eq_true rfl) (m_within) ?_
  refine go_ret (r := some (.int _)) ⟨dX8_isNode_15, (wi01 _ _ _)⟩ (Nat.le_of_ble_eq_true rfl) (Nat.le_of_ble_eq_true rfl) ?_
  exact ⟨rfl, rfl, rfl, rfl⟩
theorem atV_t (A : xA) (B : xB) (t : Int32) (c r n m v w : Nat) : atV (updA A 76 0 t) B c r n m v w = atV A B c r n m v w := by unfold atV; split <;> rfl
theorem m_attribute {c r n m lf : Nat} {i a : Int32} {A A1 : xA} {B B1 : xB} {D : xD} (hl : laid A B A1 B1) (hT : mT A1 c r n m lf) : does0 mX8_attribute [.ref 76, .int i, .int a] A B D (mQ D (inR i (nI m)) (inR a 12) (some (.int (atV A1 B1 c r n m i.toNatClampNeg a.toNatClampNeg))) (updA A1 76 0 0) B1 A1 B1) nx := by
  refine does_go (by decide) rfl (Nat.le_of_ble_eq_true rfl) rfl ?_
  obtain ⟨hG, hm, hm0, hm64, hpa, -⟩ := hT
  refine xi_aload_n dX8_attribute_0 rfl rfl ?_
  refine xi_aload_n dX8_attribute_1 rfl rfl ?_
  refine xi_iload_n dX8_attribute_2 rfl rfl ?_
  refine cV1 (av := [_]) dX8_attribute_3 lX8_247 rfl ⟨rfl, rfl⟩ rfl ⟨(Nat.le_of_ble_eq_true rfl), (Nat.le_of_ble_eq_true rfl)⟩ ⟨(Nat.le_of_ble_eq_true rfl), (Nat.le_of_ble_eq_true rfl)⟩ (Nat.le_of_ble_eq_true rfl) g76 rfl rfl (m_isNode (hl.2.1 _) hm) ?_
  refine xi_ifne (tgt := 13) dX8_attribute_6 rfl (fun h6 => ?_) (fun h6 => ?_)
  · have hp0 := (wch (by omega)).mp h6
    obtain ⟨v, hv, rfl⟩ := inR_nI hp0 (by omega)
    refine xi_iload_n dX8_attribute_13 rfl rfl ?_
    refine xi_iconst (v := 0) dX8_attribute_14 (by decide) ?_
    refine xi_bipush (v := 11) dX8_attribute_15 (by decide) ?_
    refine cS1 (av := [_, _, _]) dX8_attribute_17 lX8_80 rfl ⟨rfl, rfl⟩ rfl ⟨(Nat.le_of_ble_eq_true rfl), (Nat.le_of_ble_eq_true rfl)⟩ ⟨(Nat.le_of_ble_eq_true rfl), (Nat.le_of_ble_eq_true rfl)⟩ (Nat.le_of_ble_eq_true rfl) (m_within) ?_
    refine xi_if_eq (tgt := 27) dX8_attribute_20 rfl (fun h20 => ?_) (fun h20 => ?_)
    · refine xi_iconst (v := 2) dX8_attribute_27 (by decide) ?_
      refine xi_putfield0 dX8_attribute_28 fX8_73 g76 pX8_73 ?_
      refine xi_aload_n dX8_attribute_31 rfl rfl ?_
      refine xi_getfield0 dX8_attribute_32 fX8_73 g76 ?_
      refine xi_if_le (tgt := 42) dX8_attribute_35 rfl (fun h => absurd h (show ¬ ((2 : Int32) ≤ 0) by decide)) (fun _ => ?_)
      refine xi_iconst (v := 0) dX8_attribute_38 (by decide) ?_
      refine xi_goto (tgt := 48) dX8_attribute_39 rfl ?_
      refine go_ret (r := some (.int _)) dX8_attribute_48 (Nat.le_of_ble_eq_true rfl) (Nat.le_of_ble_eq_true rfl) ?_
      exact ⟨rfl, Or.inr (Or.inr ⟨hp0, (nn_ wp12).mp h20, rfl, rfl, rfl⟩)⟩
    · have hp1 := wp12.mp h20
      obtain ⟨w, hw, rfl⟩ := inR_nI (n := 12) hp1 (by decide)
      refine xi_iconst (v := 0) dX8_attribute_23 (by decide) ?_
      refine xi_goto (tgt := 28) dX8_attribute_24 rfl ?_
      refine xi_putfield0 dX8_attribute_28 fX8_73 g76 pX8_73 ?_
      refine xi_aload_n dX8_attribute_31 rfl rfl ?_
      refine xi_getfield0 dX8_attribute_32 fX8_73 g76 ?_
      refine xi_if_le (tgt := 42) dX8_attribute_35 rfl (fun _ => ?_) (fun h => absurd h (show ¬ (¬ (0 : Int32) ≤ 0) by decide))
      refine xi_aload_n dX8_attribute_42 rfl rfl ?_
      refine xi_iload_n dX8_attribute_43 rfl rfl ?_
      refine xi_iload_n dX8_attribute_44 rfl rfl ?_
      refine cV1 (av := [_, _]) dX8_attribute_45 lX8_250 rfl ⟨rfl, rfl⟩ rfl ⟨(Nat.le_of_ble_eq_true rfl), (Nat.le_of_ble_eq_true rfl)⟩ ⟨(Nat.le_of_ble_eq_true rfl), (Nat.le_of_ble_eq_true rfl)⟩ (Nat.le_of_ble_eq_true rfl) g76 rfl rfl (m_attributeOf hv hw (A := updA A1 76 0 0) hG hm hm64) ?_
      refine go_ret (r := some (.int _)) dX8_attribute_48 (Nat.le_of_ble_eq_true rfl) (Nat.le_of_ble_eq_true rfl) ?_
      exact ⟨rfl, Or.inl ⟨hp0, hp1, by rw [nI_clamp (by omega), nI_clamp (by omega), atV_t], rfl, rfl⟩⟩
  · have hp0 := (wch0 (by omega)).mp h6
    refine xi_iconst (v := 1) dX8_attribute_9 (by decide) ?_
    refine xi_goto (tgt := 28) dX8_attribute_10 rfl ?_
    refine xi_putfield0 dX8_attribute_28 fX8_73 g76 pX8_73 ?_
    refine xi_aload_n dX8_attribute_31 rfl rfl ?_
    refine xi_getfield0 dX8_attribute_32 fX8_73 g76 ?_
    refine xi_if_le (tgt := 42) dX8_attribute_35 rfl (fun h => absurd h (show ¬ ((1 : Int32) ≤ 0) by decide)) (fun _ => ?_)
    refine xi_iconst (v := 0) dX8_attribute_38 (by decide) ?_
    refine xi_goto (tgt := 48) dX8_attribute_39 rfl ?_
    refine go_ret (r := some (.int _)) dX8_attribute_48 (Nat.le_of_ble_eq_true rfl) (Nat.le_of_ble_eq_true rfl) ?_
    exact ⟨rfl, Or.inr (Or.inl ⟨hp0, rfl, rfl, rfl⟩)⟩
abbrev mnV (A : xA) (B : xB) (n v : Nat) : UInt64 := FP.ddiv (FP.i2d (srV (B 84 v) (rkM A) n)) (FP.i2d (c1V (B 84 v) 64))
theorem m_meanRank {c r n m lf : Nat} {i : Int32} {A A1 : xA} {B B1 : xB} {D : xD} (hl : laid A B A1 B1) (hT : mT A1 c r n m lf) (har : ∀ v, v < m → vf_n64 (mnV A1 B1 n v)) : does0 mX8_meanRank [.ref 76, .int i] A B D (mQz (some (.double 0)) D (inR i (nI m)) True (some (.double (mnV A1 B1 n i.toNatClampNeg))) (updA A1 76 0 0) B1 A1 B1) nx := by
  refine does_go (by decide) rfl (Nat.le_of_ble_eq_true rfl) rfl ?_
  obtain ⟨hG, hm, hm0, hm64, hpa, -⟩ := hT
  obtain ⟨hn, hn0, hn64⟩ := hG.n
  refine xi_aload_n dX8_meanRank_0 rfl rfl ?_
  refine xi_aload_n dX8_meanRank_1 rfl rfl ?_
  refine xi_iload_n dX8_meanRank_2 rfl rfl ?_
  refine cV1 (av := [_]) dX8_meanRank_3 lX8_247 rfl ⟨rfl, rfl⟩ rfl ⟨(Nat.le_of_ble_eq_true rfl), (Nat.le_of_ble_eq_true rfl)⟩ ⟨(Nat.le_of_ble_eq_true rfl), (Nat.le_of_ble_eq_true rfl)⟩ (Nat.le_of_ble_eq_true rfl) g76 rfl rfl (m_isNode (hl.2.1 _) hm) ?_
  refine xi_if_eq (tgt := 13) dX8_meanRank_6 rfl (fun h6 => ?_) (fun h6 => ?_)
  · have hp0 := (wch0 (by omega)).mp h6
    refine xi_iconst (v := 1) dX8_meanRank_13 (by decide) ?_
    refine xi_putfield0 dX8_meanRank_14 fX8_73 g76 pX8_73 ?_
    refine xi_aload_n dX8_meanRank_17 rfl rfl ?_
    refine xi_getfield0 dX8_meanRank_18 fX8_73 g76 ?_
    refine xi_if_le (tgt := 28) dX8_meanRank_21 rfl (fun h => absurd h (show ¬ ((1 : Int32) ≤ 0) by decide)) (fun _ => ?_)
    refine xi_dconst0 dX8_meanRank_24 ?_
    refine xi_goto (tgt := 45) dX8_meanRank_25 rfl ?_
    refine go_ret (r := some (.double _)) dX8_meanRank_45 (Nat.le_of_ble_eq_true rfl) (Nat.le_of_ble_eq_true rfl) ?_
    exact ⟨rfl, Or.inr (Or.inl ⟨hp0, rfl, rfl, rfl⟩)⟩
  · have hp0 := (wch (by omega)).mp h6
    obtain ⟨v, hv, rfl⟩ := inR_nI hp0 (by omega)
    refine xi_iconst (v := 0) dX8_meanRank_9 (by decide) ?_
    refine xi_goto (tgt := 14) dX8_meanRank_10 rfl ?_
    refine xi_putfield0 dX8_meanRank_14 fX8_73 g76 pX8_73 ?_
    refine xi_aload_n dX8_meanRank_17 rfl rfl ?_
    refine xi_getfield0 dX8_meanRank_18 fX8_73 g76 ?_
    refine xi_if_le (tgt := 28) dX8_meanRank_21 rfl (fun _ => ?_) (fun h => absurd h (show ¬ (¬ (0 : Int32) ≤ 0) by decide))
    refine xi_aload_n dX8_meanRank_28 rfl rfl ?_
    refine xi_iload_n dX8_meanRank_29 rfl rfl ?_
    refine cV1 (av := [_]) dX8_meanRank_30 lX8_231 rfl ⟨rfl, rfl⟩ rfl ⟨(Nat.le_of_ble_eq_true rfl), (Nat.le_of_ble_eq_true rfl)⟩ ⟨(Nat.le_of_ble_eq_true rfl), (Nat.le_of_ble_eq_true rfl)⟩ (Nat.le_of_ble_eq_true rfl) g76 rfl rfl (m_sumOfRanks (A := updA A1 76 0 0) (by omega) hn hn64) ?_
    refine xi_i2d dX8_meanRank_33 ?_
    refine xi_aload_n dX8_meanRank_34 rfl rfl ?_
    refine xi_getfield3 dX8_meanRank_35 fX8_38 g76 r76_20 ?_
    refine xi_iload_n dX8_meanRank_38 rfl rfl ?_
    refine la dX8_meanRank_39 g84 s84 rfl (by omega) (Nat.le_of_ble_eq_true rfl) ?_
    refine cS1 (av := [_]) dX8_meanRank_40 lX8_202 rfl ⟨rfl, rfl⟩ rfl ⟨(Nat.le_of_ble_eq_true rfl), (Nat.le_of_ble_eq_true rfl)⟩ ⟨(Nat.le_of_ble_eq_true rfl), (Nat.le_of_ble_eq_true rfl)⟩ (Nat.le_of_ble_eq_true rfl) (m_count1) ?_
    refine xi_i2d dX8_meanRank_43 ?_
    refine xi_ddiv dX8_meanRank_44 (har v hv) ?_
    refine go_ret (r := some (.double _)) dX8_meanRank_45 (Nat.le_of_ble_eq_true rfl) (Nat.le_of_ble_eq_true rfl) ?_
    exact ⟨rfl, Or.inl ⟨hp0, trivial, by rw [nI_clamp (by omega)]; rfl, rfl, rfl⟩⟩
theorem m_contains {c r n m lf : Nat} {i j : Int32} {A A1 : xA} {B B1 : xB} {D : xD} (hl : laid A B A1 B1) (hT : mT A1 c r n m lf) : does0 mX8_contains [.ref 76, .int i, .int j] A B D (mQ D (inR i (nI m) ∧ inR j (nI n)) True (some (.int (hasM (B1 84 i.toNatClampNeg) j))) (updA A1 76 0 0) B1 A1 B1) nx := by
  refine does_go (by decide) rfl (Nat.le_of_ble_eq_true rfl) rfl ?_
  obtain ⟨hG, hm, hm0, hm64, hpa, -⟩ := hT
  obtain ⟨hn, hn0, hn64⟩ := hG.n
  refine xi_aload_n dX8_contains_0 rfl rfl ?_
  refine xi_aload_n dX8_contains_1 rfl rfl ?_
  refine xi_iload_n dX8_contains_2 rfl rfl ?_
  refine cV1 (av := [_]) dX8_contains_3 lX8_247 rfl ⟨rfl, rfl⟩ rfl ⟨(Nat.le_of_ble_eq_true rfl), (Nat.le_of_ble_eq_true rfl)⟩ ⟨(Nat.le_of_ble_eq_true rfl), (Nat.le_of_ble_eq_true rfl)⟩ (Nat.le_of_ble_eq_true rfl) g76 rfl rfl (m_isNode (hl.2.1 _) hm) ?_
  refine xi_if_eq (tgt := 21) dX8_contains_6 rfl (fun h6 => ?_) (fun h6 => ?_)
  · have hp0 := (wch0 (by omega)).mp h6
    refine xi_iconst (v := 1) dX8_contains_21 (by decide) ?_
    refine xi_putfield0 dX8_contains_22 fX8_73 g76 pX8_73 ?_
    refine xi_aload_n dX8_contains_25 rfl rfl ?_
    refine xi_getfield0 dX8_contains_26 fX8_73 g76 ?_
    refine xi_ifne (tgt := 49) dX8_contains_29 rfl (fun _ => ?_) (fun h => absurd h (show ¬ ((1 : Int32) = 0) by decide))
    refine xi_iconst (v := 0) dX8_contains_49 (by decide) ?_
    refine go_ret (r := some (.int _)) ⟨dX8_contains_50, (by first | exact Or.inl rfl | exact Or.inr rfl)⟩ (Nat.le_of_ble_eq_true rfl) (Nat.le_of_ble_eq_true rfl) ?_
    exact ⟨rfl, Or.inr (Or.inl ⟨fun z => hp0 z.1, rfl, rfl, rfl⟩)⟩
  · have hp0 := (wch (by omega)).mp h6
    obtain ⟨v, hv, rfl⟩ := inR_nI hp0 (by omega)
    refine xi_aload_n dX8_contains_9 rfl rfl ?_
    refine xi_iload_n dX8_contains_10 rfl rfl ?_
    refine cV1 (av := [_]) dX8_contains_11 lX8_106 rfl ⟨rfl, rfl⟩ rfl ⟨(Nat.le_of_ble_eq_true rfl), (Nat.le_of_ble_eq_true rfl)⟩ ⟨(Nat.le_of_ble_eq_true rfl), (Nat.le_of_ble_eq_true rfl)⟩ (Nat.le_of_ble_eq_true rfl) g76 rfl rfl (m_isPixel) ?_
    rw [hn]
    refine xi_if_eq (tgt := 21) dX8_contains_14 rfl (fun h14 => ?_) (fun h14 => ?_)
    · have hp1 := (wch0 (by omega)).mp h14
      refine xi_iconst (v := 1) dX8_contains_21 (by decide) ?_
      refine xi_putfield0 dX8_contains_22 fX8_73 g76 pX8_73 ?_
      refine xi_aload_n dX8_contains_25 rfl rfl ?_
      refine xi_getfield0 dX8_contains_26 fX8_73 g76 ?_
      refine xi_ifne (tgt := 49) dX8_contains_29 rfl (fun _ => ?_) (fun h => absurd h (show ¬ ((1 : Int32) = 0) by decide))
      refine xi_iconst (v := 0) dX8_contains_49 (by decide) ?_
      refine go_ret (r := some (.int _)) ⟨dX8_contains_50, (by first | exact Or.inl rfl | exact Or.inr rfl)⟩ (Nat.le_of_ble_eq_true rfl) (Nat.le_of_ble_eq_true rfl) ?_
      exact ⟨rfl, Or.inr (Or.inl ⟨fun z => hp1 z.2, rfl, rfl, rfl⟩)⟩
    · have hp1 := (wch (by omega)).mp h14
      refine xi_iconst (v := 0) dX8_contains_17 (by decide) ?_
      refine xi_goto (tgt := 22) dX8_contains_18 rfl ?_
      refine xi_putfield0 dX8_contains_22 fX8_73 g76 pX8_73 ?_
      refine xi_aload_n dX8_contains_25 rfl rfl ?_
      refine xi_getfield0 dX8_contains_26 fX8_73 g76 ?_
      refine xi_ifne (tgt := 49) dX8_contains_29 rfl (fun h => absurd h (show ¬ (¬ (0 : Int32) = 0) by decide)) (fun _ => ?_)
      refine xi_aload_n dX8_contains_32 rfl rfl ?_
      refine xi_getfield3 dX8_contains_33 fX8_38 g76 r76_20 ?_
      refine xi_iload_n dX8_contains_36 rfl rfl ?_
      refine la dX8_contains_37 g84 s84 rfl (by omega) (Nat.le_of_ble_eq_true rfl) ?_
      refine xi_iload_n dX8_contains_38 rfl rfl ?_
      refine cS1 (av := [_, _]) dX8_contains_39 lX8_151 rfl ⟨rfl, rfl⟩ rfl ⟨(Nat.le_of_ble_eq_true rfl), (Nat.le_of_ble_eq_true rfl)⟩ ⟨(Nat.le_of_ble_eq_true rfl), (Nat.le_of_ble_eq_true rfl)⟩ (Nat.le_of_ble_eq_true rfl) (m_has) ?_
      refine xi_if_eq (tgt := 49) dX8_contains_42 rfl (fun h42 => ?_) (fun h42 => ?_)
      · refine xi_iconst (v := 0) dX8_contains_49 (by decide) ?_
        refine go_ret (r := some (.int _)) ⟨dX8_contains_50, (by first | exact Or.inl rfl | exact Or.inr rfl)⟩ (Nat.le_of_ble_eq_true rfl) (Nat.le_of_ble_eq_true rfl) ?_
        exact ⟨rfl, Or.inl ⟨⟨hp0, hp1⟩, trivial, by rw [nI_clamp (by omega), h42], rfl, rfl⟩⟩
      · refine xi_iconst (v := 1) dX8_contains_45 (by decide) ?_
        refine xi_goto (tgt := 50) dX8_contains_46 rfl ?_
        refine go_ret (r := some (.int _)) ⟨dX8_contains_50, (by first | exact Or.inl rfl | exact Or.inr rfl)⟩ (Nat.le_of_ble_eq_true rfl) (Nat.le_of_ble_eq_true rfl) ?_
        exact ⟨rfl, Or.inl ⟨⟨hp0, hp1⟩, trivial, by rw [nI_clamp (by omega)]; unfold hasM at h42 ⊢; split at h42 <;> simp_all, rfl, rfl⟩⟩
def chS (pa : Nat → Int32) (x : Int32) (k : Nat) (q : Int32 × Int32) : Int32 × Int32 := if pa k = x then (if q.2 = 0 then nI k else q.1, q.2 + (-1)) else q
theorem m_child {c r n m lf : Nat} {i j : Int32} {A A1 : xA} {B B1 : xB} {D : xD} (hl : laid A B A1 B1) (hT : mT A1 c r n m lf) : does0 mX8_child [.ref 76, .int i, .int j] A B D (mQ D (inR i (nI m) ∧ inR j (A1 87 i.toNatClampNeg)) True (some (.int (itr (chS (A1 86) i) m (-1, j)).1)) (updA A1 76 0 0) B1 A1 B1) nx := by
  refine does_go (by decide) rfl (Nat.le_of_ble_eq_true rfl) rfl ?_
  obtain ⟨hG, hm, hm0, hm64, hpa, -, -, hch, -⟩ := hT
  have loop : inR i (nI m) ∧ inR j (A1 87 i.toNatClampNeg) → ∀ k, k ≤ m → ∀ f l, (f, l) = itr (chS (A1 86) i) k (-1, j) → go0 mX8_child (mQ D (inR i (nI m) ∧ inR j (A1 87 i.toNatClampNeg)) True (some (.int (itr (chS (A1 86) i) m (-1, j)).1)) (updA A1 76 0 0) B1 A1 B1) nx 0 0 50 [(0, .ref 76), (1, .int i), (3, .int f), (4, .int l), (5, .int (nI k))] [] (updA A1 76 0 0) B1 D := by
    intro hcd
    refine up_ind (fun k hk ih f l hq => ?_)
    refine xi_iload dX8_child_50 rfl ?_
    refine xi_aload_n dX8_child_52 rfl rfl ?_
    refine xi_getfield0 dX8_child_53 fX8_116 g76 ?_
    rw [show updA A1 76 0 0 76 19 = nI m from hm]
    refine xi_icmp_ge (tgt := 91) dX8_child_56 rfl (fun h56 => ?_) (fun h56 => ?_)
    · have e : k = m := ge_eq hk (by omega) h56
      subst e
      refine xi_iload_n dX8_child_91 rfl rfl ?_
      refine go_ret (r := some (.int _)) dX8_child_92 (Nat.le_of_ble_eq_true rfl) (Nat.le_of_ble_eq_true rfl) ?_
      exact ⟨rfl, Or.inl ⟨hcd, trivial, by rw [← hq], rfl, rfl⟩⟩
    · have hkl : k < m := nge_lt hk (by omega) h56
      have ih1 := ih hkl
      rw [itr_s, ← hq] at ih1
      unfold chS at ih1
      refine xi_aload_n dX8_child_59 rfl rfl ?_
      refine xi_getfield3 dX8_child_60 fX8_45 g76 r76_22 ?_
      refine xi_iload dX8_child_63 rfl ?_
      refine ia dX8_child_65 g86 s86 rfl (by omega) (Nat.le_of_ble_eq_true rfl) ?_
      refine xi_iload_n dX8_child_66 rfl rfl ?_
      refine xi_icmpne (tgt := 85) dX8_child_67 rfl (fun h67 => ?_) (fun h67 => ?_)
      · refine xi_iinc (v := 1) dX8_child_85 rfl (by decide) (Nat.le_of_ble_eq_true rfl) ?_
        refine xi_goto (tgt := 50) dX8_child_88 rfl ?_
        refine xgo_pick [0, 1, 3, 4, 5] rfl ?_
        rw [nI_1]
        exact ih1 f l (by rw [if_neg (show ¬ A1 86 k = i from h67)])
      · refine xi_iload dX8_child_70 rfl ?_
        refine xi_ifne (tgt := 80) dX8_child_72 rfl (fun h72 => ?_) (fun h72 => ?_)
        · refine xi_iload_n dX8_child_80 rfl rfl ?_
          refine xi_istore_n dX8_child_81 rfl (Nat.le_of_ble_eq_true rfl) ?_
          refine xi_iinc (v := (-1)) dX8_child_82 rfl (by decide) (Nat.le_of_ble_eq_true rfl) ?_
          refine xi_iinc (v := 1) dX8_child_85 rfl (by decide) (Nat.le_of_ble_eq_true rfl) ?_
          refine xi_goto (tgt := 50) dX8_child_88 rfl ?_
          refine xgo_pick [0, 1, 3, 4, 5] rfl ?_
          rw [nI_1]
          exact ih1 f (l + (-1)) (by rw [if_pos (show A1 86 k = i from h67), if_neg h72])
        · refine xi_iload dX8_child_75 rfl ?_
          refine xi_goto (tgt := 81) dX8_child_77 rfl ?_
          refine xi_istore_n dX8_child_81 rfl (Nat.le_of_ble_eq_true rfl) ?_
          refine xi_iinc (v := (-1)) dX8_child_82 rfl (by decide) (Nat.le_of_ble_eq_true rfl) ?_
          refine xi_iinc (v := 1) dX8_child_85 rfl (by decide) (Nat.le_of_ble_eq_true rfl) ?_
          refine xi_goto (tgt := 50) dX8_child_88 rfl ?_
          refine xgo_pick [0, 1, 3, 4, 5] rfl ?_
          rw [nI_1]
          exact ih1 (nI k) (l + (-1)) (by rw [if_pos (show A1 86 k = i from h67), if_pos h72])
  refine xi_aload_n dX8_child_0 rfl rfl ?_
  refine xi_aload_n dX8_child_1 rfl rfl ?_
  refine xi_iload_n dX8_child_2 rfl rfl ?_
  refine cV1 (av := [_]) dX8_child_3 lX8_247 rfl ⟨rfl, rfl⟩ rfl ⟨(Nat.le_of_ble_eq_true rfl), (Nat.le_of_ble_eq_true rfl)⟩ ⟨(Nat.le_of_ble_eq_true rfl), (Nat.le_of_ble_eq_true rfl)⟩ (Nat.le_of_ble_eq_true rfl) g76 rfl rfl (m_isNode (hl.2.1 _) hm) ?_
  refine xi_if_eq (tgt := 29) dX8_child_6 rfl (fun h6 => ?_) (fun h6 => ?_)
  · have hp0 := (wch0 (by omega)).mp h6
    refine xi_iconst (v := 1) dX8_child_29 (by decide) ?_
    refine xi_putfield0 dX8_child_30 fX8_73 g76 pX8_73 ?_
    refine xi_aload_n dX8_child_33 rfl rfl ?_
    refine xi_getfield0 dX8_child_34 fX8_73 g76 ?_
    refine xi_if_le (tgt := 42) dX8_child_37 rfl (fun h => absurd h (show ¬ ((1 : Int32) ≤ 0) by decide)) (fun _ => ?_)
    refine xi_iconst (v := 0) dX8_child_40 (by decide) ?_
    refine go_ret (r := some (.int _)) dX8_child_41 (Nat.le_of_ble_eq_true rfl) (Nat.le_of_ble_eq_true rfl) ?_
    exact ⟨rfl, Or.inr (Or.inl ⟨fun z => hp0 z.1, rfl, rfl, rfl⟩)⟩
  · have hp0 := (wch (by omega)).mp h6
    obtain ⟨v, hv, rfl⟩ := inR_nI hp0 (by omega)
    obtain ⟨kc, hkc, ekc⟩ := hch v hv
    refine xi_iload_n dX8_child_9 rfl rfl ?_
    refine xi_iconst (v := 0) dX8_child_10 (by decide) ?_
    refine xi_aload_n dX8_child_11 rfl rfl ?_
    refine xi_getfield3 dX8_child_12 fX8_48 g76 r76_23 ?_
    refine xi_iload_n dX8_child_15 rfl rfl ?_
    refine ia dX8_child_16 g87 s87 rfl (by omega) (Nat.le_of_ble_eq_true rfl) ?_
    rw [ekc]
    refine xi_iconst (v := 1) dX8_child_17 (by decide) ?_
    refine xi_isub dX8_child_18 ?_
    refine cS1 (av := [_, _, _]) dX8_child_19 lX8_80 rfl ⟨rfl, rfl⟩ rfl ⟨(Nat.le_of_ble_eq_true rfl), (Nat.le_of_ble_eq_true rfl)⟩ ⟨(Nat.le_of_ble_eq_true rfl), (Nat.le_of_ble_eq_true rfl)⟩ (Nat.le_of_ble_eq_true rfl) (m_within) ?_
    refine xi_if_eq (tgt := 29) dX8_child_22 rfl (fun h22 => ?_) (fun h22 => ?_)
    · have hp1 := (wch0 (by omega)).mp h22
      refine xi_iconst (v := 1) dX8_child_29 (by decide) ?_
      refine xi_putfield0 dX8_child_30 fX8_73 g76 pX8_73 ?_
      refine xi_aload_n dX8_child_33 rfl rfl ?_
      refine xi_getfield0 dX8_child_34 fX8_73 g76 ?_
      refine xi_if_le (tgt := 42) dX8_child_37 rfl (fun h => absurd h (show ¬ ((1 : Int32) ≤ 0) by decide)) (fun _ => ?_)
      refine xi_iconst (v := 0) dX8_child_40 (by decide) ?_
      refine go_ret (r := some (.int _)) dX8_child_41 (Nat.le_of_ble_eq_true rfl) (Nat.le_of_ble_eq_true rfl) ?_
      exact ⟨rfl, Or.inr (Or.inl ⟨fun z => hp1 (by have := z.2; rwa [nI_clamp (by omega), ekc] at this), rfl, rfl, rfl⟩)⟩
    · have hp1 := (wch (by omega)).mp h22
      refine xi_iconst (v := 0) dX8_child_25 (by decide) ?_
      refine xi_goto (tgt := 30) dX8_child_26 rfl ?_
      refine xi_putfield0 dX8_child_30 fX8_73 g76 pX8_73 ?_
      refine xi_aload_n dX8_child_33 rfl rfl ?_
      refine xi_getfield0 dX8_child_34 fX8_73 g76 ?_
      refine xi_if_le (tgt := 42) dX8_child_37 rfl (fun _ => ?_) (fun h => absurd h (show ¬ (¬ (0 : Int32) ≤ 0) by decide))
      refine xi_iconst (v := (-1)) dX8_child_42 (by decide) ?_
      refine xi_istore_n dX8_child_43 rfl (Nat.le_of_ble_eq_true rfl) ?_
      refine xi_iload_n dX8_child_44 rfl rfl ?_
      refine xi_istore dX8_child_45 (Nat.le_of_ble_eq_true rfl) ?_
      refine xi_iconst (v := 0) dX8_child_47 (by decide) ?_
      refine xi_istore dX8_child_48 (Nat.le_of_ble_eq_true rfl) ?_
      refine xgo_pick [0, 1, 3, 4, 5] rfl ?_
      exact loop ⟨hp0, by rw [nI_clamp (by omega), ekc]; exact hp1⟩ 0 (Nat.zero_le _) (-1) j rfl
theorem m_leaf {c r n m lf : Nat} {i : Int32} {A A1 : xA} {B B1 : xB} {D : xD} (hl : laid A B A1 B1) (hT : mT A1 c r n m lf) : does0 mX8_leaf [.ref 76, .int i] A B D (mQ D (inR i (nI lf)) True (some (.int (A1 90 i.toNatClampNeg))) (updA A1 76 0 0) B1 A1 B1) nx := by
  refine does_go (by decide) rfl (Nat.le_of_ble_eq_true rfl) rfl ?_
  obtain ⟨hG, hm, hm0, hm64, hpa, hlf, hlf64, -⟩ := hT
  refine xi_aload_n dX8_leaf_0 rfl rfl ?_
  refine cV1 (av := []) dX8_leaf_1 lX8_113 rfl ⟨rfl, rfl⟩ rfl ⟨(Nat.le_of_ble_eq_true rfl), (Nat.le_of_ble_eq_true rfl)⟩ ⟨(Nat.le_of_ble_eq_true rfl), (Nat.le_of_ble_eq_true rfl)⟩ (Nat.le_of_ble_eq_true rfl) g76 rfl rfl (hl.2.1 _) ?_
  refine xi_aload_n dX8_leaf_4 rfl rfl ?_
  refine xi_iload_n dX8_leaf_5 rfl rfl ?_
  refine xi_iconst (v := 0) dX8_leaf_6 (by decide) ?_
  refine xi_aload_n dX8_leaf_7 rfl rfl ?_
  refine xi_getfield0 dX8_leaf_8 fX8_190 g76 ?_
  rw [hlf]
  refine xi_iconst (v := 1) dX8_leaf_11 (by decide) ?_
  refine xi_isub dX8_leaf_12 ?_
  refine cS1 (av := [_, _, _]) dX8_leaf_13 lX8_80 rfl ⟨rfl, rfl⟩ rfl ⟨(Nat.le_of_ble_eq_true rfl), (Nat.le_of_ble_eq_true rfl)⟩ ⟨(Nat.le_of_ble_eq_true rfl), (Nat.le_of_ble_eq_true rfl)⟩ (Nat.le_of_ble_eq_true rfl) (m_within) ?_
  refine xi_if_eq (tgt := 23) dX8_leaf_16 rfl (fun h16 => ?_) (fun h16 => ?_)
  · have hp0 := (wch0 (by omega)).mp h16
    refine xi_iconst (v := 1) dX8_leaf_23 (by decide) ?_
    refine xi_putfield0 dX8_leaf_24 fX8_73 g76 pX8_73 ?_
    refine xi_aload_n dX8_leaf_27 rfl rfl ?_
    refine xi_getfield0 dX8_leaf_28 fX8_73 g76 ?_
    refine xi_if_le (tgt := 38) dX8_leaf_31 rfl (fun h => absurd h (show ¬ ((1 : Int32) ≤ 0) by decide)) (fun _ => ?_)
    refine xi_iconst (v := 0) dX8_leaf_34 (by decide) ?_
    refine xi_goto (tgt := 44) dX8_leaf_35 rfl ?_
    refine go_ret (r := some (.int _)) dX8_leaf_44 (Nat.le_of_ble_eq_true rfl) (Nat.le_of_ble_eq_true rfl) ?_
    exact ⟨rfl, Or.inr (Or.inl ⟨hp0, rfl, rfl, rfl⟩)⟩
  · have hp0 := (wch (by omega)).mp h16
    obtain ⟨v, hv, rfl⟩ := inR_nI hp0 (by omega)
    refine xi_iconst (v := 0) dX8_leaf_19 (by decide) ?_
    refine xi_goto (tgt := 24) dX8_leaf_20 rfl ?_
    refine xi_putfield0 dX8_leaf_24 fX8_73 g76 pX8_73 ?_
    refine xi_aload_n dX8_leaf_27 rfl rfl ?_
    refine xi_getfield0 dX8_leaf_28 fX8_73 g76 ?_
    refine xi_if_le (tgt := 38) dX8_leaf_31 rfl (fun _ => ?_) (fun h => absurd h (show ¬ (¬ (0 : Int32) ≤ 0) by decide))
    refine xi_aload_n dX8_leaf_38 rfl rfl ?_
    refine xi_getfield3 dX8_leaf_39 fX8_57 g76 r76_27 ?_
    refine xi_iload_n dX8_leaf_42 rfl rfl ?_
    refine ia dX8_leaf_43 g90 s90 rfl (by omega) (Nat.le_of_ble_eq_true rfl) ?_
    refine go_ret (r := some (.int _)) dX8_leaf_44 (Nat.le_of_ble_eq_true rfl) (Nat.le_of_ble_eq_true rfl) ?_
    exact ⟨rfl, Or.inl ⟨hp0, trivial, by rw [nI_clamp (by omega)]; rfl, rfl, rfl⟩⟩
theorem m_prominence {c r n m lf : Nat} {i : Int32} {A A1 : xA} {B B1 : xB} {D : xD} (hl : laid A B A1 B1) (hT : mT A1 c r n m lf) : does0 mX8_prominence [.ref 76, .int i] A B D (mQ D (inR i (nI m)) (A1 87 i.toNatClampNeg = 0) (some (.int (A1 89 i.toNatClampNeg))) (updA A1 76 0 0) B1 A1 B1) nx := by
  refine does_go (by decide) rfl (Nat.le_of_ble_eq_true rfl) rfl ?_
  obtain ⟨hG, hm, hm0, hm64, hpa, -⟩ := hT
  refine xi_aload_n dX8_prominence_0 rfl rfl ?_
  refine xi_aload_n dX8_prominence_1 rfl rfl ?_
  refine xi_iload_n dX8_prominence_2 rfl rfl ?_
  refine cV1 (av := [_]) dX8_prominence_3 lX8_247 rfl ⟨rfl, rfl⟩ rfl ⟨(Nat.le_of_ble_eq_true rfl), (Nat.le_of_ble_eq_true rfl)⟩ ⟨(Nat.le_of_ble_eq_true rfl), (Nat.le_of_ble_eq_true rfl)⟩ (Nat.le_of_ble_eq_true rfl) g76 rfl rfl (m_isNode (hl.2.1 _) hm) ?_
  refine xi_ifne (tgt := 13) dX8_prominence_6 rfl (fun h6 => ?_) (fun h6 => ?_)
  · have hp0 := (wch (by omega)).mp h6
    obtain ⟨v, hv, rfl⟩ := inR_nI hp0 (by omega)
    refine xi_aload_n dX8_prominence_13 rfl rfl ?_
    refine xi_iload_n dX8_prominence_14 rfl rfl ?_
    refine cV1 (av := [_]) dX8_prominence_15 lX8_184 rfl ⟨rfl, rfl⟩ rfl ⟨(Nat.le_of_ble_eq_true rfl), (Nat.le_of_ble_eq_true rfl)⟩ ⟨(Nat.le_of_ble_eq_true rfl), (Nat.le_of_ble_eq_true rfl)⟩ (Nat.le_of_ble_eq_true rfl) g76 rfl rfl (m_isLeaf (by omega)) ?_
    refine xi_if_eq (tgt := 25) dX8_prominence_18 rfl (fun h18 => ?_) (fun h18 => ?_)
    · refine xi_iconst (v := 2) dX8_prominence_25 (by decide) ?_
      refine xi_putfield0 dX8_prominence_26 fX8_73 g76 pX8_73 ?_
      refine xi_aload_n dX8_prominence_29 rfl rfl ?_
      refine xi_getfield0 dX8_prominence_30 fX8_73 g76 ?_
      refine xi_if_le (tgt := 40) dX8_prominence_33 rfl (fun h => absurd h (show ¬ ((2 : Int32) ≤ 0) by decide)) (fun _ => ?_)
      refine xi_iconst (v := 0) dX8_prominence_36 (by decide) ?_
      refine xi_goto (tgt := 46) dX8_prominence_37 rfl ?_
      refine go_ret (r := some (.int _)) dX8_prominence_46 (Nat.le_of_ble_eq_true rfl) (Nat.le_of_ble_eq_true rfl) ?_
      exact ⟨rfl, Or.inr (Or.inr ⟨hp0, fun z => by rw [nI_clamp (by omega)] at z; unfold lfV at h18; rw [if_pos z] at h18; exact absurd h18 (by decide), rfl, rfl, rfl⟩)⟩
    · refine xi_iconst (v := 0) dX8_prominence_21 (by decide) ?_
      refine xi_goto (tgt := 26) dX8_prominence_22 rfl ?_
      refine xi_putfield0 dX8_prominence_26 fX8_73 g76 pX8_73 ?_
      refine xi_aload_n dX8_prominence_29 rfl rfl ?_
      refine xi_getfield0 dX8_prominence_30 fX8_73 g76 ?_
      refine xi_if_le (tgt := 40) dX8_prominence_33 rfl (fun _ => ?_) (fun h => absurd h (show ¬ (¬ (0 : Int32) ≤ 0) by decide))
      refine xi_aload_n dX8_prominence_40 rfl rfl ?_
      refine xi_getfield3 dX8_prominence_41 fX8_54 g76 r76_25 ?_
      refine xi_iload_n dX8_prominence_44 rfl rfl ?_
      refine ia dX8_prominence_45 g89 s89 rfl (by omega) (Nat.le_of_ble_eq_true rfl) ?_
      refine go_ret (r := some (.int _)) dX8_prominence_46 (Nat.le_of_ble_eq_true rfl) (Nat.le_of_ble_eq_true rfl) ?_
      exact ⟨rfl, Or.inl ⟨hp0, Classical.not_not.mp (fun z => by rw [nI_clamp (by omega)] at z; exact h18 (if_neg z)), by rw [nI_clamp (by omega)]; rfl, rfl, rfl⟩⟩
  · have hp0 := (wch0 (by omega)).mp h6
    refine xi_iconst (v := 1) dX8_prominence_9 (by decide) ?_
    refine xi_goto (tgt := 26) dX8_prominence_10 rfl ?_
    refine xi_putfield0 dX8_prominence_26 fX8_73 g76 pX8_73 ?_
    refine xi_aload_n dX8_prominence_29 rfl rfl ?_
    refine xi_getfield0 dX8_prominence_30 fX8_73 g76 ?_
    refine xi_if_le (tgt := 40) dX8_prominence_33 rfl (fun h => absurd h (show ¬ ((1 : Int32) ≤ 0) by decide)) (fun _ => ?_)
    refine xi_iconst (v := 0) dX8_prominence_36 (by decide) ?_
    refine xi_goto (tgt := 46) dX8_prominence_37 rfl ?_
    refine go_ret (r := some (.int _)) dX8_prominence_46 (Nat.le_of_ble_eq_true rfl) (Nat.le_of_ble_eq_true rfl) ?_
    exact ⟨rfl, Or.inr (Or.inl ⟨hp0, rfl, rfl, rfl⟩)⟩
def cfV (rk : Nat → Int32) (se : Nat → Int64) (x t : Int32) : Nat → Int32 → Int32
  | 0, y => y
  | k + 1, y => cfV rk se x t k (if rk k < t then y else if hasM (se k) x = 0 then y else nI k)
theorem m_componentOf {m : Nat} {x t : Int32} {A : xA} {B : xB} {D : xD} (hm : A 76 19 = nI m) (hm64 : m ≤ 64) : does0 mX8_componentOf [.ref 76, .int x, .int t] A B D (eqQ (some (.int (cfV (A 85) (B 84) x t m (-1)))) A B D) nx := by
  refine does_go (by decide) rfl (Nat.le_of_ble_eq_true rfl) rfl ?_
  generalize hR : cfV (A 85) (B 84) x t m (-1) = R
  have loop := dn_ind (P := fun k => k ≤ m → ∀ y, cfV (A 85) (B 84) x t k y = R → go0 mX8_componentOf (eqQ (some (.int R)) A B D) nx 0 0 10 [(0, .ref 76), (1, .int x), (2, .int t), (3, .int y), (4, .int (nI k - 1))] [] A B D) (fun k ih hk y hy => by
    rcases Nat.eq_zero_or_pos k with e | e
    · subst e
      refine xi_iload dX8_componentOf_10 rfl ?_
      refine xi_if_lt (tgt := 53) dX8_componentOf_12 rfl (fun h12 => ?_) (fun h12 => ?_)
      · refine xi_iload_n dX8_componentOf_53 rfl rfl ?_
        refine go_ret (r := some (.int _)) dX8_componentOf_54 (Nat.le_of_ble_eq_true rfl) (Nat.le_of_ble_eq_true rfl) ?_
        exact ⟨by rw [← hy]; rfl, rfl, rfl, rfl⟩
      · exact absurd (show nI 0 - 1 < 0 by decide) h12
    · obtain ⟨u, rfl⟩ : ∃ u, k = u + 1 := ⟨k - 1, by omega⟩
      rw [nI_pred]
      unfold cfV at hy
      refine xi_iload dX8_componentOf_10 rfl ?_
      refine xi_if_lt (tgt := 53) dX8_componentOf_12 rfl (fun h12 => ?_) (fun h12 => ?_)
      · exact absurd h12 (nI_pos (by omega))
      · refine xi_aload_n dX8_componentOf_15 rfl rfl ?_
        refine xi_getfield3 dX8_componentOf_16 fX8_42 g76 r76_21 ?_
        refine xi_iload dX8_componentOf_19 rfl ?_
        refine ia dX8_componentOf_21 g85 s85 rfl (by omega) (Nat.le_of_ble_eq_true rfl) ?_
        refine xi_iload_n dX8_componentOf_22 rfl rfl ?_
        refine xi_icmp_lt (tgt := 45) dX8_componentOf_23 rfl (fun h23 => ?_) (fun h23 => ?_)
        · refine xi_iload_n dX8_componentOf_45 rfl rfl ?_
          refine xi_istore_n dX8_componentOf_46 rfl (Nat.le_of_ble_eq_true rfl) ?_
          refine xi_iinc (v := (-1)) dX8_componentOf_47 rfl (by decide) (Nat.le_of_ble_eq_true rfl) ?_
          refine xi_goto (tgt := 10) dX8_componentOf_50 rfl ?_
          refine xgo_pick [0, 1, 2, 3, 4] rfl ?_
          rw [if_pos h23] at hy
          rw [← Int32.sub_eq_add_neg]
          exact ih u rfl (by omega) _ hy
        · refine xi_aload_n dX8_componentOf_26 rfl rfl ?_
          refine xi_getfield3 dX8_componentOf_27 fX8_38 g76 r76_20 ?_
          refine xi_iload dX8_componentOf_30 rfl ?_
          refine la dX8_componentOf_32 g84 s84 rfl (by omega) (Nat.le_of_ble_eq_true rfl) ?_
          refine xi_iload_n dX8_componentOf_33 rfl rfl ?_
          refine cS1 (av := [_, _]) dX8_componentOf_34 lX8_151 rfl ⟨rfl, rfl⟩ rfl ⟨(Nat.le_of_ble_eq_true rfl), (Nat.le_of_ble_eq_true rfl)⟩ ⟨(Nat.le_of_ble_eq_true rfl), (Nat.le_of_ble_eq_true rfl)⟩ (Nat.le_of_ble_eq_true rfl) (m_has) ?_
          refine xi_if_eq (tgt := 45) dX8_componentOf_37 rfl (fun h37 => ?_) (fun h37 => ?_)
          · refine xi_iload_n dX8_componentOf_45 rfl rfl ?_
            refine xi_istore_n dX8_componentOf_46 rfl (Nat.le_of_ble_eq_true rfl) ?_
            refine xi_iinc (v := (-1)) dX8_componentOf_47 rfl (by decide) (Nat.le_of_ble_eq_true rfl) ?_
            refine xi_goto (tgt := 10) dX8_componentOf_50 rfl ?_
            refine xgo_pick [0, 1, 2, 3, 4] rfl ?_
            rw [if_neg h23, if_pos h37] at hy
            rw [← Int32.sub_eq_add_neg]
            exact ih u rfl (by omega) _ hy
          · refine xi_iload dX8_componentOf_40 rfl ?_
            refine xi_goto (tgt := 46) dX8_componentOf_42 rfl ?_
            refine xi_istore_n dX8_componentOf_46 rfl (Nat.le_of_ble_eq_true rfl) ?_
            refine xi_iinc (v := (-1)) dX8_componentOf_47 rfl (by decide) (Nat.le_of_ble_eq_true rfl) ?_
            refine xi_goto (tgt := 10) dX8_componentOf_50 rfl ?_
            refine xgo_pick [0, 1, 2, 3, 4] rfl ?_
            rw [if_neg h23, if_neg h37] at hy
            rw [← Int32.sub_eq_add_neg]
            exact ih u rfl (by omega) _ hy
    )
  refine xi_iconst (v := (-1)) dX8_componentOf_0 (by decide) ?_
  refine xi_istore_n dX8_componentOf_1 rfl (Nat.le_of_ble_eq_true rfl) ?_
  refine xi_aload_n dX8_componentOf_2 rfl rfl ?_
  refine xi_getfield0 dX8_componentOf_3 fX8_116 g76 ?_
  rw [hm]
  refine xi_iconst (v := 1) dX8_componentOf_6 (by decide) ?_
  refine xi_isub dX8_componentOf_7 ?_
  refine xi_istore dX8_componentOf_8 (Nat.le_of_ble_eq_true rfl) ?_
  refine xgo_pick [0, 1, 2, 3, 4] rfl ?_
  exact loop m (Nat.le_refl _) _ hR
theorem m_component {c r n m lf : Nat} {i t : Int32} {A A1 : xA} {B B1 : xB} {D : xD} (hl : laid A B A1 B1) (hT : mT A1 c r n m lf) : does0 mX8_component [.ref 76, .int i, .int t] A B D (mQ D (inR i (nI n)) (btw t 0 15) (some (.int (cfV (A1 85) (B1 84) i t m (-1)))) (updA A1 76 0 0) B1 A1 B1) nx := by
  refine does_go (by decide) rfl (Nat.le_of_ble_eq_true rfl) rfl ?_
  obtain ⟨hG, hm, hm0, hm64, hpa, -⟩ := hT
  obtain ⟨hn, hn0, hn64⟩ := hG.n
  refine xi_aload_n dX8_component_0 rfl rfl ?_
  refine cV1 (av := []) dX8_component_1 lX8_113 rfl ⟨rfl, rfl⟩ rfl ⟨(Nat.le_of_ble_eq_true rfl), (Nat.le_of_ble_eq_true rfl)⟩ ⟨(Nat.le_of_ble_eq_true rfl), (Nat.le_of_ble_eq_true rfl)⟩ (Nat.le_of_ble_eq_true rfl) g76 rfl rfl (hl.2.1 _) ?_
  refine xi_aload_n dX8_component_4 rfl rfl ?_
  refine xi_aload_n dX8_component_5 rfl rfl ?_
  refine xi_iload_n dX8_component_6 rfl rfl ?_
  refine cV1 (av := [_]) dX8_component_7 lX8_106 rfl ⟨rfl, rfl⟩ rfl ⟨(Nat.le_of_ble_eq_true rfl), (Nat.le_of_ble_eq_true rfl)⟩ ⟨(Nat.le_of_ble_eq_true rfl), (Nat.le_of_ble_eq_true rfl)⟩ (Nat.le_of_ble_eq_true rfl) g76 rfl rfl (m_isPixel) ?_
  rw [hn]
  refine xi_ifne (tgt := 17) dX8_component_10 rfl (fun h10 => ?_) (fun h10 => ?_)
  · have hp0 := (wch (by omega)).mp h10
    refine xi_iload_n dX8_component_17 rfl rfl ?_
    refine xi_iconst (v := 0) dX8_component_18 (by decide) ?_
    refine xi_bipush (v := 15) dX8_component_19 (by decide) ?_
    refine cS1 (av := [_, _, _]) dX8_component_21 lX8_80 rfl ⟨rfl, rfl⟩ rfl ⟨(Nat.le_of_ble_eq_true rfl), (Nat.le_of_ble_eq_true rfl)⟩ ⟨(Nat.le_of_ble_eq_true rfl), (Nat.le_of_ble_eq_true rfl)⟩ (Nat.le_of_ble_eq_true rfl) (m_within) ?_
    refine xi_if_eq (tgt := 31) dX8_component_24 rfl (fun h24 => ?_) (fun h24 => ?_)
    · refine xi_iconst (v := 2) dX8_component_31 (by decide) ?_
      refine xi_putfield0 dX8_component_32 fX8_73 g76 pX8_73 ?_
      refine xi_aload_n dX8_component_35 rfl rfl ?_
      refine xi_getfield0 dX8_component_36 fX8_73 g76 ?_
      refine xi_if_le (tgt := 46) dX8_component_39 rfl (fun h => absurd h (show ¬ ((2 : Int32) ≤ 0) by decide)) (fun _ => ?_)
      refine xi_iconst (v := 0) dX8_component_42 (by decide) ?_
      refine xi_goto (tgt := 52) dX8_component_43 rfl ?_
      refine go_ret (r := some (.int _)) dX8_component_52 (Nat.le_of_ble_eq_true rfl) (Nat.le_of_ble_eq_true rfl) ?_
      exact ⟨rfl, Or.inr (Or.inr ⟨hp0, (wi_eq _ _ _).mp h24, rfl, rfl, rfl⟩)⟩
    · refine xi_iconst (v := 0) dX8_component_27 (by decide) ?_
      refine xi_goto (tgt := 32) dX8_component_28 rfl ?_
      refine xi_putfield0 dX8_component_32 fX8_73 g76 pX8_73 ?_
      refine xi_aload_n dX8_component_35 rfl rfl ?_
      refine xi_getfield0 dX8_component_36 fX8_73 g76 ?_
      refine xi_if_le (tgt := 46) dX8_component_39 rfl (fun _ => ?_) (fun h => absurd h (show ¬ (¬ (0 : Int32) ≤ 0) by decide))
      refine xi_aload_n dX8_component_46 rfl rfl ?_
      refine xi_iload_n dX8_component_47 rfl rfl ?_
      refine xi_iload_n dX8_component_48 rfl rfl ?_
      refine cV1 (av := [_, _]) dX8_component_49 lX8_253 rfl ⟨rfl, rfl⟩ rfl ⟨(Nat.le_of_ble_eq_true rfl), (Nat.le_of_ble_eq_true rfl)⟩ ⟨(Nat.le_of_ble_eq_true rfl), (Nat.le_of_ble_eq_true rfl)⟩ (Nat.le_of_ble_eq_true rfl) g76 rfl rfl (m_componentOf (A := updA A1 76 0 0) hm hm64) ?_
      refine go_ret (r := some (.int _)) dX8_component_52 (Nat.le_of_ble_eq_true rfl) (Nat.le_of_ble_eq_true rfl) ?_
      exact ⟨rfl, Or.inl ⟨hp0, (wi_ne _ _ _).mp h24, rfl, rfl, rfl⟩⟩
  · have hp0 := (wch0 (by omega)).mp h10
    refine xi_iconst (v := 1) dX8_component_13 (by decide) ?_
    refine xi_goto (tgt := 32) dX8_component_14 rfl ?_
    refine xi_putfield0 dX8_component_32 fX8_73 g76 pX8_73 ?_
    refine xi_aload_n dX8_component_35 rfl rfl ?_
    refine xi_getfield0 dX8_component_36 fX8_73 g76 ?_
    refine xi_if_le (tgt := 46) dX8_component_39 rfl (fun h => absurd h (show ¬ ((1 : Int32) ≤ 0) by decide)) (fun _ => ?_)
    refine xi_iconst (v := 0) dX8_component_42 (by decide) ?_
    refine xi_goto (tgt := 52) dX8_component_43 rfl ?_
    refine go_ret (r := some (.int _)) dX8_component_52 (Nat.le_of_ble_eq_true rfl) (Nat.le_of_ble_eq_true rfl) ?_
    exact ⟨rfl, Or.inr (Or.inl ⟨hp0, rfl, rfl, rfl⟩)⟩
def meS2 (se : Nat → Int64) (x y : Int32) (k : Nat) (f : Int32) : Int32 := if hasM (se k) x = 0 then f else if hasM (se k) y = 0 then f else nI k
theorem m_meet {c r n m lf : Nat} {i j : Int32} {A A1 : xA} {B B1 : xB} {D : xD} (hl : laid A B A1 B1) (hT : mT A1 c r n m lf) : does0 mX8_meet [.ref 76, .int i, .int j] A B D (mQ D (inR i (nI n) ∧ inR j (nI n)) True (some (.int (itr (meS2 (B1 84) i j) m 0))) (updA A1 76 0 0) B1 A1 B1) nx := by
  refine does_go (by decide) rfl (Nat.le_of_ble_eq_true rfl) rfl ?_
  obtain ⟨hG, hm, hm0, hm64, hpa, -⟩ := hT
  obtain ⟨hn, hn0, hn64⟩ := hG.n
  have bad : ¬ (inR i (nI n) ∧ inR j (nI n)) → go0 mX8_meet (mQ D (inR i (nI n) ∧ inR j (nI n)) True (some (.int (itr (meS2 (B1 84) i j) m 0))) (updA A1 76 0 0) B1 A1 B1) nx 0 0 34 [(0, .ref 76), (1, .int i), (2, .int j), (3, .int 0), (4, .int (nI 0))] [] (updA A1 76 0 1) B1 D := by
    intro hc
    refine xi_iload dX8_meet_34 rfl ?_
    refine xi_aload_n dX8_meet_36 rfl rfl ?_
    refine xi_getfield0 dX8_meet_37 fX8_116 g76 ?_
    refine xi_icmp_ge (tgt := 91) dX8_meet_40 rfl (fun h40 => ?_) (fun h40 => ?_)
    · refine xi_iload_n dX8_meet_91 rfl rfl ?_
      refine go_ret (r := some (.int _)) dX8_meet_92 (Nat.le_of_ble_eq_true rfl) (Nat.le_of_ble_eq_true rfl) ?_
      exact ⟨rfl, Or.inr (Or.inl ⟨hc, rfl, rfl, rfl⟩)⟩
    · refine xi_aload_n dX8_meet_43 rfl rfl ?_
      refine xi_getfield0 dX8_meet_44 fX8_73 g76 ?_
      refine xi_ifne (tgt := 91) dX8_meet_47 rfl (fun _ => ?_) (fun h => absurd h (show ¬ ((1 : Int32) = 0) by decide))
      refine xi_iload_n dX8_meet_91 rfl rfl ?_
      refine go_ret (r := some (.int _)) dX8_meet_92 (Nat.le_of_ble_eq_true rfl) (Nat.le_of_ble_eq_true rfl) ?_
      exact ⟨rfl, Or.inr (Or.inl ⟨hc, rfl, rfl, rfl⟩)⟩
  have loop : inR i (nI n) ∧ inR j (nI n) → ∀ k, k ≤ m → ∀ q, q = itr (meS2 (B1 84) i j) k 0 → go0 mX8_meet (mQ D (inR i (nI n) ∧ inR j (nI n)) True (some (.int (itr (meS2 (B1 84) i j) m 0))) (updA A1 76 0 0) B1 A1 B1) nx 0 0 34 [(0, .ref 76), (1, .int i), (2, .int j), (3, .int q), (4, .int (nI k))] [] (updA A1 76 0 0) B1 D := by
    intro hc
    refine up_ind (fun k hk ih q hq => ?_)
    refine xi_iload dX8_meet_34 rfl ?_
    refine xi_aload_n dX8_meet_36 rfl rfl ?_
    refine xi_getfield0 dX8_meet_37 fX8_116 g76 ?_
    rw [show updA A1 76 0 0 76 19 = nI m from hm]
    refine xi_icmp_ge (tgt := 91) dX8_meet_40 rfl (fun h40 => ?_) (fun h40 => ?_)
    · have e : k = m := ge_eq hk (by omega) h40
      subst e
      refine xi_iload_n dX8_meet_91 rfl rfl ?_
      refine go_ret (r := some (.int _)) dX8_meet_92 (Nat.le_of_ble_eq_true rfl) (Nat.le_of_ble_eq_true rfl) ?_
      exact ⟨rfl, Or.inl ⟨hc, trivial, by rw [hq], rfl, rfl⟩⟩
    · have hkl : k < m := nge_lt hk (by omega) h40
      have ih1 := ih hkl
      rw [itr_s, ← hq] at ih1
      unfold meS2 at ih1
      refine xi_aload_n dX8_meet_43 rfl rfl ?_
      refine xi_getfield0 dX8_meet_44 fX8_73 g76 ?_
      refine xi_ifne (tgt := 91) dX8_meet_47 rfl (fun h => absurd h (show ¬ (¬ (0 : Int32) = 0) by decide)) (fun _ => ?_)
      refine xi_aload_n dX8_meet_50 rfl rfl ?_
      refine xi_getfield3 dX8_meet_51 fX8_38 g76 r76_20 ?_
      refine xi_iload dX8_meet_54 rfl ?_
      refine la dX8_meet_56 g84 s84 rfl (by omega) (Nat.le_of_ble_eq_true rfl) ?_
      refine xi_iload_n dX8_meet_57 rfl rfl ?_
      refine cS1 (av := [_, _]) dX8_meet_58 lX8_151 rfl ⟨rfl, rfl⟩ rfl ⟨(Nat.le_of_ble_eq_true rfl), (Nat.le_of_ble_eq_true rfl)⟩ ⟨(Nat.le_of_ble_eq_true rfl), (Nat.le_of_ble_eq_true rfl)⟩ (Nat.le_of_ble_eq_true rfl) (m_has) ?_
      refine xi_if_eq (tgt := 83) dX8_meet_61 rfl (fun h61 => ?_) (fun h61 => ?_)
      · refine xi_iload_n dX8_meet_83 rfl rfl ?_
        refine xi_istore_n dX8_meet_84 rfl (Nat.le_of_ble_eq_true rfl) ?_
        refine xi_iinc (v := 1) dX8_meet_85 rfl (by decide) (Nat.le_of_ble_eq_true rfl) ?_
        refine xi_goto (tgt := 34) dX8_meet_88 rfl ?_
        refine xgo_pick [0, 1, 2, 3, 4] rfl ?_
        rw [nI_1]
        exact ih1 _ (by rw [if_pos h61])
      · refine xi_aload_n dX8_meet_64 rfl rfl ?_
        refine xi_getfield3 dX8_meet_65 fX8_38 g76 r76_20 ?_
        refine xi_iload dX8_meet_68 rfl ?_
        refine la dX8_meet_70 g84 s84 rfl (by omega) (Nat.le_of_ble_eq_true rfl) ?_
        refine xi_iload_n dX8_meet_71 rfl rfl ?_
        refine cS1 (av := [_, _]) dX8_meet_72 lX8_151 rfl ⟨rfl, rfl⟩ rfl ⟨(Nat.le_of_ble_eq_true rfl), (Nat.le_of_ble_eq_true rfl)⟩ ⟨(Nat.le_of_ble_eq_true rfl), (Nat.le_of_ble_eq_true rfl)⟩ (Nat.le_of_ble_eq_true rfl) (m_has) ?_
        refine xi_if_eq (tgt := 83) dX8_meet_75 rfl (fun h75 => ?_) (fun h75 => ?_)
        · refine xi_iload_n dX8_meet_83 rfl rfl ?_
          refine xi_istore_n dX8_meet_84 rfl (Nat.le_of_ble_eq_true rfl) ?_
          refine xi_iinc (v := 1) dX8_meet_85 rfl (by decide) (Nat.le_of_ble_eq_true rfl) ?_
          refine xi_goto (tgt := 34) dX8_meet_88 rfl ?_
          refine xgo_pick [0, 1, 2, 3, 4] rfl ?_
          rw [nI_1]
          exact ih1 _ (by rw [if_neg h61, if_pos h75])
        · refine xi_iload dX8_meet_78 rfl ?_
          refine xi_goto (tgt := 84) dX8_meet_80 rfl ?_
          refine xi_istore_n dX8_meet_84 rfl (Nat.le_of_ble_eq_true rfl) ?_
          refine xi_iinc (v := 1) dX8_meet_85 rfl (by decide) (Nat.le_of_ble_eq_true rfl) ?_
          refine xi_goto (tgt := 34) dX8_meet_88 rfl ?_
          refine xgo_pick [0, 1, 2, 3, 4] rfl ?_
          rw [nI_1]
          exact ih1 _ (by rw [if_neg h61, if_neg h75])
  refine xi_aload_n dX8_meet_0 rfl rfl ?_
  refine cV1 (av := []) dX8_meet_1 lX8_113 rfl ⟨rfl, rfl⟩ rfl ⟨(Nat.le_of_ble_eq_true rfl), (Nat.le_of_ble_eq_true rfl)⟩ ⟨(Nat.le_of_ble_eq_true rfl), (Nat.le_of_ble_eq_true rfl)⟩ (Nat.le_of_ble_eq_true rfl) g76 rfl rfl (hl.2.1 _) ?_
  refine xi_aload_n dX8_meet_4 rfl rfl ?_
  refine xi_aload_n dX8_meet_5 rfl rfl ?_
  refine xi_iload_n dX8_meet_6 rfl rfl ?_
  refine cV1 (av := [_]) dX8_meet_7 lX8_106 rfl ⟨rfl, rfl⟩ rfl ⟨(Nat.le_of_ble_eq_true rfl), (Nat.le_of_ble_eq_true rfl)⟩ ⟨(Nat.le_of_ble_eq_true rfl), (Nat.le_of_ble_eq_true rfl)⟩ (Nat.le_of_ble_eq_true rfl) g76 rfl rfl (m_isPixel) ?_
  rw [hn]
  refine xi_if_eq (tgt := 25) dX8_meet_10 rfl (fun h10 => ?_) (fun h10 => ?_)
  · have hp0 := (wch0 (by omega)).mp h10
    refine xi_iconst (v := 1) dX8_meet_25 (by decide) ?_
    refine xi_putfield0 dX8_meet_26 fX8_73 g76 pX8_73 ?_
    refine xi_iconst (v := 0) dX8_meet_29 (by decide) ?_
    refine xi_istore_n dX8_meet_30 rfl (Nat.le_of_ble_eq_true rfl) ?_
    refine xi_iconst (v := 0) dX8_meet_31 (by decide) ?_
    refine xi_istore dX8_meet_32 (Nat.le_of_ble_eq_true rfl) ?_
    refine xgo_pick [0, 1, 2, 3, 4] rfl ?_
    exact bad (fun z => hp0 z.1)
  · have hp0 := (wch (by omega)).mp h10
    refine xi_aload_n dX8_meet_13 rfl rfl ?_
    refine xi_iload_n dX8_meet_14 rfl rfl ?_
    refine cV1 (av := [_]) dX8_meet_15 lX8_106 rfl ⟨rfl, rfl⟩ rfl ⟨(Nat.le_of_ble_eq_true rfl), (Nat.le_of_ble_eq_true rfl)⟩ ⟨(Nat.le_of_ble_eq_true rfl), (Nat.le_of_ble_eq_true rfl)⟩ (Nat.le_of_ble_eq_true rfl) g76 rfl rfl (m_isPixel) ?_
    rw [hn]
    refine xi_if_eq (tgt := 25) dX8_meet_18 rfl (fun h18 => ?_) (fun h18 => ?_)
    · have hp1 := (wch0 (by omega)).mp h18
      refine xi_iconst (v := 1) dX8_meet_25 (by decide) ?_
      refine xi_putfield0 dX8_meet_26 fX8_73 g76 pX8_73 ?_
      refine xi_iconst (v := 0) dX8_meet_29 (by decide) ?_
      refine xi_istore_n dX8_meet_30 rfl (Nat.le_of_ble_eq_true rfl) ?_
      refine xi_iconst (v := 0) dX8_meet_31 (by decide) ?_
      refine xi_istore dX8_meet_32 (Nat.le_of_ble_eq_true rfl) ?_
      refine xgo_pick [0, 1, 2, 3, 4] rfl ?_
      exact bad (fun z => hp1 z.2)
    · have hp1 := (wch (by omega)).mp h18
      refine xi_iconst (v := 0) dX8_meet_21 (by decide) ?_
      refine xi_goto (tgt := 26) dX8_meet_22 rfl ?_
      refine xi_putfield0 dX8_meet_26 fX8_73 g76 pX8_73 ?_
      refine xi_iconst (v := 0) dX8_meet_29 (by decide) ?_
      refine xi_istore_n dX8_meet_30 rfl (Nat.le_of_ble_eq_true rfl) ?_
      refine xi_iconst (v := 0) dX8_meet_31 (by decide) ?_
      refine xi_istore dX8_meet_32 (Nat.le_of_ble_eq_true rfl) ?_
      refine xgo_pick [0, 1, 2, 3, 4] rfl ?_
      exact loop ⟨hp0, hp1⟩ 0 (Nat.zero_le _) 0 rfl
def diO (se : Nat → Int64) (a b k : Nat) : Int32 := if (¬ k = a ∧ blV se a k = 0) then 0 else if (¬ k = b ∧ blV se b k = 0) then 0 else 1
def diV (se : Nat → Int64) (pa : Nat → Int32) (a b m : Nat) : Int32 := dpV pa (a + 2) (nI a) + dpV pa (b + 2) (nI b) - 2 * isum (diO se a b) m
theorem m_distance {c r n m lf : Nat} {i j : Int32} {A A1 : xA} {B B1 : xB} {D : xD} (hl : laid A B A1 B1) (hT : mT A1 c r n m lf) : does0 mX8_distance [.ref 76, .int i, .int j] A B D (mQ D (inR i (nI m) ∧ inR j (nI m)) True (some (.int (diV (B1 84) (A1 86) i.toNatClampNeg j.toNatClampNeg m))) (updA A1 76 0 0) B1 A1 B1) nx := by
  refine does_go (by decide) rfl (Nat.le_of_ble_eq_true rfl) rfl ?_
  obtain ⟨hG, hm, hm0, hm64, hpa, -⟩ := hT
  have loop : ∀ a b, a < m → b < m → i = nI a → j = nI b → ∀ k, k ≤ m → go0 mX8_distance (mQ D (inR i (nI m) ∧ inR j (nI m)) True (some (.int (diV (B1 84) (A1 86) i.toNatClampNeg j.toNatClampNeg m))) (updA A1 76 0 0) B1 A1 B1) nx 0 0 39 [(0, .ref 76), (1, .int (nI a)), (2, .int (nI b)), (3, .int (isum (diO (B1 84) a b) k)), (4, .int (nI k))] [] (updA A1 76 0 0) B1 D := by
    intro a b ha hb ea eb
    refine up_ind (fun k hk ih => ?_)
    refine xi_iload dX8_distance_39 rfl ?_
    refine xi_aload_n dX8_distance_41 rfl rfl ?_
    refine xi_getfield0 dX8_distance_42 fX8_116 g76 ?_
    rw [show updA A1 76 0 0 76 19 = nI m from hm]
    refine xi_icmp_ge (tgt := 106) dX8_distance_45 rfl (fun h45 => ?_) (fun h45 => ?_)
    · have e : k = m := ge_eq hk (by omega) h45
      subst e
      refine xi_aload_n dX8_distance_106 rfl rfl ?_
      refine xi_iload_n dX8_distance_107 rfl rfl ?_
      refine cV1 (av := [_]) dX8_distance_108 lX8_196 rfl ⟨rfl, rfl⟩ rfl ⟨(Nat.le_of_ble_eq_true rfl), (Nat.le_of_ble_eq_true rfl)⟩ ⟨(Nat.le_of_ble_eq_true rfl), (Nat.le_of_ble_eq_true rfl)⟩ (Nat.le_of_ble_eq_true rfl) g76 rfl rfl (m_depthOf (A := updA A1 76 0 0) ha hm64 hpa) ?_
      refine xi_aload_n dX8_distance_111 rfl rfl ?_
      refine xi_iload_n dX8_distance_112 rfl rfl ?_
      refine cV1 (av := [_]) dX8_distance_113 lX8_196 rfl ⟨rfl, rfl⟩ rfl ⟨(Nat.le_of_ble_eq_true rfl), (Nat.le_of_ble_eq_true rfl)⟩ ⟨(Nat.le_of_ble_eq_true rfl), (Nat.le_of_ble_eq_true rfl)⟩ (Nat.le_of_ble_eq_true rfl) g76 rfl rfl (m_depthOf (A := updA A1 76 0 0) hb hm64 hpa) ?_
      refine xi_iadd dX8_distance_116 ?_
      refine xi_iconst (v := 2) dX8_distance_117 (by decide) ?_
      refine xi_iload_n dX8_distance_118 rfl rfl ?_
      refine xi_imul dX8_distance_119 ?_
      refine xi_isub dX8_distance_120 ?_
      refine go_ret (r := some (.int _)) dX8_distance_121 (Nat.le_of_ble_eq_true rfl) (Nat.le_of_ble_eq_true rfl) ?_
      subst ea eb
      exact ⟨rfl, Or.inl ⟨⟨⟨nI_pos (by omega), nI_lt ha (by omega)⟩, nI_pos (by omega), nI_lt hb (by omega)⟩, trivial, by rw [nI_clamp (by omega), nI_clamp (by omega)]; rfl, rfl, rfl⟩⟩
    · have hkl : k < m := nge_lt hk (by omega) h45
      have ih1 := ih hkl
      unfold isum diO at ih1
      refine xi_iload dX8_distance_48 rfl ?_
      refine xi_iload_n dX8_distance_50 rfl rfl ?_
      refine xi_icmp_eq (tgt := 64) dX8_distance_51 rfl (fun h51 => ?_) (fun h51 => ?_)
      · have e1 : ¬ (¬ k = a ∧ blV (B1 84) a k = 0) := fun z => z.1 ((nI_eq (by omega) (by omega)).mp h51)
        refine xi_iload dX8_distance_64 rfl ?_
        refine xi_iload_n dX8_distance_66 rfl rfl ?_
        refine xi_icmp_eq (tgt := 80) dX8_distance_67 rfl (fun h67 => ?_) (fun h67 => ?_)
        · have e2 : ¬ (¬ k = b ∧ blV (B1 84) b k = 0) := fun z => z.1 ((nI_eq (by omega) (by omega)).mp h67)
          refine xi_iconst (v := 1) dX8_distance_80 (by decide) ?_
          refine xi_goto (tgt := 85) dX8_distance_81 rfl ?_
          refine xi_istore dX8_distance_85 (Nat.le_of_ble_eq_true rfl) ?_
          refine xi_iload_n dX8_distance_87 rfl rfl ?_
          refine xi_iload dX8_distance_88 rfl ?_
          refine xi_if_eq (tgt := 97) dX8_distance_90 rfl (fun h => absurd h (show ¬ ((1 : Int32) = 0) by decide)) (fun _ => ?_)
          refine xi_iconst (v := 1) dX8_distance_93 (by decide) ?_
          refine xi_goto (tgt := 98) dX8_distance_94 rfl ?_
          refine xi_iadd dX8_distance_98 ?_
          refine xi_istore_n dX8_distance_99 rfl (Nat.le_of_ble_eq_true rfl) ?_
          refine xi_iinc (v := 1) dX8_distance_100 rfl (by decide) (Nat.le_of_ble_eq_true rfl) ?_
          refine xi_goto (tgt := 39) dX8_distance_103 rfl ?_
          refine xgo_pick [0, 1, 2, 3, 4] rfl ?_
          rw [nI_1]
          rw [if_neg e1, if_neg e2] at ih1
          exact ih1
        · refine xi_aload_n dX8_distance_70 rfl rfl ?_
          refine xi_iload_n dX8_distance_71 rfl rfl ?_
          refine xi_iload dX8_distance_72 rfl ?_
          refine cV1 (av := [_, _]) dX8_distance_74 lX8_170 rfl ⟨rfl, rfl⟩ rfl ⟨(Nat.le_of_ble_eq_true rfl), (Nat.le_of_ble_eq_true rfl)⟩ ⟨(Nat.le_of_ble_eq_true rfl), (Nat.le_of_ble_eq_true rfl)⟩ (Nat.le_of_ble_eq_true rfl) g76 rfl rfl (m_isBelow (by omega) (by omega)) ?_
          refine xi_if_eq (tgt := 84) dX8_distance_77 rfl (fun h77 => ?_) (fun h77 => ?_)
          · have e2 : ¬ k = b ∧ blV (B1 84) b k = 0 := ⟨fun z => h67 (by rw [z]), h77⟩
            refine xi_iconst (v := 0) dX8_distance_84 (by decide) ?_
            refine xi_istore dX8_distance_85 (Nat.le_of_ble_eq_true rfl) ?_
            refine xi_iload_n dX8_distance_87 rfl rfl ?_
            refine xi_iload dX8_distance_88 rfl ?_
            refine xi_if_eq (tgt := 97) dX8_distance_90 rfl (fun _ => ?_) (fun h => absurd h (show ¬ (¬ (0 : Int32) = 0) by decide))
            refine xi_iconst (v := 0) dX8_distance_97 (by decide) ?_
            refine xi_iadd dX8_distance_98 ?_
            refine xi_istore_n dX8_distance_99 rfl (Nat.le_of_ble_eq_true rfl) ?_
            refine xi_iinc (v := 1) dX8_distance_100 rfl (by decide) (Nat.le_of_ble_eq_true rfl) ?_
            refine xi_goto (tgt := 39) dX8_distance_103 rfl ?_
            refine xgo_pick [0, 1, 2, 3, 4] rfl ?_
            rw [nI_1]
            rw [if_neg e1, if_pos e2] at ih1
            exact ih1
          · have e2 : ¬ (¬ k = b ∧ blV (B1 84) b k = 0) := fun z => h77 z.2
            refine xi_iconst (v := 1) dX8_distance_80 (by decide) ?_
            refine xi_goto (tgt := 85) dX8_distance_81 rfl ?_
            refine xi_istore dX8_distance_85 (Nat.le_of_ble_eq_true rfl) ?_
            refine xi_iload_n dX8_distance_87 rfl rfl ?_
            refine xi_iload dX8_distance_88 rfl ?_
            refine xi_if_eq (tgt := 97) dX8_distance_90 rfl (fun h => absurd h (show ¬ ((1 : Int32) = 0) by decide)) (fun _ => ?_)
            refine xi_iconst (v := 1) dX8_distance_93 (by decide) ?_
            refine xi_goto (tgt := 98) dX8_distance_94 rfl ?_
            refine xi_iadd dX8_distance_98 ?_
            refine xi_istore_n dX8_distance_99 rfl (Nat.le_of_ble_eq_true rfl) ?_
            refine xi_iinc (v := 1) dX8_distance_100 rfl (by decide) (Nat.le_of_ble_eq_true rfl) ?_
            refine xi_goto (tgt := 39) dX8_distance_103 rfl ?_
            refine xgo_pick [0, 1, 2, 3, 4] rfl ?_
            rw [nI_1]
            rw [if_neg e1, if_neg e2] at ih1
            exact ih1
      · refine xi_aload_n dX8_distance_54 rfl rfl ?_
        refine xi_iload_n dX8_distance_55 rfl rfl ?_
        refine xi_iload dX8_distance_56 rfl ?_
        refine cV1 (av := [_, _]) dX8_distance_58 lX8_170 rfl ⟨rfl, rfl⟩ rfl ⟨(Nat.le_of_ble_eq_true rfl), (Nat.le_of_ble_eq_true rfl)⟩ ⟨(Nat.le_of_ble_eq_true rfl), (Nat.le_of_ble_eq_true rfl)⟩ (Nat.le_of_ble_eq_true rfl) g76 rfl rfl (m_isBelow (by omega) (by omega)) ?_
        refine xi_if_eq (tgt := 84) dX8_distance_61 rfl (fun h61 => ?_) (fun h61 => ?_)
        · have e1 : ¬ k = a ∧ blV (B1 84) a k = 0 := ⟨fun z => h51 (by rw [z]), h61⟩
          refine xi_iconst (v := 0) dX8_distance_84 (by decide) ?_
          refine xi_istore dX8_distance_85 (Nat.le_of_ble_eq_true rfl) ?_
          refine xi_iload_n dX8_distance_87 rfl rfl ?_
          refine xi_iload dX8_distance_88 rfl ?_
          refine xi_if_eq (tgt := 97) dX8_distance_90 rfl (fun _ => ?_) (fun h => absurd h (show ¬ (¬ (0 : Int32) = 0) by decide))
          refine xi_iconst (v := 0) dX8_distance_97 (by decide) ?_
          refine xi_iadd dX8_distance_98 ?_
          refine xi_istore_n dX8_distance_99 rfl (Nat.le_of_ble_eq_true rfl) ?_
          refine xi_iinc (v := 1) dX8_distance_100 rfl (by decide) (Nat.le_of_ble_eq_true rfl) ?_
          refine xi_goto (tgt := 39) dX8_distance_103 rfl ?_
          refine xgo_pick [0, 1, 2, 3, 4] rfl ?_
          rw [nI_1]
          rw [if_pos e1] at ih1
          exact ih1
        · have e1 : ¬ (¬ k = a ∧ blV (B1 84) a k = 0) := fun z => h61 z.2
          refine xi_iload dX8_distance_64 rfl ?_
          refine xi_iload_n dX8_distance_66 rfl rfl ?_
          refine xi_icmp_eq (tgt := 80) dX8_distance_67 rfl (fun h67 => ?_) (fun h67 => ?_)
          · have e2 : ¬ (¬ k = b ∧ blV (B1 84) b k = 0) := fun z => z.1 ((nI_eq (by omega) (by omega)).mp h67)
            refine xi_iconst (v := 1) dX8_distance_80 (by decide) ?_
            refine xi_goto (tgt := 85) dX8_distance_81 rfl ?_
            refine xi_istore dX8_distance_85 (Nat.le_of_ble_eq_true rfl) ?_
            refine xi_iload_n dX8_distance_87 rfl rfl ?_
            refine xi_iload dX8_distance_88 rfl ?_
            refine xi_if_eq (tgt := 97) dX8_distance_90 rfl (fun h => absurd h (show ¬ ((1 : Int32) = 0) by decide)) (fun _ => ?_)
            refine xi_iconst (v := 1) dX8_distance_93 (by decide) ?_
            refine xi_goto (tgt := 98) dX8_distance_94 rfl ?_
            refine xi_iadd dX8_distance_98 ?_
            refine xi_istore_n dX8_distance_99 rfl (Nat.le_of_ble_eq_true rfl) ?_
            refine xi_iinc (v := 1) dX8_distance_100 rfl (by decide) (Nat.le_of_ble_eq_true rfl) ?_
            refine xi_goto (tgt := 39) dX8_distance_103 rfl ?_
            refine xgo_pick [0, 1, 2, 3, 4] rfl ?_
            rw [nI_1]
            rw [if_neg e1, if_neg e2] at ih1
            exact ih1
          · refine xi_aload_n dX8_distance_70 rfl rfl ?_
            refine xi_iload_n dX8_distance_71 rfl rfl ?_
            refine xi_iload dX8_distance_72 rfl ?_
            refine cV1 (av := [_, _]) dX8_distance_74 lX8_170 rfl ⟨rfl, rfl⟩ rfl ⟨(Nat.le_of_ble_eq_true rfl), (Nat.le_of_ble_eq_true rfl)⟩ ⟨(Nat.le_of_ble_eq_true rfl), (Nat.le_of_ble_eq_true rfl)⟩ (Nat.le_of_ble_eq_true rfl) g76 rfl rfl (m_isBelow (by omega) (by omega)) ?_
            refine xi_if_eq (tgt := 84) dX8_distance_77 rfl (fun h77 => ?_) (fun h77 => ?_)
            · have e2 : ¬ k = b ∧ blV (B1 84) b k = 0 := ⟨fun z => h67 (by rw [z]), h77⟩
              refine xi_iconst (v := 0) dX8_distance_84 (by decide) ?_
              refine xi_istore dX8_distance_85 (Nat.le_of_ble_eq_true rfl) ?_
              refine xi_iload_n dX8_distance_87 rfl rfl ?_
              refine xi_iload dX8_distance_88 rfl ?_
              refine xi_if_eq (tgt := 97) dX8_distance_90 rfl (fun _ => ?_) (fun h => absurd h (show ¬ (¬ (0 : Int32) = 0) by decide))
              refine xi_iconst (v := 0) dX8_distance_97 (by decide) ?_
              refine xi_iadd dX8_distance_98 ?_
              refine xi_istore_n dX8_distance_99 rfl (Nat.le_of_ble_eq_true rfl) ?_
              refine xi_iinc (v := 1) dX8_distance_100 rfl (by decide) (Nat.le_of_ble_eq_true rfl) ?_
              refine xi_goto (tgt := 39) dX8_distance_103 rfl ?_
              refine xgo_pick [0, 1, 2, 3, 4] rfl ?_
              rw [nI_1]
              rw [if_neg e1, if_pos e2] at ih1
              exact ih1
            · have e2 : ¬ (¬ k = b ∧ blV (B1 84) b k = 0) := fun z => h77 z.2
              refine xi_iconst (v := 1) dX8_distance_80 (by decide) ?_
              refine xi_goto (tgt := 85) dX8_distance_81 rfl ?_
              refine xi_istore dX8_distance_85 (Nat.le_of_ble_eq_true rfl) ?_
              refine xi_iload_n dX8_distance_87 rfl rfl ?_
              refine xi_iload dX8_distance_88 rfl ?_
              refine xi_if_eq (tgt := 97) dX8_distance_90 rfl (fun h => absurd h (show ¬ ((1 : Int32) = 0) by decide)) (fun _ => ?_)
              refine xi_iconst (v := 1) dX8_distance_93 (by decide) ?_
              refine xi_goto (tgt := 98) dX8_distance_94 rfl ?_
              refine xi_iadd dX8_distance_98 ?_
              refine xi_istore_n dX8_distance_99 rfl (Nat.le_of_ble_eq_true rfl) ?_
              refine xi_iinc (v := 1) dX8_distance_100 rfl (by decide) (Nat.le_of_ble_eq_true rfl) ?_
              refine xi_goto (tgt := 39) dX8_distance_103 rfl ?_
              refine xgo_pick [0, 1, 2, 3, 4] rfl ?_
              rw [nI_1]
              rw [if_neg e1, if_neg e2] at ih1
              exact ih1
  refine xi_aload_n dX8_distance_0 rfl rfl ?_
  refine xi_aload_n dX8_distance_1 rfl rfl ?_
  refine xi_iload_n dX8_distance_2 rfl rfl ?_
  refine cV1 (av := [_]) dX8_distance_3 lX8_247 rfl ⟨rfl, rfl⟩ rfl ⟨(Nat.le_of_ble_eq_true rfl), (Nat.le_of_ble_eq_true rfl)⟩ ⟨(Nat.le_of_ble_eq_true rfl), (Nat.le_of_ble_eq_true rfl)⟩ (Nat.le_of_ble_eq_true rfl) g76 rfl rfl (m_isNode (hl.2.1 _) hm) ?_
  refine xi_if_eq (tgt := 21) dX8_distance_6 rfl (fun h6 => ?_) (fun h6 => ?_)
  · have hp0 := (wch0 (by omega)).mp h6
    refine xi_iconst (v := 1) dX8_distance_21 (by decide) ?_
    refine xi_putfield0 dX8_distance_22 fX8_73 g76 pX8_73 ?_
    refine xi_aload_n dX8_distance_25 rfl rfl ?_
    refine xi_getfield0 dX8_distance_26 fX8_73 g76 ?_
    refine xi_if_le (tgt := 34) dX8_distance_29 rfl (fun h => absurd h (show ¬ ((1 : Int32) ≤ 0) by decide)) (fun _ => ?_)
    refine xi_iconst (v := 0) dX8_distance_32 (by decide) ?_
    refine go_ret (r := some (.int _)) dX8_distance_33 (Nat.le_of_ble_eq_true rfl) (Nat.le_of_ble_eq_true rfl) ?_
    exact ⟨rfl, Or.inr (Or.inl ⟨fun z => hp0 z.1, rfl, rfl, rfl⟩)⟩
  · have hp0 := (wch (by omega)).mp h6
    obtain ⟨a, ha, ea⟩ := inR_nI hp0 (by omega)
    refine xi_aload_n dX8_distance_9 rfl rfl ?_
    refine xi_iload_n dX8_distance_10 rfl rfl ?_
    refine cV1 (av := [_]) dX8_distance_11 lX8_247 rfl ⟨rfl, rfl⟩ rfl ⟨(Nat.le_of_ble_eq_true rfl), (Nat.le_of_ble_eq_true rfl)⟩ ⟨(Nat.le_of_ble_eq_true rfl), (Nat.le_of_ble_eq_true rfl)⟩ (Nat.le_of_ble_eq_true rfl) g76 rfl rfl (m_isNode (m_layDone hl.2.2) hm) ?_
    refine xi_if_eq (tgt := 21) dX8_distance_14 rfl (fun h14 => ?_) (fun h14 => ?_)
    · have hp1 := (wch0 (by omega)).mp h14
      refine xi_iconst (v := 1) dX8_distance_21 (by decide) ?_
      refine xi_putfield0 dX8_distance_22 fX8_73 g76 pX8_73 ?_
      refine xi_aload_n dX8_distance_25 rfl rfl ?_
      refine xi_getfield0 dX8_distance_26 fX8_73 g76 ?_
      refine xi_if_le (tgt := 34) dX8_distance_29 rfl (fun h => absurd h (show ¬ ((1 : Int32) ≤ 0) by decide)) (fun _ => ?_)
      refine xi_iconst (v := 0) dX8_distance_32 (by decide) ?_
      refine go_ret (r := some (.int _)) dX8_distance_33 (Nat.le_of_ble_eq_true rfl) (Nat.le_of_ble_eq_true rfl) ?_
      exact ⟨rfl, Or.inr (Or.inl ⟨fun z => hp1 z.2, rfl, rfl, rfl⟩)⟩
    · have hp1 := (wch (by omega)).mp h14
      obtain ⟨b, hb, eb⟩ := inR_nI hp1 (by omega)
      refine xi_iconst (v := 0) dX8_distance_17 (by decide) ?_
      refine xi_goto (tgt := 22) dX8_distance_18 rfl ?_
      refine xi_putfield0 dX8_distance_22 fX8_73 g76 pX8_73 ?_
      refine xi_aload_n dX8_distance_25 rfl rfl ?_
      refine xi_getfield0 dX8_distance_26 fX8_73 g76 ?_
      refine xi_if_le (tgt := 34) dX8_distance_29 rfl (fun _ => ?_) (fun h => absurd h (show ¬ (¬ (0 : Int32) ≤ 0) by decide))
      refine xi_iconst (v := 0) dX8_distance_34 (by decide) ?_
      refine xi_istore_n dX8_distance_35 rfl (Nat.le_of_ble_eq_true rfl) ?_
      refine xi_iconst (v := 0) dX8_distance_36 (by decide) ?_
      refine xi_istore dX8_distance_37 (Nat.le_of_ble_eq_true rfl) ?_
      refine xgo_pick [0, 1, 2, 3, 4] rfl ?_
      rw [show i = nI a from ea, show j = nI b from eb]
      rw [ea, eb] at loop
      exact loop a b ha hb rfl rfl 0 (Nat.zero_le _)

