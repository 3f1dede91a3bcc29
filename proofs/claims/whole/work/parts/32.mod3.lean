/-! the model: undo, input -/
def unA (A : xA) (u p : Nat) : xA := setA (setA (updA (updA (updA (updA A 76 0 0) 76 7 (nI u)) 76 1 (A 79 (2 * u))) 76 2 (A 79 (2 * u + 1))) 77 (fun j => if j < p then A 80 (64 * u + j) else A 77 j)) 78 (fun j => if j < p then A 81 (64 * u + j) else A 78 j)
theorem m_undo {c r n sz len : Nat} {A : xA} {B : xB} {D : xD} (h : mOK A c r n sz len) : does0 mX8_undo [.ref 76] A B D (mQ D (0 < sz) True (some (.int (nI (sz - 1)))) (updA (unA A (sz - 1) 64) 76 18 0) B A B) nx := by
  refine does_go (by decide) rfl (Nat.le_of_ble_eq_true rfl) rfl ?_
  have hz := h.2.1.1
  have hz8 := h.2.1.2
  have loop : ∀ u, sz = u + 1 → ∀ j, j ≤ 64 → go0 mX8_undo (mQ D (0 < sz) True (some (.int (nI (sz - 1)))) (updA (unA A (sz - 1) 64) 76 18 0) B A B) nx 0 0 69 [(0, .ref 76), (1, .int (nI j))] [] (unA A u j) B D := by
    intro u hu
    have e7 : ∀ p, unA A u p 76 7 = nI u := fun p => rfl
    refine up_ind (fun j hj ih => ?_)
    refine xi_iload_n dX8_undo_69 rfl rfl ?_
    refine xi_bipush (v := 64) dX8_undo_70 (by decide) ?_
    refine xi_icmp_ge (tgt := 121) dX8_undo_72 rfl (fun h72 => ?_) (fun h72 => ?_)
    · have e : j = 64 := ge_eq hj (by decide) h72
      subst e
      refine xi_aload_n dX8_undo_121 rfl rfl ?_
      refine xi_iconst (v := 0) dX8_undo_122 (by decide) ?_
      refine xi_putfield1 dX8_undo_123 fX8_97 g76 pX8_97 (by first | exact Or.inl rfl | exact Or.inr rfl) ?_
      refine xi_aload_n dX8_undo_126 rfl rfl ?_
      refine xi_getfield0 dX8_undo_127 fX8_90 g76 ?_
      refine go_ret (r := some (.int _)) dX8_undo_130 (Nat.le_of_ble_eq_true rfl) (Nat.le_of_ble_eq_true rfl) ?_
      subst hu
      exact ⟨rfl, Or.inl ⟨by omega, trivial, rfl, rfl, rfl⟩⟩
    · have hl : j < 64 := nge_lt hj (by decide) h72
      refine xi_aload_n dX8_undo_75 rfl rfl ?_
      refine xi_getfield3 dX8_undo_76 fX8_16 g76 r76_3 ?_
      refine xi_iload_n dX8_undo_79 rfl rfl ?_
      refine xi_aload_n dX8_undo_80 rfl rfl ?_
      refine xi_getfield3 dX8_undo_81 fX8_26 g76 r76_9 ?_
      refine xi_bipush (v := 64) dX8_undo_84 (by decide) ?_
      refine xi_aload_n dX8_undo_86 rfl rfl ?_
      refine xi_getfield0 dX8_undo_87 fX8_90 g76 ?_
      rw [e7]
      refine xi_imul dX8_undo_90 ?_
      refine xi_iload_n dX8_undo_91 rfl rfl ?_
      rw [cI64]
      refine xi_iadd dX8_undo_92 ?_
      rw [nI_add]
      refine ia dX8_undo_93 g80 s80 rfl (by omega) (Nat.le_of_ble_eq_true rfl) ?_
      refine is dX8_undo_94 g77 s77 rfl (by omega) (Nat.le_of_ble_eq_true rfl) ?_
      refine xi_aload_n dX8_undo_95 rfl rfl ?_
      refine xi_getfield3 dX8_undo_96 fX8_20 g76 r76_4 ?_
      refine xi_iload_n dX8_undo_99 rfl rfl ?_
      refine xi_aload_n dX8_undo_100 rfl rfl ?_
      refine xi_getfield3 dX8_undo_101 fX8_29 g76 r76_10 ?_
      refine xi_bipush (v := 64) dX8_undo_104 (by decide) ?_
      refine xi_aload_n dX8_undo_106 rfl rfl ?_
      refine xi_getfield0 dX8_undo_107 fX8_90 g76 ?_
      rw [show updA (unA A u j) 77 j (unA A u j 80 (64 * u + j)) 76 7 = nI u from rfl]
      refine xi_imul dX8_undo_110 ?_
      refine xi_iload_n dX8_undo_111 rfl rfl ?_
      rw [cI64]
      refine xi_iadd dX8_undo_112 ?_
      rw [nI_add]
      refine ia dX8_undo_113 g81 s81 rfl (by omega) (Nat.le_of_ble_eq_true rfl) ?_
      refine is dX8_undo_114 g78 s78 rfl (by omega) (Nat.le_of_ble_eq_true rfl) ?_
      refine xi_iinc (v := 1) dX8_undo_115 rfl (by decide) (Nat.le_of_ble_eq_true rfl) ?_
      refine xi_goto (tgt := 69) dX8_undo_118 rfl ?_
      refine xgo_pick [0, 1] rfl ?_
      rw [nI_1]
      have q := ih hl
      rw [show unA A u (j + 1) = updA (updA (unA A u j) 77 j (unA A u j 80 (64 * u + j))) 78 j (updA (unA A u j) 77 j (unA A u j 80 (64 * u + j)) 81 (64 * u + j)) by clear ih q; funext k' i; simp only [updA_get, unA, setA_get]; grind (splits := 40)] at q
      exact q
  refine xi_aload_n dX8_undo_0 rfl rfl ?_
  refine xi_aload_n dX8_undo_1 rfl rfl ?_
  refine xi_getfield0 dX8_undo_2 fX8_90 g76 ?_
  rw [hz]
  refine xi_if_le (tgt := 12) dX8_undo_5 rfl (fun h5 => ?_) (fun h5 => ?_)
  · have e0 : sz = 0 := nI_le0 (by omega) h5
    refine xi_iconst (v := 1) dX8_undo_12 (by decide) ?_
    refine xi_putfield0 dX8_undo_13 fX8_73 g76 pX8_73 ?_
    refine xi_aload_n dX8_undo_16 rfl rfl ?_
    refine xi_getfield0 dX8_undo_17 fX8_73 g76 ?_
    refine xi_if_le (tgt := 25) dX8_undo_20 rfl (fun h => absurd h (show ¬ ((1 : Int32) ≤ 0) by decide)) (fun _ => ?_)
    refine xi_iconst (v := 0) dX8_undo_23 (by decide) ?_
    refine go_ret (r := some (.int _)) dX8_undo_24 (Nat.le_of_ble_eq_true rfl) (Nat.le_of_ble_eq_true rfl) ?_
    exact ⟨rfl, Or.inr (Or.inl ⟨by omega, rfl, rfl, rfl⟩)⟩
  · obtain ⟨u, hu⟩ := nI_gt0 h5
    refine xi_iconst (v := 0) dX8_undo_8 (by decide) ?_
    refine xi_goto (tgt := 13) dX8_undo_9 rfl ?_
    refine xi_putfield0 dX8_undo_13 fX8_73 g76 pX8_73 ?_
    refine xi_aload_n dX8_undo_16 rfl rfl ?_
    refine xi_getfield0 dX8_undo_17 fX8_73 g76 ?_
    refine xi_if_le (tgt := 25) dX8_undo_20 rfl (fun _ => ?_) (fun h => absurd h (show ¬ (¬ (0 : Int32) ≤ 0) by decide))
    refine xi_aload_n dX8_undo_25 rfl rfl ?_
    refine xi_dup dX8_undo_26 rfl ?_
    refine xi_getfield0 dX8_undo_27 fX8_90 g76 ?_
    rw [show updA A 76 0 0 76 7 = nI (u + 1) by rw [← hu]; exact hz]
    refine xi_iconst (v := 1) dX8_undo_30 (by decide) ?_
    refine xi_isub dX8_undo_31 ?_
    rw [nI_pred]
    refine xi_putfield0 dX8_undo_32 fX8_90 g76 pX8_90 ?_
    refine xi_aload_n dX8_undo_35 rfl rfl ?_
    refine xi_aload_n dX8_undo_36 rfl rfl ?_
    refine xi_getfield3 dX8_undo_37 fX8_23 g76 r76_8 ?_
    refine xi_iconst (v := 2) dX8_undo_40 (by decide) ?_
    refine xi_aload_n dX8_undo_41 rfl rfl ?_
    refine xi_getfield0 dX8_undo_42 fX8_90 g76 ?_
    rw [updA_ss]
    refine xi_imul dX8_undo_45 ?_
    rw [cI2]
    refine ia dX8_undo_46 g79 s79 rfl (by omega) (Nat.le_of_ble_eq_true rfl) ?_
    refine xi_putfield0 dX8_undo_47 fX8_7 g76 pX8_7 ?_
    refine xi_aload_n dX8_undo_50 rfl rfl ?_
    refine xi_aload_n dX8_undo_51 rfl rfl ?_
    refine xi_getfield3 dX8_undo_52 fX8_23 g76 r76_8 ?_
    refine xi_iconst (v := 2) dX8_undo_55 (by decide) ?_
    refine xi_aload_n dX8_undo_56 rfl rfl ?_
    refine xi_getfield0 dX8_undo_57 fX8_90 g76 ?_
    rw [updA_sj _ _ _ (by decide), updA_ss]
    refine xi_imul dX8_undo_60 ?_
    rw [cI2]
    refine xi_iconst (v := 1) dX8_undo_61 (by decide) ?_
    refine xi_iadd dX8_undo_62 ?_
    rw [nI_1]
    refine ia dX8_undo_63 g79 s79 rfl (by omega) (Nat.le_of_ble_eq_true rfl) ?_
    refine xi_putfield0 dX8_undo_64 fX8_13 g76 pX8_13 ?_
    refine xi_iconst (v := 0) dX8_undo_67 (by decide) ?_
    refine xi_istore_n dX8_undo_68 rfl (Nat.le_of_ble_eq_true rfl) ?_
    refine xgo_pick [0, 1] rfl ?_
    have l0 := loop u hu 0 (Nat.zero_le _)
    rw [show unA A u 0 = updA (updA (updA (updA A 76 0 0) 76 7 (nI u)) 76 1 (A 79 (2 * u))) 76 2 (A 79 (2 * u + 1)) by clear loop l0; funext k' i; simp only [updA_get, unA, setA_get]; grind (splits := 40)] at l0
    exact l0
def lbV (c : Int32) : Int32 := if wiV c 48 57 = 0 then (if wiV c 65 70 = 0 then -1 else 10 + c - 65) else c - 48
theorem m_levelBy {c : Int32} {A : xA} {B : xB} {D : xD} : does0 mX8_levelBy [.int c] A B D (eqQ (some (.int (lbV c))) A B D) nx := by
  refine does_go (by decide) rfl (Nat.le_of_ble_eq_true rfl) rfl ?_
  refine xi_iload_n dX8_levelBy_0 rfl rfl ?_
  refine xi_bipush (v := 48) dX8_levelBy_1 (by decide) ?_
  refine xi_bipush (v := 57) dX8_levelBy_3 (by decide) ?_
  refine cS1 (av := [_, _, _]) dX8_levelBy_5 lX8_80 rfl ⟨rfl, rfl⟩ rfl ⟨(Nat.le_of_ble_eq_true rfl), (Nat.le_of_ble_eq_true rfl)⟩ ⟨(Nat.le_of_ble_eq_true rfl), (Nat.le_of_ble_eq_true rfl)⟩ (Nat.le_of_ble_eq_true rfl) (m_within) ?_
  refine xi_if_eq (tgt := 18) dX8_levelBy_8 rfl (fun h8 => ?_) (fun h8 => ?_)
  · refine xi_iload_n dX8_levelBy_18 rfl rfl ?_
    refine xi_bipush (v := 65) dX8_levelBy_19 (by decide) ?_
    refine xi_bipush (v := 70) dX8_levelBy_21 (by decide) ?_
    refine cS1 (av := [_, _, _]) dX8_levelBy_23 lX8_80 rfl ⟨rfl, rfl⟩ rfl ⟨(Nat.le_of_ble_eq_true rfl), (Nat.le_of_ble_eq_true rfl)⟩ ⟨(Nat.le_of_ble_eq_true rfl), (Nat.le_of_ble_eq_true rfl)⟩ (Nat.le_of_ble_eq_true rfl) (m_within) ?_
    refine xi_if_eq (tgt := 39) dX8_levelBy_26 rfl (fun h26 => ?_) (fun h26 => ?_)
    · refine xi_iconst (v := (-1)) dX8_levelBy_39 (by decide) ?_
      refine go_ret (r := some (.int _)) dX8_levelBy_40 (Nat.le_of_ble_eq_true rfl) (Nat.le_of_ble_eq_true rfl) ?_
      exact ⟨by unfold lbV; simp only [h8, h26, if_true, if_false], rfl, rfl, rfl⟩
    · refine xi_bipush (v := 10) dX8_levelBy_29 (by decide) ?_
      refine xi_iload_n dX8_levelBy_31 rfl rfl ?_
      refine xi_iadd dX8_levelBy_32 ?_
      refine xi_bipush (v := 65) dX8_levelBy_33 (by decide) ?_
      refine xi_isub dX8_levelBy_35 ?_
      refine xi_goto (tgt := 40) dX8_levelBy_36 rfl ?_
      refine go_ret (r := some (.int _)) dX8_levelBy_40 (Nat.le_of_ble_eq_true rfl) (Nat.le_of_ble_eq_true rfl) ?_
      exact ⟨by unfold lbV; simp only [h8, h26, if_true, if_false], rfl, rfl, rfl⟩
  · refine xi_iload_n dX8_levelBy_11 rfl rfl ?_
    refine xi_bipush (v := 48) dX8_levelBy_12 (by decide) ?_
    refine xi_isub dX8_levelBy_14 ?_
    refine xi_goto (tgt := 40) dX8_levelBy_15 rfl ?_
    refine go_ret (r := some (.int _)) dX8_levelBy_40 (Nat.le_of_ble_eq_true rfl) (Nat.le_of_ble_eq_true rfl) ?_
    exact ⟨by unfold lbV; simp only [h8, if_true, if_false], rfl, rfl, rfl⟩
/-- the reader's state: wide, rows, here, many, levels -/
abbrev rdT : Type := Nat × Nat × Nat × Nat × (Nat → Int32)
def rdA (A : xA) (q : rdT) : xA := setA (setA A 76 (fun j => if j = 13 then nI q.1 else if j = 14 then nI q.2.1 else if j = 15 then nI q.2.2.1 else if j = 16 then nI q.2.2.2.1 else A 76 j)) 83 q.2.2.2.2
def rdI (q : rdT) : Prop := q.1 ≤ 8 ∧ q.2.1 ≤ 7 ∧ q.2.2.1 ≤ (if q.1 = 0 then 8 else q.1) ∧ (q.1 = 0 → q.2.1 = 0) ∧ q.2.2.2.1 = q.2.1 * q.1 + q.2.2.1
def tmO (q : rdT) : Int32 := if q.2.2.1 = 0 then 0 else if q.1 = 0 then (if 7 ≤ q.2.1 then 0 else 1) else if q.2.2.1 = q.1 then (if 7 ≤ q.2.1 then 0 else 1) else 0
def tmS (q : rdT) : rdT := (if q.1 = 0 then q.2.2.1 else q.1, q.2.1 + 1, 0, q.2.2.2)
def tmV (c : Int32) (q : rdT) : Int32 × rdT := if c = 47 then (tmO q, tmS q) else if lbV c = -1 then (0, q) else if (if q.1 = 0 then 8 else q.1) ≤ q.2.2.1 then (0, q) else (1, (q.1, q.2.1, q.2.2.1 + 1, q.2.2.2.1 + 1, upd q.2.2.2.2 q.2.2.2.1 (lbV c)))
theorem rdI_b {q : rdT} (h : rdI q) : q.2.2.1 ≤ 8 ∧ q.2.2.2.1 ≤ 64 ∧ (q.2.2.1 < (if q.1 = 0 then 8 else q.1) → q.2.2.2.1 < 64) := by
  obtain ⟨w, r, hh, m, f⟩ := q
  obtain ⟨h1, h2, h3, h4, h5⟩ := h
  simp only at h1 h2 h3 h4 h5 ⊢
  have : r * w ≤ 56 := Nat.mul_le_mul h2 h1
  have h6 : w ≠ 0 → r * w + w ≤ 64 := fun _ => by
    have := Nat.mul_le_mul (show r + 1 ≤ 8 by omega) h1
    rw [Nat.succ_mul] at this
    exact this
  by_cases hw : w = 0
  · have e := h4 hw; subst hw; subst e; simp at *; omega
  · have := h6 hw; simp [hw] at *; omega
theorem rdI_t {c : Int32} {q : rdT} (h : rdI q) (h1 : ¬ (tmV c q).1 = 0) : rdI (tmV c q).2 := by
  obtain ⟨w, r, hh, m, f⟩ := q
  unfold tmV at h1 ⊢
  by_cases hc : c = 47
  · rw [if_pos hc] at h1 ⊢
    unfold tmO at h1
    unfold rdI at h
    unfold tmS rdI
    simp only at h h1 ⊢
    obtain ⟨a1, a2, a3, a4, a5⟩ := h
    by_cases e0 : hh = 0
    · simp [e0] at h1
    · by_cases ew : w = 0
      · have := a4 ew
        subst ew
        subst this
        simp at *
        omega
      · by_cases e1 : hh = w
        · subst e1
          have : ¬ 7 ≤ r := by intro z; simp [e0, z] at h1
          simp [e0] at *
          refine ⟨a1, by omega, ?_⟩
          rw [a5, Nat.succ_mul]
        · simp [e0, ew, e1] at h1
  · rw [if_neg hc] at h1 ⊢
    by_cases hb : lbV c = -1
    · rw [if_pos hb] at h1; exact absurd rfl h1
    · rw [if_neg hb] at h1 ⊢
      by_cases e1 : (if w = 0 then 8 else w) ≤ hh
      · simp only [e1, if_true] at h1; exact absurd trivial h1
      · simp only [e1, if_false] at h1 ⊢
        unfold rdI at h ⊢
        simp only at h ⊢
        omega
theorem m_takes {c : Int32} {q : rdT} {A : xA} {B : xB} {D : xD} (h : rdI q) : does0 mX8_takes [.ref 76, .int c] (rdA A q) B D (eqQ (some (.int (tmV c q).1)) (rdA A (tmV c q).2) B D) nx := by
  refine does_go (by decide) rfl (Nat.le_of_ble_eq_true rfl) rfl ?_
  obtain ⟨b1, b2, b3⟩ := rdI_b h
  obtain ⟨w, r, hh, m, f⟩ := q
  unfold rdI at h
  simp only at h b1 b2 b3
  have e13 : rdA A (w, r, hh, m, f) 76 13 = nI w := rfl
  have e14 : rdA A (w, r, hh, m, f) 76 14 = nI r := rfl
  have e15 : rdA A (w, r, hh, m, f) 76 15 = nI hh := rfl
  have e16 : rdA A (w, r, hh, m, f) 76 16 = nI m := rfl
  have w0 : ∀ {x : Nat}, x < 2 ^ 31 → (nI x = 0 ↔ x = 0) := fun hx => nI_eq (b := 0) hx (by decide)
  have s13 : ∀ v, updA (rdA A (w, r, hh, m, f)) 76 13 (nI v) = rdA A (v, r, hh, m, f) := fun v => by funext k' i; simp only [rdA, updA_get, setA_get]; grind (splits := 40)
  have s14 : ∀ w v, updA (rdA A (w, r, hh, m, f)) 76 14 (nI v) = rdA A (w, v, hh, m, f) := fun w v => by funext k' i; simp only [rdA, updA_get, setA_get]; grind (splits := 40)
  have s15 : ∀ w r v, updA (rdA A (w, r, hh, m, f)) 76 15 (nI v) = rdA A (w, r, v, m, f) := fun w r v => by funext k' i; simp only [rdA, updA_get, setA_get]; grind (splits := 40)
  have fin : ∀ b, c = 47 → tmO (w, r, hh, m, f) = b → (b = 0 ∨ b = 1) → go0 mX8_takes (eqQ (some (.int (tmV c (w, r, hh, m, f)).1)) (rdA A (tmV c (w, r, hh, m, f)).2) B D) nx 0 0 45 [(0, .ref 76), (1, .int c)] [.int b] (rdA A (w, r, hh, m, f)) B D := by
    intro b hc hb hz
    refine xi_istore_n dX8_takes_45 rfl (Nat.le_of_ble_eq_true rfl) ?_
    refine xi_aload_n dX8_takes_46 rfl rfl ?_
    refine xi_aload_n dX8_takes_47 rfl rfl ?_
    refine xi_getfield0 dX8_takes_48 fX8_132 g76 ?_
    rw [e13]
    refine xi_ifne (tgt := 61) dX8_takes_51 rfl (fun h51 => ?_) (fun h51 => ?_)
    · have ew : ¬ w = 0 := fun e => h51 (by rw [e]; rfl)
      refine xi_aload_n dX8_takes_61 rfl rfl ?_
      refine xi_getfield0 dX8_takes_62 fX8_132 g76 ?_
      first | rw [e15] | rw [e13]
      refine xi_putfield0 dX8_takes_65 fX8_132 g76 pX8_132 ?_
      rw [s13]
      refine xi_aload_n dX8_takes_68 rfl rfl ?_
      refine xi_dup dX8_takes_69 rfl ?_
      refine xi_getfield0 dX8_takes_70 fX8_135 g76 ?_
      refine xi_iconst (v := 1) dX8_takes_73 (by decide) ?_
      rw [show ∀ w, rdA A (w, r, hh, m, f) 76 14 = nI r from fun _ => rfl]
      refine xi_iadd dX8_takes_74 ?_
      rw [nI_1]
      refine xi_putfield0 dX8_takes_75 fX8_135 g76 pX8_135 ?_
      rw [s14]
      refine xi_aload_n dX8_takes_78 rfl rfl ?_
      refine xi_iconst (v := 0) dX8_takes_79 (by decide) ?_
      refine xi_putfield0 dX8_takes_80 fX8_129 g76 pX8_129 ?_
      rw [show (0 : Int32) = nI 0 from rfl, s15]
      refine xi_iload_n dX8_takes_83 rfl rfl ?_
      refine go_ret (r := some (.int _)) ⟨dX8_takes_84, hz⟩ (Nat.le_of_ble_eq_true rfl) (Nat.le_of_ble_eq_true rfl) ?_
      exact ⟨by unfold tmV; rw [if_pos hc, hb], by unfold tmV tmS; rw [if_pos hc]; simp only [ew, if_true, if_false], rfl, rfl⟩
    · have ew : w = 0 := (w0 (by omega)).mp h51
      refine xi_aload_n dX8_takes_54 rfl rfl ?_
      refine xi_getfield0 dX8_takes_55 fX8_129 g76 ?_
      refine xi_goto (tgt := 65) dX8_takes_58 rfl ?_
      first | rw [e15] | rw [e13]
      refine xi_putfield0 dX8_takes_65 fX8_132 g76 pX8_132 ?_
      rw [s13]
      refine xi_aload_n dX8_takes_68 rfl rfl ?_
      refine xi_dup dX8_takes_69 rfl ?_
      refine xi_getfield0 dX8_takes_70 fX8_135 g76 ?_
      refine xi_iconst (v := 1) dX8_takes_73 (by decide) ?_
      rw [show ∀ w, rdA A (w, r, hh, m, f) 76 14 = nI r from fun _ => rfl]
      refine xi_iadd dX8_takes_74 ?_
      rw [nI_1]
      refine xi_putfield0 dX8_takes_75 fX8_135 g76 pX8_135 ?_
      rw [s14]
      refine xi_aload_n dX8_takes_78 rfl rfl ?_
      refine xi_iconst (v := 0) dX8_takes_79 (by decide) ?_
      refine xi_putfield0 dX8_takes_80 fX8_129 g76 pX8_129 ?_
      rw [show (0 : Int32) = nI 0 from rfl, s15]
      refine xi_iload_n dX8_takes_83 rfl rfl ?_
      refine go_ret (r := some (.int _)) ⟨dX8_takes_84, hz⟩ (Nat.le_of_ble_eq_true rfl) (Nat.le_of_ble_eq_true rfl) ?_
      exact ⟨by unfold tmV; rw [if_pos hc, hb], by unfold tmV tmS; rw [if_pos hc]; simp only [ew, if_true, if_false], rfl, rfl⟩
  refine xi_iload_n dX8_takes_0 rfl rfl ?_
  refine xi_bipush (v := 47) dX8_takes_1 (by decide) ?_
  refine xi_icmpne (tgt := 85) dX8_takes_3 rfl (fun h3 => ?_) (fun h3 => ?_)
  · refine xi_iload_n dX8_takes_85 rfl rfl ?_
    refine cS1 (av := [_]) dX8_takes_86 lX8_138 rfl ⟨rfl, rfl⟩ rfl ⟨(Nat.le_of_ble_eq_true rfl), (Nat.le_of_ble_eq_true rfl)⟩ ⟨(Nat.le_of_ble_eq_true rfl), (Nat.le_of_ble_eq_true rfl)⟩ (Nat.le_of_ble_eq_true rfl) (m_levelBy) ?_
    refine xi_iconst (v := (-1)) dX8_takes_89 (by decide) ?_
    refine xi_icmp_eq (tgt := 120) dX8_takes_90 rfl (fun h90 => ?_) (fun h90 => ?_)
    · refine xi_iconst (v := 0) dX8_takes_120 (by decide) ?_
      refine xi_istore_n dX8_takes_121 rfl (Nat.le_of_ble_eq_true rfl) ?_
      refine xi_iload_n dX8_takes_122 rfl rfl ?_
      refine xi_if_eq (tgt := 159) dX8_takes_123 rfl (fun _ => ?_) (fun h => absurd h (show ¬ (¬ (0 : Int32) = 0) by decide))
      refine xi_iload_n dX8_takes_159 rfl rfl ?_
      refine go_ret (r := some (.int _)) ⟨dX8_takes_160, (by first | exact Or.inl rfl | exact Or.inr rfl)⟩ (Nat.le_of_ble_eq_true rfl) (Nat.le_of_ble_eq_true rfl) ?_
      exact ⟨by unfold tmV; rw [if_neg h3, if_pos h90], by unfold tmV; rw [if_neg h3, if_pos h90], rfl, rfl⟩
    · refine xi_aload_n dX8_takes_93 rfl rfl ?_
      refine xi_getfield0 dX8_takes_94 fX8_129 g76 ?_
      refine xi_aload_n dX8_takes_97 rfl rfl ?_
      refine xi_getfield0 dX8_takes_98 fX8_132 g76 ?_
      rw [e13]
      refine xi_ifne (tgt := 109) dX8_takes_101 rfl (fun h101 => ?_) (fun h101 => ?_)
      · have ew : ¬ w = 0 := fun e => h101 (by rw [e]; rfl)
        refine xi_aload_n dX8_takes_109 rfl rfl ?_
        refine xi_getfield0 dX8_takes_110 fX8_132 g76 ?_
        rw [e15]
        first | rw [e13] | skip
        refine xi_icmp_ge (tgt := 120) dX8_takes_113 rfl (fun h113 => ?_) (fun h113 => ?_)
        · have e8 : (if w = 0 then 8 else w) ≤ hh := by
            simp only [ew, if_true, if_false]
            first | exact (nI_leI (a := 8) (b := hh) (by decide) (by omega)).mp h113 | exact (nI_leI (by omega) (by omega)).mp h113
          refine xi_iconst (v := 0) dX8_takes_120 (by decide) ?_
          refine xi_istore_n dX8_takes_121 rfl (Nat.le_of_ble_eq_true rfl) ?_
          refine xi_iload_n dX8_takes_122 rfl rfl ?_
          refine xi_if_eq (tgt := 159) dX8_takes_123 rfl (fun _ => ?_) (fun h => absurd h (show ¬ (¬ (0 : Int32) = 0) by decide))
          refine xi_iload_n dX8_takes_159 rfl rfl ?_
          refine go_ret (r := some (.int _)) ⟨dX8_takes_160, (by first | exact Or.inl rfl | exact Or.inr rfl)⟩ (Nat.le_of_ble_eq_true rfl) (Nat.le_of_ble_eq_true rfl) ?_
          exact ⟨by unfold tmV; simp only [h3, h90, e8, if_true, if_false], by unfold tmV; simp only [h3, h90, e8, if_true, if_false], rfl, rfl⟩
        · have e8 : ¬ (if w = 0 then 8 else w) ≤ hh := by
            simp only [ew, if_true, if_false]
            first | exact fun z => h113 ((nI_leI (a := 8) (b := hh) (by decide) (by omega)).mpr z) | exact fun z => h113 ((nI_leI (by omega) (by omega)).mpr z)
          refine xi_iconst (v := 1) dX8_takes_116 (by decide) ?_
          refine xi_goto (tgt := 121) dX8_takes_117 rfl ?_
          refine xi_istore_n dX8_takes_121 rfl (Nat.le_of_ble_eq_true rfl) ?_
          refine xi_iload_n dX8_takes_122 rfl rfl ?_
          refine xi_if_eq (tgt := 159) dX8_takes_123 rfl (fun h => absurd h (show ¬ ((1 : Int32) = 0) by decide)) (fun _ => ?_)
          refine xi_aload_n dX8_takes_126 rfl rfl ?_
          refine xi_getfield3 dX8_takes_127 fX8_35 g76 r76_17 ?_
          refine xi_aload_n dX8_takes_130 rfl rfl ?_
          refine xi_getfield0 dX8_takes_131 fX8_142 g76 ?_
          rw [e16]
          refine xi_iload_n dX8_takes_134 rfl rfl ?_
          refine cS1 (av := [_]) dX8_takes_135 lX8_138 rfl ⟨rfl, rfl⟩ rfl ⟨(Nat.le_of_ble_eq_true rfl), (Nat.le_of_ble_eq_true rfl)⟩ ⟨(Nat.le_of_ble_eq_true rfl), (Nat.le_of_ble_eq_true rfl)⟩ (Nat.le_of_ble_eq_true rfl) (m_levelBy) ?_
          refine is dX8_takes_138 g83 s83 rfl (by omega) (Nat.le_of_ble_eq_true rfl) ?_
          refine xi_aload_n dX8_takes_139 rfl rfl ?_
          refine xi_dup dX8_takes_140 rfl ?_
          refine xi_getfield0 dX8_takes_141 fX8_142 g76 ?_
          rw [show updA (rdA A (w, r, hh, m, f)) 83 m (lbV c) 76 16 = nI m from rfl]
          refine xi_iconst (v := 1) dX8_takes_144 (by decide) ?_
          refine xi_iadd dX8_takes_145 ?_
          rw [nI_1]
          refine xi_putfield0 dX8_takes_146 fX8_142 g76 pX8_142 ?_
          refine xi_aload_n dX8_takes_149 rfl rfl ?_
          refine xi_dup dX8_takes_150 rfl ?_
          refine xi_getfield0 dX8_takes_151 fX8_129 g76 ?_
          rw [show updA (updA (rdA A (w, r, hh, m, f)) 83 m (lbV c)) 76 16 (nI (m + 1)) 76 15 = nI hh from rfl]
          refine xi_iconst (v := 1) dX8_takes_154 (by decide) ?_
          refine xi_iadd dX8_takes_155 ?_
          rw [nI_1]
          refine xi_putfield0 dX8_takes_156 fX8_129 g76 pX8_129 ?_
          refine xi_iload_n dX8_takes_159 rfl rfl ?_
          refine go_ret (r := some (.int _)) ⟨dX8_takes_160, (by first | exact Or.inl rfl | exact Or.inr rfl)⟩ (Nat.le_of_ble_eq_true rfl) (Nat.le_of_ble_eq_true rfl) ?_
          exact ⟨by unfold tmV; simp only [h3, h90, e8, if_false], by unfold tmV; simp only [h3, h90, e8, if_false]; clear fin; funext k' i; simp only [rdA, updA_get, setA_get, upd]; grind (splits := 40), rfl, rfl⟩
      · have ew : w = 0 := (w0 (by omega)).mp h101
        refine xi_bipush (v := 8) dX8_takes_104 (by decide) ?_
        refine xi_goto (tgt := 113) dX8_takes_106 rfl ?_
        rw [e15]
        first | rw [e13] | skip
        refine xi_icmp_ge (tgt := 120) dX8_takes_113 rfl (fun h113 => ?_) (fun h113 => ?_)
        · have e8 : (if w = 0 then 8 else w) ≤ hh := by
            simp only [ew, if_true, if_false]
            first | exact (nI_leI (a := 8) (b := hh) (by decide) (by omega)).mp h113 | exact (nI_leI (by omega) (by omega)).mp h113
          refine xi_iconst (v := 0) dX8_takes_120 (by decide) ?_
          refine xi_istore_n dX8_takes_121 rfl (Nat.le_of_ble_eq_true rfl) ?_
          refine xi_iload_n dX8_takes_122 rfl rfl ?_
          refine xi_if_eq (tgt := 159) dX8_takes_123 rfl (fun _ => ?_) (fun h => absurd h (show ¬ (¬ (0 : Int32) = 0) by decide))
          refine xi_iload_n dX8_takes_159 rfl rfl ?_
          refine go_ret (r := some (.int _)) ⟨dX8_takes_160, (by first | exact Or.inl rfl | exact Or.inr rfl)⟩ (Nat.le_of_ble_eq_true rfl) (Nat.le_of_ble_eq_true rfl) ?_
          exact ⟨by unfold tmV; simp only [h3, h90, e8, if_true, if_false], by unfold tmV; simp only [h3, h90, e8, if_true, if_false], rfl, rfl⟩
        · have e8 : ¬ (if w = 0 then 8 else w) ≤ hh := by
            simp only [ew, if_true, if_false]
            first | exact fun z => h113 ((nI_leI (a := 8) (b := hh) (by decide) (by omega)).mpr z) | exact fun z => h113 ((nI_leI (by omega) (by omega)).mpr z)
          refine xi_iconst (v := 1) dX8_takes_116 (by decide) ?_
          refine xi_goto (tgt := 121) dX8_takes_117 rfl ?_
          refine xi_istore_n dX8_takes_121 rfl (Nat.le_of_ble_eq_true rfl) ?_
          refine xi_iload_n dX8_takes_122 rfl rfl ?_
          refine xi_if_eq (tgt := 159) dX8_takes_123 rfl (fun h => absurd h (show ¬ ((1 : Int32) = 0) by decide)) (fun _ => ?_)
          refine xi_aload_n dX8_takes_126 rfl rfl ?_
          refine xi_getfield3 dX8_takes_127 fX8_35 g76 r76_17 ?_
          refine xi_aload_n dX8_takes_130 rfl rfl ?_
          refine xi_getfield0 dX8_takes_131 fX8_142 g76 ?_
          rw [e16]
          refine xi_iload_n dX8_takes_134 rfl rfl ?_
          refine cS1 (av := [_]) dX8_takes_135 lX8_138 rfl ⟨rfl, rfl⟩ rfl ⟨(Nat.le_of_ble_eq_true rfl), (Nat.le_of_ble_eq_true rfl)⟩ ⟨(Nat.le_of_ble_eq_true rfl), (Nat.le_of_ble_eq_true rfl)⟩ (Nat.le_of_ble_eq_true rfl) (m_levelBy) ?_
          refine is dX8_takes_138 g83 s83 rfl (by omega) (Nat.le_of_ble_eq_true rfl) ?_
          refine xi_aload_n dX8_takes_139 rfl rfl ?_
          refine xi_dup dX8_takes_140 rfl ?_
          refine xi_getfield0 dX8_takes_141 fX8_142 g76 ?_
          rw [show updA (rdA A (w, r, hh, m, f)) 83 m (lbV c) 76 16 = nI m from rfl]
          refine xi_iconst (v := 1) dX8_takes_144 (by decide) ?_
          refine xi_iadd dX8_takes_145 ?_
          rw [nI_1]
          refine xi_putfield0 dX8_takes_146 fX8_142 g76 pX8_142 ?_
          refine xi_aload_n dX8_takes_149 rfl rfl ?_
          refine xi_dup dX8_takes_150 rfl ?_
          refine xi_getfield0 dX8_takes_151 fX8_129 g76 ?_
          rw [show updA (updA (rdA A (w, r, hh, m, f)) 83 m (lbV c)) 76 16 (nI (m + 1)) 76 15 = nI hh from rfl]
          refine xi_iconst (v := 1) dX8_takes_154 (by decide) ?_
          refine xi_iadd dX8_takes_155 ?_
          rw [nI_1]
          refine xi_putfield0 dX8_takes_156 fX8_129 g76 pX8_129 ?_
          refine xi_iload_n dX8_takes_159 rfl rfl ?_
          refine go_ret (r := some (.int _)) ⟨dX8_takes_160, (by first | exact Or.inl rfl | exact Or.inr rfl)⟩ (Nat.le_of_ble_eq_true rfl) (Nat.le_of_ble_eq_true rfl) ?_
          exact ⟨by unfold tmV; simp only [h3, h90, e8, if_false], by unfold tmV; simp only [h3, h90, e8, if_false]; clear fin; funext k' i; simp only [rdA, updA_get, setA_get, upd]; grind (splits := 40), rfl, rfl⟩
  · refine xi_aload_n dX8_takes_6 rfl rfl ?_
    refine xi_getfield0 dX8_takes_7 fX8_129 g76 ?_
    rw [e15]
    refine xi_if_le (tgt := 44) dX8_takes_10 rfl (fun h10 => ?_) (fun h10 => ?_)
    · have eh : hh = 0 := nI_le0 (by omega) h10
      refine xi_iconst (v := 0) dX8_takes_44 (by decide) ?_
      refine xgo_pick [0, 1] rfl ?_
      exact fin _ h3 (by unfold tmO; simp_all) (by first | exact Or.inl rfl | exact Or.inr rfl)
    · have eh : ¬ hh = 0 := fun e => h10 (by rw [e]; decide)
      refine xi_aload_n dX8_takes_13 rfl rfl ?_
      refine xi_getfield0 dX8_takes_14 fX8_132 g76 ?_
      rw [e13]
      refine xi_if_eq (tgt := 31) dX8_takes_17 rfl (fun h17 => ?_) (fun h17 => ?_)
      · have ew : w = 0 := (w0 (by omega)).mp h17
        refine xi_aload_n dX8_takes_31 rfl rfl ?_
        refine xi_getfield0 dX8_takes_32 fX8_135 g76 ?_
        refine xi_bipush (v := 7) dX8_takes_35 (by decide) ?_
        rw [e14]
        refine xi_icmp_ge (tgt := 44) dX8_takes_37 rfl (fun h37 => ?_) (fun h37 => ?_)
        · have e7 : 7 ≤ r := (nI_leI (a := 7) (b := r) (by decide) (by omega)).mp h37
          refine xi_iconst (v := 0) dX8_takes_44 (by decide) ?_
          refine xgo_pick [0, 1] rfl ?_
          exact fin _ h3 (by unfold tmO; simp_all) (by first | exact Or.inl rfl | exact Or.inr rfl)
        · have e7 : ¬ 7 ≤ r := fun z => h37 ((nI_leI (a := 7) (b := r) (by decide) (by omega)).mpr z)
          refine xi_iconst (v := 1) dX8_takes_40 (by decide) ?_
          refine xi_goto (tgt := 45) dX8_takes_41 rfl ?_
          refine xgo_pick [0, 1] rfl ?_
          exact fin _ h3 (by unfold tmO; simp_all) (by first | exact Or.inl rfl | exact Or.inr rfl)
      · have ew : ¬ w = 0 := fun e => h17 (by rw [e]; rfl)
        refine xi_aload_n dX8_takes_20 rfl rfl ?_
        refine xi_getfield0 dX8_takes_21 fX8_129 g76 ?_
        refine xi_aload_n dX8_takes_24 rfl rfl ?_
        refine xi_getfield0 dX8_takes_25 fX8_132 g76 ?_
        rw [e15, e13]
        refine xi_icmpne (tgt := 44) dX8_takes_28 rfl (fun h28 => ?_) (fun h28 => ?_)
        · have e1 : ¬ hh = w := fun e => h28 (by rw [e])
          refine xi_iconst (v := 0) dX8_takes_44 (by decide) ?_
          refine xgo_pick [0, 1] rfl ?_
          exact fin _ h3 (by unfold tmO; simp_all) (by first | exact Or.inl rfl | exact Or.inr rfl)
        · have e1 : hh = w := (nI_eq (by omega) (by omega)).mp h28
          refine xi_aload_n dX8_takes_31 rfl rfl ?_
          refine xi_getfield0 dX8_takes_32 fX8_135 g76 ?_
          refine xi_bipush (v := 7) dX8_takes_35 (by decide) ?_
          rw [e14]
          refine xi_icmp_ge (tgt := 44) dX8_takes_37 rfl (fun h37 => ?_) (fun h37 => ?_)
          · have e7 : 7 ≤ r := (nI_leI (a := 7) (b := r) (by decide) (by omega)).mp h37
            refine xi_iconst (v := 0) dX8_takes_44 (by decide) ?_
            refine xgo_pick [0, 1] rfl ?_
            exact fin _ h3 (by unfold tmO; simp_all) (by first | exact Or.inl rfl | exact Or.inr rfl)
          · have e7 : ¬ 7 ≤ r := fun z => h37 ((nI_leI (a := 7) (b := r) (by decide) (by omega)).mpr z)
            refine xi_iconst (v := 1) dX8_takes_40 (by decide) ?_
            refine xi_goto (tgt := 45) dX8_takes_41 rfl ?_
            refine xgo_pick [0, 1] rfl ?_
            exact fin _ h3 (by unfold tmO; simp_all) (by first | exact Or.inl rfl | exact Or.inr rfl)
def rlV (buf : Nat → Int32) : Nat → Nat → rdT → Nat × rdT
  | 0, i, q => (i, q)
  | d + 1, i, q => if (tmV (buf i) q).1 = 0 then (i, (tmV (buf i) q).2) else rlV buf d (i + 1) (tmV (buf i) q).2
def rlR (A : xA) (len : Nat) : Nat × rdT := rlV (A 82) len 0 (0, 0, 0, 0, A 83)
theorem rlV_le (buf : Nat → Int32) : ∀ d i q, (rlV buf d i q).1 ≤ i + d
  | 0, i, q => by unfold rlV; simp
  | d + 1, i, q => by
    unfold rlV
    split
    · simp
    · have := rlV_le buf d (i + 1) (tmV (buf i) q).2
      omega
theorem rlV_I (buf : Nat → Int32) : ∀ d i q, rdI q → (rlV buf d i q).1 = i + d → rdI (rlV buf d i q).2
  | 0, i, q, h, _ => by unfold rlV; exact h
  | d + 1, i, q, h, h1 => by
    unfold rlV at h1 ⊢
    by_cases e : (tmV (buf i) q).1 = 0
    · rw [if_pos e] at h1; simp at h1
    · rw [if_neg e] at h1 ⊢
      exact rlV_I buf d (i + 1) _ (rdI_t h e) (by omega)
theorem m_rightLength {len : Nat} {A : xA} {B : xB} {D : xD} (hl0 : A 76 11 = nI len) (hl72 : len ≤ 72) : does0 mX8_rightLength [.ref 76] A B D (eqQ (some (.int (nI (rlR A len).1))) (rdA A (rlR A len).2) B D) nx := by
  refine does_go (by decide) rfl (Nat.le_of_ble_eq_true rfl) rfl ?_
  generalize hR : rlR A len = R
  have e11 : ∀ q, rdA A q 76 11 = nI len := fun q => hl0
  have loop := up_ind (n := len) (P := fun j => ∀ q, rdI q → rlV (A 82) (len - j) j q = R → go0 mX8_rightLength (eqQ (some (.int (nI R.1))) (rdA A R.2) B D) nx 0 0 22 [(0, .ref 76), (1, .int (nI j))] [] (rdA A q) B D) (fun j hj ih q hI hx => by
    refine xi_iload_n dX8_rightLength_22 rfl rfl ?_
    refine xi_aload_n dX8_rightLength_23 rfl rfl ?_
    refine xi_getfield0 dX8_rightLength_24 fX8_126 g76 ?_
    rw [e11]
    refine xi_icmp_ge (tgt := 49) dX8_rightLength_27 rfl (fun h27 => ?_) (fun h27 => ?_)
    · have e : j = len := ge_eq hj (by omega) h27
      subst e
      refine xi_iload_n dX8_rightLength_49 rfl rfl ?_
      refine go_ret (r := some (.int _)) dX8_rightLength_50 (Nat.le_of_ble_eq_true rfl) (Nat.le_of_ble_eq_true rfl) ?_
      rw [Nat.sub_self] at hx
      exact ⟨by rw [← hx]; rfl, by rw [← hx]; rfl, rfl, rfl⟩
    · have hl : j < len := nge_lt hj (by omega) h27
      obtain ⟨d, hd⟩ : ∃ d, len - j = d + 1 := ⟨len - j - 1, by omega⟩
      have hd2 : len - (j + 1) = d := by omega
      rw [hd] at hx
      unfold rlV at hx
      refine xi_aload_n dX8_rightLength_30 rfl rfl ?_
      refine xi_aload_n dX8_rightLength_31 rfl rfl ?_
      refine xi_getfield3 dX8_rightLength_32 fX8_32 g76 r76_12 ?_
      refine xi_iload_n dX8_rightLength_35 rfl rfl ?_
      refine ia dX8_rightLength_36 g82 s82 rfl (by omega) (Nat.le_of_ble_eq_true rfl) ?_
      rw [show rdA A q 82 j = A 82 j from rfl]
      refine cV1 (av := [_]) dX8_rightLength_37 lX8_145 rfl ⟨rfl, rfl⟩ rfl ⟨(Nat.le_of_ble_eq_true rfl), (Nat.le_of_ble_eq_true rfl)⟩ ⟨(Nat.le_of_ble_eq_true rfl), (Nat.le_of_ble_eq_true rfl)⟩ (Nat.le_of_ble_eq_true rfl) g76 rfl rfl (m_takes hI) ?_
      refine xi_if_eq (tgt := 49) dX8_rightLength_40 rfl (fun h40 => ?_) (fun h40 => ?_)
      · refine xi_iload_n dX8_rightLength_49 rfl rfl ?_
        refine go_ret (r := some (.int _)) dX8_rightLength_50 (Nat.le_of_ble_eq_true rfl) (Nat.le_of_ble_eq_true rfl) ?_
        rw [if_pos h40] at hx
        exact ⟨by rw [← hx], by rw [← hx], rfl, rfl⟩
      · refine xi_iinc (v := 1) dX8_rightLength_43 rfl (by decide) (Nat.le_of_ble_eq_true rfl) ?_
        refine xi_goto (tgt := 22) dX8_rightLength_46 rfl ?_
        refine xgo_pick [0, 1] rfl ?_
        rw [nI_1]
        exact ih hl _ (rdI_t hI h40) (by rw [hd2]; rw [if_neg h40] at hx; exact hx)
    )
  refine xi_aload_n dX8_rightLength_0 rfl rfl ?_
  refine xi_iconst (v := 0) dX8_rightLength_1 (by decide) ?_
  refine xi_putfield0 dX8_rightLength_2 fX8_132 g76 pX8_132 ?_
  refine xi_aload_n dX8_rightLength_5 rfl rfl ?_
  refine xi_iconst (v := 0) dX8_rightLength_6 (by decide) ?_
  refine xi_putfield0 dX8_rightLength_7 fX8_135 g76 pX8_135 ?_
  refine xi_aload_n dX8_rightLength_10 rfl rfl ?_
  refine xi_iconst (v := 0) dX8_rightLength_11 (by decide) ?_
  refine xi_putfield0 dX8_rightLength_12 fX8_129 g76 pX8_129 ?_
  refine xi_aload_n dX8_rightLength_15 rfl rfl ?_
  refine xi_iconst (v := 0) dX8_rightLength_16 (by decide) ?_
  refine xi_putfield0 dX8_rightLength_17 fX8_142 g76 pX8_142 ?_
  refine xi_iconst (v := 0) dX8_rightLength_20 (by decide) ?_
  refine xi_istore_n dX8_rightLength_21 rfl (Nat.le_of_ble_eq_true rfl) ?_
  refine xgo_pick [0, 1] rfl ?_
  have l0 := loop 0 (Nat.zero_le _) (0, 0, 0, 0, A 83) (by unfold rdI; simp) hR
  rw [show rdA A (0, 0, 0, 0, A 83) = updA (updA (updA (updA A 76 13 0) 76 14 0) 76 15 0) 76 16 0 by clear loop l0; funext k' i; simp only [rdA, updA_get, setA_get, nI_0]; grind (splits := 40)] at l0
  exact l0
theorem m_firstError {c r n sz len : Nat} {A : xA} {B : xB} {D : xD} (h : mOK A c r n sz len) : does0 mX8_firstError [.ref 76] A B D (eqQ (some (.int (nI (rlR A len).1))) (rdA (updA A 76 0 0) (rlR A len).2) B D) nx := by
  refine does_go (by decide) rfl (Nat.le_of_ble_eq_true rfl) rfl ?_
  refine xi_aload_n dX8_firstError_0 rfl rfl ?_
  refine xi_iconst (v := 0) dX8_firstError_1 (by decide) ?_
  refine xi_putfield0 dX8_firstError_2 fX8_73 g76 pX8_73 ?_
  refine xi_aload_n dX8_firstError_5 rfl rfl ?_
  refine cV1 (av := []) dX8_firstError_6 lX8_148 rfl ⟨rfl, rfl⟩ rfl ⟨(Nat.le_of_ble_eq_true rfl), (Nat.le_of_ble_eq_true rfl)⟩ ⟨(Nat.le_of_ble_eq_true rfl), (Nat.le_of_ble_eq_true rfl)⟩ (Nat.le_of_ble_eq_true rfl) g76 rfl rfl (m_rightLength (len := len) (A := updA A 76 0 0) h.2.2.1 h.2.2.2) ?_
  refine go_ret (r := some (.int _)) dX8_firstError_9 (Nat.le_of_ble_eq_true rfl) (Nat.le_of_ble_eq_true rfl) ?_
  exact ⟨rfl, rfl, rfl, rfl⟩
def ldC (R : Nat × rdT) (len : Nat) : Prop := R.1 = len ∧ 0 < R.2.2.2.1 ∧ (R.2.1 = 0 ∨ R.2.2.2.1 = R.2.1)
def lcA (A : xA) (p : Nat) : xA := setA A 77 (fun j => if j < p then A 83 j else A 77 j)
def mlA (A : xA) (sz : Nat) (q : rdT) : xA := clA (svA (updA (rdA A q) 76 0 0) sz) (nI q.2.2.1) (nI (q.2.1 + 1)) 64
theorem m_load {c r n sz len : Nat} {A : xA} {B : xB} {D : xD} (h : mOK A c r n sz len) : does0 mX8_load [.ref 76] A B D (mQ D (ldC (rlR A len) len) True (some (.int (nI ((rlR A len).2.2.2.1 * ((rlR A len).2.2.1 + 1))))) (updA (lcA (mlA A sz (rlR A len).2) (rlR A len).2.2.2.2.1) 76 11 0) B (rdA A (rlR A len).2) B) nx := by
  refine does_go (by decide) rfl (Nat.le_of_ble_eq_true rfl) rfl ?_
  have hb1 : (rlR A len).1 ≤ len := by have := rlV_le (A 82) len 0 (0, 0, 0, 0, A 83); unfold rlR; omega
  have hI1 : (rlR A len).1 = len → rdI (rlR A len).2 := fun e => rlV_I (A 82) len 0 (0, 0, 0, 0, A 83) (by unfold rdI; simp) (by rw [Nat.zero_add]; exact e)
  have cR := m_rightLength (B := B) (D := D) h.2.2.1 h.2.2.2
  generalize rlR A len = R at hb1 hI1 cR ⊢
  obtain ⟨R1, w, rr, hh, m, f⟩ := R
  simp only at hb1 hI1 cR ⊢
  have hl := h.2.2.1
  have hl2 := h.2.2.2
  have e11 : rdA A (w, rr, hh, m, f) 76 11 = nI len := hl
  have e13 : rdA A (w, rr, hh, m, f) 76 13 = nI w := rfl
  have e15 : rdA A (w, rr, hh, m, f) 76 15 = nI hh := rfl
  have w0 : ∀ {x : Nat}, x < 2 ^ 31 → (nI x = 0 ↔ x = 0) := fun hx => nI_eq (b := 0) hx (by decide)
  have loop : ldC (R1, w, rr, hh, m, f) len → m ≤ 64 → ∀ j, j ≤ m → go0 mX8_load (mQ D (ldC (R1, w, rr, hh, m, f) len) True (some (.int (nI (hh * (rr + 1))))) (updA (lcA (mlA A sz (w, rr, hh, m, f)) m) 76 11 0) B (rdA A (w, rr, hh, m, f)) B) nx 0 0 84 [(0, .ref 76), (2, .int (nI j))] [] (lcA (mlA A sz (w, rr, hh, m, f)) j) B D := by
    intro hC hm
    refine up_ind (fun j hj ih => ?_)
    refine xi_iload_n dX8_load_84 rfl rfl ?_
    refine xi_aload_n dX8_load_85 rfl rfl ?_
    refine xi_getfield0 dX8_load_86 fX8_142 g76 ?_
    rw [show lcA (mlA A sz (w, rr, hh, m, f)) j 76 16 = nI m from rfl]
    refine xi_icmp_ge (tgt := 110) dX8_load_89 rfl (fun h89 => ?_) (fun h89 => ?_)
    · have e : j = m := ge_eq hj (by omega) h89
      subst e
      refine xi_aload_n dX8_load_110 rfl rfl ?_
      refine xi_iconst (v := 0) dX8_load_111 (by decide) ?_
      refine xi_putfield0 dX8_load_112 fX8_126 g76 pX8_126 ?_
      refine xi_aload_n dX8_load_115 rfl rfl ?_
      refine cV1 (av := []) dX8_load_116 lX8_76 rfl ⟨rfl, rfl⟩ rfl ⟨(Nat.le_of_ble_eq_true rfl), (Nat.le_of_ble_eq_true rfl)⟩ ⟨(Nat.le_of_ble_eq_true rfl), (Nat.le_of_ble_eq_true rfl)⟩ (Nat.le_of_ble_eq_true rfl) g76 rfl rfl (m_pixels) ?_
      rw [show updA (lcA (mlA A sz (w, rr, hh, j, f)) j) 76 11 0 76 1 * updA (lcA (mlA A sz (w, rr, hh, j, f)) j) 76 11 0 76 2 = nI (hh * (rr + 1)) from pk_mul hh (rr + 1)]
      refine go_ret (r := some (.int _)) dX8_load_119 (Nat.le_of_ble_eq_true rfl) (Nat.le_of_ble_eq_true rfl) ?_
      exact ⟨rfl, Or.inl ⟨hC, trivial, rfl, rfl, rfl⟩⟩
    · have hl : j < m := nge_lt hj (by omega) h89
      refine xi_aload_n dX8_load_92 rfl rfl ?_
      refine xi_getfield3 dX8_load_93 fX8_16 g76 r76_3 ?_
      refine xi_iload_n dX8_load_96 rfl rfl ?_
      refine xi_aload_n dX8_load_97 rfl rfl ?_
      refine xi_getfield3 dX8_load_98 fX8_35 g76 r76_17 ?_
      refine xi_iload_n dX8_load_101 rfl rfl ?_
      refine ia dX8_load_102 g83 s83 rfl (by omega) (Nat.le_of_ble_eq_true rfl) ?_
      refine is dX8_load_103 g77 s77 rfl (by omega) (Nat.le_of_ble_eq_true rfl) ?_
      refine xi_iinc (v := 1) dX8_load_104 rfl (by decide) (Nat.le_of_ble_eq_true rfl) ?_
      refine xi_goto (tgt := 84) dX8_load_107 rfl ?_
      refine xgo_pick [0, 2] rfl ?_
      rw [nI_1]
      have q := ih hl
      rw [show lcA (mlA A sz (w, rr, hh, m, f)) (j + 1) = updA (lcA (mlA A sz (w, rr, hh, m, f)) j) 77 j (lcA (mlA A sz (w, rr, hh, m, f)) j 83 j) by clear ih q; generalize mlA A sz (w, rr, hh, m, f) = A0; funext k' i; simp only [lcA, updA_get, setA_get]; grind (splits := 40)] at q
      exact q
  have bad : ¬ ldC (R1, w, rr, hh, m, f) len → go0 mX8_load (mQ D (ldC (R1, w, rr, hh, m, f) len) True (some (.int (nI (hh * (rr + 1))))) (updA (lcA (mlA A sz (w, rr, hh, m, f)) m) 76 11 0) B (rdA A (w, rr, hh, m, f)) B) nx 0 0 40 [(0, .ref 76)] [] (rdA A (w, rr, hh, m, f)) B D := by
    intro hC
    refine xi_iconst (v := 0) dX8_load_40 (by decide) ?_
    refine xi_istore_n dX8_load_41 rfl (Nat.le_of_ble_eq_true rfl) ?_
    refine xi_aload_n dX8_load_42 rfl rfl ?_
    refine xi_iload_n dX8_load_43 rfl rfl ?_
    refine xi_if_eq (tgt := 51) dX8_load_44 rfl (fun _ => ?_) (fun h => absurd h (show ¬ (¬ (0 : Int32) = 0) by decide))
    refine xi_iconst (v := 1) dX8_load_51 (by decide) ?_
    refine xi_putfield0 dX8_load_52 fX8_73 g76 pX8_73 ?_
    refine xi_aload_n dX8_load_55 rfl rfl ?_
    refine xi_getfield0 dX8_load_56 fX8_73 g76 ?_
    refine xi_if_le (tgt := 64) dX8_load_59 rfl (fun h => absurd h (show ¬ ((1 : Int32) ≤ 0) by decide)) (fun _ => ?_)
    refine xi_iconst (v := 0) dX8_load_62 (by decide) ?_
    refine go_ret (r := some (.int _)) dX8_load_63 (Nat.le_of_ble_eq_true rfl) (Nat.le_of_ble_eq_true rfl) ?_
    exact ⟨rfl, Or.inr (Or.inl ⟨hC, rfl, rfl, rfl⟩)⟩
  have good : ldC (R1, w, rr, hh, m, f) len → go0 mX8_load (mQ D (ldC (R1, w, rr, hh, m, f) len) True (some (.int (nI (hh * (rr + 1))))) (updA (lcA (mlA A sz (w, rr, hh, m, f)) m) 76 11 0) B (rdA A (w, rr, hh, m, f)) B) nx 0 0 36 [(0, .ref 76)] [] (rdA A (w, rr, hh, m, f)) B D := by
    intro hC
    have hb2 := rdI_b (hI1 hC.1)
    refine xi_iconst (v := 1) dX8_load_36 (by decide) ?_
    refine xi_goto (tgt := 41) dX8_load_37 rfl ?_
    refine xi_istore_n dX8_load_41 rfl (Nat.le_of_ble_eq_true rfl) ?_
    refine xi_aload_n dX8_load_42 rfl rfl ?_
    refine xi_iload_n dX8_load_43 rfl rfl ?_
    refine xi_if_eq (tgt := 51) dX8_load_44 rfl (fun h => absurd h (show ¬ ((1 : Int32) = 0) by decide)) (fun _ => ?_)
    refine xi_iconst (v := 0) dX8_load_47 (by decide) ?_
    refine xi_goto (tgt := 52) dX8_load_48 rfl ?_
    refine xi_putfield0 dX8_load_52 fX8_73 g76 pX8_73 ?_
    refine xi_aload_n dX8_load_55 rfl rfl ?_
    refine xi_getfield0 dX8_load_56 fX8_73 g76 ?_
    refine xi_if_le (tgt := 64) dX8_load_59 rfl (fun _ => ?_) (fun h => absurd h (show ¬ (¬ (0 : Int32) ≤ 0) by decide))
    refine xi_aload_n dX8_load_64 rfl rfl ?_
    refine cV1 (av := []) dX8_load_65 lX8_100 rfl ⟨rfl, rfl⟩ rfl ⟨(Nat.le_of_ble_eq_true rfl), (Nat.le_of_ble_eq_true rfl)⟩ ⟨(Nat.le_of_ble_eq_true rfl), (Nat.le_of_ble_eq_true rfl)⟩ (Nat.le_of_ble_eq_true rfl) g76 rfl rfl (m_save (sz := sz) (A := updA (rdA A (w, rr, hh, m, f)) 76 0 0) h.2.1.1 h.2.1.2) ?_
    refine xi_aload_n dX8_load_68 rfl rfl ?_
    refine xi_aload_n dX8_load_69 rfl rfl ?_
    refine xi_getfield0 dX8_load_70 fX8_129 g76 ?_
    refine xi_aload_n dX8_load_73 rfl rfl ?_
    refine xi_getfield0 dX8_load_74 fX8_135 g76 ?_
    rw [show svA (updA (rdA A (w, rr, hh, m, f)) 76 0 0) sz 76 15 = nI hh from rfl, show svA (updA (rdA A (w, rr, hh, m, f)) 76 0 0) sz 76 14 = nI rr from rfl]
    refine xi_iconst (v := 1) dX8_load_77 (by decide) ?_
    refine xi_iadd dX8_load_78 ?_
    rw [nI_1]
    refine cV1 (av := [_, _]) dX8_load_79 lX8_103 rfl ⟨rfl, rfl⟩ rfl ⟨(Nat.le_of_ble_eq_true rfl), (Nat.le_of_ble_eq_true rfl)⟩ ⟨(Nat.le_of_ble_eq_true rfl), (Nat.le_of_ble_eq_true rfl)⟩ (Nat.le_of_ble_eq_true rfl) g76 rfl rfl (m_clear) ?_
    refine xi_iconst (v := 0) dX8_load_82 (by decide) ?_
    refine xi_istore_n dX8_load_83 rfl (Nat.le_of_ble_eq_true rfl) ?_
    refine xgo_pick [0, 2] rfl ?_
    have l0 := loop hC hb2.2.1 0 (Nat.zero_le _)
    rw [show lcA (mlA A sz (w, rr, hh, m, f)) 0 = mlA A sz (w, rr, hh, m, f) by clear loop bad l0; generalize mlA A sz (w, rr, hh, m, f) = A0; funext k' i; simp only [lcA, setA_get]; grind] at l0
    exact l0
  refine xi_aload_n dX8_load_0 rfl rfl ?_
  refine cV1 (av := []) dX8_load_1 lX8_148 rfl ⟨rfl, rfl⟩ rfl ⟨(Nat.le_of_ble_eq_true rfl), (Nat.le_of_ble_eq_true rfl)⟩ ⟨(Nat.le_of_ble_eq_true rfl), (Nat.le_of_ble_eq_true rfl)⟩ (Nat.le_of_ble_eq_true rfl) g76 rfl rfl (cR) ?_
  refine xi_aload_n dX8_load_4 rfl rfl ?_
  refine xi_getfield0 dX8_load_5 fX8_126 g76 ?_
  rw [e11]
  refine xi_icmpne (tgt := 40) dX8_load_8 rfl (fun h8 => ?_) (fun h8 => ?_)
  · refine xgo_pick [0] rfl ?_
    exact bad (fun z => h8 (by rw [show R1 = len from z.1]))
  · have e1 : R1 = len := (nI_eq (by omega) (by omega)).mp h8
    obtain ⟨b1, b2, b3, b4, b5⟩ := hI1 e1
    have b6 := (rdI_b (hI1 e1)).1
    simp only at b1 b6
    refine xi_aload_n dX8_load_11 rfl rfl ?_
    refine xi_getfield0 dX8_load_12 fX8_129 g76 ?_
    rw [e15]
    refine xi_if_le (tgt := 40) dX8_load_15 rfl (fun h15 => ?_) (fun h15 => ?_)
    · refine xgo_pick [0] rfl ?_
      exact bad (fun z => Nat.ne_of_gt z.2.1 (nI_le0 (show hh < 2 ^ 31 by omega) h15))
    · have e2 : 0 < hh := Nat.pos_of_ne_zero (fun e => h15 (by rw [e]; decide))
      refine xi_aload_n dX8_load_18 rfl rfl ?_
      refine xi_getfield0 dX8_load_19 fX8_132 g76 ?_
      rw [e13]
      refine xi_if_eq (tgt := 36) dX8_load_22 rfl (fun h22 => ?_) (fun h22 => ?_)
      · refine xgo_pick [0] rfl ?_
        exact good ⟨e1, e2, Or.inl ((w0 (show w < 2 ^ 31 by omega)).mp h22)⟩
      · refine xi_aload_n dX8_load_25 rfl rfl ?_
        refine xi_getfield0 dX8_load_26 fX8_129 g76 ?_
        refine xi_aload_n dX8_load_29 rfl rfl ?_
        refine xi_getfield0 dX8_load_30 fX8_132 g76 ?_
        rw [e15, e13]
        refine xi_icmpne (tgt := 40) dX8_load_33 rfl (fun h33 => ?_) (fun h33 => ?_)
        · refine xgo_pick [0] rfl ?_
          exact bad (fun z => z.2.2.elim (fun e => h22 (by rw [show w = 0 from e]; rfl)) (fun e => h33 (by rw [show hh = w from e])))
        · refine xgo_pick [0] rfl ?_
          exact good ⟨e1, e2, Or.inr ((nI_eq (show hh < 2 ^ 31 by omega) (show w < 2 ^ 31 by omega)).mp h33)⟩

