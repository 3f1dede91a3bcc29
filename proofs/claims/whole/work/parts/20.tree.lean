/-! ComponentTree: the tree's questions. A1, B1: the heap behind refresh (hrf) -/
def rfA (A : xA) (B : xB) (n c r : Nat) (rk : Nat → Nat) (m : Nat) (pa : Nat → Nat) : xA := if A 0 11 = 0 then A else updA (measA (bldA A B 35 n c r (A 0 10) rk) (bldB A B 35 n c r (A 0 10) rk) pa m c r n) 0 11 0
def rfB (A : xA) (B : xB) (n c r : Nat) (rk : Nat → Nat) : xB := if A 0 11 = 0 then B else bldB A B 35 n c r (A 0 10) rk
theorem c_refresh {n c r m : Nat} {rk pa : Nat → Nat} {A : xA} {B : xB} {D : xD} (hc : A 1 0 = nI c) (hr : A 1 1 = nI r) (hc8 : c ≤ 8) (hr8 : r ≤ 8) (hn : c * r = n) (hei : A 0 10 = 0 ∨ A 0 10 = 1) (hrk : ∀ j, j < n → rk j < 16 ∧ trn (A 2 j) (A 0 9) = nI (rk j))
    (hT : ¬ A 0 11 = 0 → trOK (bldA A B 35 n c r (A 0 10) rk) m pa ∧ bldA A B 35 n c r (A 0 10) rk 36 0 = nI c ∧ bldA A B 35 n c r (A 0 10) rk 36 1 = nI r ∧ bldA A B 35 n c r (A 0 10) rk 36 2 = nI n) : does0 mX7_refresh [.ref 0] A B D (eqQ none (rfA A B n c r rk m pa) (rfB A B n c r rk) D) nx := by
  refine does_go (by decide) rfl (Nat.le_of_ble_eq_true rfl) rfl ?_
  have hn64 : n ≤ 64 := by subst hn; exact Nat.mul_le_mul hc8 hr8
  refine xi_aload_n dX7_refresh_0 rfl rfl ?_
  refine xi_getfield1 dX7_refresh_1 fX7_68 g0 ?_
  refine xi_if_eq (tgt := 42) dX7_refresh_4 rfl (fun h4 => ?_) (fun h4 => ?_)
  · refine go_ret (r := none) dX7_refresh_42 (Nat.le_of_ble_eq_true rfl) (Nat.le_of_ble_eq_true rfl) ?_
    exact ⟨rfl, (if_pos h4).symm, (if_pos h4).symm, rfl⟩
  · refine xi_aload_n dX7_refresh_7 rfl rfl ?_
    refine xi_getfield3 dX7_refresh_8 fX7_36 g0 r0_4 ?_
    refine xi_aload_n dX7_refresh_11 rfl rfl ?_
    refine xi_getfield3 dX7_refresh_12 fX7_10 g0 r0_0 ?_
    refine xi_aload_n dX7_refresh_15 rfl rfl ?_
    refine xi_getfield1 dX7_refresh_16 fX7_61 g0 ?_
    refine xi_aload_n dX7_refresh_19 rfl rfl ?_
    refine xi_getfield1 dX7_refresh_20 fX7_65 g0 ?_
    refine cV1 (av := [_, _, _]) dX7_refresh_23 lX7_231 rfl ⟨rfl, rfl⟩ rfl ⟨(Nat.le_of_ble_eq_true rfl), (Nat.le_of_ble_eq_true rfl)⟩ ⟨(Nat.le_of_ble_eq_true rfl), (Nat.le_of_ble_eq_true rfl)⟩ (Nat.le_of_ble_eq_true rfl) g35 rfl rfl (c_build (Or.inl rfl) isPic_1 hc hr hr8 hn hn64 hei hrk (fun i hi => ⟨by omega, by omega⟩)) ?_
    refine xi_aload_n dX7_refresh_26 rfl rfl ?_
    refine xi_getfield3 dX7_refresh_27 fX7_46 g0 r0_6 ?_
    refine xi_aload_n dX7_refresh_30 rfl rfl ?_
    refine xi_getfield3 dX7_refresh_31 fX7_36 g0 r0_4 ?_
    refine cV1 (av := [_]) dX7_refresh_34 lX7_254 rfl ⟨rfl, rfl⟩ rfl ⟨(Nat.le_of_ble_eq_true rfl), (Nat.le_of_ble_eq_true rfl)⟩ ⟨(Nat.le_of_ble_eq_true rfl), (Nat.le_of_ble_eq_true rfl)⟩ (Nat.le_of_ble_eq_true rfl) g55 rfl rfl (c_measure (hT h4).1 (hT h4).2.1 (hT h4).2.2.1 (hT h4).2.2.2 hc8 hr8 hn64) ?_
    refine xi_aload_n dX7_refresh_37 rfl rfl ?_
    refine xi_iconst (v := 0) dX7_refresh_38 (by decide) ?_
    refine xi_putfield1 dX7_refresh_39 fX7_68 g0 pX7_68 (by first | exact Or.inl rfl | exact Or.inr rfl) ?_
    refine go_ret (r := none) dX7_refresh_42 (Nat.le_of_ble_eq_true rfl) (Nat.le_of_ble_eq_true rfl) ?_
    exact ⟨rfl, (if_neg h4).symm, (if_neg h4).symm, rfl⟩
def cntV (A : xA) (n w : Nat) : Int32 := match w with
  | 0 => A 1 0
  | 1 => A 1 1
  | 5 => bcI (lvb (A 2) n)
  | 6 => isum (A 2) n
  | 7 => A 7 2
  | w => numV A 35 (nI w)
theorem c_numOf {n w : Nat} {A : xA} {B : xB} {D : xD} (hn : A 1 0 * A 1 1 = nI n) (hn64 : n ≤ 64) (hw : w < 8) : does0 mX7_numberOf [.ref 0, .int (nI w)] A B D (eqQ (some (.int (cntV A n w))) A B D) nx := by
  refine does_go (by decide) rfl (Nat.le_of_ble_eq_true rfl) rfl ?_
  refine xi_iload_n dX7_numberOf_0 rfl rfl ?_
  rcases (show w = 0 ∨ w = 1 ∨ w = 2 ∨ w = 3 ∨ w = 4 ∨ w = 5 ∨ w = 6 ∨ w = 7 by omega) with rfl | rfl | rfl | rfl | rfl | rfl | rfl | rfl
  · refine xi_tableIn (off := 47) (tgt := 48) dX7_numberOf_1 (by decide) (by decide) (by decide) rfl ?_
    refine xi_aload_n dX7_numberOf_48 rfl rfl ?_
    refine xi_getfield3 dX7_numberOf_49 fX7_10 g0 r0_0 ?_
    refine xi_getfield0 dX7_numberOf_52 fX7_258 g1 ?_
    refine go_ret (r := some (.int _)) dX7_numberOf_55 (Nat.le_of_ble_eq_true rfl) (Nat.le_of_ble_eq_true rfl) ?_
    exact ⟨rfl, rfl, rfl, rfl⟩
  · refine xi_tableIn (off := 55) (tgt := 56) dX7_numberOf_1 (by decide) (by decide) (by decide) rfl ?_
    refine xi_aload_n dX7_numberOf_56 rfl rfl ?_
    refine xi_getfield3 dX7_numberOf_57 fX7_10 g0 r0_0 ?_
    refine xi_getfield0 dX7_numberOf_60 fX7_261 g1 ?_
    refine go_ret (r := some (.int _)) dX7_numberOf_63 (Nat.le_of_ble_eq_true rfl) (Nat.le_of_ble_eq_true rfl) ?_
    exact ⟨rfl, rfl, rfl, rfl⟩
  · refine xi_tableIn (off := 87) (tgt := 88) dX7_numberOf_1 (by decide) (by decide) (by decide) rfl ?_
    refine xi_aload_n dX7_numberOf_88 rfl rfl ?_
    refine xi_getfield3 dX7_numberOf_89 fX7_36 g0 r0_4 ?_
    refine xi_iload_n dX7_numberOf_92 rfl rfl ?_
    refine cV1 (av := [_]) dX7_numberOf_93 lX7_235 rfl ⟨rfl, rfl⟩ rfl ⟨(Nat.le_of_ble_eq_true rfl), (Nat.le_of_ble_eq_true rfl)⟩ ⟨(Nat.le_of_ble_eq_true rfl), (Nat.le_of_ble_eq_true rfl)⟩ (Nat.le_of_ble_eq_true rfl) g35 rfl rfl (c_numberOf (Or.inl rfl)) ?_
    refine go_ret (r := some (.int _)) dX7_numberOf_96 (Nat.le_of_ble_eq_true rfl) (Nat.le_of_ble_eq_true rfl) ?_
    exact ⟨rfl, rfl, rfl, rfl⟩
  · refine xi_tableIn (off := 87) (tgt := 88) dX7_numberOf_1 (by decide) (by decide) (by decide) rfl ?_
    refine xi_aload_n dX7_numberOf_88 rfl rfl ?_
    refine xi_getfield3 dX7_numberOf_89 fX7_36 g0 r0_4 ?_
    refine xi_iload_n dX7_numberOf_92 rfl rfl ?_
    refine cV1 (av := [_]) dX7_numberOf_93 lX7_235 rfl ⟨rfl, rfl⟩ rfl ⟨(Nat.le_of_ble_eq_true rfl), (Nat.le_of_ble_eq_true rfl)⟩ ⟨(Nat.le_of_ble_eq_true rfl), (Nat.le_of_ble_eq_true rfl)⟩ (Nat.le_of_ble_eq_true rfl) g35 rfl rfl (c_numberOf (Or.inl rfl)) ?_
    refine go_ret (r := some (.int _)) dX7_numberOf_96 (Nat.le_of_ble_eq_true rfl) (Nat.le_of_ble_eq_true rfl) ?_
    exact ⟨rfl, rfl, rfl, rfl⟩
  · refine xi_tableIn (off := 87) (tgt := 88) dX7_numberOf_1 (by decide) (by decide) (by decide) rfl ?_
    refine xi_aload_n dX7_numberOf_88 rfl rfl ?_
    refine xi_getfield3 dX7_numberOf_89 fX7_36 g0 r0_4 ?_
    refine xi_iload_n dX7_numberOf_92 rfl rfl ?_
    refine cV1 (av := [_]) dX7_numberOf_93 lX7_235 rfl ⟨rfl, rfl⟩ rfl ⟨(Nat.le_of_ble_eq_true rfl), (Nat.le_of_ble_eq_true rfl)⟩ ⟨(Nat.le_of_ble_eq_true rfl), (Nat.le_of_ble_eq_true rfl)⟩ (Nat.le_of_ble_eq_true rfl) g35 rfl rfl (c_numberOf (Or.inl rfl)) ?_
    refine go_ret (r := some (.int _)) dX7_numberOf_96 (Nat.le_of_ble_eq_true rfl) (Nat.le_of_ble_eq_true rfl) ?_
    exact ⟨rfl, rfl, rfl, rfl⟩
  · refine xi_tableIn (off := 63) (tgt := 64) dX7_numberOf_1 (by decide) (by decide) (by decide) rfl ?_
    refine xi_aload_n dX7_numberOf_64 rfl rfl ?_
    refine xi_getfield3 dX7_numberOf_65 fX7_10 g0 r0_0 ?_
    refine cV1 (av := []) dX7_numberOf_68 lX7_264 rfl ⟨rfl, rfl⟩ rfl ⟨(Nat.le_of_ble_eq_true rfl), (Nat.le_of_ble_eq_true rfl)⟩ ⟨(Nat.le_of_ble_eq_true rfl), (Nat.le_of_ble_eq_true rfl)⟩ (Nat.le_of_ble_eq_true rfl) g1 rfl rfl (c_differentLevels isPic_1 hn hn64) ?_
    refine go_ret (r := some (.int _)) dX7_numberOf_71 (Nat.le_of_ble_eq_true rfl) (Nat.le_of_ble_eq_true rfl) ?_
    exact ⟨rfl, rfl, rfl, rfl⟩
  · refine xi_tableIn (off := 71) (tgt := 72) dX7_numberOf_1 (by decide) (by decide) (by decide) rfl ?_
    refine xi_aload_n dX7_numberOf_72 rfl rfl ?_
    refine xi_getfield3 dX7_numberOf_73 fX7_10 g0 r0_0 ?_
    refine cV1 (av := []) dX7_numberOf_76 lX7_267 rfl ⟨rfl, rfl⟩ rfl ⟨(Nat.le_of_ble_eq_true rfl), (Nat.le_of_ble_eq_true rfl)⟩ ⟨(Nat.le_of_ble_eq_true rfl), (Nat.le_of_ble_eq_true rfl)⟩ (Nat.le_of_ble_eq_true rfl) g1 rfl rfl (c_sumOfLevels isPic_1 hn hn64) ?_
    refine go_ret (r := some (.int _)) dX7_numberOf_79 (Nat.le_of_ble_eq_true rfl) (Nat.le_of_ble_eq_true rfl) ?_
    exact ⟨rfl, rfl, rfl, rfl⟩
  · refine xi_tableIn (off := 79) (tgt := 80) dX7_numberOf_1 (by decide) (by decide) (by decide) rfl ?_
    refine xi_aload_n dX7_numberOf_80 rfl rfl ?_
    refine xi_getfield3 dX7_numberOf_81 fX7_22 g0 r0_2 ?_
    refine xi_getfield0 dX7_numberOf_84 fX7_118 g7 ?_
    refine go_ret (r := some (.int _)) dX7_numberOf_87 (Nat.le_of_ble_eq_true rfl) (Nat.le_of_ble_eq_true rfl) ?_
    exact ⟨rfl, rfl, rfl, rfl⟩
theorem p_count {n : Nat} {v : Int32} {A A1 : xA} {B B1 : xB} {D : xD} (hrf : does0 mX7_refresh [.ref 0] A B D (eqQ none A1 B1 D) nx) (hn : A1 1 0 * A1 1 1 = nI n) (hn64 : n ≤ 64) : does0 mX7_count [.ref 0, .int v] A B D (rQ (inR v 8) (some (.int (cntV A1 n v.toNatClampNeg))) A1 B1 D) (rX (fun E => ¬ inR v 8 ∧ E = sIA) A B D) := by
  refine does_go (by decide) rfl (Nat.le_of_ble_eq_true rfl) rfl ?_
  refine xi_iload_n dX7_count_0 rfl rfl ?_
  refine xi_if_lt (tgt := 14) dX7_count_1 rfl (fun h1 => ?_) (fun h1 => ?_)
  · refine xi_iconst (v := 0) dX7_count_14 (by decide) ?_
    refine cSI (av := [_]) dX7_count_15 lX7_71 rfl rfl rfl ⟨(Nat.le_of_ble_eq_true rfl), (Nat.le_of_ble_eq_true rfl), (Nat.le_of_ble_eq_true rfl), (Nat.le_of_ble_eq_true rfl)⟩ (Nat.le_of_ble_eq_true rfl) (c_needArgument) (fun q => ⟨⟨fun z => by first | exact q (by decide) | exact z.1 h1 | exact h7 |> fun hh => absurd z.2 (Int32.not_lt.mpr hh), rfl⟩, rfl, rfl, rfl⟩) (fun h15 => ?_)
    exact absurd rfl h15
  · refine xi_iload_n dX7_count_4 rfl rfl ?_
    refine xi_bipush (v := 8) dX7_count_5 (by decide) ?_
    refine xi_icmp_ge (tgt := 14) dX7_count_7 rfl (fun h7 => ?_) (fun h7 => ?_)
    · refine xi_iconst (v := 0) dX7_count_14 (by decide) ?_
      refine cSI (av := [_]) dX7_count_15 lX7_71 rfl rfl rfl ⟨(Nat.le_of_ble_eq_true rfl), (Nat.le_of_ble_eq_true rfl), (Nat.le_of_ble_eq_true rfl), (Nat.le_of_ble_eq_true rfl)⟩ (Nat.le_of_ble_eq_true rfl) (c_needArgument) (fun q => ⟨⟨fun z => by first | exact q (by decide) | exact z.1 h1 | exact h7 |> fun hh => absurd z.2 (Int32.not_lt.mpr hh), rfl⟩, rfl, rfl, rfl⟩) (fun h15 => ?_)
      exact absurd rfl h15
    · refine xi_iconst (v := 1) dX7_count_10 (by decide) ?_
      refine xi_goto (tgt := 15) dX7_count_11 rfl ?_
      refine cSI (av := [_]) dX7_count_15 lX7_71 rfl rfl rfl ⟨(Nat.le_of_ble_eq_true rfl), (Nat.le_of_ble_eq_true rfl), (Nat.le_of_ble_eq_true rfl), (Nat.le_of_ble_eq_true rfl)⟩ (Nat.le_of_ble_eq_true rfl) (c_needArgument) (fun q => ⟨⟨fun z => by first | exact q (by decide) | exact z.1 h1 | exact h7 |> fun hh => absurd z.2 (Int32.not_lt.mpr hh), rfl⟩, rfl, rfl, rfl⟩) (fun h15 => ?_)
      have hv : inR v (nI 8) := ⟨h1, Int32.not_le.mp h7⟩
      obtain ⟨w, hw, rfl⟩ := inR_nI hv (by decide)
      refine xi_aload_n dX7_count_18 rfl rfl ?_
      refine cV1 (av := []) dX7_count_19 lX7_102 rfl ⟨rfl, rfl⟩ rfl ⟨(Nat.le_of_ble_eq_true rfl), (Nat.le_of_ble_eq_true rfl)⟩ ⟨(Nat.le_of_ble_eq_true rfl), (Nat.le_of_ble_eq_true rfl)⟩ (Nat.le_of_ble_eq_true rfl) g0 rfl rfl (hrf) ?_
      refine xi_aload_n dX7_count_22 rfl rfl ?_
      refine xi_iload_n dX7_count_23 rfl rfl ?_
      refine cV1 (av := [_]) dX7_count_24 lX7_142 rfl ⟨rfl, rfl⟩ rfl ⟨(Nat.le_of_ble_eq_true rfl), (Nat.le_of_ble_eq_true rfl)⟩ ⟨(Nat.le_of_ble_eq_true rfl), (Nat.le_of_ble_eq_true rfl)⟩ (Nat.le_of_ble_eq_true rfl) g0 rfl rfl (c_numOf hn hn64 hw) ?_
      refine go_ret (r := some (.int _)) dX7_count_27 (Nat.le_of_ble_eq_true rfl) (Nat.le_of_ble_eq_true rfl) ?_
      exact ⟨hv, by rw [nI_clamp (by omega)], rfl, rfl, rfl⟩
theorem p_nodeOf {c r n x sz len : Nat} {i : Int32} {A A1 : xA} {B B1 : xB} {D : xD} (h : cOK A c r n x sz len) (hrf : does0 mX7_refresh [.ref 0] A B D (eqQ none A1 B1 D) nx) : does0 mX7_nodeOf [.ref 0, .int i] A B D (rQ (inR i (nI n)) (some (.int (A1 42 i.toNatClampNeg))) A1 B1 D) (rX (fun E => ¬ inR i (nI n) ∧ E = sIO) A B D) := by
  refine does_go (by decide) rfl (Nat.le_of_ble_eq_true rfl) rfl ?_
  obtain ⟨hn, hn0, hn64⟩ := h.n
  refine xi_aload_n dX7_nodeOf_0 rfl rfl ?_
  refine xi_iload_n dX7_nodeOf_1 rfl rfl ?_
  refine cVI (av := [_]) dX7_nodeOf_2 lX7_87 rfl rfl rfl ⟨(Nat.le_of_ble_eq_true rfl), (Nat.le_of_ble_eq_true rfl), (Nat.le_of_ble_eq_true rfl), (Nat.le_of_ble_eq_true rfl)⟩ (Nat.le_of_ble_eq_true rfl) g0 rfl rfl (c_needPixel) (fun q => ⟨⟨by rwa [hn] at q, rfl⟩, rfl, rfl, rfl⟩) (fun h2 => ?_)
  rw [hn] at h2
  obtain ⟨p, hp, rfl⟩ := inR_nI h2 (by omega)
  refine xi_aload_n dX7_nodeOf_5 rfl rfl ?_
  refine cV1 (av := []) dX7_nodeOf_6 lX7_102 rfl ⟨rfl, rfl⟩ rfl ⟨(Nat.le_of_ble_eq_true rfl), (Nat.le_of_ble_eq_true rfl)⟩ ⟨(Nat.le_of_ble_eq_true rfl), (Nat.le_of_ble_eq_true rfl)⟩ (Nat.le_of_ble_eq_true rfl) g0 rfl rfl (hrf) ?_
  refine xi_aload_n dX7_nodeOf_9 rfl rfl ?_
  refine xi_getfield3 dX7_nodeOf_10 fX7_36 g0 r0_4 ?_
  refine xi_getfield3 dX7_nodeOf_13 fX7_145 g35 r35_10 ?_
  refine xi_iload_n dX7_nodeOf_16 rfl rfl ?_
  refine ia dX7_nodeOf_17 g42 s42 rfl (by omega) (Nat.le_of_ble_eq_true rfl) ?_
  refine go_ret (r := some (.int _)) dX7_nodeOf_18 (Nat.le_of_ble_eq_true rfl) (Nat.le_of_ble_eq_true rfl) ?_
  exact ⟨h2, by rw [nI_clamp (by omega)], rfl, rfl, rfl⟩
theorem p_attribute {m : Nat} {i a : Int32} {A A1 : xA} {B B1 : xB} {D : xD} (hrf : does0 mX7_refresh [.ref 0] A B D (eqQ none A1 B1 D) nx) (hm : A1 35 2 = nI m) (hm64 : m ≤ 64) : does0 mX7_attribute [.ref 0, .int i, .int a] A B D (rQ (inR i (nI m) ∧ inR a 12) (some (.int (A1 (57 + a.toNatClampNeg) i.toNatClampNeg))) A1 B1 D) (rX (fun E => ¬ inR i (nI m) ∧ E = sIO ∨ inR i (nI m) ∧ ¬ inR a 12 ∧ E = sIA) A1 B1 D) := by
  refine does_go (by decide) rfl (Nat.le_of_ble_eq_true rfl) rfl ?_
  refine xi_aload_n dX7_attribute_0 rfl rfl ?_
  refine cV1 (av := []) dX7_attribute_1 lX7_102 rfl ⟨rfl, rfl⟩ rfl ⟨(Nat.le_of_ble_eq_true rfl), (Nat.le_of_ble_eq_true rfl)⟩ ⟨(Nat.le_of_ble_eq_true rfl), (Nat.le_of_ble_eq_true rfl)⟩ (Nat.le_of_ble_eq_true rfl) g0 rfl rfl (hrf) ?_
  refine xi_aload_n dX7_attribute_4 rfl rfl ?_
  refine xi_iload_n dX7_attribute_5 rfl rfl ?_
  refine cVI (av := [_]) dX7_attribute_6 lX7_148 rfl rfl rfl ⟨(Nat.le_of_ble_eq_true rfl), (Nat.le_of_ble_eq_true rfl), (Nat.le_of_ble_eq_true rfl), (Nat.le_of_ble_eq_true rfl)⟩ (Nat.le_of_ble_eq_true rfl) g0 rfl rfl (c_needNode) (fun q => ⟨Or.inl ⟨by rwa [hm] at q, rfl⟩, rfl, rfl, rfl⟩) (fun h6 => ?_)
  rw [hm] at h6
  obtain ⟨v, hv, rfl⟩ := inR_nI h6 (by omega)
  refine xi_iload_n dX7_attribute_9 rfl rfl ?_
  refine xi_if_lt (tgt := 23) dX7_attribute_10 rfl (fun h10 => ?_) (fun h10 => ?_)
  · refine xi_iconst (v := 0) dX7_attribute_23 (by decide) ?_
    refine cSI (av := [_]) dX7_attribute_24 lX7_71 rfl rfl rfl ⟨(Nat.le_of_ble_eq_true rfl), (Nat.le_of_ble_eq_true rfl), (Nat.le_of_ble_eq_true rfl), (Nat.le_of_ble_eq_true rfl)⟩ (Nat.le_of_ble_eq_true rfl) (c_needArgument) (fun q => ⟨Or.inr ⟨h6, fun z => by first | exact q (by decide) | exact z.1 h10 | exact absurd z.2 (Int32.not_lt.mpr h16), rfl⟩, rfl, rfl, rfl⟩) (fun h24 => ?_)
    exact absurd rfl h24
  · refine xi_iload_n dX7_attribute_13 rfl rfl ?_
    refine xi_bipush (v := 12) dX7_attribute_14 (by decide) ?_
    refine xi_icmp_ge (tgt := 23) dX7_attribute_16 rfl (fun h16 => ?_) (fun h16 => ?_)
    · refine xi_iconst (v := 0) dX7_attribute_23 (by decide) ?_
      refine cSI (av := [_]) dX7_attribute_24 lX7_71 rfl rfl rfl ⟨(Nat.le_of_ble_eq_true rfl), (Nat.le_of_ble_eq_true rfl), (Nat.le_of_ble_eq_true rfl), (Nat.le_of_ble_eq_true rfl)⟩ (Nat.le_of_ble_eq_true rfl) (c_needArgument) (fun q => ⟨Or.inr ⟨h6, fun z => by first | exact q (by decide) | exact z.1 h10 | exact absurd z.2 (Int32.not_lt.mpr h16), rfl⟩, rfl, rfl, rfl⟩) (fun h24 => ?_)
      exact absurd rfl h24
    · refine xi_iconst (v := 1) dX7_attribute_19 (by decide) ?_
      refine xi_goto (tgt := 24) dX7_attribute_20 rfl ?_
      refine cSI (av := [_]) dX7_attribute_24 lX7_71 rfl rfl rfl ⟨(Nat.le_of_ble_eq_true rfl), (Nat.le_of_ble_eq_true rfl), (Nat.le_of_ble_eq_true rfl), (Nat.le_of_ble_eq_true rfl)⟩ (Nat.le_of_ble_eq_true rfl) (c_needArgument) (fun q => ⟨Or.inr ⟨h6, fun z => by first | exact q (by decide) | exact z.1 h10 | exact absurd z.2 (Int32.not_lt.mpr h16), rfl⟩, rfl, rfl, rfl⟩) (fun h24 => ?_)
      have ha : inR a (nI 12) := ⟨h10, Int32.not_le.mp h16⟩
      obtain ⟨b, hb, rfl⟩ := inR_nI ha (by decide)
      obtain ⟨kv, hkv⟩ : ∃ kv, kv = 57 + b := ⟨_, rfl⟩
      have hg : (xG0 kv).1 = 1 := by rw [hkv]; exact (gv hb).1
      have hs : (xG0 kv).2.1 = 64 := by rw [hkv]; exact (gv hb).2
      refine xi_aload_n dX7_attribute_27 rfl rfl ?_
      refine xi_getfield3 dX7_attribute_28 fX7_46 g0 r0_6 ?_
      refine xi_getfield3 dX7_attribute_31 fX7_151 g55 r55_0 ?_
      refine xi_iload_n dX7_attribute_34 rfl rfl ?_
      refine xi_aaload5 (r := kv) dX7_attribute_35 g56 s56 (vp_in_nI hb (by decide)) (by rw [nI_clamp (by omega), hkv]; exact r56 hb) ?_
      refine xi_iload_n dX7_attribute_36 rfl rfl ?_
      refine ia dX7_attribute_37 hg hs rfl (by omega) (by omega) ?_
      refine go_ret (r := some (.int _)) dX7_attribute_38 (Nat.le_of_ble_eq_true rfl) (Nat.le_of_ble_eq_true rfl) ?_
      exact ⟨⟨h6, ha⟩, by rw [nI_clamp (by omega), nI_clamp (by omega), hkv], rfl, rfl, rfl⟩
theorem p_meanRank {m : Nat} {i : Int32} {A A1 : xA} {B B1 : xB} {D : xD} (hrf : does0 mX7_refresh [.ref 0] A B D (eqQ none A1 B1 D) nx) (hm : A1 35 2 = nI m) (hm64 : m ≤ 64) (har : ∀ v, v < m → 1 ≤ A1 58 v ∧ vf_n64 (FP.ddiv (FP.i2d (A1 63 v + A1 38 v * A1 58 v)) (FP.i2d (A1 58 v)))) : does0 mX7_meanRank [.ref 0, .int i] A B D (rQ (inR i (nI m)) (some (.double (FP.ddiv (FP.i2d (A1 63 i.toNatClampNeg + A1 38 i.toNatClampNeg * A1 58 i.toNatClampNeg)) (FP.i2d (A1 58 i.toNatClampNeg))))) A1 B1 D) (rX (fun E => ¬ inR i (nI m) ∧ E = sIO) A1 B1 D) := by
  refine does_go (by decide) rfl (Nat.le_of_ble_eq_true rfl) rfl ?_
  refine xi_aload_n dX7_meanRank_0 rfl rfl ?_
  refine cV1 (av := []) dX7_meanRank_1 lX7_102 rfl ⟨rfl, rfl⟩ rfl ⟨(Nat.le_of_ble_eq_true rfl), (Nat.le_of_ble_eq_true rfl)⟩ ⟨(Nat.le_of_ble_eq_true rfl), (Nat.le_of_ble_eq_true rfl)⟩ (Nat.le_of_ble_eq_true rfl) g0 rfl rfl (hrf) ?_
  refine xi_aload_n dX7_meanRank_4 rfl rfl ?_
  refine xi_iload_n dX7_meanRank_5 rfl rfl ?_
  refine cVI (av := [_]) dX7_meanRank_6 lX7_148 rfl rfl rfl ⟨(Nat.le_of_ble_eq_true rfl), (Nat.le_of_ble_eq_true rfl), (Nat.le_of_ble_eq_true rfl), (Nat.le_of_ble_eq_true rfl)⟩ (Nat.le_of_ble_eq_true rfl) g0 rfl rfl (c_needNode) (fun q => ⟨⟨by rwa [hm] at q, rfl⟩, rfl, rfl, rfl⟩) (fun h6 => ?_)
  rw [hm] at h6
  obtain ⟨v, hv, rfl⟩ := inR_nI h6 (by omega)
  refine xi_aload_n dX7_meanRank_9 rfl rfl ?_
  refine xi_getfield3 dX7_meanRank_10 fX7_46 g0 r0_6 ?_
  refine xi_getfield3 dX7_meanRank_13 fX7_151 g55 r55_0 ?_
  refine xi_iconst (v := 1) dX7_meanRank_16 (by decide) ?_
  refine xi_aaload5 (r := 58) dX7_meanRank_17 g56 s56 (show ¬ _ by decide) rfl ?_
  refine xi_iload_n dX7_meanRank_18 rfl rfl ?_
  refine ia dX7_meanRank_19 g58 s58 rfl (by omega) (Nat.le_of_ble_eq_true rfl) ?_
  refine xi_istore_n dX7_meanRank_20 rfl (Nat.le_of_ble_eq_true rfl) ?_
  refine xi_aload_n dX7_meanRank_21 rfl rfl ?_
  refine xi_getfield3 dX7_meanRank_22 fX7_46 g0 r0_6 ?_
  refine xi_getfield3 dX7_meanRank_25 fX7_151 g55 r55_0 ?_
  refine xi_bipush (v := 6) dX7_meanRank_28 (by decide) ?_
  refine xi_aaload5 (r := 63) dX7_meanRank_30 g56 s56 (show ¬ _ by decide) rfl ?_
  refine xi_iload_n dX7_meanRank_31 rfl rfl ?_
  refine ia dX7_meanRank_32 g63 s63 rfl (by omega) (Nat.le_of_ble_eq_true rfl) ?_
  refine xi_aload_n dX7_meanRank_33 rfl rfl ?_
  refine xi_getfield3 dX7_meanRank_34 fX7_36 g0 r0_4 ?_
  refine xi_getfield3 dX7_meanRank_37 fX7_155 g35 r35_6 ?_
  refine xi_iload_n dX7_meanRank_40 rfl rfl ?_
  refine ia dX7_meanRank_41 g38 s38 rfl (by omega) (Nat.le_of_ble_eq_true rfl) ?_
  refine xi_iload_n dX7_meanRank_42 rfl rfl ?_
  refine xi_imul dX7_meanRank_43 ?_
  refine xi_iadd dX7_meanRank_44 ?_
  refine xi_istore_n dX7_meanRank_45 rfl (Nat.le_of_ble_eq_true rfl) ?_
  refine xi_iload_n dX7_meanRank_46 rfl rfl ?_
  refine xi_iconst (v := 1) dX7_meanRank_47 (by decide) ?_
  refine xi_icmp_ge (tgt := 55) dX7_meanRank_48 rfl (fun h48 => ?_) (fun h48 => ?_)
  · refine xi_iload_n dX7_meanRank_55 rfl rfl ?_
    refine xi_i2d dX7_meanRank_56 ?_
    refine xi_iload_n dX7_meanRank_57 rfl rfl ?_
    refine xi_i2d dX7_meanRank_58 ?_
    refine xi_ddiv dX7_meanRank_59 (har v hv).2 ?_
    refine go_ret (r := some (.double _)) dX7_meanRank_60 (Nat.le_of_ble_eq_true rfl) (Nat.le_of_ble_eq_true rfl) ?_
    exact ⟨h6, by rw [nI_clamp (by omega)], rfl, rfl, rfl⟩
  · exact absurd (har v hv).1 h48
theorem p_contains {n m : Nat} {i j : Int32} {A A1 : xA} {B B1 : xB} {D : xD} (hrf : does0 mX7_refresh [.ref 0] A B D (eqQ none A1 B1 D) nx) (hm : A1 35 2 = nI m) (hm64 : m ≤ 64) (hn : A1 1 0 * A1 1 1 = nI n) (hn64 : n ≤ 64) : does0 mX7_contains [.ref 0, .int i, .int j] A B D (rQ (inR i (nI m) ∧ inR j (nI n)) (some (.int (hasV (B1 37 i.toNatClampNeg) j.toNatClampNeg))) A1 B1 D) (rX (fun E => ¬ (inR i (nI m) ∧ inR j (nI n)) ∧ E = sIO) A1 B1 D) := by
  refine does_go (by decide) rfl (Nat.le_of_ble_eq_true rfl) rfl ?_
  refine xi_aload_n dX7_contains_0 rfl rfl ?_
  refine cV1 (av := []) dX7_contains_1 lX7_102 rfl ⟨rfl, rfl⟩ rfl ⟨(Nat.le_of_ble_eq_true rfl), (Nat.le_of_ble_eq_true rfl)⟩ ⟨(Nat.le_of_ble_eq_true rfl), (Nat.le_of_ble_eq_true rfl)⟩ (Nat.le_of_ble_eq_true rfl) g0 rfl rfl (hrf) ?_
  refine xi_aload_n dX7_contains_4 rfl rfl ?_
  refine xi_iload_n dX7_contains_5 rfl rfl ?_
  refine cVI (av := [_]) dX7_contains_6 lX7_148 rfl rfl rfl ⟨(Nat.le_of_ble_eq_true rfl), (Nat.le_of_ble_eq_true rfl), (Nat.le_of_ble_eq_true rfl), (Nat.le_of_ble_eq_true rfl)⟩ (Nat.le_of_ble_eq_true rfl) g0 rfl rfl (c_needNode) (fun q => ⟨⟨fun z => by rw [hm] at q; exact q z.1, rfl⟩, rfl, rfl, rfl⟩) (fun h6 => ?_)
  rw [hm] at h6
  obtain ⟨v, hv, rfl⟩ := inR_nI h6 (by omega)
  refine xi_aload_n dX7_contains_9 rfl rfl ?_
  refine xi_iload_n dX7_contains_10 rfl rfl ?_
  refine cVI (av := [_]) dX7_contains_11 lX7_87 rfl rfl rfl ⟨(Nat.le_of_ble_eq_true rfl), (Nat.le_of_ble_eq_true rfl), (Nat.le_of_ble_eq_true rfl), (Nat.le_of_ble_eq_true rfl)⟩ (Nat.le_of_ble_eq_true rfl) g0 rfl rfl (c_needPixel) (fun q => ⟨⟨fun z => by rw [hn] at q; exact q z.2, rfl⟩, rfl, rfl, rfl⟩) (fun h11 => ?_)
  rw [hn] at h11
  obtain ⟨p, hp, rfl⟩ := inR_nI h11 (by omega)
  refine xi_aload_n dX7_contains_14 rfl rfl ?_
  refine xi_getfield3 dX7_contains_15 fX7_36 g0 r0_4 ?_
  refine xi_iload_n dX7_contains_18 rfl rfl ?_
  refine xi_iload_n dX7_contains_19 rfl rfl ?_
  refine cV1 (av := [_, _]) dX7_contains_20 lX7_158 rfl ⟨rfl, rfl⟩ rfl ⟨(Nat.le_of_ble_eq_true rfl), (Nat.le_of_ble_eq_true rfl)⟩ ⟨(Nat.le_of_ble_eq_true rfl), (Nat.le_of_ble_eq_true rfl)⟩ (Nat.le_of_ble_eq_true rfl) g35 rfl rfl (c_holds (Or.inl rfl) (by omega)) ?_
  refine go_ret (r := some (.int _)) ⟨dX7_contains_23, (by unfold hasV; by_cases q : (ushL (B1 (35 + 2) v) (nI p) &&& 1) = 0; rw [if_pos q]; exact Or.inl rfl; rw [if_neg q]; exact Or.inr rfl)⟩ (Nat.le_of_ble_eq_true rfl) (Nat.le_of_ble_eq_true rfl) ?_
  exact ⟨⟨h6, h11⟩, by rw [nI_clamp (by omega), nI_clamp (by omega)], rfl, rfl, rfl⟩
theorem p_child {m : Nat} {i j : Int32} {A A1 : xA} {B B1 : xB} {D : xD} (hrf : does0 mX7_refresh [.ref 0] A B D (eqQ none A1 B1 D) nx) (hm : A1 35 2 = nI m) (hm64 : m ≤ 64) : does0 mX7_child [.ref 0, .int i, .int j] A B D (rQ (inR i (nI m) ∧ inR j (A1 41 i.toNatClampNeg)) (some (.int (childV (A1 40) i j (m - (i.toNatClampNeg + 1)) (i.toNatClampNeg + 1) 0))) A1 B1 D) (rX (fun E => ¬ (inR i (nI m) ∧ inR j (A1 41 i.toNatClampNeg)) ∧ E = sIO) A1 B1 D) := by
  refine does_go (by decide) rfl (Nat.le_of_ble_eq_true rfl) rfl ?_
  refine xi_aload_n dX7_child_0 rfl rfl ?_
  refine cV1 (av := []) dX7_child_1 lX7_102 rfl ⟨rfl, rfl⟩ rfl ⟨(Nat.le_of_ble_eq_true rfl), (Nat.le_of_ble_eq_true rfl)⟩ ⟨(Nat.le_of_ble_eq_true rfl), (Nat.le_of_ble_eq_true rfl)⟩ (Nat.le_of_ble_eq_true rfl) g0 rfl rfl (hrf) ?_
  refine xi_aload_n dX7_child_4 rfl rfl ?_
  refine xi_iload_n dX7_child_5 rfl rfl ?_
  refine cVI (av := [_]) dX7_child_6 lX7_148 rfl rfl rfl ⟨(Nat.le_of_ble_eq_true rfl), (Nat.le_of_ble_eq_true rfl), (Nat.le_of_ble_eq_true rfl), (Nat.le_of_ble_eq_true rfl)⟩ (Nat.le_of_ble_eq_true rfl) g0 rfl rfl (c_needNode) (fun q => ⟨⟨fun z => by rw [hm] at q; exact q z.1, rfl⟩, rfl, rfl, rfl⟩) (fun h6 => ?_)
  rw [hm] at h6
  obtain ⟨v, hv, rfl⟩ := inR_nI h6 (by omega)
  refine xi_iload_n dX7_child_9 rfl rfl ?_
  refine xi_aload_n dX7_child_10 rfl rfl ?_
  refine xi_getfield3 dX7_child_11 fX7_36 g0 r0_4 ?_
  refine xi_getfield3 dX7_child_14 fX7_162 g35 r35_9 ?_
  refine xi_iload_n dX7_child_17 rfl rfl ?_
  refine ia dX7_child_18 g41 s41 rfl (by omega) (Nat.le_of_ble_eq_true rfl) ?_
  refine cSI (av := [_, _]) dX7_child_19 lX7_165 rfl rfl rfl ⟨(Nat.le_of_ble_eq_true rfl), (Nat.le_of_ble_eq_true rfl), (Nat.le_of_ble_eq_true rfl), (Nat.le_of_ble_eq_true rfl)⟩ (Nat.le_of_ble_eq_true rfl) (c_needIndex) (fun q => ⟨⟨fun z => by rw [nI_clamp (by omega)] at z; exact q z.2, rfl⟩, rfl, rfl, rfl⟩) (fun h19 => ?_)
  refine xi_aload_n dX7_child_22 rfl rfl ?_
  refine xi_getfield3 dX7_child_23 fX7_36 g0 r0_4 ?_
  refine xi_iload_n dX7_child_26 rfl rfl ?_
  refine xi_iload_n dX7_child_27 rfl rfl ?_
  refine cV1 (av := [_, _]) dX7_child_28 lX7_168 rfl ⟨rfl, rfl⟩ rfl ⟨(Nat.le_of_ble_eq_true rfl), (Nat.le_of_ble_eq_true rfl)⟩ ⟨(Nat.le_of_ble_eq_true rfl), (Nat.le_of_ble_eq_true rfl)⟩ (Nat.le_of_ble_eq_true rfl) g35 rfl rfl (c_childAt (Or.inl rfl) hm hm64 hv) ?_
  refine go_ret (r := some (.int _)) dX7_child_31 (Nat.le_of_ble_eq_true rfl) (Nat.le_of_ble_eq_true rfl) ?_
  exact ⟨⟨h6, by rw [nI_clamp (by omega)]; exact h19⟩, by rw [nI_clamp (by omega)], rfl, rfl, rfl⟩
theorem p_leaf {lf : Nat} {i : Int32} {A A1 : xA} {B B1 : xB} {D : xD} (hrf : does0 mX7_refresh [.ref 0] A B D (eqQ none A1 B1 D) nx) (hlf : A1 35 3 = nI lf) (hlf64 : lf ≤ 64) : does0 mX7_leaf [.ref 0, .int i] A B D (rQ (inR i (nI lf)) (some (.int (A1 69 i.toNatClampNeg))) A1 B1 D) (rX (fun E => ¬ inR i (nI lf) ∧ E = sIO) A1 B1 D) := by
  refine does_go (by decide) rfl (Nat.le_of_ble_eq_true rfl) rfl ?_
  refine xi_aload_n dX7_leaf_0 rfl rfl ?_
  refine cV1 (av := []) dX7_leaf_1 lX7_102 rfl ⟨rfl, rfl⟩ rfl ⟨(Nat.le_of_ble_eq_true rfl), (Nat.le_of_ble_eq_true rfl)⟩ ⟨(Nat.le_of_ble_eq_true rfl), (Nat.le_of_ble_eq_true rfl)⟩ (Nat.le_of_ble_eq_true rfl) g0 rfl rfl (hrf) ?_
  refine xi_iload_n dX7_leaf_4 rfl rfl ?_
  refine xi_aload_n dX7_leaf_5 rfl rfl ?_
  refine xi_getfield3 dX7_leaf_6 fX7_36 g0 r0_4 ?_
  refine xi_getfield0 dX7_leaf_9 fX7_172 g35 ?_
  refine cSI (av := [_, _]) dX7_leaf_12 lX7_165 rfl rfl rfl ⟨(Nat.le_of_ble_eq_true rfl), (Nat.le_of_ble_eq_true rfl), (Nat.le_of_ble_eq_true rfl), (Nat.le_of_ble_eq_true rfl)⟩ (Nat.le_of_ble_eq_true rfl) (c_needIndex) (fun q => ⟨⟨by rw [hlf] at q; exact q, rfl⟩, rfl, rfl, rfl⟩) (fun h12 => ?_)
  rw [hlf] at h12
  have h12 : inR i (nI lf) := h12
  obtain ⟨v, hv, rfl⟩ := inR_nI h12 (by omega)
  refine xi_aload_n dX7_leaf_15 rfl rfl ?_
  refine xi_getfield3 dX7_leaf_16 fX7_46 g0 r0_6 ?_
  refine xi_getfield3 dX7_leaf_19 fX7_175 g55 r55_1 ?_
  refine xi_iload_n dX7_leaf_22 rfl rfl ?_
  refine ia dX7_leaf_23 g69 s69 rfl (by omega) (Nat.le_of_ble_eq_true rfl) ?_
  refine go_ret (r := some (.int _)) dX7_leaf_24 (Nat.le_of_ble_eq_true rfl) (Nat.le_of_ble_eq_true rfl) ?_
  exact ⟨h12, by rw [nI_clamp (by omega)], rfl, rfl, rfl⟩
theorem p_prominence {m : Nat} {i : Int32} {A A1 : xA} {B B1 : xB} {D : xD} (hrf : does0 mX7_refresh [.ref 0] A B D (eqQ none A1 B1 D) nx) (hm : A1 35 2 = nI m) (hm64 : m ≤ 64) : does0 mX7_prominence [.ref 0, .int i] A B D (rQ (inR i (nI m) ∧ A1 41 i.toNatClampNeg = 0) (some (.int (A1 68 i.toNatClampNeg))) A1 B1 D) (rX (fun E => ¬ inR i (nI m) ∧ E = sIO ∨ inR i (nI m) ∧ ¬ A1 41 i.toNatClampNeg = 0 ∧ E = sIS) A1 B1 D) := by
  refine does_go (by decide) rfl (Nat.le_of_ble_eq_true rfl) rfl ?_
  refine xi_aload_n dX7_prominence_0 rfl rfl ?_
  refine cV1 (av := []) dX7_prominence_1 lX7_102 rfl ⟨rfl, rfl⟩ rfl ⟨(Nat.le_of_ble_eq_true rfl), (Nat.le_of_ble_eq_true rfl)⟩ ⟨(Nat.le_of_ble_eq_true rfl), (Nat.le_of_ble_eq_true rfl)⟩ (Nat.le_of_ble_eq_true rfl) g0 rfl rfl (hrf) ?_
  refine xi_aload_n dX7_prominence_4 rfl rfl ?_
  refine xi_iload_n dX7_prominence_5 rfl rfl ?_
  refine cVI (av := [_]) dX7_prominence_6 lX7_148 rfl rfl rfl ⟨(Nat.le_of_ble_eq_true rfl), (Nat.le_of_ble_eq_true rfl), (Nat.le_of_ble_eq_true rfl), (Nat.le_of_ble_eq_true rfl)⟩ (Nat.le_of_ble_eq_true rfl) g0 rfl rfl (c_needNode) (fun q => ⟨Or.inl ⟨by rwa [hm] at q, rfl⟩, rfl, rfl, rfl⟩) (fun h6 => ?_)
  rw [hm] at h6
  obtain ⟨v, hv, rfl⟩ := inR_nI h6 (by omega)
  refine xi_aload_n dX7_prominence_9 rfl rfl ?_
  refine xi_getfield3 dX7_prominence_10 fX7_36 g0 r0_4 ?_
  refine xi_getfield3 dX7_prominence_13 fX7_162 g35 r35_9 ?_
  refine xi_iload_n dX7_prominence_16 rfl rfl ?_
  refine ia dX7_prominence_17 g41 s41 rfl (by omega) (Nat.le_of_ble_eq_true rfl) ?_
  refine xi_ifne (tgt := 25) dX7_prominence_18 rfl (fun h18 => ?_) (fun h18 => ?_)
  · refine xi_iconst (v := 0) dX7_prominence_25 (by decide) ?_
    refine cSI (av := [_]) dX7_prominence_26 lX7_120 rfl rfl rfl ⟨(Nat.le_of_ble_eq_true rfl), (Nat.le_of_ble_eq_true rfl), (Nat.le_of_ble_eq_true rfl), (Nat.le_of_ble_eq_true rfl)⟩ (Nat.le_of_ble_eq_true rfl) (c_needState) (fun q => ⟨Or.inr ⟨h6, fun z => by rw [nI_clamp (by omega)] at z; first | exact q (by decide) | exact h18 z, rfl⟩, rfl, rfl, rfl⟩) (fun h26 => ?_)
    exact absurd rfl h26
  · refine xi_iconst (v := 1) dX7_prominence_21 (by decide) ?_
    refine xi_goto (tgt := 26) dX7_prominence_22 rfl ?_
    refine cSI (av := [_]) dX7_prominence_26 lX7_120 rfl rfl rfl ⟨(Nat.le_of_ble_eq_true rfl), (Nat.le_of_ble_eq_true rfl), (Nat.le_of_ble_eq_true rfl), (Nat.le_of_ble_eq_true rfl)⟩ (Nat.le_of_ble_eq_true rfl) (c_needState) (fun q => ⟨Or.inr ⟨h6, fun z => by rw [nI_clamp (by omega)] at z; first | exact q (by decide) | exact h18 z, rfl⟩, rfl, rfl, rfl⟩) (fun h26 => ?_)
    refine xi_aload_n dX7_prominence_29 rfl rfl ?_
    refine xi_getfield3 dX7_prominence_30 fX7_46 g0 r0_6 ?_
    refine xi_getfield3 dX7_prominence_33 fX7_151 g55 r55_0 ?_
    refine xi_bipush (v := 11) dX7_prominence_36 (by decide) ?_
    refine xi_aaload5 (r := 68) dX7_prominence_38 g56 s56 (show ¬ _ by decide) rfl ?_
    refine xi_iload_n dX7_prominence_39 rfl rfl ?_
    refine ia dX7_prominence_40 g68 s68 rfl (by omega) (Nat.le_of_ble_eq_true rfl) ?_
    refine go_ret (r := some (.int _)) dX7_prominence_41 (Nat.le_of_ble_eq_true rfl) (Nat.le_of_ble_eq_true rfl) ?_
    exact ⟨⟨h6, by rw [nI_clamp (by omega)]; exact h18⟩, by rw [nI_clamp (by omega)], rfl, rfl, rfl⟩
theorem p_component {c r n x sz len m : Nat} {i v : Int32} {A A1 : xA} {B B1 : xB} {D : xD} (h : cOK A c r n x sz len) (hrf : does0 mX7_refresh [.ref 0] A B D (eqQ none A1 B1 D) nx) (hm : A1 35 2 = nI m) (hm64 : m ≤ 64) : does0 mX7_component [.ref 0, .int i, .int v] A B D (rQ (inR i (nI n) ∧ btw v 0 15) (some (.int (lowV (A1 38) (B1 37) i.toNatClampNeg v m 0))) A1 B1 D) (rX (xPL i v n) A B D) := by
  refine does_go (by decide) rfl (Nat.le_of_ble_eq_true rfl) rfl ?_
  obtain ⟨hn, hn0, hn64⟩ := h.n
  refine xi_aload_n dX7_component_0 rfl rfl ?_
  refine xi_iload_n dX7_component_1 rfl rfl ?_
  refine cVI (av := [_]) dX7_component_2 lX7_87 rfl rfl rfl ⟨(Nat.le_of_ble_eq_true rfl), (Nat.le_of_ble_eq_true rfl), (Nat.le_of_ble_eq_true rfl), (Nat.le_of_ble_eq_true rfl)⟩ (Nat.le_of_ble_eq_true rfl) g0 rfl rfl (c_needPixel) (fun q => ⟨Or.inl ⟨by rwa [hn] at q, rfl⟩, rfl, rfl, rfl⟩) (fun h2 => ?_)
  rw [hn] at h2
  obtain ⟨p, hp, rfl⟩ := inR_nI h2 (by omega)
  refine xi_iload_n dX7_component_5 rfl rfl ?_
  refine cS1 (av := [_]) dX7_component_6 lX7_91 rfl ⟨rfl, rfl⟩ rfl ⟨(Nat.le_of_ble_eq_true rfl), (Nat.le_of_ble_eq_true rfl)⟩ ⟨(Nat.le_of_ble_eq_true rfl), (Nat.le_of_ble_eq_true rfl)⟩ (Nat.le_of_ble_eq_true rfl) (c_isLevel) ?_
  refine cSI (av := [_]) dX7_component_9 lX7_71 rfl rfl rfl ⟨(Nat.le_of_ble_eq_true rfl), (Nat.le_of_ble_eq_true rfl), (Nat.le_of_ble_eq_true rfl), (Nat.le_of_ble_eq_true rfl)⟩ (Nat.le_of_ble_eq_true rfl) (c_needArgument) (fun q => ⟨Or.inr ⟨h2, fun z => q ((isLev_ne v).mpr z), rfl⟩, rfl, rfl, rfl⟩) (fun h9 => ?_)
  refine xi_aload_n dX7_component_12 rfl rfl ?_
  refine cV1 (av := []) dX7_component_13 lX7_102 rfl ⟨rfl, rfl⟩ rfl ⟨(Nat.le_of_ble_eq_true rfl), (Nat.le_of_ble_eq_true rfl)⟩ ⟨(Nat.le_of_ble_eq_true rfl), (Nat.le_of_ble_eq_true rfl)⟩ (Nat.le_of_ble_eq_true rfl) g0 rfl rfl (hrf) ?_
  refine xi_aload_n dX7_component_16 rfl rfl ?_
  refine xi_getfield3 dX7_component_17 fX7_36 g0 r0_4 ?_
  refine xi_iload_n dX7_component_20 rfl rfl ?_
  refine xi_iload_n dX7_component_21 rfl rfl ?_
  refine cV1 (av := [_, _]) dX7_component_22 lX7_177 rfl ⟨rfl, rfl⟩ rfl ⟨(Nat.le_of_ble_eq_true rfl), (Nat.le_of_ble_eq_true rfl)⟩ ⟨(Nat.le_of_ble_eq_true rfl), (Nat.le_of_ble_eq_true rfl)⟩ (Nat.le_of_ble_eq_true rfl) g35 rfl rfl (c_lowestWith (Or.inl rfl) hm hm64) ?_
  refine go_ret (r := some (.int _)) dX7_component_25 (Nat.le_of_ble_eq_true rfl) (Nat.le_of_ble_eq_true rfl) ?_
  exact ⟨⟨h2, (isLev_ne v).mp h9⟩, by rw [nI_clamp (by omega)], rfl, rfl, rfl⟩
theorem p_meet {c r n x sz len m : Nat} {i j : Int32} {A A1 : xA} {B B1 : xB} {D : xD} (h : cOK A c r n x sz len) (hrf : does0 mX7_refresh [.ref 0] A B D (eqQ none A1 B1 D) nx) (hm : A1 35 2 = nI (m + 1)) (hm64 : m < 64) : does0 mX7_meet [.ref 0, .int i, .int j] A B D (rQ (inR i (nI n) ∧ inR j (nI n)) (some (.int (smallV (B1 37) i.toNatClampNeg j.toNatClampNeg m))) A1 B1 D) (rX (fun E => ¬ (inR i (nI n) ∧ inR j (nI n)) ∧ E = sIO) A B D) := by
  refine does_go (by decide) rfl (Nat.le_of_ble_eq_true rfl) rfl ?_
  obtain ⟨hn, hn0, hn64⟩ := h.n
  refine xi_aload_n dX7_meet_0 rfl rfl ?_
  refine xi_iload_n dX7_meet_1 rfl rfl ?_
  refine cVI (av := [_]) dX7_meet_2 lX7_87 rfl rfl rfl ⟨(Nat.le_of_ble_eq_true rfl), (Nat.le_of_ble_eq_true rfl), (Nat.le_of_ble_eq_true rfl), (Nat.le_of_ble_eq_true rfl)⟩ (Nat.le_of_ble_eq_true rfl) g0 rfl rfl (c_needPixel) (fun q => ⟨⟨fun z => by rw [hn] at q; exact q z.1, rfl⟩, rfl, rfl, rfl⟩) (fun h2 => ?_)
  rw [hn] at h2
  obtain ⟨p, hp, rfl⟩ := inR_nI h2 (by omega)
  refine xi_aload_n dX7_meet_5 rfl rfl ?_
  refine xi_iload_n dX7_meet_6 rfl rfl ?_
  refine cVI (av := [_]) dX7_meet_7 lX7_87 rfl rfl rfl ⟨(Nat.le_of_ble_eq_true rfl), (Nat.le_of_ble_eq_true rfl), (Nat.le_of_ble_eq_true rfl), (Nat.le_of_ble_eq_true rfl)⟩ (Nat.le_of_ble_eq_true rfl) g0 rfl rfl (c_needPixel) (fun q => ⟨⟨fun z => by rw [hn] at q; exact q z.2, rfl⟩, rfl, rfl, rfl⟩) (fun h7 => ?_)
  rw [hn] at h7
  obtain ⟨p2, hp2, rfl⟩ := inR_nI h7 (by omega)
  refine xi_aload_n dX7_meet_10 rfl rfl ?_
  refine cV1 (av := []) dX7_meet_11 lX7_102 rfl ⟨rfl, rfl⟩ rfl ⟨(Nat.le_of_ble_eq_true rfl), (Nat.le_of_ble_eq_true rfl)⟩ ⟨(Nat.le_of_ble_eq_true rfl), (Nat.le_of_ble_eq_true rfl)⟩ (Nat.le_of_ble_eq_true rfl) g0 rfl rfl (hrf) ?_
  refine xi_aload_n dX7_meet_14 rfl rfl ?_
  refine xi_getfield3 dX7_meet_15 fX7_36 g0 r0_4 ?_
  refine xi_iload_n dX7_meet_18 rfl rfl ?_
  refine xi_iload_n dX7_meet_19 rfl rfl ?_
  refine cV1 (av := [_, _]) dX7_meet_20 lX7_180 rfl ⟨rfl, rfl⟩ rfl ⟨(Nat.le_of_ble_eq_true rfl), (Nat.le_of_ble_eq_true rfl)⟩ ⟨(Nat.le_of_ble_eq_true rfl), (Nat.le_of_ble_eq_true rfl)⟩ (Nat.le_of_ble_eq_true rfl) g35 rfl rfl (c_smallestWith (Or.inl rfl) hm hm64) ?_
  refine go_ret (r := some (.int _)) dX7_meet_23 (Nat.le_of_ble_eq_true rfl) (Nat.le_of_ble_eq_true rfl) ?_
  exact ⟨⟨h2, h7⟩, by rw [nI_clamp (by omega), nI_clamp (by omega)], rfl, rfl, rfl⟩
theorem p_distance {m : Nat} {i j : Int32} {A A1 : xA} {B B1 : xB} {D : xD} (hrf : does0 mX7_refresh [.ref 0] A B D (eqQ none A1 B1 D) nx) (hm : A1 35 2 = nI m) (hm64 : m ≤ 64) : does0 mX7_distance [.ref 0, .int i, .int j] A B D (rQ (inR i (nI m) ∧ inR j (nI m)) (some (.int (stepsV (B1 37) i.toNatClampNeg j.toNatClampNeg m))) A1 B1 D) (rX (fun E => ¬ (inR i (nI m) ∧ inR j (nI m)) ∧ E = sIO) A1 B1 D) := by
  refine does_go (by decide) rfl (Nat.le_of_ble_eq_true rfl) rfl ?_
  refine xi_aload_n dX7_distance_0 rfl rfl ?_
  refine cV1 (av := []) dX7_distance_1 lX7_102 rfl ⟨rfl, rfl⟩ rfl ⟨(Nat.le_of_ble_eq_true rfl), (Nat.le_of_ble_eq_true rfl)⟩ ⟨(Nat.le_of_ble_eq_true rfl), (Nat.le_of_ble_eq_true rfl)⟩ (Nat.le_of_ble_eq_true rfl) g0 rfl rfl (hrf) ?_
  refine xi_aload_n dX7_distance_4 rfl rfl ?_
  refine xi_iload_n dX7_distance_5 rfl rfl ?_
  refine cVI (av := [_]) dX7_distance_6 lX7_148 rfl rfl rfl ⟨(Nat.le_of_ble_eq_true rfl), (Nat.le_of_ble_eq_true rfl), (Nat.le_of_ble_eq_true rfl), (Nat.le_of_ble_eq_true rfl)⟩ (Nat.le_of_ble_eq_true rfl) g0 rfl rfl (c_needNode) (fun q => ⟨⟨fun z => by rw [hm] at q; exact q z.1, rfl⟩, rfl, rfl, rfl⟩) (fun h6 => ?_)
  rw [hm] at h6
  obtain ⟨v, hv, rfl⟩ := inR_nI h6 (by omega)
  refine xi_aload_n dX7_distance_9 rfl rfl ?_
  refine xi_iload_n dX7_distance_10 rfl rfl ?_
  refine cVI (av := [_]) dX7_distance_11 lX7_148 rfl rfl rfl ⟨(Nat.le_of_ble_eq_true rfl), (Nat.le_of_ble_eq_true rfl), (Nat.le_of_ble_eq_true rfl), (Nat.le_of_ble_eq_true rfl)⟩ (Nat.le_of_ble_eq_true rfl) g0 rfl rfl (c_needNode) (fun q => ⟨⟨fun z => by rw [hm] at q; exact q z.2, rfl⟩, rfl, rfl, rfl⟩) (fun h11 => ?_)
  rw [hm] at h11
  obtain ⟨w, hw, rfl⟩ := inR_nI h11 (by omega)
  refine xi_aload_n dX7_distance_14 rfl rfl ?_
  refine xi_getfield3 dX7_distance_15 fX7_36 g0 r0_4 ?_
  refine xi_iload_n dX7_distance_18 rfl rfl ?_
  refine xi_iload_n dX7_distance_19 rfl rfl ?_
  refine cV1 (av := [_, _]) dX7_distance_20 lX7_183 rfl ⟨rfl, rfl⟩ rfl ⟨(Nat.le_of_ble_eq_true rfl), (Nat.le_of_ble_eq_true rfl)⟩ ⟨(Nat.le_of_ble_eq_true rfl), (Nat.le_of_ble_eq_true rfl)⟩ (Nat.le_of_ble_eq_true rfl) g35 rfl rfl (c_stepsBetween (Or.inl rfl) hm hm64 (by omega) (by omega)) ?_
  refine go_ret (r := some (.int _)) dX7_distance_23 (Nat.le_of_ble_eq_true rfl) (Nat.le_of_ble_eq_true rfl) ?_
  exact ⟨⟨h6, h11⟩, by rw [nI_clamp (by omega), nI_clamp (by omega)], rfl, rfl, rfl⟩

