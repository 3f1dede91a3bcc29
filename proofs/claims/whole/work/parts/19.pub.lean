/-! ComponentTree: images and input -/
abbrev rQ (c : Prop) (v : Option Value) (A1 : xA) (B1 : xB) (D1 : xD) : Option Value → xA → xB → xD → Prop := fun r A B D => c ∧ r = v ∧ A = A1 ∧ B = B1 ∧ D = D1
abbrev rX (c : String → Prop) (A1 : xA) (B1 : xB) (D1 : xD) : String → xA → xB → xD → Prop := fun E A B D => c E ∧ A = A1 ∧ B = B1 ∧ D = D1
/-- the class's state is usable: c columns, r rows, n pixels, the ring at x with sz kept, len characters -/
def cOK (A : xA) (c r n x sz len : Nat) : Prop := (A 1 0 = nI c ∧ A 1 1 = nI r ∧ 0 < c ∧ c ≤ 8 ∧ 0 < r ∧ r ≤ 8 ∧ c * r = n) ∧ (A 7 1 = nI x ∧ x < 8 ∧ A 7 2 = nI sz ∧ sz ≤ 8) ∧ A 33 1 = nI len ∧ len ≤ 72
theorem cOK.n {A : xA} {c r n x sz len : Nat} (h : cOK A c r n x sz len) : A 1 0 * A 1 1 = nI n ∧ 0 < n ∧ n ≤ 64 := by
  obtain ⟨⟨h1, h2, h3, h4, h5, h6, h7⟩, -⟩ := h
  subst h7
  exact ⟨by rw [h1, h2, pk_mul], Nat.mul_pos h3 h5, Nat.mul_le_mul h4 h6⟩
theorem inR_nI {i : Int32} {n : Nat} (h : inR i (nI n)) (hn : n < 2 ^ 31) : ∃ p, p < n ∧ i = nI p := by
  obtain ⟨p, hp, rfl⟩ := nI_of h.1
  exact ⟨p, (nI_ltI hp hn).mp h.2, rfl⟩
theorem p_begin {c r n x sz len : Nat} {u v : Int32} {A : xA} {B : xB} {D : xD} (h : cOK A c r n x sz len) : does0 mX7_begin [.ref 0, .int u, .int v] A B D (rQ (btw u 1 8 ∧ btw v 1 8) (some (.int (nI n))) (updA (blankA (keepA A x sz) 1 u v) 0 11 1) B D) (rX (fun E => ¬ (btw u 1 8 ∧ btw v 1 8) ∧ E = sIA) A B D) := by
  refine does_go (by decide) rfl (Nat.le_of_ble_eq_true rfl) rfl ?_
  refine xi_iload_n dX7_begin_0 rfl rfl ?_
  refine xi_iconst (v := 1) dX7_begin_1 (by decide) ?_
  refine xi_icmp_lt (tgt := 15) dX7_begin_2 rfl (fun h2 => ?_) (fun h2 => ?_)
  · refine xi_iconst (v := 0) dX7_begin_15 (by decide) ?_
    refine cSI (av := [_]) dX7_begin_16 lX7_71 rfl rfl rfl ⟨(Nat.le_of_ble_eq_true rfl), (Nat.le_of_ble_eq_true rfl), (Nat.le_of_ble_eq_true rfl), (Nat.le_of_ble_eq_true rfl)⟩ (Nat.le_of_ble_eq_true rfl) (c_needArgument) (fun q => ⟨⟨fun z => by first | exact q (by decide) | exact z.1.1 h2 | exact z.1.2 h8, rfl⟩, rfl, rfl, rfl⟩) (fun h16 => ?_)
    exact absurd rfl h16
  · refine xi_iload_n dX7_begin_5 rfl rfl ?_
    refine xi_bipush (v := 8) dX7_begin_6 (by decide) ?_
    refine xi_icmp_gt (tgt := 15) dX7_begin_8 rfl (fun h8 => ?_) (fun h8 => ?_)
    · refine xi_iconst (v := 0) dX7_begin_15 (by decide) ?_
      refine cSI (av := [_]) dX7_begin_16 lX7_71 rfl rfl rfl ⟨(Nat.le_of_ble_eq_true rfl), (Nat.le_of_ble_eq_true rfl), (Nat.le_of_ble_eq_true rfl), (Nat.le_of_ble_eq_true rfl)⟩ (Nat.le_of_ble_eq_true rfl) (c_needArgument) (fun q => ⟨⟨fun z => by first | exact q (by decide) | exact z.1.1 h2 | exact z.1.2 h8, rfl⟩, rfl, rfl, rfl⟩) (fun h16 => ?_)
      exact absurd rfl h16
    · refine xi_iconst (v := 1) dX7_begin_11 (by decide) ?_
      refine xi_goto (tgt := 16) dX7_begin_12 rfl ?_
      refine cSI (av := [_]) dX7_begin_16 lX7_71 rfl rfl rfl ⟨(Nat.le_of_ble_eq_true rfl), (Nat.le_of_ble_eq_true rfl), (Nat.le_of_ble_eq_true rfl), (Nat.le_of_ble_eq_true rfl)⟩ (Nat.le_of_ble_eq_true rfl) (c_needArgument) (fun q => ⟨⟨fun z => by first | exact q (by decide) | exact z.1.1 h2 | exact z.1.2 h8, rfl⟩, rfl, rfl, rfl⟩) (fun h16 => ?_)
      refine xi_iload_n dX7_begin_19 rfl rfl ?_
      refine xi_iconst (v := 1) dX7_begin_20 (by decide) ?_
      refine xi_icmp_lt (tgt := 34) dX7_begin_21 rfl (fun h21 => ?_) (fun h21 => ?_)
      · refine xi_iconst (v := 0) dX7_begin_34 (by decide) ?_
        refine cSI (av := [_]) dX7_begin_35 lX7_71 rfl rfl rfl ⟨(Nat.le_of_ble_eq_true rfl), (Nat.le_of_ble_eq_true rfl), (Nat.le_of_ble_eq_true rfl), (Nat.le_of_ble_eq_true rfl)⟩ (Nat.le_of_ble_eq_true rfl) (c_needArgument) (fun q => ⟨⟨fun z => by first | exact q (by decide) | exact z.2.1 h21 | exact z.2.2 h27, rfl⟩, rfl, rfl, rfl⟩) (fun h35 => ?_)
        exact absurd rfl h35
      · refine xi_iload_n dX7_begin_24 rfl rfl ?_
        refine xi_bipush (v := 8) dX7_begin_25 (by decide) ?_
        refine xi_icmp_gt (tgt := 34) dX7_begin_27 rfl (fun h27 => ?_) (fun h27 => ?_)
        · refine xi_iconst (v := 0) dX7_begin_34 (by decide) ?_
          refine cSI (av := [_]) dX7_begin_35 lX7_71 rfl rfl rfl ⟨(Nat.le_of_ble_eq_true rfl), (Nat.le_of_ble_eq_true rfl), (Nat.le_of_ble_eq_true rfl), (Nat.le_of_ble_eq_true rfl)⟩ (Nat.le_of_ble_eq_true rfl) (c_needArgument) (fun q => ⟨⟨fun z => by first | exact q (by decide) | exact z.2.1 h21 | exact z.2.2 h27, rfl⟩, rfl, rfl, rfl⟩) (fun h35 => ?_)
          exact absurd rfl h35
        · refine xi_iconst (v := 1) dX7_begin_30 (by decide) ?_
          refine xi_goto (tgt := 35) dX7_begin_31 rfl ?_
          refine cSI (av := [_]) dX7_begin_35 lX7_71 rfl rfl rfl ⟨(Nat.le_of_ble_eq_true rfl), (Nat.le_of_ble_eq_true rfl), (Nat.le_of_ble_eq_true rfl), (Nat.le_of_ble_eq_true rfl)⟩ (Nat.le_of_ble_eq_true rfl) (c_needArgument) (fun q => ⟨⟨fun z => by first | exact q (by decide) | exact z.2.1 h21 | exact z.2.2 h27, rfl⟩, rfl, rfl, rfl⟩) (fun h35 => ?_)
          refine xi_aload_n dX7_begin_38 rfl rfl ?_
          refine xi_getfield3 dX7_begin_39 fX7_10 g0 r0_0 ?_
          refine cV1 (av := []) dX7_begin_42 lX7_75 rfl ⟨rfl, rfl⟩ rfl ⟨(Nat.le_of_ble_eq_true rfl), (Nat.le_of_ble_eq_true rfl)⟩ ⟨(Nat.le_of_ble_eq_true rfl), (Nat.le_of_ble_eq_true rfl)⟩ (Nat.le_of_ble_eq_true rfl) g1 rfl rfl (c_size isPic_1) ?_
          rw [h.n.1]
          refine xi_istore_n dX7_begin_45 rfl (Nat.le_of_ble_eq_true rfl) ?_
          refine xi_aload_n dX7_begin_46 rfl rfl ?_
          refine xi_getfield3 dX7_begin_47 fX7_22 g0 r0_2 ?_
          refine xi_aload_n dX7_begin_50 rfl rfl ?_
          refine xi_getfield3 dX7_begin_51 fX7_10 g0 r0_0 ?_
          refine cV1 (av := [_]) dX7_begin_54 lX7_79 rfl ⟨rfl, rfl⟩ rfl ⟨(Nat.le_of_ble_eq_true rfl), (Nat.le_of_ble_eq_true rfl)⟩ ⟨(Nat.le_of_ble_eq_true rfl), (Nat.le_of_ble_eq_true rfl)⟩ (Nat.le_of_ble_eq_true rfl) g7 rfl rfl (c_keep h.2.1.1 h.2.1.2.1 h.2.1.2.2.1 h.2.1.2.2.2) ?_
          refine xi_aload_n dX7_begin_57 rfl rfl ?_
          refine xi_getfield3 dX7_begin_58 fX7_10 g0 r0_0 ?_
          refine xi_iload_n dX7_begin_61 rfl rfl ?_
          refine xi_iload_n dX7_begin_62 rfl rfl ?_
          refine cV1 (av := [_, _]) dX7_begin_63 lX7_83 rfl ⟨rfl, rfl⟩ rfl ⟨(Nat.le_of_ble_eq_true rfl), (Nat.le_of_ble_eq_true rfl)⟩ ⟨(Nat.le_of_ble_eq_true rfl), (Nat.le_of_ble_eq_true rfl)⟩ (Nat.le_of_ble_eq_true rfl) g1 rfl rfl (c_blank isPic_1) ?_
          refine xi_aload_n dX7_begin_66 rfl rfl ?_
          refine xi_iconst (v := 1) dX7_begin_67 (by decide) ?_
          refine xi_putfield1 dX7_begin_68 fX7_68 g0 pX7_68 (by first | exact Or.inl rfl | exact Or.inr rfl) ?_
          refine xi_iload_n dX7_begin_71 rfl rfl ?_
          refine go_ret (r := some (.int _)) dX7_begin_72 (Nat.le_of_ble_eq_true rfl) (Nat.le_of_ble_eq_true rfl) ?_
          exact ⟨⟨⟨h2, h8⟩, ⟨h21, h27⟩⟩, rfl, rfl, rfl, rfl⟩
/-- which exception setLevel and its like throw -/
def xPL (i v : Int32) (n : Nat) (E : String) : Prop := ¬ inR i (nI n) ∧ E = sIO ∨ inR i (nI n) ∧ ¬ btw v 0 15 ∧ E = sIA
theorem p_setLevel {c r n x sz len : Nat} {i v : Int32} {A : xA} {B : xB} {D : xD} (h : cOK A c r n x sz len) : does0 mX7_setLevel [.ref 0, .int i, .int v] A B D (rQ (inR i (nI n) ∧ btw v 0 15) (some (.int (A 2 i.toNatClampNeg))) (updA (updA (keepA A x sz) 2 i.toNatClampNeg v) 0 11 1) B D) (rX (xPL i v n) A B D) := by
  refine does_go (by decide) rfl (Nat.le_of_ble_eq_true rfl) rfl ?_
  obtain ⟨hn, hn0, hn64⟩ := h.n
  refine xi_aload_n dX7_setLevel_0 rfl rfl ?_
  refine xi_iload_n dX7_setLevel_1 rfl rfl ?_
  refine cVI (av := [_]) dX7_setLevel_2 lX7_87 rfl rfl rfl ⟨(Nat.le_of_ble_eq_true rfl), (Nat.le_of_ble_eq_true rfl), (Nat.le_of_ble_eq_true rfl), (Nat.le_of_ble_eq_true rfl)⟩ (Nat.le_of_ble_eq_true rfl) g0 rfl rfl (c_needPixel) (fun q => ⟨Or.inl ⟨by rwa [hn] at q, rfl⟩, rfl, rfl, rfl⟩) (fun h2 => ?_)
  rw [hn] at h2
  obtain ⟨p, hp, rfl⟩ := inR_nI h2 (by omega)
  refine xi_iload_n dX7_setLevel_5 rfl rfl ?_
  refine cS1 (av := [_]) dX7_setLevel_6 lX7_91 rfl ⟨rfl, rfl⟩ rfl ⟨(Nat.le_of_ble_eq_true rfl), (Nat.le_of_ble_eq_true rfl)⟩ ⟨(Nat.le_of_ble_eq_true rfl), (Nat.le_of_ble_eq_true rfl)⟩ (Nat.le_of_ble_eq_true rfl) (c_isLevel) ?_
  refine cSI (av := [_]) dX7_setLevel_9 lX7_71 rfl rfl rfl ⟨(Nat.le_of_ble_eq_true rfl), (Nat.le_of_ble_eq_true rfl), (Nat.le_of_ble_eq_true rfl), (Nat.le_of_ble_eq_true rfl)⟩ (Nat.le_of_ble_eq_true rfl) (c_needArgument) (fun q => ⟨Or.inr ⟨h2, fun z => q ((isLev_ne v).mpr z), rfl⟩, rfl, rfl, rfl⟩) (fun h9 => ?_)
  refine xi_aload_n dX7_setLevel_12 rfl rfl ?_
  refine xi_getfield3 dX7_setLevel_13 fX7_10 g0 r0_0 ?_
  refine xi_getfield3 dX7_setLevel_16 fX7_95 g1 r1_2 ?_
  refine xi_iload_n dX7_setLevel_19 rfl rfl ?_
  refine ia dX7_setLevel_20 g2 s2 rfl (by omega) (Nat.le_of_ble_eq_true rfl) ?_
  refine xi_istore_n dX7_setLevel_21 rfl (Nat.le_of_ble_eq_true rfl) ?_
  refine xi_aload_n dX7_setLevel_22 rfl rfl ?_
  refine xi_getfield3 dX7_setLevel_23 fX7_22 g0 r0_2 ?_
  refine xi_aload_n dX7_setLevel_26 rfl rfl ?_
  refine xi_getfield3 dX7_setLevel_27 fX7_10 g0 r0_0 ?_
  refine cV1 (av := [_]) dX7_setLevel_30 lX7_79 rfl ⟨rfl, rfl⟩ rfl ⟨(Nat.le_of_ble_eq_true rfl), (Nat.le_of_ble_eq_true rfl)⟩ ⟨(Nat.le_of_ble_eq_true rfl), (Nat.le_of_ble_eq_true rfl)⟩ (Nat.le_of_ble_eq_true rfl) g7 rfl rfl (c_keep h.2.1.1 h.2.1.2.1 h.2.1.2.2.1 h.2.1.2.2.2) ?_
  refine xi_aload_n dX7_setLevel_33 rfl rfl ?_
  refine xi_getfield3 dX7_setLevel_34 fX7_10 g0 r0_0 ?_
  refine xi_getfield3 dX7_setLevel_37 fX7_95 g1 r1_2 ?_
  refine xi_iload_n dX7_setLevel_40 rfl rfl ?_
  refine xi_iload_n dX7_setLevel_41 rfl rfl ?_
  refine is dX7_setLevel_42 g2 s2 rfl (by omega) (Nat.le_of_ble_eq_true rfl) ?_
  refine xi_aload_n dX7_setLevel_43 rfl rfl ?_
  refine xi_iconst (v := 1) dX7_setLevel_44 (by decide) ?_
  refine xi_putfield1 dX7_setLevel_45 fX7_68 g0 pX7_68 (by first | exact Or.inl rfl | exact Or.inr rfl) ?_
  refine xi_iload_n dX7_setLevel_48 rfl rfl ?_
  refine go_ret (r := some (.int _)) dX7_setLevel_49 (Nat.le_of_ble_eq_true rfl) (Nat.le_of_ble_eq_true rfl) ?_
  exact ⟨⟨h2, (isLev_ne v).mp h9⟩, by rw [nI_clamp (by omega)], by rw [nI_clamp (by omega)], rfl, rfl⟩
theorem p_setMarker {c r n x sz len : Nat} {i v : Int32} {A : xA} {B : xB} {D : xD} (h : cOK A c r n x sz len) : does0 mX7_setMarker [.ref 0, .int i, .int v] A B D (rQ (inR i (nI n) ∧ btw v 0 15) (some (.int (A 3 i.toNatClampNeg))) (updA A 3 i.toNatClampNeg v) B D) (rX (xPL i v n) A B D) := by
  refine does_go (by decide) rfl (Nat.le_of_ble_eq_true rfl) rfl ?_
  obtain ⟨hn, hn0, hn64⟩ := h.n
  refine xi_aload_n dX7_setMarker_0 rfl rfl ?_
  refine xi_iload_n dX7_setMarker_1 rfl rfl ?_
  refine cVI (av := [_]) dX7_setMarker_2 lX7_87 rfl rfl rfl ⟨(Nat.le_of_ble_eq_true rfl), (Nat.le_of_ble_eq_true rfl), (Nat.le_of_ble_eq_true rfl), (Nat.le_of_ble_eq_true rfl)⟩ (Nat.le_of_ble_eq_true rfl) g0 rfl rfl (c_needPixel) (fun q => ⟨Or.inl ⟨by rwa [hn] at q, rfl⟩, rfl, rfl, rfl⟩) (fun h2 => ?_)
  rw [hn] at h2
  obtain ⟨p, hp, rfl⟩ := inR_nI h2 (by omega)
  refine xi_iload_n dX7_setMarker_5 rfl rfl ?_
  refine cS1 (av := [_]) dX7_setMarker_6 lX7_91 rfl ⟨rfl, rfl⟩ rfl ⟨(Nat.le_of_ble_eq_true rfl), (Nat.le_of_ble_eq_true rfl)⟩ ⟨(Nat.le_of_ble_eq_true rfl), (Nat.le_of_ble_eq_true rfl)⟩ (Nat.le_of_ble_eq_true rfl) (c_isLevel) ?_
  refine cSI (av := [_]) dX7_setMarker_9 lX7_71 rfl rfl rfl ⟨(Nat.le_of_ble_eq_true rfl), (Nat.le_of_ble_eq_true rfl), (Nat.le_of_ble_eq_true rfl), (Nat.le_of_ble_eq_true rfl)⟩ (Nat.le_of_ble_eq_true rfl) (c_needArgument) (fun q => ⟨Or.inr ⟨h2, fun z => q ((isLev_ne v).mpr z), rfl⟩, rfl, rfl, rfl⟩) (fun h9 => ?_)
  refine xi_aload_n dX7_setMarker_12 rfl rfl ?_
  refine xi_getfield3 dX7_setMarker_13 fX7_10 g0 r0_0 ?_
  refine xi_getfield3 dX7_setMarker_16 fX7_109 g1 r1_3 ?_
  refine xi_iload_n dX7_setMarker_19 rfl rfl ?_
  refine ia dX7_setMarker_20 g3 s3 rfl (by omega) (Nat.le_of_ble_eq_true rfl) ?_
  refine xi_istore_n dX7_setMarker_21 rfl (Nat.le_of_ble_eq_true rfl) ?_
  refine xi_aload_n dX7_setMarker_22 rfl rfl ?_
  refine xi_getfield3 dX7_setMarker_23 fX7_10 g0 r0_0 ?_
  refine xi_getfield3 dX7_setMarker_26 fX7_109 g1 r1_3 ?_
  refine xi_iload_n dX7_setMarker_29 rfl rfl ?_
  refine xi_iload_n dX7_setMarker_30 rfl rfl ?_
  refine is dX7_setMarker_31 g3 s3 rfl (by omega) (Nat.le_of_ble_eq_true rfl) ?_
  refine xi_iload_n dX7_setMarker_32 rfl rfl ?_
  refine go_ret (r := some (.int _)) dX7_setMarker_33 (Nat.le_of_ble_eq_true rfl) (Nat.le_of_ble_eq_true rfl) ?_
  exact ⟨⟨h2, (isLev_ne v).mp h9⟩, by rw [nI_clamp (by omega)], by rw [nI_clamp (by omega)], rfl, rfl⟩
theorem p_level {c r n x sz len : Nat} {i : Int32} {A : xA} {B : xB} {D : xD} (h : cOK A c r n x sz len) : does0 mX7_level [.ref 0, .int i] A B D (rQ (inR i (nI n)) (some (.int (A 2 i.toNatClampNeg))) A B D) (rX (fun E => ¬ inR i (nI n) ∧ E = sIO) A B D) := by
  refine does_go (by decide) rfl (Nat.le_of_ble_eq_true rfl) rfl ?_
  obtain ⟨hn, hn0, hn64⟩ := h.n
  refine xi_aload_n dX7_level_0 rfl rfl ?_
  refine xi_iload_n dX7_level_1 rfl rfl ?_
  refine cVI (av := [_]) dX7_level_2 lX7_87 rfl rfl rfl ⟨(Nat.le_of_ble_eq_true rfl), (Nat.le_of_ble_eq_true rfl), (Nat.le_of_ble_eq_true rfl), (Nat.le_of_ble_eq_true rfl)⟩ (Nat.le_of_ble_eq_true rfl) g0 rfl rfl (c_needPixel) (fun q => ⟨⟨by rwa [hn] at q, rfl⟩, rfl, rfl, rfl⟩) (fun h2 => ?_)
  rw [hn] at h2
  obtain ⟨p, hp, rfl⟩ := inR_nI h2 (by omega)
  refine xi_aload_n dX7_level_5 rfl rfl ?_
  refine xi_getfield3 dX7_level_6 fX7_10 g0 r0_0 ?_
  refine xi_getfield3 dX7_level_9 fX7_95 g1 r1_2 ?_
  refine xi_iload_n dX7_level_12 rfl rfl ?_
  refine ia dX7_level_13 g2 s2 rfl (by omega) (Nat.le_of_ble_eq_true rfl) ?_
  refine go_ret (r := some (.int _)) dX7_level_14 (Nat.le_of_ble_eq_true rfl) (Nat.le_of_ble_eq_true rfl) ?_
  exact ⟨h2, by rw [nI_clamp (by omega)], rfl, rfl, rfl⟩
theorem p_marker {c r n x sz len : Nat} {i : Int32} {A : xA} {B : xB} {D : xD} (h : cOK A c r n x sz len) : does0 mX7_marker [.ref 0, .int i] A B D (rQ (inR i (nI n)) (some (.int (A 3 i.toNatClampNeg))) A B D) (rX (fun E => ¬ inR i (nI n) ∧ E = sIO) A B D) := by
  refine does_go (by decide) rfl (Nat.le_of_ble_eq_true rfl) rfl ?_
  obtain ⟨hn, hn0, hn64⟩ := h.n
  refine xi_aload_n dX7_marker_0 rfl rfl ?_
  refine xi_iload_n dX7_marker_1 rfl rfl ?_
  refine cVI (av := [_]) dX7_marker_2 lX7_87 rfl rfl rfl ⟨(Nat.le_of_ble_eq_true rfl), (Nat.le_of_ble_eq_true rfl), (Nat.le_of_ble_eq_true rfl), (Nat.le_of_ble_eq_true rfl)⟩ (Nat.le_of_ble_eq_true rfl) g0 rfl rfl (c_needPixel) (fun q => ⟨⟨by rwa [hn] at q, rfl⟩, rfl, rfl, rfl⟩) (fun h2 => ?_)
  rw [hn] at h2
  obtain ⟨p, hp, rfl⟩ := inR_nI h2 (by omega)
  refine xi_aload_n dX7_marker_5 rfl rfl ?_
  refine xi_getfield3 dX7_marker_6 fX7_10 g0 r0_0 ?_
  refine xi_getfield3 dX7_marker_9 fX7_109 g1 r1_3 ?_
  refine xi_iload_n dX7_marker_12 rfl rfl ?_
  refine ia dX7_marker_13 g3 s3 rfl (by omega) (Nat.le_of_ble_eq_true rfl) ?_
  refine go_ret (r := some (.int _)) dX7_marker_14 (Nat.le_of_ble_eq_true rfl) (Nat.le_of_ble_eq_true rfl) ?_
  exact ⟨h2, by rw [nI_clamp (by omega)], rfl, rfl, rfl⟩
theorem p_fill {c r n x sz len : Nat} {i j v : Int32} {A : xA} {B : xB} {D : xD} (h : cOK A c r n x sz len) : does0 mX7_fill [.ref 0, .int i, .int j, .int v] A B D (rQ ((inR i (nI n) ∧ inR j (nI n)) ∧ btw v 0 15) (some (.int (pntV c i.toNatClampNeg j.toNatClampNeg v (A 2)).1)) (setA (updA (keepA A x sz) 0 11 1) 2 (pntV c i.toNatClampNeg j.toNatClampNeg v (A 2)).2) B D) (rX (fun E => ¬ (inR i (nI n) ∧ inR j (nI n)) ∧ E = sIO ∨ (inR i (nI n) ∧ inR j (nI n)) ∧ ¬ btw v 0 15 ∧ E = sIA) A B D) := by
  refine does_go (by decide) rfl (Nat.le_of_ble_eq_true rfl) rfl ?_
  obtain ⟨hn, hn0, hn64⟩ := h.n
  have h2e : updA (keepA A x sz) 0 11 1 2 = A 2 := by rw [updA_n _ _ _ (by decide), keepA_o (by decide) (by decide) h.2.1.2.1]
  have h1e : updA (keepA A x sz) 0 11 1 1 0 = nI c := by rw [updA_n _ _ _ (by decide), keepA_o (by decide) (by decide) h.2.1.2.1]; exact h.1.1
  refine xi_aload_n dX7_fill_0 rfl rfl ?_
  refine xi_iload_n dX7_fill_1 rfl rfl ?_
  refine cVI (av := [_]) dX7_fill_2 lX7_87 rfl rfl rfl ⟨(Nat.le_of_ble_eq_true rfl), (Nat.le_of_ble_eq_true rfl), (Nat.le_of_ble_eq_true rfl), (Nat.le_of_ble_eq_true rfl)⟩ (Nat.le_of_ble_eq_true rfl) g0 rfl rfl (c_needPixel) (fun q => ⟨Or.inl ⟨fun z => by rw [hn] at q; exact q z.1, rfl⟩, rfl, rfl, rfl⟩) (fun h2 => ?_)
  rw [hn] at h2
  obtain ⟨p, hp, rfl⟩ := inR_nI h2 (by omega)
  refine xi_aload_n dX7_fill_5 rfl rfl ?_
  refine xi_iload_n dX7_fill_6 rfl rfl ?_
  refine cVI (av := [_]) dX7_fill_7 lX7_87 rfl rfl rfl ⟨(Nat.le_of_ble_eq_true rfl), (Nat.le_of_ble_eq_true rfl), (Nat.le_of_ble_eq_true rfl), (Nat.le_of_ble_eq_true rfl)⟩ (Nat.le_of_ble_eq_true rfl) g0 rfl rfl (c_needPixel) (fun q => ⟨Or.inl ⟨fun z => by rw [hn] at q; exact q z.2, rfl⟩, rfl, rfl, rfl⟩) (fun h7 => ?_)
  rw [hn] at h7
  obtain ⟨p2, hp2, rfl⟩ := inR_nI h7 (by omega)
  refine xi_iload_n dX7_fill_10 rfl rfl ?_
  refine cS1 (av := [_]) dX7_fill_11 lX7_91 rfl ⟨rfl, rfl⟩ rfl ⟨(Nat.le_of_ble_eq_true rfl), (Nat.le_of_ble_eq_true rfl)⟩ ⟨(Nat.le_of_ble_eq_true rfl), (Nat.le_of_ble_eq_true rfl)⟩ (Nat.le_of_ble_eq_true rfl) (c_isLevel) ?_
  refine cSI (av := [_]) dX7_fill_14 lX7_71 rfl rfl rfl ⟨(Nat.le_of_ble_eq_true rfl), (Nat.le_of_ble_eq_true rfl), (Nat.le_of_ble_eq_true rfl), (Nat.le_of_ble_eq_true rfl)⟩ (Nat.le_of_ble_eq_true rfl) (c_needArgument) (fun q => ⟨Or.inr ⟨⟨h2, h7⟩, fun z => q ((isLev_ne v).mpr z), rfl⟩, rfl, rfl, rfl⟩) (fun h14 => ?_)
  refine xi_aload_n dX7_fill_17 rfl rfl ?_
  refine xi_getfield3 dX7_fill_18 fX7_22 g0 r0_2 ?_
  refine xi_aload_n dX7_fill_21 rfl rfl ?_
  refine xi_getfield3 dX7_fill_22 fX7_10 g0 r0_0 ?_
  refine cV1 (av := [_]) dX7_fill_25 lX7_79 rfl ⟨rfl, rfl⟩ rfl ⟨(Nat.le_of_ble_eq_true rfl), (Nat.le_of_ble_eq_true rfl)⟩ ⟨(Nat.le_of_ble_eq_true rfl), (Nat.le_of_ble_eq_true rfl)⟩ (Nat.le_of_ble_eq_true rfl) g7 rfl rfl (c_keep h.2.1.1 h.2.1.2.1 h.2.1.2.2.1 h.2.1.2.2.2) ?_
  refine xi_aload_n dX7_fill_28 rfl rfl ?_
  refine xi_iconst (v := 1) dX7_fill_29 (by decide) ?_
  refine xi_putfield1 dX7_fill_30 fX7_68 g0 pX7_68 (by first | exact Or.inl rfl | exact Or.inr rfl) ?_
  refine xi_aload_n dX7_fill_33 rfl rfl ?_
  refine xi_getfield3 dX7_fill_34 fX7_10 g0 r0_0 ?_
  refine xi_iload_n dX7_fill_37 rfl rfl ?_
  refine xi_iload_n dX7_fill_38 rfl rfl ?_
  refine xi_iload_n dX7_fill_39 rfl rfl ?_
  refine cV1 (av := [_, _, _]) dX7_fill_40 lX7_98 rfl ⟨rfl, rfl⟩ rfl ⟨(Nat.le_of_ble_eq_true rfl), (Nat.le_of_ble_eq_true rfl)⟩ ⟨(Nat.le_of_ble_eq_true rfl), (Nat.le_of_ble_eq_true rfl)⟩ (Nat.le_of_ble_eq_true rfl) g1 rfl rfl (c_paint (r := r) h1e h.1.2.2.1 h.1.2.2.2.1 h.1.2.2.2.2.2.1 (by rw [h.1.2.2.2.2.2.2]; exact hp) (by rw [h.1.2.2.2.2.2.2]; exact hp2)) ?_
  refine go_ret (r := some (.int _)) dX7_fill_43 (Nat.le_of_ble_eq_true rfl) (Nat.le_of_ble_eq_true rfl) ?_
  rw [h2e]
  exact ⟨⟨⟨h2, h7⟩, (isLev_ne v).mp h14⟩, by rw [nI_clamp (by omega), nI_clamp (by omega)], by rw [nI_clamp (by omega), nI_clamp (by omega)], rfl, rfl⟩
/-- markAll: (how many changed, the markers) -/
def maS (lv : Nat → Int32) (p : Nat) (q : Int32 × (Nat → Int32)) : Int32 × (Nat → Int32) := if q.2 p = lv p then q else (q.1 + 1, upd q.2 p (lv p))
theorem p_markAll {c r n x sz len : Nat} {A : xA} {B : xB} {D : xD} (h : cOK A c r n x sz len) : does0 mX7_markAll [.ref 0] A B D (eqQ (some (.int (itr (maS (A 2)) n (0, A 3)).1)) (setA A 3 (itr (maS (A 2)) n (0, A 3)).2) B D) nx := by
  refine does_go (by decide) rfl (Nat.le_of_ble_eq_true rfl) rfl ?_
  obtain ⟨hn, hn0, hn64⟩ := h.n
  generalize hR : itr (maS (A 2)) n (0, A 3) = R
  have loop := up_ind (n := n) (P := fun j => ∀ q, q = itr (maS (A 2)) j (0, A 3) → go0 mX7_markAll (eqQ (some (.int R.1)) (setA A 3 R.2) B D) nx 0 0 4 [(0, .ref 0), (1, .int q.1), (2, .int (nI j))] [] (setA A 3 q.2) B D) (fun j hj ih q hq => by
    refine xi_iload_n dX7_markAll_4 rfl rfl ?_
    refine xi_aload_n dX7_markAll_5 rfl rfl ?_
    refine xi_getfield3 dX7_markAll_6 fX7_10 g0 r0_0 ?_
    refine cV1 (av := []) dX7_markAll_9 lX7_75 rfl ⟨rfl, rfl⟩ rfl ⟨(Nat.le_of_ble_eq_true rfl), (Nat.le_of_ble_eq_true rfl)⟩ ⟨(Nat.le_of_ble_eq_true rfl), (Nat.le_of_ble_eq_true rfl)⟩ (Nat.le_of_ble_eq_true rfl) g1 rfl rfl (c_size isPic_1) ?_
    rw [show setA A 3 q.2 1 0 * setA A 3 q.2 1 1 = nI n from hn]
    refine xi_icmp_ge (tgt := 63) dX7_markAll_12 rfl (fun h12 => ?_) (fun h12 => ?_)
    · have e : j = n := ge_eq hj (by omega) h12
      subst e
      refine xi_iload_n dX7_markAll_63 rfl rfl ?_
      refine go_ret (r := some (.int _)) dX7_markAll_64 (Nat.le_of_ble_eq_true rfl) (Nat.le_of_ble_eq_true rfl) ?_
      exact ⟨by rw [hq, hR], by rw [hq, hR], rfl, rfl⟩
    · have hl : j < n := nge_lt hj (by omega) h12
      refine xi_aload_n dX7_markAll_15 rfl rfl ?_
      refine xi_getfield3 dX7_markAll_16 fX7_10 g0 r0_0 ?_
      refine xi_getfield3 dX7_markAll_19 fX7_109 g1 r1_3 ?_
      refine xi_iload_n dX7_markAll_22 rfl rfl ?_
      refine ia dX7_markAll_23 g3 s3 rfl (by omega) (Nat.le_of_ble_eq_true rfl) ?_
      refine xi_aload_n dX7_markAll_24 rfl rfl ?_
      refine xi_getfield3 dX7_markAll_25 fX7_10 g0 r0_0 ?_
      refine xi_getfield3 dX7_markAll_28 fX7_95 g1 r1_2 ?_
      refine xi_iload_n dX7_markAll_31 rfl rfl ?_
      refine ia dX7_markAll_32 g2 s2 rfl (by omega) (Nat.le_of_ble_eq_true rfl) ?_
      rw [setA_s, show setA A 3 q.2 2 j = A 2 j from rfl]
      refine xi_icmp_eq (tgt := 57) dX7_markAll_33 rfl (fun h33 => ?_) (fun h33 => ?_)
      · refine xi_iinc (v := 1) dX7_markAll_57 rfl (by decide) (Nat.le_of_ble_eq_true rfl) ?_
        refine xi_goto (tgt := 4) dX7_markAll_60 rfl ?_
        refine xgo_pick [0, 1, 2] rfl ?_
        rw [nI_1]
        exact ih hl q (by rw [itr_s, ← hq]; exact (if_pos h33).symm)
      · refine xi_aload_n dX7_markAll_36 rfl rfl ?_
        refine xi_getfield3 dX7_markAll_37 fX7_10 g0 r0_0 ?_
        refine xi_getfield3 dX7_markAll_40 fX7_109 g1 r1_3 ?_
        refine xi_iload_n dX7_markAll_43 rfl rfl ?_
        refine xi_aload_n dX7_markAll_44 rfl rfl ?_
        refine xi_getfield3 dX7_markAll_45 fX7_10 g0 r0_0 ?_
        refine xi_getfield3 dX7_markAll_48 fX7_95 g1 r1_2 ?_
        refine xi_iload_n dX7_markAll_51 rfl rfl ?_
        refine ia dX7_markAll_52 g2 s2 rfl (by omega) (Nat.le_of_ble_eq_true rfl) ?_
        refine is dX7_markAll_53 g3 s3 rfl (by omega) (Nat.le_of_ble_eq_true rfl) ?_
        refine xi_iinc (v := 1) dX7_markAll_54 rfl (by decide) (Nat.le_of_ble_eq_true rfl) ?_
        refine xi_iinc (v := 1) dX7_markAll_57 rfl (by decide) (Nat.le_of_ble_eq_true rfl) ?_
        refine xi_goto (tgt := 4) dX7_markAll_60 rfl ?_
        refine xgo_pick [0, 1, 2] rfl ?_
        rw [nI_1, setA_u]
        exact ih hl (q.1 + 1, upd q.2 j (A 2 j)) (by rw [itr_s, ← hq]; exact (if_neg h33).symm)
    )
  refine xi_iconst (v := 0) dX7_markAll_0 (by decide) ?_
  refine xi_istore_n dX7_markAll_1 rfl (Nat.le_of_ble_eq_true rfl) ?_
  refine xi_iconst (v := 0) dX7_markAll_2 (by decide) ?_
  refine xi_istore_n dX7_markAll_3 rfl (Nat.le_of_ble_eq_true rfl) ?_
  refine xgo_pick [0, 1, 2] rfl ?_
  have l0 := loop 0 (Nat.zero_le _) (0, A 3) rfl
  rw [setA_self] at l0
  exact l0
def difV (f g : Nat → Int32) (n : Nat) : Int32 := isum (fun p => iabs (f p - g p)) n
theorem p_difference {c r n x sz len : Nat} {A : xA} {B : xB} {D : xD} (h : cOK A c r n x sz len) : does0 mX7_difference [.ref 0] A B D (eqQ (some (.int (difV (A 2) (A 3) n))) A B D) nx := by
  refine does_go (by decide) rfl (Nat.le_of_ble_eq_true rfl) rfl ?_
  obtain ⟨hn, hn0, hn64⟩ := h.n
  have loop := up_ind (n := n) (P := fun j => go0 mX7_difference (eqQ (some (.int (difV (A 2) (A 3) n))) A B D) nx 0 0 4 [(0, .ref 0), (1, .int (difV (A 2) (A 3) j)), (2, .int (nI j))] [] A B D) (fun j hj ih => by
    refine xi_iload_n dX7_difference_4 rfl rfl ?_
    refine xi_aload_n dX7_difference_5 rfl rfl ?_
    refine xi_getfield3 dX7_difference_6 fX7_10 g0 r0_0 ?_
    refine cV1 (av := []) dX7_difference_9 lX7_75 rfl ⟨rfl, rfl⟩ rfl ⟨(Nat.le_of_ble_eq_true rfl), (Nat.le_of_ble_eq_true rfl)⟩ ⟨(Nat.le_of_ble_eq_true rfl), (Nat.le_of_ble_eq_true rfl)⟩ (Nat.le_of_ble_eq_true rfl) g1 rfl rfl (c_size isPic_1) ?_
    rw [hn]
    refine xi_icmp_ge (tgt := 46) dX7_difference_12 rfl (fun h12 => ?_) (fun h12 => ?_)
    · have e : j = n := ge_eq hj (by omega) h12
      subst e
      refine xi_iload_n dX7_difference_46 rfl rfl ?_
      refine go_ret (r := some (.int _)) dX7_difference_47 (Nat.le_of_ble_eq_true rfl) (Nat.le_of_ble_eq_true rfl) ?_
      exact ⟨rfl, rfl, rfl, rfl⟩
    · have hl : j < n := nge_lt hj (by omega) h12
      refine xi_iload_n dX7_difference_15 rfl rfl ?_
      refine xi_aload_n dX7_difference_16 rfl rfl ?_
      refine xi_getfield3 dX7_difference_17 fX7_10 g0 r0_0 ?_
      refine xi_getfield3 dX7_difference_20 fX7_95 g1 r1_2 ?_
      refine xi_iload_n dX7_difference_23 rfl rfl ?_
      refine ia dX7_difference_24 g2 s2 rfl (by omega) (Nat.le_of_ble_eq_true rfl) ?_
      refine xi_aload_n dX7_difference_25 rfl rfl ?_
      refine xi_getfield3 dX7_difference_26 fX7_10 g0 r0_0 ?_
      refine xi_getfield3 dX7_difference_29 fX7_109 g1 r1_3 ?_
      refine xi_iload_n dX7_difference_32 rfl rfl ?_
      refine ia dX7_difference_33 g3 s3 rfl (by omega) (Nat.le_of_ble_eq_true rfl) ?_
      refine xi_isub dX7_difference_34 ?_
      refine xi_mabs dX7_difference_35 eX7_112 ⟨(Nat.le_of_ble_eq_true rfl), (Nat.le_of_ble_eq_true rfl)⟩ ⟨(Nat.le_of_ble_eq_true rfl), (Nat.le_of_ble_eq_true rfl)⟩ ?_
      refine xi_iadd dX7_difference_38 ?_
      refine xi_istore_n dX7_difference_39 rfl (Nat.le_of_ble_eq_true rfl) ?_
      refine xi_iinc (v := 1) dX7_difference_40 rfl (by decide) (Nat.le_of_ble_eq_true rfl) ?_
      refine xi_goto (tgt := 4) dX7_difference_43 rfl ?_
      refine xgo_pick [0, 1, 2] rfl ?_
      rw [nI_1]
      exact ih hl
    )
  refine xi_iconst (v := 0) dX7_difference_0 (by decide) ?_
  refine xi_istore_n dX7_difference_1 rfl (Nat.le_of_ble_eq_true rfl) ?_
  refine xi_iconst (v := 0) dX7_difference_2 (by decide) ?_
  refine xi_istore_n dX7_difference_3 rfl (Nat.le_of_ble_eq_true rfl) ?_
  refine xgo_pick [0, 1, 2] rfl ?_
  exact loop 0 (Nat.zero_le _)
theorem p_setDark {v : Int32} (hv : v = 0 ∨ v = 1) {A : xA} {B : xB} {D : xD} (hz : A 0 9 = 0 ∨ A 0 9 = 1) : does0 mX7_setDark [.ref 0, .int v] A B D (eqQ (some (.int (A 0 9))) (updA (updA A 0 9 v) 0 11 1) B D) nx := by
  refine does_go (by decide) rfl (Nat.le_of_ble_eq_true rfl) rfl ?_
  refine xi_aload_n dX7_setDark_0 rfl rfl ?_
  refine xi_getfield1 dX7_setDark_1 fX7_61 g0 ?_
  refine xi_istore_n dX7_setDark_4 rfl (Nat.le_of_ble_eq_true rfl) ?_
  refine xi_aload_n dX7_setDark_5 rfl rfl ?_
  refine xi_iload_n dX7_setDark_6 rfl rfl ?_
  refine xi_putfield1 dX7_setDark_7 fX7_61 g0 pX7_61 hv ?_
  refine xi_aload_n dX7_setDark_10 rfl rfl ?_
  refine xi_iconst (v := 1) dX7_setDark_11 (by decide) ?_
  refine xi_putfield1 dX7_setDark_12 fX7_68 g0 pX7_68 (by first | exact Or.inl rfl | exact Or.inr rfl) ?_
  refine xi_iload_n dX7_setDark_15 rfl rfl ?_
  refine go_ret (r := some (.int _)) ⟨dX7_setDark_16, hz⟩ (Nat.le_of_ble_eq_true rfl) (Nat.le_of_ble_eq_true rfl) ?_
  exact ⟨rfl, rfl, rfl, rfl⟩
theorem p_setEight {v : Int32} (hv : v = 0 ∨ v = 1) {A : xA} {B : xB} {D : xD} (hz : A 0 10 = 0 ∨ A 0 10 = 1) : does0 mX7_setEight [.ref 0, .int v] A B D (eqQ (some (.int (A 0 10))) (updA (updA A 0 10 v) 0 11 1) B D) nx := by
  refine does_go (by decide) rfl (Nat.le_of_ble_eq_true rfl) rfl ?_
  refine xi_aload_n dX7_setEight_0 rfl rfl ?_
  refine xi_getfield1 dX7_setEight_1 fX7_65 g0 ?_
  refine xi_istore_n dX7_setEight_4 rfl (Nat.le_of_ble_eq_true rfl) ?_
  refine xi_aload_n dX7_setEight_5 rfl rfl ?_
  refine xi_iload_n dX7_setEight_6 rfl rfl ?_
  refine xi_putfield1 dX7_setEight_7 fX7_65 g0 pX7_65 hv ?_
  refine xi_aload_n dX7_setEight_10 rfl rfl ?_
  refine xi_iconst (v := 1) dX7_setEight_11 (by decide) ?_
  refine xi_putfield1 dX7_setEight_12 fX7_68 g0 pX7_68 (by first | exact Or.inl rfl | exact Or.inr rfl) ?_
  refine xi_iload_n dX7_setEight_15 rfl rfl ?_
  refine go_ret (r := some (.int _)) ⟨dX7_setEight_16, hz⟩ (Nat.le_of_ble_eq_true rfl) (Nat.le_of_ble_eq_true rfl) ?_
  exact ⟨rfl, rfl, rfl, rfl⟩
theorem p_undo {c r n x sz len : Nat} {A : xA} {B : xB} {D : xD} (h : cOK A c r n x sz len) : does0 mX7_undo [.ref 0] A B D (rQ (0 < sz) (some (.int (nI (sz - 1)))) (updA (backA A x (sz - 1)) 0 11 1) B D) (rX (fun E => ¬ 0 < sz ∧ E = sIS) A B D) := by
  refine does_go (by decide) rfl (Nat.le_of_ble_eq_true rfl) rfl ?_
  obtain ⟨hx, hx8, hz, hz8⟩ := h.2.1
  refine xi_aload_n dX7_undo_0 rfl rfl ?_
  refine xi_getfield3 dX7_undo_1 fX7_22 g0 r0_2 ?_
  refine xi_getfield0 dX7_undo_4 fX7_118 g7 ?_
  rw [hz]
  refine xi_if_le (tgt := 14) dX7_undo_7 rfl (fun h7 => ?_) (fun h7 => ?_)
  · refine xi_iconst (v := 0) dX7_undo_14 (by decide) ?_
    refine cSI (av := [_]) dX7_undo_15 lX7_120 rfl rfl rfl ⟨(Nat.le_of_ble_eq_true rfl), (Nat.le_of_ble_eq_true rfl), (Nat.le_of_ble_eq_true rfl), (Nat.le_of_ble_eq_true rfl)⟩ (Nat.le_of_ble_eq_true rfl) (c_needState) (fun q => ⟨⟨fun z => by first | exact q (by decide) | exact absurd (nI_le0 (by omega) h7) (by omega), rfl⟩, rfl, rfl, rfl⟩) (fun h15 => ?_)
    exact absurd rfl h15
  · refine xi_iconst (v := 1) dX7_undo_10 (by decide) ?_
    refine xi_goto (tgt := 15) dX7_undo_11 rfl ?_
    refine cSI (av := [_]) dX7_undo_15 lX7_120 rfl rfl rfl ⟨(Nat.le_of_ble_eq_true rfl), (Nat.le_of_ble_eq_true rfl), (Nat.le_of_ble_eq_true rfl), (Nat.le_of_ble_eq_true rfl)⟩ (Nat.le_of_ble_eq_true rfl) (c_needState) (fun q => ⟨⟨fun z => by first | exact q (by decide) | exact absurd (nI_le0 (by omega) h7) (by omega), rfl⟩, rfl, rfl, rfl⟩) (fun h15 => ?_)
    obtain ⟨s, rfl⟩ := nI_gt0 h7
    refine xi_aload_n dX7_undo_18 rfl rfl ?_
    refine xi_getfield3 dX7_undo_19 fX7_22 g0 r0_2 ?_
    refine xi_aload_n dX7_undo_22 rfl rfl ?_
    refine xi_getfield3 dX7_undo_23 fX7_10 g0 r0_0 ?_
    refine cV1 (av := [_]) dX7_undo_26 lX7_123 rfl ⟨rfl, rfl⟩ rfl ⟨(Nat.le_of_ble_eq_true rfl), (Nat.le_of_ble_eq_true rfl)⟩ ⟨(Nat.le_of_ble_eq_true rfl), (Nat.le_of_ble_eq_true rfl)⟩ (Nat.le_of_ble_eq_true rfl) g7 rfl rfl (c_giveBack hx hx8 hz) ?_
    refine xi_aload_n dX7_undo_29 rfl rfl ?_
    refine xi_iconst (v := 1) dX7_undo_30 (by decide) ?_
    refine xi_putfield1 dX7_undo_31 fX7_68 g0 pX7_68 (by first | exact Or.inl rfl | exact Or.inr rfl) ?_
    refine xi_aload_n dX7_undo_34 rfl rfl ?_
    refine xi_getfield3 dX7_undo_35 fX7_22 g0 r0_2 ?_
    refine xi_getfield0 dX7_undo_38 fX7_118 g7 ?_
    refine go_ret (r := some (.int _)) dX7_undo_41 (Nat.le_of_ble_eq_true rfl) (Nat.le_of_ble_eq_true rfl) ?_
    exact ⟨by omega, by rw [updA_n _ _ _ (by decide)]; unfold backA; rw [copyA_o (by decide) (by decide) (by decide), updA_ss]; rfl, rfl, rfl, rfl⟩
theorem p_append {c r n x sz len : Nat} {v : Int32} {A : xA} {B : xB} {D : xD} (h : cOK A c r n x sz len) : does0 mX7_append [.ref 0, .int v] A B D (rQ (btw v 32 126 ∧ len < 72) (some (.int (nI (len + 1)))) (updA (updA A 34 len v) 33 1 (nI (len + 1))) B D) (rX (fun E => ¬ btw v 32 126 ∧ E = sIA ∨ btw v 32 126 ∧ ¬ len < 72 ∧ E = sIS) A B D) := by
  refine does_go (by decide) rfl (Nat.le_of_ble_eq_true rfl) rfl ?_
  obtain ⟨hl0, hl72⟩ := h.2.2
  refine xi_iload_n dX7_append_0 rfl rfl ?_
  refine xi_bipush (v := 32) dX7_append_1 (by decide) ?_
  refine xi_icmp_lt (tgt := 16) dX7_append_3 rfl (fun h3 => ?_) (fun h3 => ?_)
  · refine xi_iconst (v := 0) dX7_append_16 (by decide) ?_
    refine cSI (av := [_]) dX7_append_17 lX7_71 rfl rfl rfl ⟨(Nat.le_of_ble_eq_true rfl), (Nat.le_of_ble_eq_true rfl), (Nat.le_of_ble_eq_true rfl), (Nat.le_of_ble_eq_true rfl)⟩ (Nat.le_of_ble_eq_true rfl) (c_needArgument) (fun q => ⟨Or.inl ⟨fun z => by first | exact q (by decide) | exact z.1 h3 | exact z.2 h9, rfl⟩, rfl, rfl, rfl⟩) (fun h17 => ?_)
    exact absurd rfl h17
  · refine xi_iload_n dX7_append_6 rfl rfl ?_
    refine xi_bipush (v := 126) dX7_append_7 (by decide) ?_
    refine xi_icmp_gt (tgt := 16) dX7_append_9 rfl (fun h9 => ?_) (fun h9 => ?_)
    · refine xi_iconst (v := 0) dX7_append_16 (by decide) ?_
      refine cSI (av := [_]) dX7_append_17 lX7_71 rfl rfl rfl ⟨(Nat.le_of_ble_eq_true rfl), (Nat.le_of_ble_eq_true rfl), (Nat.le_of_ble_eq_true rfl), (Nat.le_of_ble_eq_true rfl)⟩ (Nat.le_of_ble_eq_true rfl) (c_needArgument) (fun q => ⟨Or.inl ⟨fun z => by first | exact q (by decide) | exact z.1 h3 | exact z.2 h9, rfl⟩, rfl, rfl, rfl⟩) (fun h17 => ?_)
      exact absurd rfl h17
    · refine xi_iconst (v := 1) dX7_append_12 (by decide) ?_
      refine xi_goto (tgt := 17) dX7_append_13 rfl ?_
      refine cSI (av := [_]) dX7_append_17 lX7_71 rfl rfl rfl ⟨(Nat.le_of_ble_eq_true rfl), (Nat.le_of_ble_eq_true rfl), (Nat.le_of_ble_eq_true rfl), (Nat.le_of_ble_eq_true rfl)⟩ (Nat.le_of_ble_eq_true rfl) (c_needArgument) (fun q => ⟨Or.inl ⟨fun z => by first | exact q (by decide) | exact z.1 h3 | exact z.2 h9, rfl⟩, rfl, rfl, rfl⟩) (fun h17 => ?_)
      refine xi_aload_n dX7_append_20 rfl rfl ?_
      refine xi_getfield3 dX7_append_21 fX7_29 g0 r0_3 ?_
      refine xi_getfield0 dX7_append_24 fX7_126 g33 ?_
      refine xi_bipush (v := 72) dX7_append_27 (by decide) ?_
      rw [hl0]
      refine xi_icmp_ge (tgt := 36) dX7_append_29 rfl (fun h29 => ?_) (fun h29 => ?_)
      · refine xi_iconst (v := 0) dX7_append_36 (by decide) ?_
        refine cSI (av := [_]) dX7_append_37 lX7_120 rfl rfl rfl ⟨(Nat.le_of_ble_eq_true rfl), (Nat.le_of_ble_eq_true rfl), (Nat.le_of_ble_eq_true rfl), (Nat.le_of_ble_eq_true rfl)⟩ (Nat.le_of_ble_eq_true rfl) (c_needState) (fun q => ⟨Or.inr ⟨⟨h3, h9⟩, fun z => by first | exact q (by decide) | exact absurd ((nI_leI (a := 72) (by decide) (by omega)).mp h29) (by omega), rfl⟩, rfl, rfl, rfl⟩) (fun h37 => ?_)
        exact absurd rfl h37
      · refine xi_iconst (v := 1) dX7_append_32 (by decide) ?_
        refine xi_goto (tgt := 37) dX7_append_33 rfl ?_
        refine cSI (av := [_]) dX7_append_37 lX7_120 rfl rfl rfl ⟨(Nat.le_of_ble_eq_true rfl), (Nat.le_of_ble_eq_true rfl), (Nat.le_of_ble_eq_true rfl), (Nat.le_of_ble_eq_true rfl)⟩ (Nat.le_of_ble_eq_true rfl) (c_needState) (fun q => ⟨Or.inr ⟨⟨h3, h9⟩, fun z => by first | exact q (by decide) | exact absurd ((nI_leI (a := 72) (by decide) (by omega)).mp h29) (by omega), rfl⟩, rfl, rfl, rfl⟩) (fun h37 => ?_)
        have hlt : len < 72 := by
          rcases Nat.lt_or_ge len 72 with q | q
          · exact q
          · exact absurd ((nI_leI (a := 72) (by decide) (by omega)).mpr q) h29
        refine xi_aload_n dX7_append_40 rfl rfl ?_
        refine xi_getfield3 dX7_append_41 fX7_29 g0 r0_3 ?_
        refine xi_iload_n dX7_append_44 rfl rfl ?_
        refine cV1 (av := [_]) dX7_append_45 lX7_129 rfl ⟨rfl, rfl⟩ rfl ⟨(Nat.le_of_ble_eq_true rfl), (Nat.le_of_ble_eq_true rfl)⟩ ⟨(Nat.le_of_ble_eq_true rfl), (Nat.le_of_ble_eq_true rfl)⟩ (Nat.le_of_ble_eq_true rfl) g33 rfl rfl (c_add hl0 hlt) ?_
        refine xi_aload_n dX7_append_48 rfl rfl ?_
        refine xi_getfield3 dX7_append_49 fX7_29 g0 r0_3 ?_
        refine xi_getfield0 dX7_append_52 fX7_126 g33 ?_
        refine go_ret (r := some (.int _)) dX7_append_55 (Nat.le_of_ble_eq_true rfl) (Nat.le_of_ble_eq_true rfl) ?_
        exact ⟨⟨⟨h3, h9⟩, hlt⟩, rfl, rfl, rfl, rfl⟩
theorem p_clearInput {A : xA} {B : xB} {D : xD} : does0 mX7_clearInput [.ref 0] A B D (eqQ (some (.int (A 33 1))) (updA A 33 1 0) B D) nx := by
  refine does_go (by decide) rfl (Nat.le_of_ble_eq_true rfl) rfl ?_
  refine xi_aload_n dX7_clearInput_0 rfl rfl ?_
  refine xi_getfield3 dX7_clearInput_1 fX7_29 g0 r0_3 ?_
  refine xi_getfield0 dX7_clearInput_4 fX7_126 g33 ?_
  refine xi_istore_n dX7_clearInput_7 rfl (Nat.le_of_ble_eq_true rfl) ?_
  refine xi_aload_n dX7_clearInput_8 rfl rfl ?_
  refine xi_getfield3 dX7_clearInput_9 fX7_29 g0 r0_3 ?_
  refine xi_iconst (v := 0) dX7_clearInput_12 (by decide) ?_
  refine xi_putfield0 dX7_clearInput_13 fX7_126 g33 pX7_126 ?_
  refine xi_iload_n dX7_clearInput_16 rfl rfl ?_
  refine go_ret (r := some (.int _)) dX7_clearInput_17 (Nat.le_of_ble_eq_true rfl) (Nat.le_of_ble_eq_true rfl) ?_
  exact ⟨rfl, rfl, rfl, rfl⟩
theorem p_firstError {c r n x sz len : Nat} {A : xA} {B : xB} {D : xD} (h : cOK A c r n x sz len) : does0 mX7_firstError [.ref 0] A B D (eqQ (some (.int (scanV A len).1)) (inpA A (scanV A len).2) B D) nx := by
  refine does_go (by decide) rfl (Nat.le_of_ble_eq_true rfl) rfl ?_
  refine xi_aload_n dX7_firstError_0 rfl rfl ?_
  refine xi_getfield3 dX7_firstError_1 fX7_29 g0 r0_3 ?_
  refine cV1 (av := []) dX7_firstError_4 lX7_132 rfl ⟨rfl, rfl⟩ rfl ⟨(Nat.le_of_ble_eq_true rfl), (Nat.le_of_ble_eq_true rfl)⟩ ⟨(Nat.le_of_ble_eq_true rfl), (Nat.le_of_ble_eq_true rfl)⟩ (Nat.le_of_ble_eq_true rfl) g33 rfl rfl (c_scan h.2.2.1 h.2.2.2) ?_
  refine go_ret (r := some (.int _)) dX7_firstError_7 (Nat.le_of_ble_eq_true rfl) (Nat.le_of_ble_eq_true rfl) ?_
  exact ⟨rfl, rfl, rfl, rfl⟩
/-- load's heap: cc columns, rr rows -/
def ldA (A : xA) (x sz len cc rr : Nat) : xA := updA (updA (wtA (keepA (inpA A (scanV A len).2) x sz) cc rr) 33 1 0) 0 11 1
theorem p_load {c r n x sz len cc rr : Nat} {A : xA} {B : xB} {D : xD} (h : cOK A c r n x sz len) (hp : ¬ isPicV (scanV A len) len = 0 → (scanV A len).2.1 = nI cc ∧ (scanV A len).2.2.1 = nI rr ∧ cc ≤ 8 ∧ rr ≤ 8) : does0 mX7_load [.ref 0] A B D (rQ (¬ isPicV (scanV A len) len = 0) (some (.int (nI cc * nI rr))) (ldA A x sz len cc rr) B D) (rX (fun E => isPicV (scanV A len) len = 0 ∧ E = sIS) (inpA A (scanV A len).2) B D) := by
  refine does_go (by decide) rfl (Nat.le_of_ble_eq_true rfl) rfl ?_
  obtain ⟨hx, hx8, hz, hz8⟩ := h.2.1
  refine xi_aload_n dX7_load_0 rfl rfl ?_
  refine xi_getfield3 dX7_load_1 fX7_29 g0 r0_3 ?_
  refine cV1 (av := []) dX7_load_4 lX7_135 rfl ⟨rfl, rfl⟩ rfl ⟨(Nat.le_of_ble_eq_true rfl), (Nat.le_of_ble_eq_true rfl)⟩ ⟨(Nat.le_of_ble_eq_true rfl), (Nat.le_of_ble_eq_true rfl)⟩ (Nat.le_of_ble_eq_true rfl) g33 rfl rfl (c_isPicture h.2.2.1 h.2.2.2) ?_
  refine cSI (av := [_]) dX7_load_7 lX7_120 rfl rfl rfl ⟨(Nat.le_of_ble_eq_true rfl), (Nat.le_of_ble_eq_true rfl), (Nat.le_of_ble_eq_true rfl), (Nat.le_of_ble_eq_true rfl)⟩ (Nat.le_of_ble_eq_true rfl) (c_needState) (fun q => ⟨⟨Classical.not_not.mp q, rfl⟩, rfl, rfl, rfl⟩) (fun h7 => ?_)
  obtain ⟨e1, e2, e3, e4⟩ := hp h7
  refine xi_aload_n dX7_load_10 rfl rfl ?_
  refine xi_getfield3 dX7_load_11 fX7_22 g0 r0_2 ?_
  refine xi_aload_n dX7_load_14 rfl rfl ?_
  refine xi_getfield3 dX7_load_15 fX7_10 g0 r0_0 ?_
  refine cV1 (av := [_]) dX7_load_18 lX7_79 rfl ⟨rfl, rfl⟩ rfl ⟨(Nat.le_of_ble_eq_true rfl), (Nat.le_of_ble_eq_true rfl)⟩ ⟨(Nat.le_of_ble_eq_true rfl), (Nat.le_of_ble_eq_true rfl)⟩ (Nat.le_of_ble_eq_true rfl) g7 rfl rfl (c_keep hx hx8 hz hz8) ?_
  refine xi_aload_n dX7_load_21 rfl rfl ?_
  refine xi_getfield3 dX7_load_22 fX7_29 g0 r0_3 ?_
  refine xi_aload_n dX7_load_25 rfl rfl ?_
  refine xi_getfield3 dX7_load_26 fX7_10 g0 r0_0 ?_
  refine cV1 (av := [_]) dX7_load_29 lX7_139 rfl ⟨rfl, rfl⟩ rfl ⟨(Nat.le_of_ble_eq_true rfl), (Nat.le_of_ble_eq_true rfl)⟩ ⟨(Nat.le_of_ble_eq_true rfl), (Nat.le_of_ble_eq_true rfl)⟩ (Nat.le_of_ble_eq_true rfl) g33 rfl rfl (c_writeTo (by rw [keepA_o (by decide) (by decide) hx8]; exact e1) (by rw [keepA_o (by decide) (by decide) hx8]; exact e2) e3 e4) ?_
  refine xi_aload_n dX7_load_32 rfl rfl ?_
  refine xi_getfield3 dX7_load_33 fX7_29 g0 r0_3 ?_
  refine xi_iconst (v := 0) dX7_load_36 (by decide) ?_
  refine xi_putfield0 dX7_load_37 fX7_126 g33 pX7_126 ?_
  refine xi_aload_n dX7_load_40 rfl rfl ?_
  refine xi_iconst (v := 1) dX7_load_41 (by decide) ?_
  refine xi_putfield1 dX7_load_42 fX7_68 g0 pX7_68 (by first | exact Or.inl rfl | exact Or.inr rfl) ?_
  refine xi_aload_n dX7_load_45 rfl rfl ?_
  refine xi_getfield3 dX7_load_46 fX7_10 g0 r0_0 ?_
  refine cV1 (av := []) dX7_load_49 lX7_75 rfl ⟨rfl, rfl⟩ rfl ⟨(Nat.le_of_ble_eq_true rfl), (Nat.le_of_ble_eq_true rfl)⟩ ⟨(Nat.le_of_ble_eq_true rfl), (Nat.le_of_ble_eq_true rfl)⟩ (Nat.le_of_ble_eq_true rfl) g1 rfl rfl (c_size isPic_1) ?_
  refine go_ret (r := some (.int _)) dX7_load_52 (Nat.le_of_ble_eq_true rfl) (Nat.le_of_ble_eq_true rfl) ?_
  have w1 : updA (updA (wtA (keepA (inpA A (scanV A len).2) x sz) cc rr) 33 1 0) 0 11 1 1 0 = nI cc := by rw [updA_n _ _ _ (by decide), updA_n _ _ _ (by decide)]; unfold wtA blankA filA; rw [setA_n _ _ (by decide), setA_n _ _ (by decide), setA_n _ _ (by decide), updA_sj _ _ _ (by decide), updA_ss]
  have w2 : updA (updA (wtA (keepA (inpA A (scanV A len).2) x sz) cc rr) 33 1 0) 0 11 1 1 1 = nI rr := by rw [updA_n _ _ _ (by decide), updA_n _ _ _ (by decide)]; unfold wtA blankA filA; rw [setA_n _ _ (by decide), setA_n _ _ (by decide), setA_n _ _ (by decide), updA_ss]
  exact ⟨h7, by rw [w1, w2], rfl, rfl, rfl⟩

