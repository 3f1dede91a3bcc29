/-! the model: images and input -/
/-- a model's method: it answers v, with heap A1, B1, or sets thrown to 1 or 2 -/
abbrev mQz (z : Option Value) (D : xD) (c1 c2 : Prop) (v : Option Value) (A1 : xA) (B1 : xB) (A0 : xA) (B0 : xB) : Option Value → xA → xB → xD → Prop := fun r A B D' => D' = D ∧ ((c1 ∧ c2 ∧ r = v ∧ A = A1 ∧ B = B1) ∨ (¬ c1 ∧ r = z ∧ A = updA A0 76 0 1 ∧ B = B0) ∨ (c1 ∧ ¬ c2 ∧ r = z ∧ A = updA A0 76 0 2 ∧ B = B0))
abbrev mQ := mQz (some (.int 0))
def mOK (A : xA) (c r n sz len : Nat) : Prop := (A 76 1 = nI c ∧ A 76 2 = nI r ∧ 0 < c ∧ c ≤ 8 ∧ 0 < r ∧ r ≤ 8 ∧ c * r = n) ∧ (A 76 7 = nI sz ∧ sz ≤ 8) ∧ A 76 11 = nI len ∧ len ≤ 72
theorem mOK.n {A : xA} {c r n sz len : Nat} (h : mOK A c r n sz len) : A 76 1 * A 76 2 = nI n ∧ 0 < n ∧ n ≤ 64 := by
  obtain ⟨⟨h1, h2, h3, h4, h5, h6, h7⟩, -⟩ := h
  subst h7
  exact ⟨by rw [h1, h2, pk_mul], Nat.mul_pos h3 h5, Nat.mul_le_mul h4 h6⟩
theorem wpx {i : Int32} {n : Nat} (h0 : 0 < n) (h1 : n < 2 ^ 31) : ¬ wiV i 0 (nI n - 1) = 0 ↔ inR i (nI n) := by
  rw [wi_ne]
  unfold btw inR
  obtain ⟨u, rfl⟩ : ∃ u, n = u + 1 := ⟨n - 1, by omega⟩
  rw [nI_pred]
  constructor
  · rintro ⟨a, b⟩
    refine ⟨a, ?_⟩
    obtain ⟨p, hp, rfl⟩ := nI_of a
    rw [nI_ltI (by omega) hp] at b
    exact (nI_ltI hp h1).mpr (by omega)
  · rintro ⟨a, b⟩
    refine ⟨a, ?_⟩
    obtain ⟨p, hp, rfl⟩ := nI_of a
    rw [nI_ltI hp h1] at b
    rw [nI_ltI (by omega) hp]
    omega
theorem wpx0 {i : Int32} {n : Nat} (h0 : 0 < n) (h1 : n < 2 ^ 31) : wiV i 0 (nI n - 1) = 0 ↔ ¬ inR i (nI n) := by
  rw [← wpx h0 h1]; exact Classical.not_not.symm
theorem m_begin {c r n sz len : Nat} {u v : Int32} {A : xA} {B : xB} {D : xD} (h : mOK A c r n sz len) : does0 mX8_begin [.ref 76, .int u, .int v] A B D (mQ D (btw u 1 8 ∧ btw v 1 8) True (some (.int (nI n))) (clA (svA (updA A 76 0 0) sz) u v 64) B A B) nx := by
  refine does_go (by decide) rfl (Nat.le_of_ble_eq_true rfl) rfl ?_
  obtain ⟨hn, hn0, hn64⟩ := h.n
  refine xi_aload_n dX8_begin_0 rfl rfl ?_
  refine xi_iload_n dX8_begin_1 rfl rfl ?_
  refine xi_iconst (v := 1) dX8_begin_2 (by decide) ?_
  refine xi_bipush (v := 8) dX8_begin_3 (by decide) ?_
  refine cS1 (av := [_, _, _]) dX8_begin_5 lX8_80 rfl ⟨rfl, rfl⟩ rfl ⟨(Nat.le_of_ble_eq_true rfl), (Nat.le_of_ble_eq_true rfl)⟩ ⟨(Nat.le_of_ble_eq_true rfl), (Nat.le_of_ble_eq_true rfl)⟩ (Nat.le_of_ble_eq_true rfl) (m_within) ?_
  refine xi_if_eq (tgt := 25) dX8_begin_8 rfl (fun h8 => ?_) (fun h8 => ?_)
  · refine xi_iconst (v := 1) dX8_begin_25 (by decide) ?_
    refine xi_putfield0 dX8_begin_26 fX8_73 g76 pX8_73 ?_
    refine xi_aload_n dX8_begin_29 rfl rfl ?_
    refine xi_getfield0 dX8_begin_30 fX8_73 g76 ?_
    refine xi_if_le (tgt := 38) dX8_begin_33 rfl (fun h => absurd h (show ¬ ((1 : Int32) ≤ 0) by decide)) (fun _ => ?_)
    refine xi_iconst (v := 0) dX8_begin_36 (by decide) ?_
    refine go_ret (r := some (.int _)) dX8_begin_37 (Nat.le_of_ble_eq_true rfl) (Nat.le_of_ble_eq_true rfl) ?_
    exact ⟨rfl, Or.inr (Or.inl ⟨fun q => (wi_eq _ _ _).mp h8 q.1, rfl, rfl, rfl⟩)⟩
  · refine xi_iload_n dX8_begin_11 rfl rfl ?_
    refine xi_iconst (v := 1) dX8_begin_12 (by decide) ?_
    refine xi_bipush (v := 8) dX8_begin_13 (by decide) ?_
    refine cS1 (av := [_, _, _]) dX8_begin_15 lX8_80 rfl ⟨rfl, rfl⟩ rfl ⟨(Nat.le_of_ble_eq_true rfl), (Nat.le_of_ble_eq_true rfl)⟩ ⟨(Nat.le_of_ble_eq_true rfl), (Nat.le_of_ble_eq_true rfl)⟩ (Nat.le_of_ble_eq_true rfl) (m_within) ?_
    refine xi_if_eq (tgt := 25) dX8_begin_18 rfl (fun h18 => ?_) (fun h18 => ?_)
    · refine xi_iconst (v := 1) dX8_begin_25 (by decide) ?_
      refine xi_putfield0 dX8_begin_26 fX8_73 g76 pX8_73 ?_
      refine xi_aload_n dX8_begin_29 rfl rfl ?_
      refine xi_getfield0 dX8_begin_30 fX8_73 g76 ?_
      refine xi_if_le (tgt := 38) dX8_begin_33 rfl (fun h => absurd h (show ¬ ((1 : Int32) ≤ 0) by decide)) (fun _ => ?_)
      refine xi_iconst (v := 0) dX8_begin_36 (by decide) ?_
      refine go_ret (r := some (.int _)) dX8_begin_37 (Nat.le_of_ble_eq_true rfl) (Nat.le_of_ble_eq_true rfl) ?_
      exact ⟨rfl, Or.inr (Or.inl ⟨fun q => (wi_eq _ _ _).mp h18 q.2, rfl, rfl, rfl⟩)⟩
    · refine xi_iconst (v := 0) dX8_begin_21 (by decide) ?_
      refine xi_goto (tgt := 26) dX8_begin_22 rfl ?_
      refine xi_putfield0 dX8_begin_26 fX8_73 g76 pX8_73 ?_
      refine xi_aload_n dX8_begin_29 rfl rfl ?_
      refine xi_getfield0 dX8_begin_30 fX8_73 g76 ?_
      refine xi_if_le (tgt := 38) dX8_begin_33 rfl (fun _ => ?_) (fun h => absurd h (show ¬ (¬ (0 : Int32) ≤ 0) by decide))
      refine xi_aload_n dX8_begin_38 rfl rfl ?_
      refine cV1 (av := []) dX8_begin_39 lX8_76 rfl ⟨rfl, rfl⟩ rfl ⟨(Nat.le_of_ble_eq_true rfl), (Nat.le_of_ble_eq_true rfl)⟩ ⟨(Nat.le_of_ble_eq_true rfl), (Nat.le_of_ble_eq_true rfl)⟩ (Nat.le_of_ble_eq_true rfl) g76 rfl rfl (m_pixels) ?_
      rw [show updA A 76 0 0 76 1 * updA A 76 0 0 76 2 = nI n from hn]
      refine xi_istore_n dX8_begin_42 rfl (Nat.le_of_ble_eq_true rfl) ?_
      refine xi_aload_n dX8_begin_43 rfl rfl ?_
      refine cV1 (av := []) dX8_begin_44 lX8_100 rfl ⟨rfl, rfl⟩ rfl ⟨(Nat.le_of_ble_eq_true rfl), (Nat.le_of_ble_eq_true rfl)⟩ ⟨(Nat.le_of_ble_eq_true rfl), (Nat.le_of_ble_eq_true rfl)⟩ (Nat.le_of_ble_eq_true rfl) g76 rfl rfl (m_save (sz := sz) h.2.1.1 h.2.1.2) ?_
      refine xi_aload_n dX8_begin_47 rfl rfl ?_
      refine xi_iload_n dX8_begin_48 rfl rfl ?_
      refine xi_iload_n dX8_begin_49 rfl rfl ?_
      refine cV1 (av := [_, _]) dX8_begin_50 lX8_103 rfl ⟨rfl, rfl⟩ rfl ⟨(Nat.le_of_ble_eq_true rfl), (Nat.le_of_ble_eq_true rfl)⟩ ⟨(Nat.le_of_ble_eq_true rfl), (Nat.le_of_ble_eq_true rfl)⟩ (Nat.le_of_ble_eq_true rfl) g76 rfl rfl (m_clear) ?_
      refine xi_iload_n dX8_begin_53 rfl rfl ?_
      refine go_ret (r := some (.int _)) dX8_begin_54 (Nat.le_of_ble_eq_true rfl) (Nat.le_of_ble_eq_true rfl) ?_
      exact ⟨rfl, Or.inl ⟨⟨(wi_ne _ _ _).mp h8, (wi_ne _ _ _).mp h18⟩, trivial, rfl, rfl, rfl⟩⟩
theorem m_setLevel {c r n sz len : Nat} {i v : Int32} {A : xA} {B : xB} {D : xD} (h : mOK A c r n sz len) : does0 mX8_setLevel [.ref 76, .int i, .int v] A B D (mQ D (inR i (nI n)) (btw v 0 15) (some (.int (A 77 i.toNatClampNeg))) (updA (svA (updA A 76 0 0) sz) 77 i.toNatClampNeg v) B A B) nx := by
  refine does_go (by decide) rfl (Nat.le_of_ble_eq_true rfl) rfl ?_
  obtain ⟨hn, hn0, hn64⟩ := h.n
  refine xi_aload_n dX8_setLevel_0 rfl rfl ?_
  refine xi_aload_n dX8_setLevel_1 rfl rfl ?_
  refine xi_iload_n dX8_setLevel_2 rfl rfl ?_
  refine cV1 (av := [_]) dX8_setLevel_3 lX8_106 rfl ⟨rfl, rfl⟩ rfl ⟨(Nat.le_of_ble_eq_true rfl), (Nat.le_of_ble_eq_true rfl)⟩ ⟨(Nat.le_of_ble_eq_true rfl), (Nat.le_of_ble_eq_true rfl)⟩ (Nat.le_of_ble_eq_true rfl) g76 rfl rfl (m_isPixel) ?_
  rw [hn]
  refine xi_ifne (tgt := 13) dX8_setLevel_6 rfl (fun h6 => ?_) (fun h6 => ?_)
  · have hp0 := (wpx hn0 (by omega)).mp h6
    obtain ⟨p, hp, rfl⟩ := inR_nI hp0 (by omega)
    refine xi_iload_n dX8_setLevel_13 rfl rfl ?_
    refine xi_iconst (v := 0) dX8_setLevel_14 (by decide) ?_
    refine xi_bipush (v := 15) dX8_setLevel_15 (by decide) ?_
    refine cS1 (av := [_, _, _]) dX8_setLevel_17 lX8_80 rfl ⟨rfl, rfl⟩ rfl ⟨(Nat.le_of_ble_eq_true rfl), (Nat.le_of_ble_eq_true rfl)⟩ ⟨(Nat.le_of_ble_eq_true rfl), (Nat.le_of_ble_eq_true rfl)⟩ (Nat.le_of_ble_eq_true rfl) (m_within) ?_
    refine xi_if_eq (tgt := 27) dX8_setLevel_20 rfl (fun h20 => ?_) (fun h20 => ?_)
    · refine xi_iconst (v := 2) dX8_setLevel_27 (by decide) ?_
      refine xi_putfield0 dX8_setLevel_28 fX8_73 g76 pX8_73 ?_
      refine xi_aload_n dX8_setLevel_31 rfl rfl ?_
      refine xi_getfield0 dX8_setLevel_32 fX8_73 g76 ?_
      refine xi_if_le (tgt := 40) dX8_setLevel_35 rfl (fun h => absurd h (show ¬ ((2 : Int32) ≤ 0) by decide)) (fun _ => ?_)
      refine xi_iconst (v := 0) dX8_setLevel_38 (by decide) ?_
      refine go_ret (r := some (.int _)) dX8_setLevel_39 (Nat.le_of_ble_eq_true rfl) (Nat.le_of_ble_eq_true rfl) ?_
      exact ⟨rfl, Or.inr (Or.inr ⟨hp0, (wi_eq _ _ _).mp h20, rfl, rfl, rfl⟩)⟩
    · refine xi_iconst (v := 0) dX8_setLevel_23 (by decide) ?_
      refine xi_goto (tgt := 28) dX8_setLevel_24 rfl ?_
      refine xi_putfield0 dX8_setLevel_28 fX8_73 g76 pX8_73 ?_
      refine xi_aload_n dX8_setLevel_31 rfl rfl ?_
      refine xi_getfield0 dX8_setLevel_32 fX8_73 g76 ?_
      refine xi_if_le (tgt := 40) dX8_setLevel_35 rfl (fun _ => ?_) (fun h => absurd h (show ¬ (¬ (0 : Int32) ≤ 0) by decide))
      refine xi_aload_n dX8_setLevel_40 rfl rfl ?_
      refine xi_getfield3 dX8_setLevel_41 fX8_16 g76 r76_3 ?_
      refine xi_iload_n dX8_setLevel_44 rfl rfl ?_
      refine ia dX8_setLevel_45 g77 s77 rfl (by omega) (Nat.le_of_ble_eq_true rfl) ?_
      refine xi_istore_n dX8_setLevel_46 rfl (Nat.le_of_ble_eq_true rfl) ?_
      refine xi_aload_n dX8_setLevel_47 rfl rfl ?_
      refine cV1 (av := []) dX8_setLevel_48 lX8_100 rfl ⟨rfl, rfl⟩ rfl ⟨(Nat.le_of_ble_eq_true rfl), (Nat.le_of_ble_eq_true rfl)⟩ ⟨(Nat.le_of_ble_eq_true rfl), (Nat.le_of_ble_eq_true rfl)⟩ (Nat.le_of_ble_eq_true rfl) g76 rfl rfl (m_save (sz := sz) h.2.1.1 h.2.1.2) ?_
      refine xi_aload_n dX8_setLevel_51 rfl rfl ?_
      refine xi_getfield3 dX8_setLevel_52 fX8_16 g76 r76_3 ?_
      refine xi_iload_n dX8_setLevel_55 rfl rfl ?_
      refine xi_iload_n dX8_setLevel_56 rfl rfl ?_
      refine is dX8_setLevel_57 g77 s77 rfl (by omega) (Nat.le_of_ble_eq_true rfl) ?_
      refine xi_iload_n dX8_setLevel_58 rfl rfl ?_
      refine go_ret (r := some (.int _)) dX8_setLevel_59 (Nat.le_of_ble_eq_true rfl) (Nat.le_of_ble_eq_true rfl) ?_
      exact ⟨rfl, Or.inl ⟨hp0, (wi_ne _ _ _).mp h20, by rw [nI_clamp (by omega)]; rfl, by rw [nI_clamp (by omega)], rfl⟩⟩
  · have hp0 := (wpx0 hn0 (by omega)).mp h6
    refine xi_iconst (v := 1) dX8_setLevel_9 (by decide) ?_
    refine xi_goto (tgt := 28) dX8_setLevel_10 rfl ?_
    refine xi_putfield0 dX8_setLevel_28 fX8_73 g76 pX8_73 ?_
    refine xi_aload_n dX8_setLevel_31 rfl rfl ?_
    refine xi_getfield0 dX8_setLevel_32 fX8_73 g76 ?_
    refine xi_if_le (tgt := 40) dX8_setLevel_35 rfl (fun h => absurd h (show ¬ ((1 : Int32) ≤ 0) by decide)) (fun _ => ?_)
    refine xi_iconst (v := 0) dX8_setLevel_38 (by decide) ?_
    refine go_ret (r := some (.int _)) dX8_setLevel_39 (Nat.le_of_ble_eq_true rfl) (Nat.le_of_ble_eq_true rfl) ?_
    exact ⟨rfl, Or.inr (Or.inl ⟨hp0, rfl, rfl, rfl⟩)⟩
theorem m_setMarker {c r n sz len : Nat} {i v : Int32} {A : xA} {B : xB} {D : xD} (h : mOK A c r n sz len) : does0 mX8_setMarker [.ref 76, .int i, .int v] A B D (mQ D (inR i (nI n)) (btw v 0 15) (some (.int (A 78 i.toNatClampNeg))) (updA (updA A 76 0 0) 78 i.toNatClampNeg v) B A B) nx := by
  refine does_go (by decide) rfl (Nat.le_of_ble_eq_true rfl) rfl ?_
  obtain ⟨hn, hn0, hn64⟩ := h.n
  refine xi_aload_n dX8_setMarker_0 rfl rfl ?_
  refine xi_aload_n dX8_setMarker_1 rfl rfl ?_
  refine xi_iload_n dX8_setMarker_2 rfl rfl ?_
  refine cV1 (av := [_]) dX8_setMarker_3 lX8_106 rfl ⟨rfl, rfl⟩ rfl ⟨(Nat.le_of_ble_eq_true rfl), (Nat.le_of_ble_eq_true rfl)⟩ ⟨(Nat.le_of_ble_eq_true rfl), (Nat.le_of_ble_eq_true rfl)⟩ (Nat.le_of_ble_eq_true rfl) g76 rfl rfl (m_isPixel) ?_
  rw [hn]
  refine xi_ifne (tgt := 13) dX8_setMarker_6 rfl (fun h6 => ?_) (fun h6 => ?_)
  · have hp0 := (wpx hn0 (by omega)).mp h6
    obtain ⟨p, hp, rfl⟩ := inR_nI hp0 (by omega)
    refine xi_iload_n dX8_setMarker_13 rfl rfl ?_
    refine xi_iconst (v := 0) dX8_setMarker_14 (by decide) ?_
    refine xi_bipush (v := 15) dX8_setMarker_15 (by decide) ?_
    refine cS1 (av := [_, _, _]) dX8_setMarker_17 lX8_80 rfl ⟨rfl, rfl⟩ rfl ⟨(Nat.le_of_ble_eq_true rfl), (Nat.le_of_ble_eq_true rfl)⟩ ⟨(Nat.le_of_ble_eq_true rfl), (Nat.le_of_ble_eq_true rfl)⟩ (Nat.le_of_ble_eq_true rfl) (m_within) ?_
    refine xi_if_eq (tgt := 27) dX8_setMarker_20 rfl (fun h20 => ?_) (fun h20 => ?_)
    · refine xi_iconst (v := 2) dX8_setMarker_27 (by decide) ?_
      refine xi_putfield0 dX8_setMarker_28 fX8_73 g76 pX8_73 ?_
      refine xi_aload_n dX8_setMarker_31 rfl rfl ?_
      refine xi_getfield0 dX8_setMarker_32 fX8_73 g76 ?_
      refine xi_if_le (tgt := 40) dX8_setMarker_35 rfl (fun h => absurd h (show ¬ ((2 : Int32) ≤ 0) by decide)) (fun _ => ?_)
      refine xi_iconst (v := 0) dX8_setMarker_38 (by decide) ?_
      refine go_ret (r := some (.int _)) dX8_setMarker_39 (Nat.le_of_ble_eq_true rfl) (Nat.le_of_ble_eq_true rfl) ?_
      exact ⟨rfl, Or.inr (Or.inr ⟨hp0, (wi_eq _ _ _).mp h20, rfl, rfl, rfl⟩)⟩
    · refine xi_iconst (v := 0) dX8_setMarker_23 (by decide) ?_
      refine xi_goto (tgt := 28) dX8_setMarker_24 rfl ?_
      refine xi_putfield0 dX8_setMarker_28 fX8_73 g76 pX8_73 ?_
      refine xi_aload_n dX8_setMarker_31 rfl rfl ?_
      refine xi_getfield0 dX8_setMarker_32 fX8_73 g76 ?_
      refine xi_if_le (tgt := 40) dX8_setMarker_35 rfl (fun _ => ?_) (fun h => absurd h (show ¬ (¬ (0 : Int32) ≤ 0) by decide))
      refine xi_aload_n dX8_setMarker_40 rfl rfl ?_
      refine xi_getfield3 dX8_setMarker_41 fX8_20 g76 r76_4 ?_
      refine xi_iload_n dX8_setMarker_44 rfl rfl ?_
      refine ia dX8_setMarker_45 g78 s78 rfl (by omega) (Nat.le_of_ble_eq_true rfl) ?_
      refine xi_istore_n dX8_setMarker_46 rfl (Nat.le_of_ble_eq_true rfl) ?_
      refine xi_aload_n dX8_setMarker_47 rfl rfl ?_
      refine xi_getfield3 dX8_setMarker_48 fX8_20 g76 r76_4 ?_
      refine xi_iload_n dX8_setMarker_51 rfl rfl ?_
      refine xi_iload_n dX8_setMarker_52 rfl rfl ?_
      refine is dX8_setMarker_53 g78 s78 rfl (by omega) (Nat.le_of_ble_eq_true rfl) ?_
      refine xi_iload_n dX8_setMarker_54 rfl rfl ?_
      refine go_ret (r := some (.int _)) dX8_setMarker_55 (Nat.le_of_ble_eq_true rfl) (Nat.le_of_ble_eq_true rfl) ?_
      exact ⟨rfl, Or.inl ⟨hp0, (wi_ne _ _ _).mp h20, by rw [nI_clamp (by omega)]; rfl, by rw [nI_clamp (by omega)], rfl⟩⟩
  · have hp0 := (wpx0 hn0 (by omega)).mp h6
    refine xi_iconst (v := 1) dX8_setMarker_9 (by decide) ?_
    refine xi_goto (tgt := 28) dX8_setMarker_10 rfl ?_
    refine xi_putfield0 dX8_setMarker_28 fX8_73 g76 pX8_73 ?_
    refine xi_aload_n dX8_setMarker_31 rfl rfl ?_
    refine xi_getfield0 dX8_setMarker_32 fX8_73 g76 ?_
    refine xi_if_le (tgt := 40) dX8_setMarker_35 rfl (fun h => absurd h (show ¬ ((1 : Int32) ≤ 0) by decide)) (fun _ => ?_)
    refine xi_iconst (v := 0) dX8_setMarker_38 (by decide) ?_
    refine go_ret (r := some (.int _)) dX8_setMarker_39 (Nat.le_of_ble_eq_true rfl) (Nat.le_of_ble_eq_true rfl) ?_
    exact ⟨rfl, Or.inr (Or.inl ⟨hp0, rfl, rfl, rfl⟩)⟩
theorem m_level {c r n sz len : Nat} {i : Int32} {A : xA} {B : xB} {D : xD} (h : mOK A c r n sz len) : does0 mX8_level [.ref 76, .int i] A B D (mQ D (inR i (nI n)) True (some (.int (A 77 i.toNatClampNeg))) (updA A 76 0 0) B A B) nx := by
  refine does_go (by decide) rfl (Nat.le_of_ble_eq_true rfl) rfl ?_
  obtain ⟨hn, hn0, hn64⟩ := h.n
  refine xi_aload_n dX8_level_0 rfl rfl ?_
  refine xi_aload_n dX8_level_1 rfl rfl ?_
  refine xi_iload_n dX8_level_2 rfl rfl ?_
  refine cV1 (av := [_]) dX8_level_3 lX8_106 rfl ⟨rfl, rfl⟩ rfl ⟨(Nat.le_of_ble_eq_true rfl), (Nat.le_of_ble_eq_true rfl)⟩ ⟨(Nat.le_of_ble_eq_true rfl), (Nat.le_of_ble_eq_true rfl)⟩ (Nat.le_of_ble_eq_true rfl) g76 rfl rfl (m_isPixel) ?_
  rw [hn]
  refine xi_if_eq (tgt := 13) dX8_level_6 rfl (fun h6 => ?_) (fun h6 => ?_)
  · have hp0 := (wpx0 hn0 (by omega)).mp h6
    refine xi_iconst (v := 1) dX8_level_13 (by decide) ?_
    refine xi_putfield0 dX8_level_14 fX8_73 g76 pX8_73 ?_
    refine xi_aload_n dX8_level_17 rfl rfl ?_
    refine xi_getfield0 dX8_level_18 fX8_73 g76 ?_
    refine xi_if_le (tgt := 28) dX8_level_21 rfl (fun h => absurd h (show ¬ ((1 : Int32) ≤ 0) by decide)) (fun _ => ?_)
    refine xi_iconst (v := 0) dX8_level_24 (by decide) ?_
    refine xi_goto (tgt := 34) dX8_level_25 rfl ?_
    refine go_ret (r := some (.int _)) dX8_level_34 (Nat.le_of_ble_eq_true rfl) (Nat.le_of_ble_eq_true rfl) ?_
    exact ⟨rfl, Or.inr (Or.inl ⟨hp0, rfl, rfl, rfl⟩)⟩
  · have hp0 := (wpx hn0 (by omega)).mp h6
    obtain ⟨p, hp, rfl⟩ := inR_nI hp0 (by omega)
    refine xi_iconst (v := 0) dX8_level_9 (by decide) ?_
    refine xi_goto (tgt := 14) dX8_level_10 rfl ?_
    refine xi_putfield0 dX8_level_14 fX8_73 g76 pX8_73 ?_
    refine xi_aload_n dX8_level_17 rfl rfl ?_
    refine xi_getfield0 dX8_level_18 fX8_73 g76 ?_
    refine xi_if_le (tgt := 28) dX8_level_21 rfl (fun _ => ?_) (fun h => absurd h (show ¬ (¬ (0 : Int32) ≤ 0) by decide))
    refine xi_aload_n dX8_level_28 rfl rfl ?_
    refine xi_getfield3 dX8_level_29 fX8_16 g76 r76_3 ?_
    refine xi_iload_n dX8_level_32 rfl rfl ?_
    refine ia dX8_level_33 g77 s77 rfl (by omega) (Nat.le_of_ble_eq_true rfl) ?_
    refine go_ret (r := some (.int _)) dX8_level_34 (Nat.le_of_ble_eq_true rfl) (Nat.le_of_ble_eq_true rfl) ?_
    exact ⟨rfl, Or.inl ⟨hp0, trivial, by rw [nI_clamp (by omega)]; rfl, rfl, rfl⟩⟩
theorem m_marker {c r n sz len : Nat} {i : Int32} {A : xA} {B : xB} {D : xD} (h : mOK A c r n sz len) : does0 mX8_marker [.ref 76, .int i] A B D (mQ D (inR i (nI n)) True (some (.int (A 78 i.toNatClampNeg))) (updA A 76 0 0) B A B) nx := by
  refine does_go (by decide) rfl (Nat.le_of_ble_eq_true rfl) rfl ?_
  obtain ⟨hn, hn0, hn64⟩ := h.n
  refine xi_aload_n dX8_marker_0 rfl rfl ?_
  refine xi_aload_n dX8_marker_1 rfl rfl ?_
  refine xi_iload_n dX8_marker_2 rfl rfl ?_
  refine cV1 (av := [_]) dX8_marker_3 lX8_106 rfl ⟨rfl, rfl⟩ rfl ⟨(Nat.le_of_ble_eq_true rfl), (Nat.le_of_ble_eq_true rfl)⟩ ⟨(Nat.le_of_ble_eq_true rfl), (Nat.le_of_ble_eq_true rfl)⟩ (Nat.le_of_ble_eq_true rfl) g76 rfl rfl (m_isPixel) ?_
  rw [hn]
  refine xi_if_eq (tgt := 13) dX8_marker_6 rfl (fun h6 => ?_) (fun h6 => ?_)
  · have hp0 := (wpx0 hn0 (by omega)).mp h6
    refine xi_iconst (v := 1) dX8_marker_13 (by decide) ?_
    refine xi_putfield0 dX8_marker_14 fX8_73 g76 pX8_73 ?_
    refine xi_aload_n dX8_marker_17 rfl rfl ?_
    refine xi_getfield0 dX8_marker_18 fX8_73 g76 ?_
    refine xi_if_le (tgt := 28) dX8_marker_21 rfl (fun h => absurd h (show ¬ ((1 : Int32) ≤ 0) by decide)) (fun _ => ?_)
    refine xi_iconst (v := 0) dX8_marker_24 (by decide) ?_
    refine xi_goto (tgt := 34) dX8_marker_25 rfl ?_
    refine go_ret (r := some (.int _)) dX8_marker_34 (Nat.le_of_ble_eq_true rfl) (Nat.le_of_ble_eq_true rfl) ?_
    exact ⟨rfl, Or.inr (Or.inl ⟨hp0, rfl, rfl, rfl⟩)⟩
  · have hp0 := (wpx hn0 (by omega)).mp h6
    obtain ⟨p, hp, rfl⟩ := inR_nI hp0 (by omega)
    refine xi_iconst (v := 0) dX8_marker_9 (by decide) ?_
    refine xi_goto (tgt := 14) dX8_marker_10 rfl ?_
    refine xi_putfield0 dX8_marker_14 fX8_73 g76 pX8_73 ?_
    refine xi_aload_n dX8_marker_17 rfl rfl ?_
    refine xi_getfield0 dX8_marker_18 fX8_73 g76 ?_
    refine xi_if_le (tgt := 28) dX8_marker_21 rfl (fun _ => ?_) (fun h => absurd h (show ¬ (¬ (0 : Int32) ≤ 0) by decide))
    refine xi_aload_n dX8_marker_28 rfl rfl ?_
    refine xi_getfield3 dX8_marker_29 fX8_20 g76 r76_4 ?_
    refine xi_iload_n dX8_marker_32 rfl rfl ?_
    refine ia dX8_marker_33 g78 s78 rfl (by omega) (Nat.le_of_ble_eq_true rfl) ?_
    refine go_ret (r := some (.int _)) dX8_marker_34 (Nat.le_of_ble_eq_true rfl) (Nat.le_of_ble_eq_true rfl) ?_
    exact ⟨rfl, Or.inl ⟨hp0, trivial, by rw [nI_clamp (by omega)]; rfl, rfl, rfl⟩⟩
theorem m_setDark {v : Int32} {A : xA} {B : xB} {D : xD} (hv : v = 0 ∨ v = 1) (h0 : A 76 5 = 0 ∨ A 76 5 = 1) : does0 mX8_setDark [.ref 76, .int v] A B D (eqQ (some (.int (A 76 5))) (updA (updA (updA A 76 0 0) 76 5 v) 76 18 0) B D) nx := by
  refine does_go (by decide) rfl (Nat.le_of_ble_eq_true rfl) rfl ?_
  refine xi_aload_n dX8_setDark_0 rfl rfl ?_
  refine xi_iconst (v := 0) dX8_setDark_1 (by decide) ?_
  refine xi_putfield0 dX8_setDark_2 fX8_73 g76 pX8_73 ?_
  refine xi_aload_n dX8_setDark_5 rfl rfl ?_
  refine xi_getfield1 dX8_setDark_6 fX8_84 g76 ?_
  refine xi_istore_n dX8_setDark_9 rfl (Nat.le_of_ble_eq_true rfl) ?_
  refine xi_aload_n dX8_setDark_10 rfl rfl ?_
  refine xi_iload_n dX8_setDark_11 rfl rfl ?_
  refine xi_putfield1 dX8_setDark_12 fX8_84 g76 pX8_84 hv ?_
  refine xi_aload_n dX8_setDark_15 rfl rfl ?_
  refine xi_iconst (v := 0) dX8_setDark_16 (by decide) ?_
  refine xi_putfield1 dX8_setDark_17 fX8_97 g76 pX8_97 (by first | exact Or.inl rfl | exact Or.inr rfl) ?_
  refine xi_iload_n dX8_setDark_20 rfl rfl ?_
  refine go_ret (r := some (.int _)) ⟨dX8_setDark_21, h0⟩ (Nat.le_of_ble_eq_true rfl) (Nat.le_of_ble_eq_true rfl) ?_
  exact ⟨rfl, rfl, rfl, rfl⟩
theorem m_setEight {v : Int32} {A : xA} {B : xB} {D : xD} (hv : v = 0 ∨ v = 1) (h0 : A 76 6 = 0 ∨ A 76 6 = 1) : does0 mX8_setEight [.ref 76, .int v] A B D (eqQ (some (.int (A 76 6))) (updA (updA (updA A 76 0 0) 76 6 v) 76 18 0) B D) nx := by
  refine does_go (by decide) rfl (Nat.le_of_ble_eq_true rfl) rfl ?_
  refine xi_aload_n dX8_setEight_0 rfl rfl ?_
  refine xi_iconst (v := 0) dX8_setEight_1 (by decide) ?_
  refine xi_putfield0 dX8_setEight_2 fX8_73 g76 pX8_73 ?_
  refine xi_aload_n dX8_setEight_5 rfl rfl ?_
  refine xi_getfield1 dX8_setEight_6 fX8_123 g76 ?_
  refine xi_istore_n dX8_setEight_9 rfl (Nat.le_of_ble_eq_true rfl) ?_
  refine xi_aload_n dX8_setEight_10 rfl rfl ?_
  refine xi_iload_n dX8_setEight_11 rfl rfl ?_
  refine xi_putfield1 dX8_setEight_12 fX8_123 g76 pX8_123 hv ?_
  refine xi_aload_n dX8_setEight_15 rfl rfl ?_
  refine xi_iconst (v := 0) dX8_setEight_16 (by decide) ?_
  refine xi_putfield1 dX8_setEight_17 fX8_97 g76 pX8_97 (by first | exact Or.inl rfl | exact Or.inr rfl) ?_
  refine xi_iload_n dX8_setEight_20 rfl rfl ?_
  refine go_ret (r := some (.int _)) ⟨dX8_setEight_21, h0⟩ (Nat.le_of_ble_eq_true rfl) (Nat.le_of_ble_eq_true rfl) ?_
  exact ⟨rfl, rfl, rfl, rfl⟩
theorem m_clearInput {A : xA} {B : xB} {D : xD} : does0 mX8_clearInput [.ref 76] A B D (eqQ (some (.int (A 76 11))) (updA (updA A 76 0 0) 76 11 0) B D) nx := by
  refine does_go (by decide) rfl (Nat.le_of_ble_eq_true rfl) rfl ?_
  refine xi_aload_n dX8_clearInput_0 rfl rfl ?_
  refine xi_iconst (v := 0) dX8_clearInput_1 (by decide) ?_
  refine xi_putfield0 dX8_clearInput_2 fX8_73 g76 pX8_73 ?_
  refine xi_aload_n dX8_clearInput_5 rfl rfl ?_
  refine xi_getfield0 dX8_clearInput_6 fX8_126 g76 ?_
  refine xi_istore_n dX8_clearInput_9 rfl (Nat.le_of_ble_eq_true rfl) ?_
  refine xi_aload_n dX8_clearInput_10 rfl rfl ?_
  refine xi_iconst (v := 0) dX8_clearInput_11 (by decide) ?_
  refine xi_putfield0 dX8_clearInput_12 fX8_126 g76 pX8_126 ?_
  refine xi_iload_n dX8_clearInput_15 rfl rfl ?_
  refine go_ret (r := some (.int _)) dX8_clearInput_16 (Nat.le_of_ble_eq_true rfl) (Nat.le_of_ble_eq_true rfl) ?_
  exact ⟨rfl, rfl, rfl, rfl⟩
theorem m_append {c r n sz len : Nat} {v : Int32} {A : xA} {B : xB} {D : xD} (h : mOK A c r n sz len) : does0 mX8_append [.ref 76, .int v] A B D (mQ D (btw v 32 126) (len < 72) (some (.int (nI (len + 1)))) (updA (updA (updA A 76 0 0) 82 len v) 76 11 (nI (len + 1))) B A B) nx := by
  refine does_go (by decide) rfl (Nat.le_of_ble_eq_true rfl) rfl ?_
  have hl := h.2.2.1
  have hl2 := h.2.2.2
  refine xi_aload_n dX8_append_0 rfl rfl ?_
  refine xi_iload_n dX8_append_1 rfl rfl ?_
  refine xi_bipush (v := 32) dX8_append_2 (by decide) ?_
  refine xi_bipush (v := 126) dX8_append_4 (by decide) ?_
  refine cS1 (av := [_, _, _]) dX8_append_6 lX8_80 rfl ⟨rfl, rfl⟩ rfl ⟨(Nat.le_of_ble_eq_true rfl), (Nat.le_of_ble_eq_true rfl)⟩ ⟨(Nat.le_of_ble_eq_true rfl), (Nat.le_of_ble_eq_true rfl)⟩ (Nat.le_of_ble_eq_true rfl) (m_within) ?_
  refine xi_ifne (tgt := 16) dX8_append_9 rfl (fun h9 => ?_) (fun h9 => ?_)
  · refine xi_aload_n dX8_append_16 rfl rfl ?_
    refine xi_getfield0 dX8_append_17 fX8_126 g76 ?_
    refine xi_bipush (v := 72) dX8_append_20 (by decide) ?_
    rw [hl]
    refine xi_icmpne (tgt := 29) dX8_append_22 rfl (fun h22 => ?_) (fun h22 => ?_)
    · have hl3 : len < 72 := by
        rcases Nat.lt_or_ge len 72 with q | q
        · exact q
        · exact absurd (show nI len = 72 by rw [show len = 72 by omega]; rfl) h22
      refine xi_iconst (v := 0) dX8_append_29 (by decide) ?_
      refine xi_putfield0 dX8_append_30 fX8_73 g76 pX8_73 ?_
      refine xi_aload_n dX8_append_33 rfl rfl ?_
      refine xi_getfield0 dX8_append_34 fX8_73 g76 ?_
      refine xi_if_le (tgt := 42) dX8_append_37 rfl (fun _ => ?_) (fun h => absurd h (show ¬ (¬ (0 : Int32) ≤ 0) by decide))
      refine xi_aload_n dX8_append_42 rfl rfl ?_
      refine xi_getfield3 dX8_append_43 fX8_32 g76 r76_12 ?_
      refine xi_aload_n dX8_append_46 rfl rfl ?_
      refine xi_getfield0 dX8_append_47 fX8_126 g76 ?_
      refine xi_iload_n dX8_append_50 rfl rfl ?_
      refine is dX8_append_51 g82 s82 hl hl3 (Nat.le_of_ble_eq_true rfl) ?_
      refine xi_aload_n dX8_append_52 rfl rfl ?_
      refine xi_dup dX8_append_53 rfl ?_
      refine xi_getfield0 dX8_append_54 fX8_126 g76 ?_
      rw [show updA (updA A 76 0 0) 82 len v 76 11 = nI len from hl]
      refine xi_iconst (v := 1) dX8_append_57 (by decide) ?_
      refine xi_iadd dX8_append_58 ?_
      rw [nI_1]
      refine xi_putfield0 dX8_append_59 fX8_126 g76 pX8_126 ?_
      refine xi_aload_n dX8_append_62 rfl rfl ?_
      refine xi_getfield0 dX8_append_63 fX8_126 g76 ?_
      refine go_ret (r := some (.int _)) dX8_append_66 (Nat.le_of_ble_eq_true rfl) (Nat.le_of_ble_eq_true rfl) ?_
      exact ⟨rfl, Or.inl ⟨(wi_ne _ _ _).mp h9, hl3, rfl, rfl, rfl⟩⟩
    · refine xi_iconst (v := 2) dX8_append_25 (by decide) ?_
      refine xi_goto (tgt := 30) dX8_append_26 rfl ?_
      refine xi_putfield0 dX8_append_30 fX8_73 g76 pX8_73 ?_
      refine xi_aload_n dX8_append_33 rfl rfl ?_
      refine xi_getfield0 dX8_append_34 fX8_73 g76 ?_
      refine xi_if_le (tgt := 42) dX8_append_37 rfl (fun h => absurd h (show ¬ ((2 : Int32) ≤ 0) by decide)) (fun _ => ?_)
      refine xi_iconst (v := 0) dX8_append_40 (by decide) ?_
      refine go_ret (r := some (.int _)) dX8_append_41 (Nat.le_of_ble_eq_true rfl) (Nat.le_of_ble_eq_true rfl) ?_
      exact ⟨rfl, Or.inr (Or.inr ⟨(wi_ne _ _ _).mp h9, fun q => Nat.ne_of_lt q ((nI_eq (b := 72) (by omega) (by decide)).mp h22), rfl, rfl, rfl⟩)⟩
  · refine xi_iconst (v := 1) dX8_append_12 (by decide) ?_
    refine xi_goto (tgt := 30) dX8_append_13 rfl ?_
    refine xi_putfield0 dX8_append_30 fX8_73 g76 pX8_73 ?_
    refine xi_aload_n dX8_append_33 rfl rfl ?_
    refine xi_getfield0 dX8_append_34 fX8_73 g76 ?_
    refine xi_if_le (tgt := 42) dX8_append_37 rfl (fun h => absurd h (show ¬ ((1 : Int32) ≤ 0) by decide)) (fun _ => ?_)
    refine xi_iconst (v := 0) dX8_append_40 (by decide) ?_
    refine go_ret (r := some (.int _)) dX8_append_41 (Nat.le_of_ble_eq_true rfl) (Nat.le_of_ble_eq_true rfl) ?_
    exact ⟨rfl, Or.inr (Or.inl ⟨(wi_eq _ _ _).mp h9, rfl, rfl, rfl⟩)⟩
def mmS (lv : Nat → Int32) (p : Nat) (q : Int32 × (Nat → Int32)) : Int32 × (Nat → Int32) := (q.1 + (if q.2 p = lv p then 0 else 1), upd q.2 p (lv p))
theorem m_markAll {c r n sz len : Nat} {A : xA} {B : xB} {D : xD} (h : mOK A c r n sz len) : does0 mX8_markAll [.ref 76] A B D (eqQ (some (.int (itr (mmS (A 77)) n (0, A 78)).1)) (setA (updA A 76 0 0) 78 (itr (mmS (A 77)) n (0, A 78)).2) B D) nx := by
  refine does_go (by decide) rfl (Nat.le_of_ble_eq_true rfl) rfl ?_
  obtain ⟨hn, hn0, hn64⟩ := h.n
  generalize hR : itr (mmS (A 77)) n (0, A 78) = R
  have loop := up_ind (n := n) (P := fun j => ∀ q, q = itr (mmS (A 77)) j (0, A 78) → go0 mX8_markAll (eqQ (some (.int R.1)) (setA (updA A 76 0 0) 78 R.2) B D) nx 0 0 9 [(0, .ref 76), (1, .int q.1), (2, .int (nI j))] [] (setA (updA A 76 0 0) 78 q.2) B D) (fun j hj ih q hq => by
    refine xi_iload_n dX8_markAll_9 rfl rfl ?_
    refine xi_aload_n dX8_markAll_10 rfl rfl ?_
    refine cV1 (av := []) dX8_markAll_11 lX8_76 rfl ⟨rfl, rfl⟩ rfl ⟨(Nat.le_of_ble_eq_true rfl), (Nat.le_of_ble_eq_true rfl)⟩ ⟨(Nat.le_of_ble_eq_true rfl), (Nat.le_of_ble_eq_true rfl)⟩ (Nat.le_of_ble_eq_true rfl) g76 rfl rfl (m_pixels) ?_
    rw [show setA (updA A 76 0 0) 78 q.2 76 1 * setA (updA A 76 0 0) 78 q.2 76 2 = nI n from hn]
    refine xi_icmp_ge (tgt := 58) dX8_markAll_14 rfl (fun h14 => ?_) (fun h14 => ?_)
    · have e : j = n := ge_eq hj (by omega) h14
      subst e
      refine xi_iload_n dX8_markAll_58 rfl rfl ?_
      refine go_ret (r := some (.int _)) dX8_markAll_59 (Nat.le_of_ble_eq_true rfl) (Nat.le_of_ble_eq_true rfl) ?_
      exact ⟨by rw [hq, hR], by rw [hq, hR], rfl, rfl⟩
    · have hl : j < n := nge_lt hj (by omega) h14
      refine xi_iload_n dX8_markAll_17 rfl rfl ?_
      refine xi_aload_n dX8_markAll_18 rfl rfl ?_
      refine xi_getfield3 dX8_markAll_19 fX8_20 g76 r76_4 ?_
      refine xi_iload_n dX8_markAll_22 rfl rfl ?_
      refine ia dX8_markAll_23 g78 s78 rfl (by omega) (Nat.le_of_ble_eq_true rfl) ?_
      refine xi_aload_n dX8_markAll_24 rfl rfl ?_
      refine xi_getfield3 dX8_markAll_25 fX8_16 g76 r76_3 ?_
      refine xi_iload_n dX8_markAll_28 rfl rfl ?_
      refine ia dX8_markAll_29 g77 s77 rfl (by omega) (Nat.le_of_ble_eq_true rfl) ?_
      rw [setA_s, show setA (updA A 76 0 0) 78 q.2 77 j = A 77 j from rfl]
      refine xi_icmpne (tgt := 37) dX8_markAll_30 rfl (fun h30 => ?_) (fun h30 => ?_)
      · refine xi_iconst (v := 1) dX8_markAll_37 (by decide) ?_
        refine xi_iadd dX8_markAll_38 ?_
        refine xi_istore_n dX8_markAll_39 rfl (Nat.le_of_ble_eq_true rfl) ?_
        refine xi_aload_n dX8_markAll_40 rfl rfl ?_
        refine xi_getfield3 dX8_markAll_41 fX8_20 g76 r76_4 ?_
        refine xi_iload_n dX8_markAll_44 rfl rfl ?_
        refine xi_aload_n dX8_markAll_45 rfl rfl ?_
        refine xi_getfield3 dX8_markAll_46 fX8_16 g76 r76_3 ?_
        refine xi_iload_n dX8_markAll_49 rfl rfl ?_
        refine ia dX8_markAll_50 g77 s77 rfl (by omega) (Nat.le_of_ble_eq_true rfl) ?_
        refine is dX8_markAll_51 g78 s78 rfl (by omega) (Nat.le_of_ble_eq_true rfl) ?_
        refine xi_iinc (v := 1) dX8_markAll_52 rfl (by decide) (Nat.le_of_ble_eq_true rfl) ?_
        refine xi_goto (tgt := 9) dX8_markAll_55 rfl ?_
        refine xgo_pick [0, 1, 2] rfl ?_
        rw [nI_1, setA_u]
        exact ih hl (_, upd q.2 j (A 77 j)) (by rw [itr_s, ← hq]; unfold mmS; simp only [h30, if_true, if_false])
      · refine xi_iconst (v := 0) dX8_markAll_33 (by decide) ?_
        refine xi_goto (tgt := 38) dX8_markAll_34 rfl ?_
        refine xi_iadd dX8_markAll_38 ?_
        refine xi_istore_n dX8_markAll_39 rfl (Nat.le_of_ble_eq_true rfl) ?_
        refine xi_aload_n dX8_markAll_40 rfl rfl ?_
        refine xi_getfield3 dX8_markAll_41 fX8_20 g76 r76_4 ?_
        refine xi_iload_n dX8_markAll_44 rfl rfl ?_
        refine xi_aload_n dX8_markAll_45 rfl rfl ?_
        refine xi_getfield3 dX8_markAll_46 fX8_16 g76 r76_3 ?_
        refine xi_iload_n dX8_markAll_49 rfl rfl ?_
        refine ia dX8_markAll_50 g77 s77 rfl (by omega) (Nat.le_of_ble_eq_true rfl) ?_
        refine is dX8_markAll_51 g78 s78 rfl (by omega) (Nat.le_of_ble_eq_true rfl) ?_
        refine xi_iinc (v := 1) dX8_markAll_52 rfl (by decide) (Nat.le_of_ble_eq_true rfl) ?_
        refine xi_goto (tgt := 9) dX8_markAll_55 rfl ?_
        refine xgo_pick [0, 1, 2] rfl ?_
        rw [nI_1, setA_u]
        exact ih hl (_, upd q.2 j (A 77 j)) (by rw [itr_s, ← hq]; unfold mmS; simp only [h30, if_true, if_false])
    )
  refine xi_aload_n dX8_markAll_0 rfl rfl ?_
  refine xi_iconst (v := 0) dX8_markAll_1 (by decide) ?_
  refine xi_putfield0 dX8_markAll_2 fX8_73 g76 pX8_73 ?_
  refine xi_iconst (v := 0) dX8_markAll_5 (by decide) ?_
  refine xi_istore_n dX8_markAll_6 rfl (Nat.le_of_ble_eq_true rfl) ?_
  refine xi_iconst (v := 0) dX8_markAll_7 (by decide) ?_
  refine xi_istore_n dX8_markAll_8 rfl (Nat.le_of_ble_eq_true rfl) ?_
  refine xgo_pick [0, 1, 2] rfl ?_
  have l0 := loop 0 (Nat.zero_le _) (0, A 78) rfl
  rw [show setA (updA A 76 0 0) 78 (0, A 78).2 = updA A 76 0 0 from setA_self (updA A 76 0 0) 78] at l0
  exact l0
def mdV (f g : Nat → Int32) (n : Nat) : Int32 := isum (fun p => apV (f p) (g p)) n
theorem m_difference {c r n sz len : Nat} {A : xA} {B : xB} {D : xD} (h : mOK A c r n sz len) : does0 mX8_difference [.ref 76] A B D (eqQ (some (.int (mdV (A 77) (A 78) n))) (updA A 76 0 0) B D) nx := by
  refine does_go (by decide) rfl (Nat.le_of_ble_eq_true rfl) rfl ?_
  obtain ⟨hn, hn0, hn64⟩ := h.n
  have loop := up_ind (n := n) (P := fun j => go0 mX8_difference (eqQ (some (.int (mdV (A 77) (A 78) n))) (updA A 76 0 0) B D) nx 0 0 9 [(0, .ref 76), (1, .int (mdV (A 77) (A 78) j)), (2, .int (nI j))] [] (updA A 76 0 0) B D) (fun j hj ih => by
    refine xi_iload_n dX8_difference_9 rfl rfl ?_
    refine xi_aload_n dX8_difference_10 rfl rfl ?_
    refine cV1 (av := []) dX8_difference_11 lX8_76 rfl ⟨rfl, rfl⟩ rfl ⟨(Nat.le_of_ble_eq_true rfl), (Nat.le_of_ble_eq_true rfl)⟩ ⟨(Nat.le_of_ble_eq_true rfl), (Nat.le_of_ble_eq_true rfl)⟩ (Nat.le_of_ble_eq_true rfl) g76 rfl rfl (m_pixels) ?_
    rw [show updA A 76 0 0 76 1 * updA A 76 0 0 76 2 = nI n from hn]
    refine xi_icmp_ge (tgt := 41) dX8_difference_14 rfl (fun h14 => ?_) (fun h14 => ?_)
    · have e : j = n := ge_eq hj (by omega) h14
      subst e
      refine xi_iload_n dX8_difference_41 rfl rfl ?_
      refine go_ret (r := some (.int _)) dX8_difference_42 (Nat.le_of_ble_eq_true rfl) (Nat.le_of_ble_eq_true rfl) ?_
      exact ⟨rfl, rfl, rfl, rfl⟩
    · have hl : j < n := nge_lt hj (by omega) h14
      refine xi_iload_n dX8_difference_17 rfl rfl ?_
      refine xi_aload_n dX8_difference_18 rfl rfl ?_
      refine xi_getfield3 dX8_difference_19 fX8_16 g76 r76_3 ?_
      refine xi_iload_n dX8_difference_22 rfl rfl ?_
      refine ia dX8_difference_23 g77 s77 rfl (by omega) (Nat.le_of_ble_eq_true rfl) ?_
      refine xi_aload_n dX8_difference_24 rfl rfl ?_
      refine xi_getfield3 dX8_difference_25 fX8_20 g76 r76_4 ?_
      refine xi_iload_n dX8_difference_28 rfl rfl ?_
      refine ia dX8_difference_29 g78 s78 rfl (by omega) (Nat.le_of_ble_eq_true rfl) ?_
      refine cS1 (av := [_, _]) dX8_difference_30 lX8_119 rfl ⟨rfl, rfl⟩ rfl ⟨(Nat.le_of_ble_eq_true rfl), (Nat.le_of_ble_eq_true rfl)⟩ ⟨(Nat.le_of_ble_eq_true rfl), (Nat.le_of_ble_eq_true rfl)⟩ (Nat.le_of_ble_eq_true rfl) (m_apart) ?_
      refine xi_iadd dX8_difference_33 ?_
      refine xi_istore_n dX8_difference_34 rfl (Nat.le_of_ble_eq_true rfl) ?_
      refine xi_iinc (v := 1) dX8_difference_35 rfl (by decide) (Nat.le_of_ble_eq_true rfl) ?_
      refine xi_goto (tgt := 9) dX8_difference_38 rfl ?_
      refine xgo_pick [0, 1, 2] rfl ?_
      rw [nI_1]
      exact ih hl
    )
  refine xi_aload_n dX8_difference_0 rfl rfl ?_
  refine xi_iconst (v := 0) dX8_difference_1 (by decide) ?_
  refine xi_putfield0 dX8_difference_2 fX8_73 g76 pX8_73 ?_
  refine xi_iconst (v := 0) dX8_difference_5 (by decide) ?_
  refine xi_istore_n dX8_difference_6 rfl (Nat.le_of_ble_eq_true rfl) ?_
  refine xi_iconst (v := 0) dX8_difference_7 (by decide) ?_
  refine xi_istore_n dX8_difference_8 rfl (Nat.le_of_ble_eq_true rfl) ?_
  refine xgo_pick [0, 1, 2] rfl ?_
  exact loop 0 (Nat.zero_le _)
def mfS (c a b : Nat) (v : Int32) (p : Nat) (q : Int32 × (Nat → Int32)) : Int32 × (Nat → Int32) := if btM (nI (p % c)) (nI (a % c)) (nI (b % c)) = 0 then q else if btM (nI (p / c)) (nI (a / c)) (nI (b / c)) = 0 then q else (q.1 + (if q.2 p = v then 0 else 1), upd q.2 p v)
def mfA (A : xA) (sz : Nat) (f : Nat → Int32) : xA := setA (svA (updA A 76 0 0) sz) 77 f
theorem m_fill {c r n sz len : Nat} {i k v : Int32} {A : xA} {B : xB} {D : xD} (h : mOK A c r n sz len) : does0 mX8_fill [.ref 76, .int i, .int k, .int v] A B D (mQ D (inR i (nI n) ∧ inR k (nI n)) (btw v 0 15) (some (.int (itr (mfS c i.toNatClampNeg k.toNatClampNeg v) n (0, A 77)).1)) (mfA A sz (itr (mfS c i.toNatClampNeg k.toNatClampNeg v) n (0, A 77)).2) B A B) nx := by
  refine does_go (by decide) rfl (Nat.le_of_ble_eq_true rfl) rfl ?_
  obtain ⟨hn, hn0, hn64⟩ := h.n
  have hc0 := h.1.2.2.1
  have hc8 := h.1.2.2.2.1
  have cc : ∀ f, mfA A sz f 76 1 = nI c := fun f => h.1.1
  have hd : ¬ nI c = 0 := nI_ne0 hc0 (by omega)
  have loop : ∀ a b, a < n → b < n → i = nI a → k = nI b → btw v 0 15 → ∀ j, j ≤ n → ∀ q, q = itr (mfS c a b v) j (0, A 77) → go0 mX8_fill (mQ D (inR i (nI n) ∧ inR k (nI n)) (btw v 0 15) (some (.int (itr (mfS c i.toNatClampNeg k.toNatClampNeg v) n (0, A 77)).1)) (mfA A sz (itr (mfS c i.toNatClampNeg k.toNatClampNeg v) n (0, A 77)).2) B A B) nx 0 0 58 [(0, .ref 76), (1, .int (nI a)), (2, .int (nI b)), (3, .int v), (4, .int q.1), (5, .int (nI j))] [] (mfA A sz q.2) B D := by
    intro a b ha hb ea eb hv
    refine up_ind (fun j hj ih q hq => ?_)
    refine xi_iload dX8_fill_58 rfl ?_
    refine xi_aload_n dX8_fill_60 rfl rfl ?_
    refine cV1 (av := []) dX8_fill_61 lX8_76 rfl ⟨rfl, rfl⟩ rfl ⟨(Nat.le_of_ble_eq_true rfl), (Nat.le_of_ble_eq_true rfl)⟩ ⟨(Nat.le_of_ble_eq_true rfl), (Nat.le_of_ble_eq_true rfl)⟩ (Nat.le_of_ble_eq_true rfl) g76 rfl rfl (m_pixels) ?_
    rw [show mfA A sz q.2 76 1 * mfA A sz q.2 76 2 = nI n from hn]
    refine xi_icmp_ge (tgt := 152) dX8_fill_64 rfl (fun h64 => ?_) (fun h64 => ?_)
    · have e : j = n := ge_eq hj (by omega) h64
      subst e
      refine xi_iload dX8_fill_152 rfl ?_
      refine go_ret (r := some (.int _)) dX8_fill_154 (Nat.le_of_ble_eq_true rfl) (Nat.le_of_ble_eq_true rfl) ?_
      subst ea eb
      exact ⟨rfl, Or.inl ⟨⟨⟨nI_pos (by omega), nI_lt ha (by omega)⟩, nI_pos (by omega), nI_lt hb (by omega)⟩, hv, by rw [nI_clamp (by omega), nI_clamp (by omega), hq], by rw [nI_clamp (by omega), nI_clamp (by omega), hq], rfl⟩⟩
    · have hl : j < n := nge_lt hj (by omega) h64
      refine xi_iload dX8_fill_67 rfl ?_
      refine xi_aload_n dX8_fill_69 rfl rfl ?_
      refine xi_getfield0 dX8_fill_70 fX8_7 g76 ?_
      rw [cc]
      refine xi_irem dX8_fill_73 hd ?_
      rw [pk_rem (by omega) hc0 (by omega)]
      refine xi_iload_n dX8_fill_74 rfl rfl ?_
      refine xi_aload_n dX8_fill_75 rfl rfl ?_
      refine xi_getfield0 dX8_fill_76 fX8_7 g76 ?_
      rw [cc]
      refine xi_irem dX8_fill_79 hd ?_
      rw [pk_rem (by omega) hc0 (by omega)]
      refine xi_iload_n dX8_fill_80 rfl rfl ?_
      refine xi_aload_n dX8_fill_81 rfl rfl ?_
      refine xi_getfield0 dX8_fill_82 fX8_7 g76 ?_
      rw [cc]
      refine xi_irem dX8_fill_85 hd ?_
      rw [pk_rem (by omega) hc0 (by omega)]
      refine cS1 (av := [_, _, _]) dX8_fill_86 lX8_110 rfl ⟨rfl, rfl⟩ rfl ⟨(Nat.le_of_ble_eq_true rfl), (Nat.le_of_ble_eq_true rfl)⟩ ⟨(Nat.le_of_ble_eq_true rfl), (Nat.le_of_ble_eq_true rfl)⟩ (Nat.le_of_ble_eq_true rfl) (m_isBetween) ?_
      refine xi_if_eq (tgt := 146) dX8_fill_89 rfl (fun h89 => ?_) (fun h89 => ?_)
      · refine xi_iinc (v := 1) dX8_fill_146 rfl (by decide) (Nat.le_of_ble_eq_true rfl) ?_
        refine xi_goto (tgt := 58) dX8_fill_149 rfl ?_
        refine xgo_pick [0, 1, 2, 3, 4, 5] rfl ?_
        rw [nI_1]
        exact ih hl q (by rw [itr_s, ← hq]; exact (if_pos h89).symm)
      · refine xi_iload dX8_fill_92 rfl ?_
        refine xi_aload_n dX8_fill_94 rfl rfl ?_
        refine xi_getfield0 dX8_fill_95 fX8_7 g76 ?_
        rw [cc]
        refine xi_idiv dX8_fill_98 hd ?_
        rw [pk_div (by omega) hc0 (by omega)]
        refine xi_iload_n dX8_fill_99 rfl rfl ?_
        refine xi_aload_n dX8_fill_100 rfl rfl ?_
        refine xi_getfield0 dX8_fill_101 fX8_7 g76 ?_
        rw [cc]
        refine xi_idiv dX8_fill_104 hd ?_
        rw [pk_div (by omega) hc0 (by omega)]
        refine xi_iload_n dX8_fill_105 rfl rfl ?_
        refine xi_aload_n dX8_fill_106 rfl rfl ?_
        refine xi_getfield0 dX8_fill_107 fX8_7 g76 ?_
        rw [cc]
        refine xi_idiv dX8_fill_110 hd ?_
        rw [pk_div (by omega) hc0 (by omega)]
        refine cS1 (av := [_, _, _]) dX8_fill_111 lX8_110 rfl ⟨rfl, rfl⟩ rfl ⟨(Nat.le_of_ble_eq_true rfl), (Nat.le_of_ble_eq_true rfl)⟩ ⟨(Nat.le_of_ble_eq_true rfl), (Nat.le_of_ble_eq_true rfl)⟩ (Nat.le_of_ble_eq_true rfl) (m_isBetween) ?_
        refine xi_if_eq (tgt := 146) dX8_fill_114 rfl (fun h114 => ?_) (fun h114 => ?_)
        · refine xi_iinc (v := 1) dX8_fill_146 rfl (by decide) (Nat.le_of_ble_eq_true rfl) ?_
          refine xi_goto (tgt := 58) dX8_fill_149 rfl ?_
          refine xgo_pick [0, 1, 2, 3, 4, 5] rfl ?_
          rw [nI_1]
          exact ih hl q (by rw [itr_s, ← hq]; unfold mfS; rw [if_neg h89, if_pos h114])
        · refine xi_iload dX8_fill_117 rfl ?_
          refine xi_aload_n dX8_fill_119 rfl rfl ?_
          refine xi_getfield3 dX8_fill_120 fX8_16 g76 r76_3 ?_
          refine xi_iload dX8_fill_123 rfl ?_
          refine ia dX8_fill_125 g77 s77 rfl (by omega) (Nat.le_of_ble_eq_true rfl) ?_
          refine xi_iload_n dX8_fill_126 rfl rfl ?_
          rw [show mfA A sz q.2 77 j = q.2 j from congrFun (setA_s _ _ _) j]
          refine xi_icmpne (tgt := 134) dX8_fill_127 rfl (fun h127 => ?_) (fun h127 => ?_)
          · refine xi_iconst (v := 1) dX8_fill_134 (by decide) ?_
            refine xi_iadd dX8_fill_135 ?_
            refine xi_istore dX8_fill_136 (Nat.le_of_ble_eq_true rfl) ?_
            refine xi_aload_n dX8_fill_138 rfl rfl ?_
            refine xi_getfield3 dX8_fill_139 fX8_16 g76 r76_3 ?_
            refine xi_iload dX8_fill_142 rfl ?_
            refine xi_iload_n dX8_fill_144 rfl rfl ?_
            refine is dX8_fill_145 g77 s77 rfl (by omega) (Nat.le_of_ble_eq_true rfl) ?_
            refine xi_iinc (v := 1) dX8_fill_146 rfl (by decide) (Nat.le_of_ble_eq_true rfl) ?_
            refine xi_goto (tgt := 58) dX8_fill_149 rfl ?_
            refine xgo_pick [0, 1, 2, 3, 4, 5] rfl ?_
            rw [nI_1]
            unfold mfA
            rw [setA_u]
            exact ih hl (_, upd q.2 j v) (by rw [itr_s, ← hq]; unfold mfS; rw [if_neg h89, if_neg h114]; simp only [h127, if_true, if_false])
          · refine xi_iconst (v := 0) dX8_fill_130 (by decide) ?_
            refine xi_goto (tgt := 135) dX8_fill_131 rfl ?_
            refine xi_iadd dX8_fill_135 ?_
            refine xi_istore dX8_fill_136 (Nat.le_of_ble_eq_true rfl) ?_
            refine xi_aload_n dX8_fill_138 rfl rfl ?_
            refine xi_getfield3 dX8_fill_139 fX8_16 g76 r76_3 ?_
            refine xi_iload dX8_fill_142 rfl ?_
            refine xi_iload_n dX8_fill_144 rfl rfl ?_
            refine is dX8_fill_145 g77 s77 rfl (by omega) (Nat.le_of_ble_eq_true rfl) ?_
            refine xi_iinc (v := 1) dX8_fill_146 rfl (by decide) (Nat.le_of_ble_eq_true rfl) ?_
            refine xi_goto (tgt := 58) dX8_fill_149 rfl ?_
            refine xgo_pick [0, 1, 2, 3, 4, 5] rfl ?_
            rw [nI_1]
            unfold mfA
            rw [setA_u]
            exact ih hl (_, upd q.2 j v) (by rw [itr_s, ← hq]; unfold mfS; rw [if_neg h89, if_neg h114]; simp only [h127, if_true, if_false])
  refine xi_aload_n dX8_fill_0 rfl rfl ?_
  refine xi_aload_n dX8_fill_1 rfl rfl ?_
  refine xi_iload_n dX8_fill_2 rfl rfl ?_
  refine cV1 (av := [_]) dX8_fill_3 lX8_106 rfl ⟨rfl, rfl⟩ rfl ⟨(Nat.le_of_ble_eq_true rfl), (Nat.le_of_ble_eq_true rfl)⟩ ⟨(Nat.le_of_ble_eq_true rfl), (Nat.le_of_ble_eq_true rfl)⟩ (Nat.le_of_ble_eq_true rfl) g76 rfl rfl (m_isPixel) ?_
  rw [hn]
  refine xi_if_eq (tgt := 17) dX8_fill_6 rfl (fun h6 => ?_) (fun h6 => ?_)
  · have hp0 := (wpx0 hn0 (by omega)).mp h6
    refine xi_iconst (v := 1) dX8_fill_17 (by decide) ?_
    refine xi_goto (tgt := 36) dX8_fill_18 rfl ?_
    refine xi_putfield0 dX8_fill_36 fX8_73 g76 pX8_73 ?_
    refine xi_aload_n dX8_fill_39 rfl rfl ?_
    refine xi_getfield0 dX8_fill_40 fX8_73 g76 ?_
    refine xi_if_le (tgt := 48) dX8_fill_43 rfl (fun h => absurd h (show ¬ ((1 : Int32) ≤ 0) by decide)) (fun _ => ?_)
    refine xi_iconst (v := 0) dX8_fill_46 (by decide) ?_
    refine go_ret (r := some (.int _)) dX8_fill_47 (Nat.le_of_ble_eq_true rfl) (Nat.le_of_ble_eq_true rfl) ?_
    exact ⟨rfl, Or.inr (Or.inl ⟨fun z => hp0 z.1, rfl, rfl, rfl⟩)⟩
  · have hp0 := (wpx hn0 (by omega)).mp h6
    refine xi_aload_n dX8_fill_9 rfl rfl ?_
    refine xi_iload_n dX8_fill_10 rfl rfl ?_
    refine cV1 (av := [_]) dX8_fill_11 lX8_106 rfl ⟨rfl, rfl⟩ rfl ⟨(Nat.le_of_ble_eq_true rfl), (Nat.le_of_ble_eq_true rfl)⟩ ⟨(Nat.le_of_ble_eq_true rfl), (Nat.le_of_ble_eq_true rfl)⟩ (Nat.le_of_ble_eq_true rfl) g76 rfl rfl (m_isPixel) ?_
    rw [hn]
    refine xi_ifne (tgt := 21) dX8_fill_14 rfl (fun h14 => ?_) (fun h14 => ?_)
    · have hp1 := (wpx hn0 (by omega)).mp h14
      refine xi_iload_n dX8_fill_21 rfl rfl ?_
      refine xi_iconst (v := 0) dX8_fill_22 (by decide) ?_
      refine xi_bipush (v := 15) dX8_fill_23 (by decide) ?_
      refine cS1 (av := [_, _, _]) dX8_fill_25 lX8_80 rfl ⟨rfl, rfl⟩ rfl ⟨(Nat.le_of_ble_eq_true rfl), (Nat.le_of_ble_eq_true rfl)⟩ ⟨(Nat.le_of_ble_eq_true rfl), (Nat.le_of_ble_eq_true rfl)⟩ (Nat.le_of_ble_eq_true rfl) (m_within) ?_
      refine xi_if_eq (tgt := 35) dX8_fill_28 rfl (fun h28 => ?_) (fun h28 => ?_)
      · refine xi_iconst (v := 2) dX8_fill_35 (by decide) ?_
        refine xi_putfield0 dX8_fill_36 fX8_73 g76 pX8_73 ?_
        refine xi_aload_n dX8_fill_39 rfl rfl ?_
        refine xi_getfield0 dX8_fill_40 fX8_73 g76 ?_
        refine xi_if_le (tgt := 48) dX8_fill_43 rfl (fun h => absurd h (show ¬ ((2 : Int32) ≤ 0) by decide)) (fun _ => ?_)
        refine xi_iconst (v := 0) dX8_fill_46 (by decide) ?_
        refine go_ret (r := some (.int _)) dX8_fill_47 (Nat.le_of_ble_eq_true rfl) (Nat.le_of_ble_eq_true rfl) ?_
        exact ⟨rfl, Or.inr (Or.inr ⟨⟨hp0, hp1⟩, (wi_eq _ _ _).mp h28, rfl, rfl, rfl⟩)⟩
      · refine xi_iconst (v := 0) dX8_fill_31 (by decide) ?_
        refine xi_goto (tgt := 36) dX8_fill_32 rfl ?_
        refine xi_putfield0 dX8_fill_36 fX8_73 g76 pX8_73 ?_
        refine xi_aload_n dX8_fill_39 rfl rfl ?_
        refine xi_getfield0 dX8_fill_40 fX8_73 g76 ?_
        refine xi_if_le (tgt := 48) dX8_fill_43 rfl (fun _ => ?_) (fun h => absurd h (show ¬ (¬ (0 : Int32) ≤ 0) by decide))
        refine xi_aload_n dX8_fill_48 rfl rfl ?_
        refine cV1 (av := []) dX8_fill_49 lX8_100 rfl ⟨rfl, rfl⟩ rfl ⟨(Nat.le_of_ble_eq_true rfl), (Nat.le_of_ble_eq_true rfl)⟩ ⟨(Nat.le_of_ble_eq_true rfl), (Nat.le_of_ble_eq_true rfl)⟩ (Nat.le_of_ble_eq_true rfl) g76 rfl rfl (m_save (sz := sz) h.2.1.1 h.2.1.2) ?_
        refine xi_iconst (v := 0) dX8_fill_52 (by decide) ?_
        refine xi_istore dX8_fill_53 (Nat.le_of_ble_eq_true rfl) ?_
        refine xi_iconst (v := 0) dX8_fill_55 (by decide) ?_
        refine xi_istore dX8_fill_56 (Nat.le_of_ble_eq_true rfl) ?_
        obtain ⟨a, ha, rfl⟩ := inR_nI hp0 (by omega)
        obtain ⟨b, hb, rfl⟩ := inR_nI hp1 (by omega)
        refine xgo_pick [0, 1, 2, 3, 4, 5] rfl ?_
        have l0 := loop a b ha hb rfl rfl ((wi_ne _ _ _).mp h28) 0 (Nat.zero_le _) (0, A 77) rfl
        rw [show mfA A sz (0, A 77).2 = svA (updA A 76 0 0) sz from setA_self (svA (updA A 76 0 0) sz) 77] at l0
        exact l0
    · have hp1 := (wpx0 hn0 (by omega)).mp h14
      refine xi_iconst (v := 1) dX8_fill_17 (by decide) ?_
      refine xi_goto (tgt := 36) dX8_fill_18 rfl ?_
      refine xi_putfield0 dX8_fill_36 fX8_73 g76 pX8_73 ?_
      refine xi_aload_n dX8_fill_39 rfl rfl ?_
      refine xi_getfield0 dX8_fill_40 fX8_73 g76 ?_
      refine xi_if_le (tgt := 48) dX8_fill_43 rfl (fun h => absurd h (show ¬ ((1 : Int32) ≤ 0) by decide)) (fun _ => ?_)
      refine xi_iconst (v := 0) dX8_fill_46 (by decide) ?_
      refine go_ret (r := some (.int _)) dX8_fill_47 (Nat.le_of_ble_eq_true rfl) (Nat.le_of_ble_eq_true rfl) ?_
      exact ⟨rfl, Or.inr (Or.inl ⟨fun z => hp1 z.2, rfl, rfl, rfl⟩)⟩

