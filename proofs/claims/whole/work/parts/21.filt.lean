/-! ComponentTree: filters, reconstruction, peaks, digest -/
theorem fa_nI {a : Int32} (h : ¬ isFAV a = 0) : ∃ b, b < 12 ∧ a = nI b := by
  have h1 : inR a (nI 12) := by
    unfold isFAV at h
    by_cases c1 : a = 1
    · subst c1; exact ⟨by decide, by decide⟩
    · rw [if_neg c1] at h
      by_cases c2 : a < 5
      · rw [if_pos c2] at h; exact absurd rfl h
      · rw [if_neg c2] at h
        by_cases c3 : 11 < a
        · rw [if_pos c3] at h; exact absurd rfl h
        · refine ⟨fun q => c2 ?_, ?_⟩
          · have := Int32.lt_iff_toInt_lt.mp q
            exact Int32.lt_iff_toInt_lt.mpr (by have h0 : (0 : Int32).toInt = 0 := by decide
                                                have h5 : (5 : Int32).toInt = 5 := by decide
                                                omega)
          · have := Int32.le_iff_toInt_le.mp (Int32.not_lt.mp c3)
            exact Int32.lt_iff_toInt_lt.mpr (by have h0 : (11 : Int32).toInt = 11 := by decide
                                                have h5 : (nI 12).toInt = 12 := by decide
                                                omega)
  exact inR_nI h1 (by decide)
theorem prnA_o {A : xA} {kv : Nat} {th rule : Int32} {pa : Nat → Nat} {m k' : Nat} (h : k' ≠ 73) (h2 : k' ≠ 74) : prnA A kv th rule pa m k' = A k' := by
  unfold prnA
  rw [setA_n _ _ h2, setA_n _ _ h]
theorem trOK_o {A A' : xA} {m : Nat} {pa : Nat → Nat} (h : trOK A m pa) (h1 : A' 35 = A 35) (h2 : A' 40 = A 40) (h3 : A' 41 = A 41) : trOK A' m pa := by
  unfold trOK at h ⊢
  rw [h1, h2, h3]
  exact h
def cmS (p : Nat) (s : Nat → Int32) : Nat → Int32 := upd s p (15 - s p)
def cmA (A : xA) (x sz n : Nat) : xA := updA (setA (keepA A x sz) 2 (itr cmS n (A 2))) 0 11 1
theorem p_complement {c r n x sz len : Nat} {A A1 : xA} {B B1 : xB} {D : xD} (h : cOK A c r n x sz len) (hrf : does0 mX7_refresh [.ref 0] (cmA A x sz n) B D (eqQ none A1 B1 D) nx) : does0 mX7_complement [.ref 0] A B D (eqQ (some (.int (A1 35 2))) A1 B1 D) nx := by
  refine does_go (by decide) rfl (Nat.le_of_ble_eq_true rfl) rfl ?_
  obtain ⟨hn, hn0, hn64⟩ := h.n
  have ho : ∀ k', k' ≠ 7 → (k' < 9 ∨ 32 < k') → keepA A x sz k' = A k' := fun k' h1 h2 => keepA_o h1 h2 h.2.1.2.1
  unfold cmA at hrf
  generalize hA2 : keepA A x sz = A2 at ho hrf
  have loop := up_ind (n := n) (P := fun j => ∀ s, s = itr cmS j (A 2) → go0 mX7_complement (eqQ (some (.int (A1 35 2))) A1 B1 D) nx 0 0 13 [(0, .ref 0), (1, .int (nI j))] [] (setA A2 2 s) B D) (fun j hj ih s hs => by
    refine xi_iload_n dX7_complement_13 rfl rfl ?_
    refine xi_aload_n dX7_complement_14 rfl rfl ?_
    refine xi_getfield3 dX7_complement_15 fX7_10 g0 r0_0 ?_
    refine cV1 (av := []) dX7_complement_18 lX7_75 rfl ⟨rfl, rfl⟩ rfl ⟨(Nat.le_of_ble_eq_true rfl), (Nat.le_of_ble_eq_true rfl)⟩ ⟨(Nat.le_of_ble_eq_true rfl), (Nat.le_of_ble_eq_true rfl)⟩ (Nat.le_of_ble_eq_true rfl) g1 rfl rfl (c_size isPic_1) ?_
    rw [show setA A2 2 s 1 0 * setA A2 2 s 1 1 = nI n by rw [setA_n _ _ (by decide), ho 1 (by decide) (by decide)]; exact hn]
    refine xi_icmp_ge (tgt := 51) dX7_complement_21 rfl (fun h21 => ?_) (fun h21 => ?_)
    · have e : j = n := ge_eq hj (by omega) h21
      subst e
      rw [← hs] at hrf
      refine xi_aload_n dX7_complement_51 rfl rfl ?_
      refine xi_iconst (v := 1) dX7_complement_52 (by decide) ?_
      refine xi_putfield1 dX7_complement_53 fX7_68 g0 pX7_68 (by first | exact Or.inl rfl | exact Or.inr rfl) ?_
      refine xi_aload_n dX7_complement_56 rfl rfl ?_
      refine cV1 (av := []) dX7_complement_57 lX7_102 rfl ⟨rfl, rfl⟩ rfl ⟨(Nat.le_of_ble_eq_true rfl), (Nat.le_of_ble_eq_true rfl)⟩ ⟨(Nat.le_of_ble_eq_true rfl), (Nat.le_of_ble_eq_true rfl)⟩ (Nat.le_of_ble_eq_true rfl) g0 rfl rfl (hrf) ?_
      refine xi_aload_n dX7_complement_60 rfl rfl ?_
      refine xi_getfield3 dX7_complement_61 fX7_36 g0 r0_4 ?_
      refine xi_getfield0 dX7_complement_64 fX7_105 g35 ?_
      refine go_ret (r := some (.int _)) dX7_complement_67 (Nat.le_of_ble_eq_true rfl) (Nat.le_of_ble_eq_true rfl) ?_
      exact ⟨rfl, rfl, rfl, rfl⟩
    · have hl : j < n := nge_lt hj (by omega) h21
      refine xi_aload_n dX7_complement_24 rfl rfl ?_
      refine xi_getfield3 dX7_complement_25 fX7_10 g0 r0_0 ?_
      refine xi_getfield3 dX7_complement_28 fX7_95 g1 r1_2 ?_
      refine xi_iload_n dX7_complement_31 rfl rfl ?_
      refine xi_bipush (v := 15) dX7_complement_32 (by decide) ?_
      refine xi_aload_n dX7_complement_34 rfl rfl ?_
      refine xi_getfield3 dX7_complement_35 fX7_10 g0 r0_0 ?_
      refine xi_getfield3 dX7_complement_38 fX7_95 g1 r1_2 ?_
      refine xi_iload_n dX7_complement_41 rfl rfl ?_
      refine ia dX7_complement_42 g2 s2 rfl (by omega) (Nat.le_of_ble_eq_true rfl) ?_
      refine xi_isub dX7_complement_43 ?_
      rw [setA_s]
      refine is dX7_complement_44 g2 s2 rfl (by omega) (Nat.le_of_ble_eq_true rfl) ?_
      refine xi_iinc (v := 1) dX7_complement_45 rfl (by decide) (Nat.le_of_ble_eq_true rfl) ?_
      refine xi_goto (tgt := 13) dX7_complement_48 rfl ?_
      refine xgo_pick [0, 1] rfl ?_
      rw [nI_1, setA_u]
      exact ih hl _ (by rw [itr_s, ← hs]; rfl)
    )
  refine xi_aload_n dX7_complement_0 rfl rfl ?_
  refine xi_getfield3 dX7_complement_1 fX7_22 g0 r0_2 ?_
  refine xi_aload_n dX7_complement_4 rfl rfl ?_
  refine xi_getfield3 dX7_complement_5 fX7_10 g0 r0_0 ?_
  refine cV1 (av := [_]) dX7_complement_8 lX7_79 rfl ⟨rfl, rfl⟩ rfl ⟨(Nat.le_of_ble_eq_true rfl), (Nat.le_of_ble_eq_true rfl)⟩ ⟨(Nat.le_of_ble_eq_true rfl), (Nat.le_of_ble_eq_true rfl)⟩ (Nat.le_of_ble_eq_true rfl) g7 rfl rfl (c_keep h.2.1.1 h.2.1.2.1 h.2.1.2.2.1 h.2.1.2.2.2) ?_
  rw [hA2]
  refine xi_iconst (v := 0) dX7_complement_11 (by decide) ?_
  refine xi_istore_n dX7_complement_12 rfl (Nat.le_of_ble_eq_true rfl) ?_
  refine xgo_pick [0, 1] rfl ?_
  have l0 := loop 0 (Nat.zero_le _) (A 2) rfl
  rw [show setA A2 2 (A 2) = A2 by rw [← ho 2 (by decide) (by decide)]; exact setA_self A2 2] at l0
  exact l0
/-- passes (2) and remains (1) -/
def verV (va re : Int32) (th : Int32) : Int32 := (if va < th then 0 else 2) + (if re = 0 then 0 else 1)
theorem p_verdict {m : Nat} {pa : Nat → Nat} {i a t u : Int32} {A A1 : xA} {B B1 : xB} {D : xD} (hrf : does0 mX7_refresh [.ref 0] A B D (eqQ none A1 B1 D) nx) (hT : trOK A1 m pa) : does0 mX7_verdict [.ref 0, .int i, .int a, .int t, .int u] A B D (rQ (inR i (nI m) ∧ fOK a t u) (some (.int (verV (A1 (57 + a.toNatClampNeg) i.toNatClampNeg) (prnA A1 (57 + a.toNatClampNeg) t u pa m 73 i.toNatClampNeg) t))) (prnA A1 (57 + a.toNatClampNeg) t u pa m) B1 D) (rX (fun E => ¬ inR i (nI m) ∧ E = sIO ∨ inR i (nI m) ∧ ¬ fOK a t u ∧ E = sIA) A1 B1 D) := by
  refine does_go (by decide) rfl (Nat.le_of_ble_eq_true rfl) rfl ?_
  have hm := hT.1
  have hm64 := hT.2.2.1
  refine xi_aload_n dX7_verdict_0 rfl rfl ?_
  refine cV1 (av := []) dX7_verdict_1 lX7_102 rfl ⟨rfl, rfl⟩ rfl ⟨(Nat.le_of_ble_eq_true rfl), (Nat.le_of_ble_eq_true rfl)⟩ ⟨(Nat.le_of_ble_eq_true rfl), (Nat.le_of_ble_eq_true rfl)⟩ (Nat.le_of_ble_eq_true rfl) g0 rfl rfl (hrf) ?_
  refine xi_aload_n dX7_verdict_4 rfl rfl ?_
  refine xi_iload_n dX7_verdict_5 rfl rfl ?_
  refine cVI (av := [_]) dX7_verdict_6 lX7_148 rfl rfl rfl ⟨(Nat.le_of_ble_eq_true rfl), (Nat.le_of_ble_eq_true rfl), (Nat.le_of_ble_eq_true rfl), (Nat.le_of_ble_eq_true rfl)⟩ (Nat.le_of_ble_eq_true rfl) g0 rfl rfl (c_needNode) (fun q => ⟨Or.inl ⟨by rwa [hm] at q, rfl⟩, rfl, rfl, rfl⟩) (fun h6 => ?_)
  rw [hm] at h6
  obtain ⟨v, hv, rfl⟩ := inR_nI h6 (by omega)
  refine xi_iload_n dX7_verdict_9 rfl rfl ?_
  refine xi_iload_n dX7_verdict_10 rfl rfl ?_
  refine xi_iload dX7_verdict_11 rfl ?_
  refine cSI (av := [_, _, _]) dX7_verdict_13 lX7_186 rfl rfl rfl ⟨(Nat.le_of_ble_eq_true rfl), (Nat.le_of_ble_eq_true rfl), (Nat.le_of_ble_eq_true rfl), (Nat.le_of_ble_eq_true rfl)⟩ (Nat.le_of_ble_eq_true rfl) (c_needFilter) (fun q => ⟨Or.inr ⟨h6, q, rfl⟩, rfl, rfl, rfl⟩) (fun h13 => ?_)
  obtain ⟨b, hb, rfl⟩ := fa_nI h13.1
  obtain ⟨kv, hkv⟩ : ∃ kv, kv = 57 + b := ⟨_, rfl⟩
  have hg : (xG0 kv).1 = 1 := by rw [hkv]; exact (gv hb).1
  have hs : (xG0 kv).2.1 = 64 := by rw [hkv]; exact (gv hb).2
  refine xi_aload_n dX7_verdict_16 rfl rfl ?_
  refine xi_getfield3 dX7_verdict_17 fX7_53 g0 r0_7 ?_
  refine xi_aload_n dX7_verdict_20 rfl rfl ?_
  refine xi_getfield3 dX7_verdict_21 fX7_36 g0 r0_4 ?_
  refine xi_aload_n dX7_verdict_24 rfl rfl ?_
  refine xi_getfield3 dX7_verdict_25 fX7_46 g0 r0_6 ?_
  refine xi_getfield3 dX7_verdict_28 fX7_151 g55 r55_0 ?_
  refine xi_iload_n dX7_verdict_31 rfl rfl ?_
  refine xi_aaload5 (r := kv) dX7_verdict_32 g56 s56 (vp_in_nI hb (by decide)) (by rw [nI_clamp (by omega), hkv]; exact r56 hb) ?_
  refine xi_iload_n dX7_verdict_33 rfl rfl ?_
  refine xi_iload dX7_verdict_34 rfl ?_
  refine cV1 (av := [_, _, _, _]) dX7_verdict_36 lX7_190 rfl ⟨rfl, rfl⟩ rfl ⟨(Nat.le_of_ble_eq_true rfl), (Nat.le_of_ble_eq_true rfl)⟩ ⟨(Nat.le_of_ble_eq_true rfl), (Nat.le_of_ble_eq_true rfl)⟩ (Nat.le_of_ble_eq_true rfl) g72 rfl rfl (c_prune hT hg hs (by omega)) ?_
  refine xi_aload_n dX7_verdict_39 rfl rfl ?_
  refine xi_getfield3 dX7_verdict_40 fX7_46 g0 r0_6 ?_
  refine xi_getfield3 dX7_verdict_43 fX7_151 g55 r55_0 ?_
  refine xi_iload_n dX7_verdict_46 rfl rfl ?_
  refine xi_aaload5 (r := kv) dX7_verdict_47 g56 s56 (vp_in_nI hb (by decide)) (by rw [nI_clamp (by omega), hkv]; exact r56 hb) ?_
  refine xi_iload_n dX7_verdict_48 rfl rfl ?_
  refine ia dX7_verdict_49 hg hs rfl (by omega) (by omega) ?_
  rw [show prnA A1 kv t u pa m kv v = A1 kv v by rw [prnA_o (by omega) (by omega)]]
  refine xi_iload_n dX7_verdict_50 rfl rfl ?_
  refine xi_icmp_lt (tgt := 58) dX7_verdict_51 rfl (fun h51 => ?_) (fun h51 => ?_)
  · refine xi_iconst (v := 0) dX7_verdict_58 (by decide) ?_
    refine xi_istore dX7_verdict_59 (Nat.le_of_ble_eq_true rfl) ?_
    refine xi_iload dX7_verdict_61 rfl ?_
    refine xi_aload_n dX7_verdict_63 rfl rfl ?_
    refine xi_getfield3 dX7_verdict_64 fX7_53 g0 r0_7 ?_
    refine xi_getfield3 dX7_verdict_67 fX7_194 g72 r72_0 ?_
    refine xi_iload_n dX7_verdict_70 rfl rfl ?_
    refine za dX7_verdict_71 g73 s73 rfl (by omega) (Nat.le_of_ble_eq_true rfl) ?_
    refine xi_if_eq (tgt := 79) dX7_verdict_72 rfl (fun h72 => ?_) (fun h72 => ?_)
    · refine xi_iconst (v := 0) dX7_verdict_79 (by decide) ?_
      refine xi_iadd dX7_verdict_80 ?_
      refine go_ret (r := some (.int _)) dX7_verdict_81 (Nat.le_of_ble_eq_true rfl) (Nat.le_of_ble_eq_true rfl) ?_
      exact ⟨⟨h6, h13⟩, by rw [nI_clamp (by omega), nI_clamp (by omega), ← hkv]; unfold verV; simp only [h51, h72, if_true, if_false], by rw [nI_clamp (by omega), hkv], rfl, rfl⟩
    · refine xi_iconst (v := 1) dX7_verdict_75 (by decide) ?_
      refine xi_goto (tgt := 80) dX7_verdict_76 rfl ?_
      refine xi_iadd dX7_verdict_80 ?_
      refine go_ret (r := some (.int _)) dX7_verdict_81 (Nat.le_of_ble_eq_true rfl) (Nat.le_of_ble_eq_true rfl) ?_
      exact ⟨⟨h6, h13⟩, by rw [nI_clamp (by omega), nI_clamp (by omega), ← hkv]; unfold verV; simp only [h51, h72, if_true, if_false], by rw [nI_clamp (by omega), hkv], rfl, rfl⟩
  · refine xi_iconst (v := 2) dX7_verdict_54 (by decide) ?_
    refine xi_goto (tgt := 59) dX7_verdict_55 rfl ?_
    refine xi_istore dX7_verdict_59 (Nat.le_of_ble_eq_true rfl) ?_
    refine xi_iload dX7_verdict_61 rfl ?_
    refine xi_aload_n dX7_verdict_63 rfl rfl ?_
    refine xi_getfield3 dX7_verdict_64 fX7_53 g0 r0_7 ?_
    refine xi_getfield3 dX7_verdict_67 fX7_194 g72 r72_0 ?_
    refine xi_iload_n dX7_verdict_70 rfl rfl ?_
    refine za dX7_verdict_71 g73 s73 rfl (by omega) (Nat.le_of_ble_eq_true rfl) ?_
    refine xi_if_eq (tgt := 79) dX7_verdict_72 rfl (fun h72 => ?_) (fun h72 => ?_)
    · refine xi_iconst (v := 0) dX7_verdict_79 (by decide) ?_
      refine xi_iadd dX7_verdict_80 ?_
      refine go_ret (r := some (.int _)) dX7_verdict_81 (Nat.le_of_ble_eq_true rfl) (Nat.le_of_ble_eq_true rfl) ?_
      exact ⟨⟨h6, h13⟩, by rw [nI_clamp (by omega), nI_clamp (by omega), ← hkv]; unfold verV; simp only [h51, h72, if_true, if_false], by rw [nI_clamp (by omega), hkv], rfl, rfl⟩
    · refine xi_iconst (v := 1) dX7_verdict_75 (by decide) ?_
      refine xi_goto (tgt := 80) dX7_verdict_76 rfl ?_
      refine xi_iadd dX7_verdict_80 ?_
      refine go_ret (r := some (.int _)) dX7_verdict_81 (Nat.le_of_ble_eq_true rfl) (Nat.le_of_ble_eq_true rfl) ?_
      exact ⟨⟨h6, h13⟩, by rw [nI_clamp (by omega), nI_clamp (by omega), ← hkv]; unfold verV; simp only [h51, h72, if_true, if_false], by rw [nI_clamp (by omega), hkv], rfl, rfl⟩
theorem p_filtered {c r n x sz len m : Nat} {pa : Nat → Nat} {i a t u : Int32} {A A1 : xA} {B B1 : xB} {D : xD} (h : cOK A c r n x sz len) (hrf : does0 mX7_refresh [.ref 0] A B D (eqQ none A1 B1 D) nx) (hT : trOK A1 m pa) (hnd : ∀ p, p < n → ∃ q, q < 64 ∧ A1 42 p = nI q) : does0 mX7_filtered [.ref 0, .int i, .int a, .int t, .int u] A B D (rQ (inR i (nI n) ∧ fOK a t u) (some (.int (trn (prnA A1 (57 + a.toNatClampNeg) t u pa m 74 (A1 42 i.toNatClampNeg).toNatClampNeg) (A1 0 9)))) (prnA A1 (57 + a.toNatClampNeg) t u pa m) B1 D) (rX (fun E => ¬ inR i (nI n) ∧ E = sIO ∨ inR i (nI n) ∧ ¬ fOK a t u ∧ E = sIA) A B D) := by
  refine does_go (by decide) rfl (Nat.le_of_ble_eq_true rfl) rfl ?_
  obtain ⟨hn, hn0, hn64⟩ := h.n
  refine xi_aload_n dX7_filtered_0 rfl rfl ?_
  refine xi_iload_n dX7_filtered_1 rfl rfl ?_
  refine cVI (av := [_]) dX7_filtered_2 lX7_87 rfl rfl rfl ⟨(Nat.le_of_ble_eq_true rfl), (Nat.le_of_ble_eq_true rfl), (Nat.le_of_ble_eq_true rfl), (Nat.le_of_ble_eq_true rfl)⟩ (Nat.le_of_ble_eq_true rfl) g0 rfl rfl (c_needPixel) (fun q => ⟨Or.inl ⟨by rwa [hn] at q, rfl⟩, rfl, rfl, rfl⟩) (fun h2 => ?_)
  rw [hn] at h2
  obtain ⟨p, hp, rfl⟩ := inR_nI h2 (by omega)
  obtain ⟨q, hq, hq2⟩ := hnd p hp
  refine xi_iload_n dX7_filtered_5 rfl rfl ?_
  refine xi_iload_n dX7_filtered_6 rfl rfl ?_
  refine xi_iload dX7_filtered_7 rfl ?_
  refine cSI (av := [_, _, _]) dX7_filtered_9 lX7_186 rfl rfl rfl ⟨(Nat.le_of_ble_eq_true rfl), (Nat.le_of_ble_eq_true rfl), (Nat.le_of_ble_eq_true rfl), (Nat.le_of_ble_eq_true rfl)⟩ (Nat.le_of_ble_eq_true rfl) (c_needFilter) (fun q => ⟨Or.inr ⟨h2, q, rfl⟩, rfl, rfl, rfl⟩) (fun h9 => ?_)
  obtain ⟨b, hb, rfl⟩ := fa_nI h9.1
  obtain ⟨kv, hkv⟩ : ∃ kv, kv = 57 + b := ⟨_, rfl⟩
  have hg : (xG0 kv).1 = 1 := by rw [hkv]; exact (gv hb).1
  have hs : (xG0 kv).2.1 = 64 := by rw [hkv]; exact (gv hb).2
  refine xi_aload_n dX7_filtered_12 rfl rfl ?_
  refine cV1 (av := []) dX7_filtered_13 lX7_102 rfl ⟨rfl, rfl⟩ rfl ⟨(Nat.le_of_ble_eq_true rfl), (Nat.le_of_ble_eq_true rfl)⟩ ⟨(Nat.le_of_ble_eq_true rfl), (Nat.le_of_ble_eq_true rfl)⟩ (Nat.le_of_ble_eq_true rfl) g0 rfl rfl (hrf) ?_
  refine xi_aload_n dX7_filtered_16 rfl rfl ?_
  refine xi_getfield3 dX7_filtered_17 fX7_53 g0 r0_7 ?_
  refine xi_aload_n dX7_filtered_20 rfl rfl ?_
  refine xi_getfield3 dX7_filtered_21 fX7_36 g0 r0_4 ?_
  refine xi_aload_n dX7_filtered_24 rfl rfl ?_
  refine xi_getfield3 dX7_filtered_25 fX7_46 g0 r0_6 ?_
  refine xi_getfield3 dX7_filtered_28 fX7_151 g55 r55_0 ?_
  refine xi_iload_n dX7_filtered_31 rfl rfl ?_
  refine xi_aaload5 (r := kv) dX7_filtered_32 g56 s56 (vp_in_nI hb (by decide)) (by rw [nI_clamp (by omega), hkv]; exact r56 hb) ?_
  refine xi_iload_n dX7_filtered_33 rfl rfl ?_
  refine xi_iload dX7_filtered_34 rfl ?_
  refine cV1 (av := [_, _, _, _]) dX7_filtered_36 lX7_190 rfl ⟨rfl, rfl⟩ rfl ⟨(Nat.le_of_ble_eq_true rfl), (Nat.le_of_ble_eq_true rfl)⟩ ⟨(Nat.le_of_ble_eq_true rfl), (Nat.le_of_ble_eq_true rfl)⟩ (Nat.le_of_ble_eq_true rfl) g72 rfl rfl (c_prune hT hg hs (by omega)) ?_
  refine xi_aload_n dX7_filtered_39 rfl rfl ?_
  refine xi_getfield3 dX7_filtered_40 fX7_53 g0 r0_7 ?_
  refine xi_getfield3 dX7_filtered_43 fX7_198 g72 r72_1 ?_
  refine xi_aload_n dX7_filtered_46 rfl rfl ?_
  refine xi_getfield3 dX7_filtered_47 fX7_36 g0 r0_4 ?_
  refine xi_getfield3 dX7_filtered_50 fX7_145 g35 r35_10 ?_
  refine xi_iload_n dX7_filtered_53 rfl rfl ?_
  refine ia dX7_filtered_54 g42 s42 rfl (by omega) (Nat.le_of_ble_eq_true rfl) ?_
  rw [show prnA A1 kv t u pa m 42 p = nI q by rw [prnA_o (by decide) (by decide)]; exact hq2]
  refine ia dX7_filtered_55 g74 s74 rfl hq (Nat.le_of_ble_eq_true rfl) ?_
  refine xi_aload_n dX7_filtered_56 rfl rfl ?_
  refine xi_getfield1 dX7_filtered_57 fX7_61 g0 ?_
  rw [show prnA A1 kv t u pa m 0 9 = A1 0 9 by rw [prnA_o (by decide) (by decide)]]
  refine cS1 (av := [_, _]) dX7_filtered_60 lX7_201 rfl ⟨rfl, rfl⟩ rfl ⟨(Nat.le_of_ble_eq_true rfl), (Nat.le_of_ble_eq_true rfl)⟩ ⟨(Nat.le_of_ble_eq_true rfl), (Nat.le_of_ble_eq_true rfl)⟩ (Nat.le_of_ble_eq_true rfl) (c_turned) ?_
  refine go_ret (r := some (.int _)) dX7_filtered_63 (Nat.le_of_ble_eq_true rfl) (Nat.le_of_ble_eq_true rfl) ?_
  exact ⟨⟨h2, h9⟩, by rw [nI_clamp (by omega), nI_clamp (by omega), hq2, nI_clamp (by omega), hkv], by rw [nI_clamp (by omega), hkv], rfl, rfl⟩
theorem p_loss {m : Nat} {pa : Nat → Nat} {a t u : Int32} {A A1 : xA} {B B1 : xB} {D : xD} (hrf : does0 mX7_refresh [.ref 0] A B D (eqQ none A1 B1 D) nx) (hT : trOK A1 m pa) : does0 mX7_loss [.ref 0, .int a, .int t, .int u] A B D (rQ (fOK a t u) (some (.int (lossV (A1 39) (A1 38) (prnA A1 (57 + a.toNatClampNeg) t u pa m 74) m))) (prnA A1 (57 + a.toNatClampNeg) t u pa m) B1 D) (rX (fun E => ¬ fOK a t u ∧ E = sIA) A B D) := by
  refine does_go (by decide) rfl (Nat.le_of_ble_eq_true rfl) rfl ?_
  refine xi_iload_n dX7_loss_0 rfl rfl ?_
  refine xi_iload_n dX7_loss_1 rfl rfl ?_
  refine xi_iload_n dX7_loss_2 rfl rfl ?_
  refine cSI (av := [_, _, _]) dX7_loss_3 lX7_186 rfl rfl rfl ⟨(Nat.le_of_ble_eq_true rfl), (Nat.le_of_ble_eq_true rfl), (Nat.le_of_ble_eq_true rfl), (Nat.le_of_ble_eq_true rfl)⟩ (Nat.le_of_ble_eq_true rfl) (c_needFilter) (fun q => ⟨⟨q, rfl⟩, rfl, rfl, rfl⟩) (fun h3 => ?_)
  obtain ⟨b, hb, rfl⟩ := fa_nI h3.1
  refine xi_aload_n dX7_loss_6 rfl rfl ?_
  refine cV1 (av := []) dX7_loss_7 lX7_102 rfl ⟨rfl, rfl⟩ rfl ⟨(Nat.le_of_ble_eq_true rfl), (Nat.le_of_ble_eq_true rfl)⟩ ⟨(Nat.le_of_ble_eq_true rfl), (Nat.le_of_ble_eq_true rfl)⟩ (Nat.le_of_ble_eq_true rfl) g0 rfl rfl (hrf) ?_
  refine xi_aload_n dX7_loss_10 rfl rfl ?_
  refine xi_iload_n dX7_loss_11 rfl rfl ?_
  refine xi_iload_n dX7_loss_12 rfl rfl ?_
  refine xi_iload_n dX7_loss_13 rfl rfl ?_
  refine cV1 (av := [_, _, _]) dX7_loss_14 lX7_205 rfl ⟨rfl, rfl⟩ rfl ⟨(Nat.le_of_ble_eq_true rfl), (Nat.le_of_ble_eq_true rfl)⟩ ⟨(Nat.le_of_ble_eq_true rfl), (Nat.le_of_ble_eq_true rfl)⟩ (Nat.le_of_ble_eq_true rfl) g0 rfl rfl (c_lossBy hT hb) ?_
  refine go_ret (r := some (.int _)) dX7_loss_17 (Nat.le_of_ble_eq_true rfl) (Nat.le_of_ble_eq_true rfl) ?_
  exact ⟨h3, by rw [nI_clamp (by omega)], by rw [nI_clamp (by omega)], rfl, rfl⟩
theorem p_filter {c r n x sz len m : Nat} {pa : Nat → Nat} {a t u : Int32} {A A1 : xA} {B B1 : xB} {D : xD} (hrf : does0 mX7_refresh [.ref 0] A B D (eqQ none A1 B1 D) nx) (h : cOK A1 c r n x sz len) (hT : trOK A1 m pa) (hnd : ∀ p, p < n → ∃ q, q < 64 ∧ A1 42 p = nI q) : does0 mX7_filter [.ref 0, .int a, .int t, .int u] A B D (rQ (fOK a t u) (some (.int (chgV (A1 39) (A1 38) (prnA A1 (57 + a.toNatClampNeg) t u pa m 74) m))) (rpA (prnA A1 (57 + a.toNatClampNeg) t u pa m) x sz n) B1 D) (rX (fun E => ¬ fOK a t u ∧ E = sIA) A B D) := by
  refine does_go (by decide) rfl (Nat.le_of_ble_eq_true rfl) rfl ?_
  obtain ⟨hn, hn0, hn64⟩ := h.n
  obtain ⟨hx, hx8, hz, hz8⟩ := h.2.1
  refine xi_iload_n dX7_filter_0 rfl rfl ?_
  refine xi_iload_n dX7_filter_1 rfl rfl ?_
  refine xi_iload_n dX7_filter_2 rfl rfl ?_
  refine cSI (av := [_, _, _]) dX7_filter_3 lX7_186 rfl rfl rfl ⟨(Nat.le_of_ble_eq_true rfl), (Nat.le_of_ble_eq_true rfl), (Nat.le_of_ble_eq_true rfl), (Nat.le_of_ble_eq_true rfl)⟩ (Nat.le_of_ble_eq_true rfl) (c_needFilter) (fun q => ⟨⟨q, rfl⟩, rfl, rfl, rfl⟩) (fun h3 => ?_)
  obtain ⟨b, hb, rfl⟩ := fa_nI h3.1
  obtain ⟨kv, hkv⟩ : ∃ kv, kv = 57 + b := ⟨_, rfl⟩
  have hg : (xG0 kv).1 = 1 := by rw [hkv]; exact (gv hb).1
  have hs : (xG0 kv).2.1 = 64 := by rw [hkv]; exact (gv hb).2
  refine xi_aload_n dX7_filter_6 rfl rfl ?_
  refine cV1 (av := []) dX7_filter_7 lX7_102 rfl ⟨rfl, rfl⟩ rfl ⟨(Nat.le_of_ble_eq_true rfl), (Nat.le_of_ble_eq_true rfl)⟩ ⟨(Nat.le_of_ble_eq_true rfl), (Nat.le_of_ble_eq_true rfl)⟩ (Nat.le_of_ble_eq_true rfl) g0 rfl rfl (hrf) ?_
  refine xi_aload_n dX7_filter_10 rfl rfl ?_
  refine xi_getfield3 dX7_filter_11 fX7_53 g0 r0_7 ?_
  refine xi_aload_n dX7_filter_14 rfl rfl ?_
  refine xi_getfield3 dX7_filter_15 fX7_36 g0 r0_4 ?_
  refine xi_aload_n dX7_filter_18 rfl rfl ?_
  refine xi_getfield3 dX7_filter_19 fX7_46 g0 r0_6 ?_
  refine xi_getfield3 dX7_filter_22 fX7_151 g55 r55_0 ?_
  refine xi_iload_n dX7_filter_25 rfl rfl ?_
  refine xi_aaload5 (r := kv) dX7_filter_26 g56 s56 (vp_in_nI hb (by decide)) (by rw [nI_clamp (by omega), hkv]; exact r56 hb) ?_
  refine xi_iload_n dX7_filter_27 rfl rfl ?_
  refine xi_iload_n dX7_filter_28 rfl rfl ?_
  refine cV1 (av := [_, _, _, _]) dX7_filter_29 lX7_190 rfl ⟨rfl, rfl⟩ rfl ⟨(Nat.le_of_ble_eq_true rfl), (Nat.le_of_ble_eq_true rfl)⟩ ⟨(Nat.le_of_ble_eq_true rfl), (Nat.le_of_ble_eq_true rfl)⟩ (Nat.le_of_ble_eq_true rfl) g72 rfl rfl (c_prune hT hg hs (by omega)) ?_
  refine xi_aload_n dX7_filter_32 rfl rfl ?_
  refine cV1 (av := []) dX7_filter_33 lX7_208 rfl ⟨rfl, rfl⟩ rfl ⟨(Nat.le_of_ble_eq_true rfl), (Nat.le_of_ble_eq_true rfl)⟩ ⟨(Nat.le_of_ble_eq_true rfl), (Nat.le_of_ble_eq_true rfl)⟩ (Nat.le_of_ble_eq_true rfl) g0 rfl rfl (c_repaint (m := m) (n := n) (by rw [prnA_o (by decide) (by decide)]; exact hT.1) hT.2.2.1 (by rw [prnA_o (by decide) (by decide)]; exact hn) hn64 (fun p hp => by rw [prnA_o (by decide) (by decide)]; exact hnd p hp) (by rw [prnA_o (by decide) (by decide)]; exact hx) hx8 (by rw [prnA_o (by decide) (by decide)]; exact hz) hz8) ?_
  refine go_ret (r := some (.int _)) dX7_filter_36 (Nat.le_of_ble_eq_true rfl) (Nat.le_of_ble_eq_true rfl) ?_
  exact ⟨h3, by rw [nI_clamp (by omega), ← hkv, prnA_o (by decide) (by decide), prnA_o (by decide) (by decide)], by rw [nI_clamp (by omega), hkv], rfl, rfl⟩
/-- threshold: one power of two; the state is (what is within, the heap) -/
def thS (kv : Nat) (bd : Int32) (pa : Nat → Nat) (m d : Nat) (q : Nat × xA) : Nat × xA :=
  if 999 < q.1 + 2 ^ d then q else if bd < lossV (q.2 39) (q.2 38) (prnA q.2 kv (nI (q.1 + 2 ^ d)) 1 pa m 74) m then (q.1, prnA q.2 kv (nI (q.1 + 2 ^ d)) 1 pa m) else (q.1 + 2 ^ d, prnA q.2 kv (nI (q.1 + 2 ^ d)) 1 pa m)
def thV (kv : Nat) (bd : Int32) (pa : Nat → Nat) (m : Nat) : Nat → Nat × xA → Nat × xA
  | 0, q => q
  | d + 1, q => thV kv bd pa m d (thS kv bd pa m d q)
theorem i_threshold {m b : Nat} {pa : Nat → Nat} {bd : Int32} {Q : Option Value → xA → xB → xD → Prop} {QX : String → xA → xB → xD → Prop} {B1 : xB} {D : xD} {R : Nat × xA} (hb : b < 12) (hQ : Q (some (.int (if R.1 = 999 then -1 else nI (R.1 + 1)))) R.2 B1 D) :
    ∀ (d : Nat) (q : Nat × xA), q.1 ≤ 999 → trOK q.2 m pa → d ≤ 10 → thV (57 + b) bd pa m d q = R → go0 mX7_threshold Q QX 2 12 37 [(0, .ref 0), (1, .int (nI b)), (2, .int bd), (3, .int (nI q.1)), (4, .int (nI (2 ^ d / 2)))] [] q.2 B1 D :=
  dn_ind (fun d ih q hq hT hd hR => by
    have h2 : 2 ^ d ≤ 2 ^ 10 := Nat.pow_le_pow_right (by decide) hd
    refine xi_iload dX7_threshold_37 rfl ?_
    refine xi_if_le (tgt := 80) dX7_threshold_39 rfl (fun h39 => ?_) (fun h39 => ?_)
    · have e : d = 0 := by
        have e0 := nI_le0 (by omega) h39
        cases d with
        | zero => rfl
        | succ d => rw [Nat.pow_succ, Nat.mul_div_cancel _ (by decide)] at e0; have := Nat.two_pow_pos d; omega
      subst e
      have e : q = R := hR
      subst e
      refine xi_iload_n dX7_threshold_80 rfl rfl ?_
      refine xi_sipush (v := 999) dX7_threshold_81 (by decide) ?_
      refine xi_icmpne (tgt := 91) dX7_threshold_84 rfl (fun h84 => ?_) (fun h84 => ?_)
      · have e9 : ¬ q.1 = 999 := fun z => h84 (by rw [z]; rfl)
        refine xi_iload_n dX7_threshold_91 rfl rfl ?_
        refine xi_iconst (v := 1) dX7_threshold_92 (by decide) ?_
        refine xi_iadd dX7_threshold_93 ?_
        first | rw [nI_1] | skip
        refine go_ret (r := some (.int _)) dX7_threshold_94 (Nat.le_of_ble_eq_true rfl) (Nat.le_of_ble_eq_true rfl) ?_
        first | rw [if_pos e9] at hQ | rw [if_neg e9] at hQ
        exact hQ
      · have e9 : q.1 = 999 := (nI_eq (by omega) (by decide)).mp h84
        refine xi_iconst (v := (-1)) dX7_threshold_87 (by decide) ?_
        refine xi_goto (tgt := 94) dX7_threshold_88 rfl ?_
        first | rw [nI_1] | skip
        refine go_ret (r := some (.int _)) dX7_threshold_94 (Nat.le_of_ble_eq_true rfl) (Nat.le_of_ble_eq_true rfl) ?_
        first | rw [if_pos e9] at hQ | rw [if_neg e9] at hQ
        exact hQ
    · obtain ⟨u, rfl⟩ : ∃ u, d = u + 1 := by
        cases d with
        | zero => exact absurd (by decide) h39
        | succ d => exact ⟨d, rfl⟩
      have hpw : 2 ^ (u + 1) / 2 = 2 ^ u := by rw [Nat.pow_succ, Nat.mul_div_cancel _ (by decide)]
      rw [hpw]
      rw [show thV (57 + b) bd pa m (u + 1) q = thV (57 + b) bd pa m u (thS (57 + b) bd pa m u q) from rfl] at hR
      unfold thS at hR
      refine xi_iload_n dX7_threshold_42 rfl rfl ?_
      refine xi_iload dX7_threshold_43 rfl ?_
      refine xi_iadd dX7_threshold_45 ?_
      rw [nI_add]
      refine xi_istore dX7_threshold_46 (Nat.le_of_ble_eq_true rfl) ?_
      refine xi_iload dX7_threshold_48 rfl ?_
      refine xi_sipush (v := 999) dX7_threshold_50 (by decide) ?_
      refine xi_icmp_gt (tgt := 71) dX7_threshold_53 rfl (fun h53 => ?_) (fun h53 => ?_)
      · have e9 : 999 < q.1 + 2 ^ u := (nI_ltI (a := 999) (by decide) (by omega)).mp h53
        refine xi_iload dX7_threshold_71 rfl ?_
        refine xi_iconst (v := 2) dX7_threshold_73 (by decide) ?_
        refine xi_idiv dX7_threshold_74 (show ¬ (2 : Int32) = 0 by decide) ?_
        rw [show (2 : Int32) = nI 2 from rfl, pk_div (by omega) (by decide) (by decide)]
        refine xi_istore dX7_threshold_75 (Nat.le_of_ble_eq_true rfl) ?_
        refine xi_goto (tgt := 37) dX7_threshold_77 rfl ?_
        refine xgo_pick [0, 1, 2, 3, 4] rfl ?_
        rw [if_pos e9] at hR
        exact ih u rfl q hq hT (by omega) hR
      · have e9 : ¬ 999 < q.1 + 2 ^ u := fun z => h53 ((nI_ltI (a := 999) (by decide) (by omega)).mpr z)
        have hT2 : trOK (prnA q.2 (57 + b) (nI (q.1 + 2 ^ u)) 1 pa m) m pa := trOK_o hT (prnA_o (by decide) (by decide)) (prnA_o (by decide) (by decide)) (prnA_o (by decide) (by decide))
        refine xi_aload_n dX7_threshold_56 rfl rfl ?_
        refine xi_iload_n dX7_threshold_57 rfl rfl ?_
        refine xi_iload dX7_threshold_58 rfl ?_
        refine xi_iconst (v := 1) dX7_threshold_60 (by decide) ?_
        refine cV1 (av := [_, _, _]) dX7_threshold_61 lX7_205 rfl ⟨rfl, rfl⟩ rfl ⟨(Nat.le_of_ble_eq_true rfl), (Nat.le_of_ble_eq_true rfl)⟩ ⟨(Nat.le_of_ble_eq_true rfl), (Nat.le_of_ble_eq_true rfl)⟩ (Nat.le_of_ble_eq_true rfl) g0 rfl rfl (c_lossBy hT hb) ?_
        refine xi_iload_n dX7_threshold_64 rfl rfl ?_
        refine xi_icmp_gt (tgt := 71) dX7_threshold_65 rfl (fun h65 => ?_) (fun h65 => ?_)
        · refine xi_iload dX7_threshold_71 rfl ?_
          refine xi_iconst (v := 2) dX7_threshold_73 (by decide) ?_
          refine xi_idiv dX7_threshold_74 (show ¬ (2 : Int32) = 0 by decide) ?_
          rw [show (2 : Int32) = nI 2 from rfl, pk_div (by omega) (by decide) (by decide)]
          refine xi_istore dX7_threshold_75 (Nat.le_of_ble_eq_true rfl) ?_
          refine xi_goto (tgt := 37) dX7_threshold_77 rfl ?_
          refine xgo_pick [0, 1, 2, 3, 4] rfl ?_
          rw [if_neg e9, if_pos h65] at hR
          exact ih u rfl (q.1, _) hq hT2 (by omega) hR
        · refine xi_iload dX7_threshold_68 rfl ?_
          refine xi_istore_n dX7_threshold_70 rfl (Nat.le_of_ble_eq_true rfl) ?_
          refine xi_iload dX7_threshold_71 rfl ?_
          refine xi_iconst (v := 2) dX7_threshold_73 (by decide) ?_
          refine xi_idiv dX7_threshold_74 (show ¬ (2 : Int32) = 0 by decide) ?_
          rw [show (2 : Int32) = nI 2 from rfl, pk_div (by omega) (by decide) (by decide)]
          refine xi_istore dX7_threshold_75 (Nat.le_of_ble_eq_true rfl) ?_
          refine xi_goto (tgt := 37) dX7_threshold_77 rfl ?_
          refine xgo_pick [0, 1, 2, 3, 4] rfl ?_
          rw [if_neg e9, if_neg h65] at hR
          exact ih u rfl (q.1 + 2 ^ u, _) (by show q.1 + 2 ^ u ≤ 999; omega) hT2 (by omega) hR
    )
theorem p_threshold {m : Nat} {pa : Nat → Nat} {a bd : Int32} {A A1 : xA} {B B1 : xB} {D : xD} (hrf : does0 mX7_refresh [.ref 0] A B D (eqQ none A1 B1 D) nx) (hT : trOK A1 m pa) : does0 mX7_threshold [.ref 0, .int a, .int bd] A B D (rQ (¬ isFAV a = 0 ∧ btw bd 0 999) (some (.int (if (thV (57 + a.toNatClampNeg) bd pa m 10 (0, A1)).1 = 999 then -1 else nI ((thV (57 + a.toNatClampNeg) bd pa m 10 (0, A1)).1 + 1)))) (thV (57 + a.toNatClampNeg) bd pa m 10 (0, A1)).2 B1 D) (rX (fun E => ¬ (¬ isFAV a = 0 ∧ btw bd 0 999) ∧ E = sIA) A B D) := by
  refine does_go (by decide) rfl (Nat.le_of_ble_eq_true rfl) rfl ?_
  refine xi_iload_n dX7_threshold_0 rfl rfl ?_
  refine cS1 (av := [_]) dX7_threshold_1 lX7_211 rfl ⟨rfl, rfl⟩ rfl ⟨(Nat.le_of_ble_eq_true rfl), (Nat.le_of_ble_eq_true rfl)⟩ ⟨(Nat.le_of_ble_eq_true rfl), (Nat.le_of_ble_eq_true rfl)⟩ (Nat.le_of_ble_eq_true rfl) (c_isFA) ?_
  refine cSI (av := [_]) dX7_threshold_4 lX7_71 rfl rfl rfl ⟨(Nat.le_of_ble_eq_true rfl), (Nat.le_of_ble_eq_true rfl), (Nat.le_of_ble_eq_true rfl), (Nat.le_of_ble_eq_true rfl)⟩ (Nat.le_of_ble_eq_true rfl) (c_needArgument) (fun q => ⟨⟨fun z => q z.1, rfl⟩, rfl, rfl, rfl⟩) (fun h4 => ?_)
  refine xi_iload_n dX7_threshold_7 rfl rfl ?_
  refine xi_if_lt (tgt := 22) dX7_threshold_8 rfl (fun h8 => ?_) (fun h8 => ?_)
  · refine xi_iconst (v := 0) dX7_threshold_22 (by decide) ?_
    refine cSI (av := [_]) dX7_threshold_23 lX7_71 rfl rfl rfl ⟨(Nat.le_of_ble_eq_true rfl), (Nat.le_of_ble_eq_true rfl), (Nat.le_of_ble_eq_true rfl), (Nat.le_of_ble_eq_true rfl)⟩ (Nat.le_of_ble_eq_true rfl) (c_needArgument) (fun q => ⟨⟨fun z => by first | exact q (by decide) | exact z.2.1 h8 | exact z.2.2 h15, rfl⟩, rfl, rfl, rfl⟩) (fun h23 => ?_)
    exact absurd rfl h23
  · refine xi_iload_n dX7_threshold_11 rfl rfl ?_
    refine xi_sipush (v := 999) dX7_threshold_12 (by decide) ?_
    refine xi_icmp_gt (tgt := 22) dX7_threshold_15 rfl (fun h15 => ?_) (fun h15 => ?_)
    · refine xi_iconst (v := 0) dX7_threshold_22 (by decide) ?_
      refine cSI (av := [_]) dX7_threshold_23 lX7_71 rfl rfl rfl ⟨(Nat.le_of_ble_eq_true rfl), (Nat.le_of_ble_eq_true rfl), (Nat.le_of_ble_eq_true rfl), (Nat.le_of_ble_eq_true rfl)⟩ (Nat.le_of_ble_eq_true rfl) (c_needArgument) (fun q => ⟨⟨fun z => by first | exact q (by decide) | exact z.2.1 h8 | exact z.2.2 h15, rfl⟩, rfl, rfl, rfl⟩) (fun h23 => ?_)
      exact absurd rfl h23
    · refine xi_iconst (v := 1) dX7_threshold_18 (by decide) ?_
      refine xi_goto (tgt := 23) dX7_threshold_19 rfl ?_
      refine cSI (av := [_]) dX7_threshold_23 lX7_71 rfl rfl rfl ⟨(Nat.le_of_ble_eq_true rfl), (Nat.le_of_ble_eq_true rfl), (Nat.le_of_ble_eq_true rfl), (Nat.le_of_ble_eq_true rfl)⟩ (Nat.le_of_ble_eq_true rfl) (c_needArgument) (fun q => ⟨⟨fun z => by first | exact q (by decide) | exact z.2.1 h8 | exact z.2.2 h15, rfl⟩, rfl, rfl, rfl⟩) (fun h23 => ?_)
      obtain ⟨b, hb, rfl⟩ := fa_nI h4
      have hc : (nI b).toNatClampNeg = b := nI_clamp (by omega)
      rw [hc]
      generalize hR : thV (57 + b) bd pa m 10 (0, A1) = R
      refine xi_aload_n dX7_threshold_26 rfl rfl ?_
      refine cV1 (av := []) dX7_threshold_27 lX7_102 rfl ⟨rfl, rfl⟩ rfl ⟨(Nat.le_of_ble_eq_true rfl), (Nat.le_of_ble_eq_true rfl)⟩ ⟨(Nat.le_of_ble_eq_true rfl), (Nat.le_of_ble_eq_true rfl)⟩ (Nat.le_of_ble_eq_true rfl) g0 rfl rfl (hrf) ?_
      refine xi_iconst (v := 0) dX7_threshold_30 (by decide) ?_
      refine xi_istore_n dX7_threshold_31 rfl (Nat.le_of_ble_eq_true rfl) ?_
      refine xi_sipush (v := 512) dX7_threshold_32 (by decide) ?_
      refine xi_istore dX7_threshold_35 (Nat.le_of_ble_eq_true rfl) ?_
      refine xgo_pick [0, 1, 2, 3, 4] rfl ?_
      exact i_threshold (m := m) (pa := pa) (bd := bd) (R := R) hb ⟨⟨h4, h8, h15⟩, rfl, rfl, rfl, rfl⟩ 10 (0, A1) (Nat.zero_le _) hT (Nat.le_refl _) hR

def mkS (f : Nat → Int32) (p : Nat) (s : Nat → Int32) : Nat → Int32 := upd s p (f p)
/-- the heap behind a reconstruction from ranks f -/
def recA (A1 : xA) (f : Nat → Int32) (pa : Nat → Nat) (n m : Nat) : xA := setA (setA A1 75 (itr (mkS f) n (A1 75))) 74 (rbV (A1 42) (itr (mkS f) n (A1 75)) (A1 74) (A1 38) pa n m)
theorem p_reconstruct {c r n x sz len m : Nat} {pa : Nat → Nat} {A A1 : xA} {B B1 : xB} {D : xD} (hrf : does0 mX7_refresh [.ref 0] A B D (eqQ none A1 B1 D) nx) (h : cOK A1 c r n x sz len) (hT : trOK A1 m pa) (hg : A1 36 2 = nI n) (hnd : ∀ p, p < n → ∃ q, q < 64 ∧ A1 42 p = nI q) : does0 mX7_reconstruct [.ref 0] A B D (eqQ (some (.int (chgV (A1 39) (A1 38) (recA A1 (fun p => trn (A1 3 p) (A1 0 9)) pa n m 74) m))) (rpA (recA A1 (fun p => trn (A1 3 p) (A1 0 9)) pa n m) x sz n) B1 D) nx := by
  refine does_go (by decide) rfl (Nat.le_of_ble_eq_true rfl) rfl ?_
  obtain ⟨hn, hn0, hn64⟩ := h.n
  obtain ⟨hx, hx8, hz, hz8⟩ := h.2.1
  generalize hF : (fun p => trn (A1 3 p) (A1 0 9)) = F
  have loop := up_ind (n := n) (P := fun j => ∀ s, s = itr (mkS F) j (A1 75) → go0 mX7_reconstruct (eqQ (some (.int (chgV (A1 39) (A1 38) (recA A1 F pa n m 74) m))) (rpA (recA A1 F pa n m) x sz n) B1 D) nx 0 0 6 [(0, .ref 0), (1, .int (nI j))] [] (setA A1 75 s) B1 D) (fun j hj ih s hs => by
    refine xi_iload_n dX7_reconstruct_6 rfl rfl ?_
    refine xi_aload_n dX7_reconstruct_7 rfl rfl ?_
    refine xi_getfield3 dX7_reconstruct_8 fX7_10 g0 r0_0 ?_
    refine cV1 (av := []) dX7_reconstruct_11 lX7_75 rfl ⟨rfl, rfl⟩ rfl ⟨(Nat.le_of_ble_eq_true rfl), (Nat.le_of_ble_eq_true rfl)⟩ ⟨(Nat.le_of_ble_eq_true rfl), (Nat.le_of_ble_eq_true rfl)⟩ (Nat.le_of_ble_eq_true rfl) g1 rfl rfl (c_size isPic_1) ?_
    rw [show setA A1 75 s 1 0 * setA A1 75 s 1 1 = nI n from hn]
    refine xi_icmp_ge (tgt := 45) dX7_reconstruct_14 rfl (fun h14 => ?_) (fun h14 => ?_)
    · have e : j = n := ge_eq hj (by omega) h14
      subst e
      refine xi_aload_n dX7_reconstruct_45 rfl rfl ?_
      refine xi_getfield3 dX7_reconstruct_46 fX7_53 g0 r0_7 ?_
      refine xi_aload_n dX7_reconstruct_49 rfl rfl ?_
      refine xi_getfield3 dX7_reconstruct_50 fX7_36 g0 r0_4 ?_
      refine xi_aload_n dX7_reconstruct_53 rfl rfl ?_
      refine xi_getfield3 dX7_reconstruct_54 fX7_57 g0 r0_8 ?_
      refine cV1 (av := [_, _]) dX7_reconstruct_57 lX7_214 rfl ⟨rfl, rfl⟩ rfl ⟨(Nat.le_of_ble_eq_true rfl), (Nat.le_of_ble_eq_true rfl)⟩ ⟨(Nat.le_of_ble_eq_true rfl), (Nat.le_of_ble_eq_true rfl)⟩ (Nat.le_of_ble_eq_true rfl) g72 rfl rfl (c_rebuild (m := m) (n := j) (pa := pa) hT hg hn64 hnd) ?_
      refine xi_aload_n dX7_reconstruct_60 rfl rfl ?_
      refine cV1 (av := []) dX7_reconstruct_61 lX7_208 rfl ⟨rfl, rfl⟩ rfl ⟨(Nat.le_of_ble_eq_true rfl), (Nat.le_of_ble_eq_true rfl)⟩ ⟨(Nat.le_of_ble_eq_true rfl), (Nat.le_of_ble_eq_true rfl)⟩ (Nat.le_of_ble_eq_true rfl) g0 rfl rfl (c_repaint (m := m) (n := j) hT.1 hT.2.2.1 hn hn64 hnd hx hx8 hz hz8) ?_
      refine go_ret (r := some (.int _)) dX7_reconstruct_64 (Nat.le_of_ble_eq_true rfl) (Nat.le_of_ble_eq_true rfl) ?_
      exact ⟨by rw [hs]; rfl, by rw [hs]; rfl, rfl, rfl⟩
    · have hl : j < n := nge_lt hj (by omega) h14
      refine xi_aload_n dX7_reconstruct_17 rfl rfl ?_
      refine xi_getfield3 dX7_reconstruct_18 fX7_57 g0 r0_8 ?_
      refine xi_iload_n dX7_reconstruct_21 rfl rfl ?_
      refine xi_aload_n dX7_reconstruct_22 rfl rfl ?_
      refine xi_getfield3 dX7_reconstruct_23 fX7_10 g0 r0_0 ?_
      refine xi_getfield3 dX7_reconstruct_26 fX7_109 g1 r1_3 ?_
      refine xi_iload_n dX7_reconstruct_29 rfl rfl ?_
      refine ia dX7_reconstruct_30 g3 s3 rfl (by omega) (Nat.le_of_ble_eq_true rfl) ?_
      refine xi_aload_n dX7_reconstruct_31 rfl rfl ?_
      refine xi_getfield1 dX7_reconstruct_32 fX7_61 g0 ?_
      refine cS1 (av := [_, _]) dX7_reconstruct_35 lX7_201 rfl ⟨rfl, rfl⟩ rfl ⟨(Nat.le_of_ble_eq_true rfl), (Nat.le_of_ble_eq_true rfl)⟩ ⟨(Nat.le_of_ble_eq_true rfl), (Nat.le_of_ble_eq_true rfl)⟩ (Nat.le_of_ble_eq_true rfl) (c_turned) ?_
      refine is dX7_reconstruct_38 g75 s75 rfl (by omega) (Nat.le_of_ble_eq_true rfl) ?_
      refine xi_iinc (v := 1) dX7_reconstruct_39 rfl (by decide) (Nat.le_of_ble_eq_true rfl) ?_
      refine xi_goto (tgt := 6) dX7_reconstruct_42 rfl ?_
      refine xgo_pick [0, 1] rfl ?_
      rw [nI_1, setA_u]
      exact ih hl _ (by rw [itr_s, ← hs, ← hF]; rfl)
    )
  refine xi_aload_n dX7_reconstruct_0 rfl rfl ?_
  refine cV1 (av := []) dX7_reconstruct_1 lX7_102 rfl ⟨rfl, rfl⟩ rfl ⟨(Nat.le_of_ble_eq_true rfl), (Nat.le_of_ble_eq_true rfl)⟩ ⟨(Nat.le_of_ble_eq_true rfl), (Nat.le_of_ble_eq_true rfl)⟩ (Nat.le_of_ble_eq_true rfl) g0 rfl rfl (hrf) ?_
  refine xi_iconst (v := 0) dX7_reconstruct_4 (by decide) ?_
  refine xi_istore_n dX7_reconstruct_5 rfl (Nat.le_of_ble_eq_true rfl) ?_
  refine xgo_pick [0, 1] rfl ?_
  have l0 := loop 0 (Nat.zero_le _) (A1 75) rfl
  rw [setA_self] at l0
  exact l0
theorem p_suppress {c r n x sz len m : Nat} {pa : Nat → Nat} {v : Int32} {A A1 : xA} {B B1 : xB} {D : xD} (hrf : does0 mX7_refresh [.ref 0] A B D (eqQ none A1 B1 D) nx) (h : cOK A1 c r n x sz len) (hT : trOK A1 m pa) (hg : A1 36 2 = nI n) (hnd : ∀ p, p < n → ∃ q, q < 64 ∧ A1 42 p = nI q) : does0 mX7_suppress [.ref 0, .int v] A B D (rQ (btw v 0 15) (some (.int (chgV (A1 39) (A1 38) (recA A1 (fun p => imax 0 (trn (A1 2 p) (A1 0 9) - v)) pa n m 74) m))) (rpA (recA A1 (fun p => imax 0 (trn (A1 2 p) (A1 0 9) - v)) pa n m) x sz n) B1 D) (rX (fun E => ¬ btw v 0 15 ∧ E = sIA) A B D) := by
  refine does_go (by decide) rfl (Nat.le_of_ble_eq_true rfl) rfl ?_
  obtain ⟨hn, hn0, hn64⟩ := h.n
  obtain ⟨hx, hx8, hz, hz8⟩ := h.2.1
  generalize hF : (fun p => imax 0 (trn (A1 2 p) (A1 0 9) - v)) = F
  have loop := up_ind (n := n) (P := fun j => btw v 0 15 → ∀ s, s = itr (mkS F) j (A1 75) → go0 mX7_suppress (rQ (btw v 0 15) (some (.int (chgV (A1 39) (A1 38) (recA A1 F pa n m 74) m))) (rpA (recA A1 F pa n m) x sz n) B1 D) (rX (fun E => ¬ btw v 0 15 ∧ E = sIA) A B D) 1 6 13 [(0, .ref 0), (1, .int v), (2, .int (nI j))] [] (setA A1 75 s) B1 D) (fun j hj ih hbv s hs => by
    refine xi_iload_n dX7_suppress_13 rfl rfl ?_
    refine xi_aload_n dX7_suppress_14 rfl rfl ?_
    refine xi_getfield3 dX7_suppress_15 fX7_10 g0 r0_0 ?_
    refine cV1 (av := []) dX7_suppress_18 lX7_75 rfl ⟨rfl, rfl⟩ rfl ⟨(Nat.le_of_ble_eq_true rfl), (Nat.le_of_ble_eq_true rfl)⟩ ⟨(Nat.le_of_ble_eq_true rfl), (Nat.le_of_ble_eq_true rfl)⟩ (Nat.le_of_ble_eq_true rfl) g1 rfl rfl (c_size isPic_1) ?_
    rw [show setA A1 75 s 1 0 * setA A1 75 s 1 1 = nI n from hn]
    refine xi_icmp_ge (tgt := 58) dX7_suppress_21 rfl (fun h21 => ?_) (fun h21 => ?_)
    · have e : j = n := ge_eq hj (by omega) h21
      subst e
      refine xi_aload_n dX7_suppress_58 rfl rfl ?_
      refine xi_getfield3 dX7_suppress_59 fX7_53 g0 r0_7 ?_
      refine xi_aload_n dX7_suppress_62 rfl rfl ?_
      refine xi_getfield3 dX7_suppress_63 fX7_36 g0 r0_4 ?_
      refine xi_aload_n dX7_suppress_66 rfl rfl ?_
      refine xi_getfield3 dX7_suppress_67 fX7_57 g0 r0_8 ?_
      refine cV1 (av := [_, _]) dX7_suppress_70 lX7_214 rfl ⟨rfl, rfl⟩ rfl ⟨(Nat.le_of_ble_eq_true rfl), (Nat.le_of_ble_eq_true rfl)⟩ ⟨(Nat.le_of_ble_eq_true rfl), (Nat.le_of_ble_eq_true rfl)⟩ (Nat.le_of_ble_eq_true rfl) g72 rfl rfl (c_rebuild (m := m) (n := j) (pa := pa) hT hg hn64 hnd) ?_
      refine xi_aload_n dX7_suppress_73 rfl rfl ?_
      refine cV1 (av := []) dX7_suppress_74 lX7_208 rfl ⟨rfl, rfl⟩ rfl ⟨(Nat.le_of_ble_eq_true rfl), (Nat.le_of_ble_eq_true rfl)⟩ ⟨(Nat.le_of_ble_eq_true rfl), (Nat.le_of_ble_eq_true rfl)⟩ (Nat.le_of_ble_eq_true rfl) g0 rfl rfl (c_repaint (m := m) (n := j) hT.1 hT.2.2.1 hn hn64 hnd hx hx8 hz hz8) ?_
      refine go_ret (r := some (.int _)) dX7_suppress_77 (Nat.le_of_ble_eq_true rfl) (Nat.le_of_ble_eq_true rfl) ?_
      exact ⟨hbv, by rw [hs]; rfl, by rw [hs]; rfl, rfl, rfl⟩
    · have hl : j < n := nge_lt hj (by omega) h21
      refine xi_aload_n dX7_suppress_24 rfl rfl ?_
      refine xi_getfield3 dX7_suppress_25 fX7_57 g0 r0_8 ?_
      refine xi_iload_n dX7_suppress_28 rfl rfl ?_
      refine xi_iconst (v := 0) dX7_suppress_29 (by decide) ?_
      refine xi_aload_n dX7_suppress_30 rfl rfl ?_
      refine xi_getfield3 dX7_suppress_31 fX7_10 g0 r0_0 ?_
      refine xi_getfield3 dX7_suppress_34 fX7_95 g1 r1_2 ?_
      refine xi_iload_n dX7_suppress_37 rfl rfl ?_
      refine ia dX7_suppress_38 g2 s2 rfl (by omega) (Nat.le_of_ble_eq_true rfl) ?_
      refine xi_aload_n dX7_suppress_39 rfl rfl ?_
      refine xi_getfield1 dX7_suppress_40 fX7_61 g0 ?_
      refine cS1 (av := [_, _]) dX7_suppress_43 lX7_201 rfl ⟨rfl, rfl⟩ rfl ⟨(Nat.le_of_ble_eq_true rfl), (Nat.le_of_ble_eq_true rfl)⟩ ⟨(Nat.le_of_ble_eq_true rfl), (Nat.le_of_ble_eq_true rfl)⟩ (Nat.le_of_ble_eq_true rfl) (c_turned) ?_
      refine xi_iload_n dX7_suppress_46 rfl rfl ?_
      refine xi_isub dX7_suppress_47 ?_
      refine xi_mmax dX7_suppress_48 eX7_218 ⟨(Nat.le_of_ble_eq_true rfl), (Nat.le_of_ble_eq_true rfl)⟩ ⟨(Nat.le_of_ble_eq_true rfl), (Nat.le_of_ble_eq_true rfl)⟩ ?_
      refine is dX7_suppress_51 g75 s75 rfl (by omega) (Nat.le_of_ble_eq_true rfl) ?_
      refine xi_iinc (v := 1) dX7_suppress_52 rfl (by decide) (Nat.le_of_ble_eq_true rfl) ?_
      refine xi_goto (tgt := 13) dX7_suppress_55 rfl ?_
      refine xgo_pick [0, 1, 2] rfl ?_
      rw [nI_1, setA_u]
      exact ih hl hbv _ (by rw [itr_s, ← hs, ← hF]; rfl)
    )
  refine xi_iload_n dX7_suppress_0 rfl rfl ?_
  refine cS1 (av := [_]) dX7_suppress_1 lX7_91 rfl ⟨rfl, rfl⟩ rfl ⟨(Nat.le_of_ble_eq_true rfl), (Nat.le_of_ble_eq_true rfl)⟩ ⟨(Nat.le_of_ble_eq_true rfl), (Nat.le_of_ble_eq_true rfl)⟩ (Nat.le_of_ble_eq_true rfl) (c_isLevel) ?_
  refine cSI (av := [_]) dX7_suppress_4 lX7_71 rfl rfl rfl ⟨(Nat.le_of_ble_eq_true rfl), (Nat.le_of_ble_eq_true rfl), (Nat.le_of_ble_eq_true rfl), (Nat.le_of_ble_eq_true rfl)⟩ (Nat.le_of_ble_eq_true rfl) (c_needArgument) (fun q => ⟨⟨fun z => q ((isLev_ne v).mpr z), rfl⟩, rfl, rfl, rfl⟩) (fun h4 => ?_)
  refine xi_aload_n dX7_suppress_7 rfl rfl ?_
  refine cV1 (av := []) dX7_suppress_8 lX7_102 rfl ⟨rfl, rfl⟩ rfl ⟨(Nat.le_of_ble_eq_true rfl), (Nat.le_of_ble_eq_true rfl)⟩ ⟨(Nat.le_of_ble_eq_true rfl), (Nat.le_of_ble_eq_true rfl)⟩ (Nat.le_of_ble_eq_true rfl) g0 rfl rfl (hrf) ?_
  refine xi_iconst (v := 0) dX7_suppress_11 (by decide) ?_
  refine xi_istore_n dX7_suppress_12 rfl (Nat.le_of_ble_eq_true rfl) ?_
  refine xgo_pick [0, 1, 2] rfl ?_
  have l0 := loop 0 (Nat.zero_le _) ((isLev_ne v).mp h4) (A1 75) rfl
  rw [setA_self] at l0
  exact l0
theorem p_keepPeaks {c r n x sz len m lf : Nat} {pa : Nat → Nat} {v : Int32} {A A1 : xA} {B B1 : xB} {D : xD} (hrf : does0 mX7_refresh [.ref 0] A B D (eqQ none A1 B1 D) nx) (h : cOK A1 c r n x sz len) (hT : trOK A1 m pa) (hnd : ∀ p, p < n → ∃ q, q < 64 ∧ A1 42 p = nI q) (hlf : A1 35 3 = nI lf) (hlf64 : lf ≤ 64) (hle : ∀ i, i < lf → ∃ a, a < 64 ∧ A1 69 i = nI a) : does0 mX7_keepPeaks [.ref 0, .int v] A B D (rQ (btw v 0 64) (some (.int (chgV (A1 39) (A1 38) (klA A1 pa m (min v.toNatClampNeg lf) 74) m))) (rpA (klA A1 pa m (min v.toNatClampNeg lf)) x sz n) B1 D) (rX (fun E => ¬ btw v 0 64 ∧ E = sIA) A B D) := by
  refine does_go (by decide) rfl (Nat.le_of_ble_eq_true rfl) rfl ?_
  obtain ⟨hn, hn0, hn64⟩ := h.n
  obtain ⟨hx, hx8, hz, hz8⟩ := h.2.1
  refine xi_iload_n dX7_keepPeaks_0 rfl rfl ?_
  refine xi_if_lt (tgt := 14) dX7_keepPeaks_1 rfl (fun h1 => ?_) (fun h1 => ?_)
  · refine xi_iconst (v := 0) dX7_keepPeaks_14 (by decide) ?_
    refine cSI (av := [_]) dX7_keepPeaks_15 lX7_71 rfl rfl rfl ⟨(Nat.le_of_ble_eq_true rfl), (Nat.le_of_ble_eq_true rfl), (Nat.le_of_ble_eq_true rfl), (Nat.le_of_ble_eq_true rfl)⟩ (Nat.le_of_ble_eq_true rfl) (c_needArgument) (fun q => ⟨⟨fun z => by first | exact q (by decide) | exact z.1 h1 | exact z.2 h7, rfl⟩, rfl, rfl, rfl⟩) (fun h15 => ?_)
    exact absurd rfl h15
  · refine xi_iload_n dX7_keepPeaks_4 rfl rfl ?_
    refine xi_bipush (v := 64) dX7_keepPeaks_5 (by decide) ?_
    refine xi_icmp_gt (tgt := 14) dX7_keepPeaks_7 rfl (fun h7 => ?_) (fun h7 => ?_)
    · refine xi_iconst (v := 0) dX7_keepPeaks_14 (by decide) ?_
      refine cSI (av := [_]) dX7_keepPeaks_15 lX7_71 rfl rfl rfl ⟨(Nat.le_of_ble_eq_true rfl), (Nat.le_of_ble_eq_true rfl), (Nat.le_of_ble_eq_true rfl), (Nat.le_of_ble_eq_true rfl)⟩ (Nat.le_of_ble_eq_true rfl) (c_needArgument) (fun q => ⟨⟨fun z => by first | exact q (by decide) | exact z.1 h1 | exact z.2 h7, rfl⟩, rfl, rfl, rfl⟩) (fun h15 => ?_)
      exact absurd rfl h15
    · refine xi_iconst (v := 1) dX7_keepPeaks_10 (by decide) ?_
      refine xi_goto (tgt := 15) dX7_keepPeaks_11 rfl ?_
      refine cSI (av := [_]) dX7_keepPeaks_15 lX7_71 rfl rfl rfl ⟨(Nat.le_of_ble_eq_true rfl), (Nat.le_of_ble_eq_true rfl), (Nat.le_of_ble_eq_true rfl), (Nat.le_of_ble_eq_true rfl)⟩ (Nat.le_of_ble_eq_true rfl) (c_needArgument) (fun q => ⟨⟨fun z => by first | exact q (by decide) | exact z.1 h1 | exact z.2 h7, rfl⟩, rfl, rfl, rfl⟩) (fun h15 => ?_)
      obtain ⟨w, hw, rfl⟩ := nI_of h1
      refine xi_aload_n dX7_keepPeaks_18 rfl rfl ?_
      refine cV1 (av := []) dX7_keepPeaks_19 lX7_102 rfl ⟨rfl, rfl⟩ rfl ⟨(Nat.le_of_ble_eq_true rfl), (Nat.le_of_ble_eq_true rfl)⟩ ⟨(Nat.le_of_ble_eq_true rfl), (Nat.le_of_ble_eq_true rfl)⟩ (Nat.le_of_ble_eq_true rfl) g0 rfl rfl (hrf) ?_
      refine xi_aload_n dX7_keepPeaks_22 rfl rfl ?_
      refine xi_getfield3 dX7_keepPeaks_23 fX7_53 g0 r0_7 ?_
      refine xi_aload_n dX7_keepPeaks_26 rfl rfl ?_
      refine xi_getfield3 dX7_keepPeaks_27 fX7_36 g0 r0_4 ?_
      refine xi_aload_n dX7_keepPeaks_30 rfl rfl ?_
      refine xi_getfield3 dX7_keepPeaks_31 fX7_46 g0 r0_6 ?_
      refine xi_getfield3 dX7_keepPeaks_34 fX7_175 g55 r55_1 ?_
      refine xi_iload_n dX7_keepPeaks_37 rfl rfl ?_
      refine xi_aload_n dX7_keepPeaks_38 rfl rfl ?_
      refine xi_getfield3 dX7_keepPeaks_39 fX7_36 g0 r0_4 ?_
      refine xi_getfield0 dX7_keepPeaks_42 fX7_172 g35 ?_
      rw [hlf]
      refine xi_mmin dX7_keepPeaks_45 eX7_221 ⟨(Nat.le_of_ble_eq_true rfl), (Nat.le_of_ble_eq_true rfl)⟩ ⟨(Nat.le_of_ble_eq_true rfl), (Nat.le_of_ble_eq_true rfl)⟩ ?_
      rw [imin_nI hw (by omega)]
      refine cV1 (av := [_, _, _]) dX7_keepPeaks_48 lX7_224 rfl ⟨rfl, rfl⟩ rfl ⟨(Nat.le_of_ble_eq_true rfl), (Nat.le_of_ble_eq_true rfl)⟩ ⟨(Nat.le_of_ble_eq_true rfl), (Nat.le_of_ble_eq_true rfl)⟩ (Nat.le_of_ble_eq_true rfl) g72 rfl rfl (c_keepLeaves hT (by omega) (fun i hi => hle i (by omega))) ?_
      refine xi_aload_n dX7_keepPeaks_51 rfl rfl ?_
      refine cV1 (av := []) dX7_keepPeaks_52 lX7_208 rfl ⟨rfl, rfl⟩ rfl ⟨(Nat.le_of_ble_eq_true rfl), (Nat.le_of_ble_eq_true rfl)⟩ ⟨(Nat.le_of_ble_eq_true rfl), (Nat.le_of_ble_eq_true rfl)⟩ (Nat.le_of_ble_eq_true rfl) g0 rfl rfl (c_repaint (m := m) (n := n) hT.1 hT.2.2.1 hn hn64 hnd hx hx8 hz hz8) ?_
      refine go_ret (r := some (.int _)) dX7_keepPeaks_55 (Nat.le_of_ble_eq_true rfl) (Nat.le_of_ble_eq_true rfl) ?_
      exact ⟨⟨h1, h7⟩, by rw [nI_clamp hw]; rfl, by rw [nI_clamp hw], rfl, rfl⟩
/-- ifLevel: the picture with another level at p, in the trial picture -/
def tpA (A : xA) (p : Nat) (v : Int32) : xA := updA (copyA A 4 1) 5 p v
theorem p_ifLevel {c r n x sz len : Nat} {rk : Nat → Nat} {i v w : Int32} {A : xA} {B : xB} {D : xD} (h : cOK A c r n x sz len) (hei : A 0 10 = 0 ∨ A 0 10 = 1) (hrk : inR i (nI n) → btw v 0 15 → ∀ j, j < n → rk j < 16 ∧ trn (tpA A i.toNatClampNeg v 5 j) (A 0 9) = nI (rk j)) : does0 mX7_ifLevel [.ref 0, .int i, .int v, .int w] A B D (rQ (inR i (nI n) ∧ btw v 0 15 ∧ btw w 2 4) (some (.int (numV (bldA (tpA A i.toNatClampNeg v) B 45 n c r (A 0 10) rk) 45 w))) (bldA (tpA A i.toNatClampNeg v) B 45 n c r (A 0 10) rk) (bldB (tpA A i.toNatClampNeg v) B 45 n c r (A 0 10) rk) D) (rX (fun E => ¬ inR i (nI n) ∧ E = sIO ∨ inR i (nI n) ∧ ¬ (btw v 0 15 ∧ btw w 2 4) ∧ E = sIA) A B D) := by
  refine does_go (by decide) rfl (Nat.le_of_ble_eq_true rfl) rfl ?_
  obtain ⟨hn, hn0, hn64⟩ := h.n
  refine xi_aload_n dX7_ifLevel_0 rfl rfl ?_
  refine xi_iload_n dX7_ifLevel_1 rfl rfl ?_
  refine cVI (av := [_]) dX7_ifLevel_2 lX7_87 rfl rfl rfl ⟨(Nat.le_of_ble_eq_true rfl), (Nat.le_of_ble_eq_true rfl), (Nat.le_of_ble_eq_true rfl), (Nat.le_of_ble_eq_true rfl)⟩ (Nat.le_of_ble_eq_true rfl) g0 rfl rfl (c_needPixel) (fun q => ⟨Or.inl ⟨by rwa [hn] at q, rfl⟩, rfl, rfl, rfl⟩) (fun h2 => ?_)
  rw [hn] at h2
  obtain ⟨p, hp, rfl⟩ := inR_nI h2 (by omega)
  have hcl : (nI p).toNatClampNeg = p := nI_clamp (by omega)
  rw [hcl] at hrk ⊢
  refine xi_iload_n dX7_ifLevel_5 rfl rfl ?_
  refine cS1 (av := [_]) dX7_ifLevel_6 lX7_91 rfl ⟨rfl, rfl⟩ rfl ⟨(Nat.le_of_ble_eq_true rfl), (Nat.le_of_ble_eq_true rfl)⟩ ⟨(Nat.le_of_ble_eq_true rfl), (Nat.le_of_ble_eq_true rfl)⟩ (Nat.le_of_ble_eq_true rfl) (c_isLevel) ?_
  refine cSI (av := [_]) dX7_ifLevel_9 lX7_71 rfl rfl rfl ⟨(Nat.le_of_ble_eq_true rfl), (Nat.le_of_ble_eq_true rfl), (Nat.le_of_ble_eq_true rfl), (Nat.le_of_ble_eq_true rfl)⟩ (Nat.le_of_ble_eq_true rfl) (c_needArgument) (fun q => ⟨Or.inr ⟨h2, fun z => q ((isLev_ne v).mpr z.1), rfl⟩, rfl, rfl, rfl⟩) (fun h9 => ?_)
  refine xi_iload_n dX7_ifLevel_12 rfl rfl ?_
  refine xi_iconst (v := 2) dX7_ifLevel_13 (by decide) ?_
  refine xi_icmp_lt (tgt := 26) dX7_ifLevel_14 rfl (fun h14 => ?_) (fun h14 => ?_)
  · refine xi_iconst (v := 0) dX7_ifLevel_26 (by decide) ?_
    refine cSI (av := [_]) dX7_ifLevel_27 lX7_71 rfl rfl rfl ⟨(Nat.le_of_ble_eq_true rfl), (Nat.le_of_ble_eq_true rfl), (Nat.le_of_ble_eq_true rfl), (Nat.le_of_ble_eq_true rfl)⟩ (Nat.le_of_ble_eq_true rfl) (c_needArgument) (fun q => ⟨Or.inr ⟨h2, fun z => by first | exact q (by decide) | exact z.2.1 h14 | exact z.2.2 h19, rfl⟩, rfl, rfl, rfl⟩) (fun h27 => ?_)
    exact absurd rfl h27
  · refine xi_iload_n dX7_ifLevel_17 rfl rfl ?_
    refine xi_iconst (v := 4) dX7_ifLevel_18 (by decide) ?_
    refine xi_icmp_gt (tgt := 26) dX7_ifLevel_19 rfl (fun h19 => ?_) (fun h19 => ?_)
    · refine xi_iconst (v := 0) dX7_ifLevel_26 (by decide) ?_
      refine cSI (av := [_]) dX7_ifLevel_27 lX7_71 rfl rfl rfl ⟨(Nat.le_of_ble_eq_true rfl), (Nat.le_of_ble_eq_true rfl), (Nat.le_of_ble_eq_true rfl), (Nat.le_of_ble_eq_true rfl)⟩ (Nat.le_of_ble_eq_true rfl) (c_needArgument) (fun q => ⟨Or.inr ⟨h2, fun z => by first | exact q (by decide) | exact z.2.1 h14 | exact z.2.2 h19, rfl⟩, rfl, rfl, rfl⟩) (fun h27 => ?_)
      exact absurd rfl h27
    · refine xi_iconst (v := 1) dX7_ifLevel_22 (by decide) ?_
      refine xi_goto (tgt := 27) dX7_ifLevel_23 rfl ?_
      refine cSI (av := [_]) dX7_ifLevel_27 lX7_71 rfl rfl rfl ⟨(Nat.le_of_ble_eq_true rfl), (Nat.le_of_ble_eq_true rfl), (Nat.le_of_ble_eq_true rfl), (Nat.le_of_ble_eq_true rfl)⟩ (Nat.le_of_ble_eq_true rfl) (c_needArgument) (fun q => ⟨Or.inr ⟨h2, fun z => by first | exact q (by decide) | exact z.2.1 h14 | exact z.2.2 h19, rfl⟩, rfl, rfl, rfl⟩) (fun h27 => ?_)
      have hbv := (isLev_ne v).mp h9
      have hrk2 := hrk h2 hbv
      refine xi_aload_n dX7_ifLevel_30 rfl rfl ?_
      refine xi_getfield3 dX7_ifLevel_31 fX7_16 g0 r0_1 ?_
      refine xi_aload_n dX7_ifLevel_34 rfl rfl ?_
      refine xi_getfield3 dX7_ifLevel_35 fX7_10 g0 r0_0 ?_
      refine cV1 (av := [_]) dX7_ifLevel_38 lX7_228 rfl ⟨rfl, rfl⟩ rfl ⟨(Nat.le_of_ble_eq_true rfl), (Nat.le_of_ble_eq_true rfl)⟩ ⟨(Nat.le_of_ble_eq_true rfl), (Nat.le_of_ble_eq_true rfl)⟩ (Nat.le_of_ble_eq_true rfl) g4 rfl rfl (c_copyFrom isPic_4 isPic_1 (by decide)) ?_
      refine xi_aload_n dX7_ifLevel_41 rfl rfl ?_
      refine xi_getfield3 dX7_ifLevel_42 fX7_16 g0 r0_1 ?_
      refine xi_getfield3 dX7_ifLevel_45 fX7_95 g4 r4_2 ?_
      refine xi_iload_n dX7_ifLevel_48 rfl rfl ?_
      refine xi_iload_n dX7_ifLevel_49 rfl rfl ?_
      refine is dX7_ifLevel_50 g5 s5 rfl (by omega) (Nat.le_of_ble_eq_true rfl) ?_
      refine xi_aload_n dX7_ifLevel_51 rfl rfl ?_
      refine xi_getfield3 dX7_ifLevel_52 fX7_40 g0 r0_5 ?_
      refine xi_aload_n dX7_ifLevel_55 rfl rfl ?_
      refine xi_getfield3 dX7_ifLevel_56 fX7_16 g0 r0_1 ?_
      refine xi_aload_n dX7_ifLevel_59 rfl rfl ?_
      refine xi_getfield1 dX7_ifLevel_60 fX7_61 g0 ?_
      refine xi_aload_n dX7_ifLevel_63 rfl rfl ?_
      refine xi_getfield1 dX7_ifLevel_64 fX7_65 g0 ?_
      refine cV1 (av := [_, _, _]) dX7_ifLevel_67 lX7_231 rfl ⟨rfl, rfl⟩ rfl ⟨(Nat.le_of_ble_eq_true rfl), (Nat.le_of_ble_eq_true rfl)⟩ ⟨(Nat.le_of_ble_eq_true rfl), (Nat.le_of_ble_eq_true rfl)⟩ (Nat.le_of_ble_eq_true rfl) g45 rfl rfl (c_build (p := 4) (c := c) (r := r) (n := n) (rk := rk) (Or.inr rfl) isPic_4 (by show updA (copyA A 4 1) 5 p v 4 0 = _; rw [updA_n _ _ _ (by decide)]; unfold copyA; rw [cpA_n _ _ (by decide), cpA_n _ _ (by decide), updA_sj _ _ _ (by decide), updA_ss]; exact h.1.1) (by show updA (copyA A 4 1) 5 p v 4 1 = _; rw [updA_n _ _ _ (by decide)]; unfold copyA; rw [cpA_n _ _ (by decide), cpA_n _ _ (by decide), updA_ss]; exact h.1.2.1) h.1.2.2.2.2.2.1 h.1.2.2.2.2.2.2 hn64 (by show A 0 10 = 0 ∨ _; exact hei) hrk2 (fun i hi => ⟨by omega, by omega⟩)) ?_
      refine xi_aload_n dX7_ifLevel_70 rfl rfl ?_
      refine xi_getfield3 dX7_ifLevel_71 fX7_40 g0 r0_5 ?_
      refine xi_iload_n dX7_ifLevel_74 rfl rfl ?_
      refine cV1 (av := [_]) dX7_ifLevel_75 lX7_235 rfl ⟨rfl, rfl⟩ rfl ⟨(Nat.le_of_ble_eq_true rfl), (Nat.le_of_ble_eq_true rfl)⟩ ⟨(Nat.le_of_ble_eq_true rfl), (Nat.le_of_ble_eq_true rfl)⟩ (Nat.le_of_ble_eq_true rfl) g45 rfl rfl (c_numberOf (Or.inr rfl)) ?_
      refine go_ret (r := some (.int _)) dX7_ifLevel_78 (Nat.le_of_ble_eq_true rfl) (Nat.le_of_ble_eq_true rfl) ?_
      exact ⟨⟨h2, hbv, h14, h19⟩, rfl, rfl, rfl, rfl⟩

