/-! the model: threshold, reconstruction, peaks, ifLevel, digest -/
theorem reM_reM (va f0 : Nat → Int32) (se : Nat → Int64) (t' t u' u : Int32) (m : Nat) : reM va (reM va f0 se t' u' m m) se t u m m = reM va f0 se t u m m := by
  funext j; unfold reM; split <;> rfl
/-- the heap when k thresholds have been tried -/
def thH (A2 : xA) (B : xB) (m : Nat) : Nat → xA
  | 0 => A2
  | k + 1 => setA A2 92 (reM (A2 91) (A2 92) (B 84) (nI k) 1 m m)
theorem thH_s (A2 : xA) (B : xB) (m k : Nat) : setA (thH A2 B m k) 92 (reM (thH A2 B m k 91) (thH A2 B m k 92) (B 84) (nI k) 1 m m) = thH A2 B m (k + 1) := by
  cases k with
  | zero => rfl
  | succ k =>
    rw [show thH A2 B m (k + 1) = setA A2 92 (reM (A2 91) (A2 92) (B 84) (nI k) 1 m m) from rfl, show thH A2 B m (k + 1 + 1) = setA A2 92 (reM (A2 91) (A2 92) (B 84) (nI (k + 1)) 1 m m) from rfl, setA_setA, setA_s, setA_n _ _ (by decide), reM_reM]
def thM (A2 : xA) (B : xB) (m n : Nat) (bd : Int32) : Nat → Nat → Int32 × Nat
  | 0, t => (-1, t)
  | d + 1, t => if loV (thH A2 B m (t + 1)) B m 0 n ≤ bd then thM A2 B m n bd d (t + 1) else (nI t, t + 1)
theorem fo1 {a t : Int32} : fOK a t 1 ↔ (¬ isFAV a = 0 ∧ btw t 0 999) := ⟨fun h => ⟨h.1, h.2.1⟩, fun h => ⟨h.1, h.2, by unfold btw; decide⟩⟩
abbrev thA2 (A1 : xA) (B1 : xB) (c r n m w : Nat) : xA := setA (updA A1 76 0 0) 91 (vaM (updA A1 76 0 0) B1 c r n m w m)
theorem m_threshold {c r n m lf : Nat} {a bd : Int32} {A A1 : xA} {B B1 : xB} {D : xD} (hl : laid A B A1 B1) (hT : mT A1 c r n m lf) (hR : mRt A1 m) : does0 mX8_threshold [.ref 76, .int a, .int bd] A B D (mQ D (¬ isFAV a = 0 ∧ btw bd 0 999) True (some (.int (thM (thA2 A1 B1 c r n m a.toNatClampNeg) B1 m n bd 1000 0).1)) (thH (thA2 A1 B1 c r n m a.toNatClampNeg) B1 m (thM (thA2 A1 B1 c r n m a.toNatClampNeg) B1 m n bd 1000 0).2) B1 A B) nx := by
  refine does_go (by decide) rfl (Nat.le_of_ble_eq_true rfl) rfl ?_
  have hT2 := hT
  obtain ⟨hG, hm, hm0, hm64, hpa, h1, h2, h3, h4, h5⟩ := hT
  obtain ⟨hn, hn0, hn64⟩ := hG.n
  have loop : ∀ w, w < 12 → a = nI w → (¬ isFAV a = 0 ∧ btw bd 0 999) → ∀ j, j ≤ 1000 → thM (thA2 A1 B1 c r n m w) B1 m n bd (1000 - j) j = thM (thA2 A1 B1 c r n m w) B1 m n bd 1000 0 → go0 mX8_threshold (mQ D (¬ isFAV a = 0 ∧ btw bd 0 999) True (some (.int (thM (thA2 A1 B1 c r n m a.toNatClampNeg) B1 m n bd 1000 0).1)) (thH (thA2 A1 B1 c r n m a.toNatClampNeg) B1 m (thM (thA2 A1 B1 c r n m a.toNatClampNeg) B1 m n bd 1000 0).2) B1 A B) nx 0 0 34 [(0, .ref 76), (2, .int bd), (3, .int (nI j))] [] (thH (thA2 A1 B1 c r n m w) B1 m j) B1 D := by
    intro w hw ea hc
    subst ea
    rw [nI_clamp (by omega)]
    have e76 : ∀ k j, thH (thA2 A1 B1 c r n m w) B1 m k 76 j = updA A1 76 0 0 76 j := fun k j => by cases k <;> rfl
    have hA19 : ∀ k, thH (thA2 A1 B1 c r n m w) B1 m k 76 19 = nI m := fun k => (e76 k 19).trans hm
    have hAn : ∀ k, thH (thA2 A1 B1 c r n m w) B1 m k 76 1 * thH (thA2 A1 B1 c r n m w) B1 m k 76 2 = nI n := fun k => by rw [e76, e76]; exact hn
    have hNw : ∀ k, nwOK (thH (thA2 A1 B1 c r n m w) B1 m (k + 1)) n m := fun k => by
      refine ⟨hA19 _, hm0, hm64, hR, h4, ?_⟩
      show ¬ reM _ _ _ _ _ m m 0 = 0
      unfold reM
      rw [if_pos hm0, rm_0]
      decide
    have hst : ∀ k, setA (thH (thA2 A1 B1 c r n m w) B1 m k) 92 (reM (thH (thA2 A1 B1 c r n m w) B1 m k 91) (thH (thA2 A1 B1 c r n m w) B1 m k 92) (B1 84) (nI k) 1 m m) = thH (thA2 A1 B1 c r n m w) B1 m (k + 1) := fun k => thH_s _ _ _ _
    generalize thA2 A1 B1 c r n m w = A2 at *
    generalize hX : thM A2 B1 m n bd 1000 0 = X
    refine up_ind (fun j hj ih hx => ?_)
    refine xi_iload_n dX8_threshold_34 rfl rfl ?_
    refine xi_sipush (v := 999) dX8_threshold_35 (by decide) ?_
    refine xi_icmp_gt (tgt := 64) dX8_threshold_38 rfl (fun h38 => ?_) (fun h38 => ?_)
    · have e : j = 1000 := by have := (nI_ltI (a := 999) (b := j) (by decide) (by omega)).mp h38; omega
      subst e
      refine xi_iconst (v := (-1)) dX8_threshold_64 (by decide) ?_
      refine go_ret (r := some (.int _)) dX8_threshold_65 (Nat.le_of_ble_eq_true rfl) (Nat.le_of_ble_eq_true rfl) ?_
      exact ⟨rfl, Or.inl ⟨hc, trivial, by rw [← hx]; rfl, by rw [← hx]; rfl, rfl⟩⟩
    · have hl : j < 1000 := by have := mt (nI_ltI (a := 999) (b := j) (by decide) (by omega)).mpr h38; omega
      obtain ⟨d, hd⟩ : ∃ d, 1000 - j = d + 1 := ⟨1000 - j - 1, by omega⟩
      have hd2 : 1000 - (j + 1) = d := by omega
      rw [hd] at hx
      unfold thM at hx
      refine xi_aload_n dX8_threshold_41 rfl rfl ?_
      refine xi_iload_n dX8_threshold_42 rfl rfl ?_
      refine xi_iconst (v := 1) dX8_threshold_43 (by decide) ?_
      refine cV1 (av := [_, _]) dX8_threshold_44 lX8_266 rfl ⟨rfl, rfl⟩ rfl ⟨(Nat.le_of_ble_eq_true rfl), (Nat.le_of_ble_eq_true rfl)⟩ ⟨(Nat.le_of_ble_eq_true rfl), (Nat.le_of_ble_eq_true rfl)⟩ (Nat.le_of_ble_eq_true rfl) g76 rfl rfl (m_layRemains (m := m) (hA19 _) hm64) ?_
      rw [hst]
      refine xi_aload_n dX8_threshold_47 rfl rfl ?_
      refine xi_iconst (v := 0) dX8_threshold_48 (by decide) ?_
      refine cV1 (av := [_]) dX8_threshold_49 lX8_272 rfl ⟨rfl, rfl⟩ rfl ⟨(Nat.le_of_ble_eq_true rfl), (Nat.le_of_ble_eq_true rfl)⟩ ⟨(Nat.le_of_ble_eq_true rfl), (Nat.le_of_ble_eq_true rfl)⟩ (Nat.le_of_ble_eq_true rfl) g76 rfl rfl (m_lossNow (hAn _) hn64 (hNw _)) ?_
      refine xi_iload_n dX8_threshold_52 rfl rfl ?_
      refine xi_icmp_le (tgt := 58) dX8_threshold_53 rfl (fun h53 => ?_) (fun h53 => ?_)
      · refine xi_iinc (v := 1) dX8_threshold_58 rfl (by decide) (Nat.le_of_ble_eq_true rfl) ?_
        refine xi_goto (tgt := 34) dX8_threshold_61 rfl ?_
        refine xgo_pick [0, 2, 3] rfl ?_
        rw [nI_1]
        rw [if_pos h53] at hx
        exact ih hl (by rw [hd2]; exact hx)
      · refine xi_iload_n dX8_threshold_56 rfl rfl ?_
        refine go_ret (r := some (.int _)) dX8_threshold_57 (Nat.le_of_ble_eq_true rfl) (Nat.le_of_ble_eq_true rfl) ?_
        rw [if_neg h53] at hx
        exact ⟨rfl, Or.inl ⟨hc, trivial, by rw [← hx], by rw [← hx], rfl⟩⟩
  refine xi_aload_n dX8_threshold_0 rfl rfl ?_
  refine xi_iload_n dX8_threshold_1 rfl rfl ?_
  refine xi_iload_n dX8_threshold_2 rfl rfl ?_
  refine xi_iconst (v := 1) dX8_threshold_3 (by decide) ?_
  refine cS1 (av := [_, _, _]) dX8_threshold_4 lX8_259 rfl ⟨rfl, rfl⟩ rfl ⟨(Nat.le_of_ble_eq_true rfl), (Nat.le_of_ble_eq_true rfl)⟩ ⟨(Nat.le_of_ble_eq_true rfl), (Nat.le_of_ble_eq_true rfl)⟩ (Nat.le_of_ble_eq_true rfl) (m_isFilter) ?_
  refine xi_if_eq (tgt := 14) dX8_threshold_7 rfl (fun h7 => ?_) (fun h7 => ?_)
  · refine xi_iconst (v := 1) dX8_threshold_14 (by decide) ?_
    refine xi_putfield0 dX8_threshold_15 fX8_73 g76 pX8_73 ?_
    refine xi_aload_n dX8_threshold_18 rfl rfl ?_
    refine xi_getfield0 dX8_threshold_19 fX8_73 g76 ?_
    refine xi_if_le (tgt := 27) dX8_threshold_22 rfl (fun h => absurd h (show ¬ ((1 : Int32) ≤ 0) by decide)) (fun _ => ?_)
    refine xi_iconst (v := 0) dX8_threshold_25 (by decide) ?_
    refine go_ret (r := some (.int _)) dX8_threshold_26 (Nat.le_of_ble_eq_true rfl) (Nat.le_of_ble_eq_true rfl) ?_
    exact ⟨rfl, Or.inr (Or.inl ⟨fun z => (fi_eq _ _ _).mp h7 (fo1.mpr z), rfl, rfl, rfl⟩)⟩
  · have hp1 := (fi_ne _ _ _).mp h7
    obtain ⟨w, hw, ea⟩ := fo_nI hp1
    refine xi_iconst (v := 0) dX8_threshold_10 (by decide) ?_
    refine xi_goto (tgt := 15) dX8_threshold_11 rfl ?_
    refine xi_putfield0 dX8_threshold_15 fX8_73 g76 pX8_73 ?_
    refine xi_aload_n dX8_threshold_18 rfl rfl ?_
    refine xi_getfield0 dX8_threshold_19 fX8_73 g76 ?_
    refine xi_if_le (tgt := 27) dX8_threshold_22 rfl (fun _ => ?_) (fun h => absurd h (show ¬ (¬ (0 : Int32) ≤ 0) by decide))
    refine xi_aload_n dX8_threshold_27 rfl rfl ?_
    refine xi_iload_n dX8_threshold_28 rfl rfl ?_
    rw [ea]
    refine cV1 (av := [_]) dX8_threshold_29 lX8_262 rfl ⟨rfl, rfl⟩ rfl ⟨(Nat.le_of_ble_eq_true rfl), (Nat.le_of_ble_eq_true rfl)⟩ ⟨(Nat.le_of_ble_eq_true rfl), (Nat.le_of_ble_eq_true rfl)⟩ (Nat.le_of_ble_eq_true rfl) g76 rfl rfl ((i_fl (th := 0) (u := 1) hw (hl.1 0 D) hG hm hm64).1) ?_
    refine xi_iconst (v := 0) dX8_threshold_32 (by decide) ?_
    refine xi_istore_n dX8_threshold_33 rfl (Nat.le_of_ble_eq_true rfl) ?_
    refine xgo_pick [0, 2, 3] rfl ?_
    rw [ea] at loop hp1
    exact loop w hw rfl (fo1.mp hp1) 0 (by omega) rfl
/-- reconstruction: is a mark of t or more in the set s -/
def rcS (s : Int64) (mk : Nat → Int32) (t : Int32) (q : Nat) (b : Int32) : Int32 := if b = 0 then (if hasM s (nI q) = 0 then 0 else if mk q < t then 0 else 1) else 1
theorem rc_1 {s : Int64} {mk : Nat → Int32} {t : Int32} {a : Nat} (h : itr (rcS s mk t) a 0 = 1) : ∀ d, itr (rcS s mk t) (a + d) 0 = 1
  | 0 => h
  | d + 1 => by rw [← Nat.add_assoc, itr_s, rc_1 h d]; rfl
def rcV (A : xA) (B : xB) (m n p : Nat) : Nat → Int32
  | 0 => 0
  | t + 1 => if itr (rcS (B 84 (cfV (A 85) (B 84) (nI p) (nI (t + 1)) m (-1)).toNatClampNeg) (A 94) (nI (t + 1))) n 0 = 0 then rcV A B m n p t else nI (t + 1)
theorem i_reconstructed {n p u a : Nat} {X : Int32} {A : xA} {B : xB} {D : xD} (hn : A 76 1 * A 76 2 = nI n) (hn64 : n ≤ 64) (K : itr (rcS (B 84 a) (A 94) (nI (u + 1))) n 0 = 0 → go0 mX8_reconstructed (eqQ (some (.int X)) A B D) nx 0 0 67 [(0, .ref 76), (1, .int (nI p)), (2, .int (nI (u + 1)))] [] A B D) (K1 : ¬ itr (rcS (B 84 a) (A 94) (nI (u + 1))) n 0 = 0 → X = nI (u + 1)) : ∀ q, q ≤ n → itr (rcS (B 84 a) (A 94) (nI (u + 1))) q 0 = 0 → go0 mX8_reconstructed (eqQ (some (.int X)) A B D) nx 0 0 30 [(0, .ref 76), (1, .int (nI p)), (2, .int (nI (u + 1))), (3, .long (B 84 a)), (5, .int (nI q))] [] A B D :=
  up_ind (fun q hq ihq h0 => by
    have hs := itr_s (rcS (B 84 a) (A 94) (nI (u + 1))) q 0
    rw [h0] at hs
    unfold rcS at hs
    rw [if_pos rfl] at hs
    refine xi_iload dX8_reconstructed_30 rfl ?_
    refine xi_aload_n dX8_reconstructed_32 rfl rfl ?_
    refine cV1 (av := []) dX8_reconstructed_33 lX8_76 rfl ⟨rfl, rfl⟩ rfl ⟨(Nat.le_of_ble_eq_true rfl), (Nat.le_of_ble_eq_true rfl)⟩ ⟨(Nat.le_of_ble_eq_true rfl), (Nat.le_of_ble_eq_true rfl)⟩ (Nat.le_of_ble_eq_true rfl) g76 rfl rfl (m_pixels) ?_
    rw [hn]
    refine xi_icmp_ge (tgt := 67) dX8_reconstructed_36 rfl (fun h36 => ?_) (fun h36 => ?_)
    · have e : q = n := ge_eq hq (by omega) h36
      subst e
      refine xgo_pick [0, 1, 2] rfl ?_
      exact K h0
    · have hl : q < n := nge_lt hq (by omega) h36
      refine xi_lload_n dX8_reconstructed_39 rfl rfl ?_
      refine xi_iload dX8_reconstructed_40 rfl ?_
      refine cS1 (av := [_, _]) dX8_reconstructed_42 lX8_151 rfl ⟨rfl, rfl⟩ rfl ⟨(Nat.le_of_ble_eq_true rfl), (Nat.le_of_ble_eq_true rfl)⟩ ⟨(Nat.le_of_ble_eq_true rfl), (Nat.le_of_ble_eq_true rfl)⟩ (Nat.le_of_ble_eq_true rfl) (m_has) ?_
      refine xi_if_eq (tgt := 61) dX8_reconstructed_45 rfl (fun h45 => ?_) (fun h45 => ?_)
      · refine xi_iinc (v := 1) dX8_reconstructed_61 rfl (by decide) (Nat.le_of_ble_eq_true rfl) ?_
        refine xi_goto (tgt := 30) dX8_reconstructed_64 rfl ?_
        refine xgo_pick [0, 1, 2, 3, 5] rfl ?_
        rw [nI_1]
        exact ihq hl (by rw [if_pos h45] at hs; exact hs)
      · refine xi_aload_n dX8_reconstructed_48 rfl rfl ?_
        refine xi_getfield3 dX8_reconstructed_49 fX8_70 g76 r76_31 ?_
        refine xi_iload dX8_reconstructed_52 rfl ?_
        refine ia dX8_reconstructed_54 g94 s94 rfl (by omega) (Nat.le_of_ble_eq_true rfl) ?_
        refine xi_iload_n dX8_reconstructed_55 rfl rfl ?_
        refine xi_icmp_lt (tgt := 61) dX8_reconstructed_56 rfl (fun h56 => ?_) (fun h56 => ?_)
        · refine xi_iinc (v := 1) dX8_reconstructed_61 rfl (by decide) (Nat.le_of_ble_eq_true rfl) ?_
          refine xi_goto (tgt := 30) dX8_reconstructed_64 rfl ?_
          refine xgo_pick [0, 1, 2, 3, 5] rfl ?_
          rw [nI_1]
          exact ihq hl (by rw [if_neg h45, if_pos h56] at hs; exact hs)
        · refine xi_iload_n dX8_reconstructed_59 rfl rfl ?_
          refine go_ret (r := some (.int _)) dX8_reconstructed_60 (Nat.le_of_ble_eq_true rfl) (Nat.le_of_ble_eq_true rfl) ?_
          rw [if_neg h45, if_neg h56] at hs
          have h1 := rc_1 hs (n - (q + 1))
          rw [show q + 1 + (n - (q + 1)) = n by omega] at h1
          exact ⟨by rw [K1 (fun z => by rw [h1] at z; exact absurd z (by decide))], rfl, rfl, rfl⟩
    )
theorem m_reconstructed {n m p t0 : Nat} (hp : p < n) {A : xA} {B : xB} {D : xD} (hn : A 76 1 * A 76 2 = nI n) (hn64 : n ≤ 64) (hm : A 76 19 = nI m) (hm64 : m ≤ 64) (ht : trn (A 77 p) (A 76 5) = nI t0) (ht16 : t0 < 16) (hcf : ∀ t, 0 < t → t ≤ t0 → ∃ a, a < m ∧ cfV (A 85) (B 84) (nI p) (nI t) m (-1) = nI a) : does0 mX8_reconstructed [.ref 76, .int (nI p)] A B D (eqQ (some (.int (rcV A B m n p t0))) A B D) nx := by
  refine does_go (by decide) rfl (Nat.le_of_ble_eq_true rfl) rfl ?_
  generalize hX : rcV A B m n p t0 = X
  have loop := dn_ind (P := fun t => t ≤ t0 → rcV A B m n p t = X → go0 mX8_reconstructed (eqQ (some (.int X)) A B D) nx 0 0 11 [(0, .ref 76), (1, .int (nI p)), (2, .int (nI t))] [] A B D) (fun t ih htt hx => by
    refine xi_iload_n dX8_reconstructed_11 rfl rfl ?_
    refine xi_if_le (tgt := 73) dX8_reconstructed_12 rfl (fun h12 => ?_) (fun h12 => ?_)
    · have e : t = 0 := nI_le0 (by omega) h12
      subst e
      refine xi_iconst (v := 0) dX8_reconstructed_73 (by decide) ?_
      refine go_ret (r := some (.int _)) dX8_reconstructed_74 (Nat.le_of_ble_eq_true rfl) (Nat.le_of_ble_eq_true rfl) ?_
      exact ⟨by rw [← hx]; rfl, rfl, rfl, rfl⟩
    · obtain ⟨u, rfl⟩ := nI_gt0 h12
      obtain ⟨a, ha, ea⟩ := hcf (u + 1) (by omega) htt
      unfold rcV at hx
      rw [ea, nI_clamp (by omega)] at hx
      refine xi_aload_n dX8_reconstructed_15 rfl rfl ?_
      refine xi_getfield3 dX8_reconstructed_16 fX8_38 g76 r76_20 ?_
      refine xi_aload_n dX8_reconstructed_19 rfl rfl ?_
      refine xi_iload_n dX8_reconstructed_20 rfl rfl ?_
      refine xi_iload_n dX8_reconstructed_21 rfl rfl ?_
      refine cV1 (av := [_, _]) dX8_reconstructed_22 lX8_253 rfl ⟨rfl, rfl⟩ rfl ⟨(Nat.le_of_ble_eq_true rfl), (Nat.le_of_ble_eq_true rfl)⟩ ⟨(Nat.le_of_ble_eq_true rfl), (Nat.le_of_ble_eq_true rfl)⟩ (Nat.le_of_ble_eq_true rfl) g76 rfl rfl (m_componentOf hm hm64) ?_
      rw [ea]
      refine la dX8_reconstructed_25 g84 s84 rfl (by omega) (Nat.le_of_ble_eq_true rfl) ?_
      refine xi_lstore_n dX8_reconstructed_26 rfl (Nat.le_of_ble_eq_true rfl) ?_
      refine xi_iconst (v := 0) dX8_reconstructed_27 (by decide) ?_
      refine xi_istore dX8_reconstructed_28 (Nat.le_of_ble_eq_true rfl) ?_
      refine xgo_pick [0, 1, 2, 3, 5] rfl ?_
      refine i_reconstructed hn hn64 (fun h0 => ?_) (fun h0 => by rw [if_neg h0] at hx; exact hx.symm) 0 (Nat.zero_le _) rfl
      rw [if_pos h0] at hx
      refine xi_iinc (v := (-1)) dX8_reconstructed_67 rfl (by decide) (Nat.le_of_ble_eq_true rfl) ?_
      refine xi_goto (tgt := 11) dX8_reconstructed_70 rfl ?_
      refine xgo_pick [0, 1, 2] rfl ?_
      rw [pk_m1]
      exact ih u rfl (by omega) hx
    )
  refine xi_aload_n dX8_reconstructed_0 rfl rfl ?_
  refine xi_aload_n dX8_reconstructed_1 rfl rfl ?_
  refine xi_getfield3 dX8_reconstructed_2 fX8_16 g76 r76_3 ?_
  refine xi_iload_n dX8_reconstructed_5 rfl rfl ?_
  refine ia dX8_reconstructed_6 g77 s77 rfl (by omega) (Nat.le_of_ble_eq_true rfl) ?_
  refine cV1 (av := [_]) dX8_reconstructed_7 lX8_159 rfl ⟨rfl, rfl⟩ rfl ⟨(Nat.le_of_ble_eq_true rfl), (Nat.le_of_ble_eq_true rfl)⟩ ⟨(Nat.le_of_ble_eq_true rfl), (Nat.le_of_ble_eq_true rfl)⟩ (Nat.le_of_ble_eq_true rfl) g76 rfl rfl (m_rankOf) ?_
  rw [ht]
  refine xi_istore_n dX8_reconstructed_10 rfl (Nat.le_of_ble_eq_true rfl) ?_
  refine xgo_pick [0, 1, 2] rfl ?_
  exact loop t0 (Nat.le_refl _) hX
theorem rcV_93 (A : xA) (B : xB) (f : Nat → Int32) (m n p : Nat) : ∀ t, rcV (setA A 93 f) B m n p t = rcV A B m n p t
  | 0 => rfl
  | t + 1 => by unfold rcV; rw [rcV_93 A B f m n p t]; rfl
/-- what reconstructed wants of the heap -/
def rcOK (A : xA) (B : xB) (n m : Nat) : Prop := A 76 19 = nI m ∧ m ≤ 64 ∧ ∀ p, p < n → ∃ t0, t0 < 16 ∧ rkM A p = nI t0 ∧ ∀ t, 0 < t → t ≤ t0 → ∃ a, a < m ∧ cfV (A 85) (B 84) (nI p) (nI t) m (-1) = nI a
def rcA (A : xA) (B : xB) (m n k : Nat) : xA := setA A 93 (mkF A (fun p => rcV A B m n p (rkM A p).toNatClampNeg) k)
theorem m_takeReconstructed {n m sz : Nat} {A A1 : xA} {B B1 : xB} {D : xD} (hlt : does0 mX8_layTree [.ref 76] A B D (eqQ none A1 B1 D) nx) (hn : A1 76 1 * A1 76 2 = nI n) (hn64 : n ≤ 64) (h : rcOK A1 B1 n m) (hz : A1 76 7 = nI sz) (hz8 : sz ≤ 8) : does0 mX8_takeReconstructed [.ref 76] A B D (eqQ (some (.int (mdR (rcA A1 B1 m n n) n).1)) (mdA (rcA A1 B1 m n n) sz n) B1 D) nx := by
  refine does_go (by decide) rfl (Nat.le_of_ble_eq_true rfl) rfl ?_
  have loop := up_ind (n := n) (P := fun j => go0 mX8_takeReconstructed (eqQ (some (.int (mdR (rcA A1 B1 m n n) n).1)) (mdA (rcA A1 B1 m n n) sz n) B1 D) nx 0 0 6 [(0, .ref 76), (1, .int (nI j))] [] (rcA A1 B1 m n j) B1 D) (fun j hj ih => by
    refine xi_iload_n dX8_takeReconstructed_6 rfl rfl ?_
    refine xi_aload_n dX8_takeReconstructed_7 rfl rfl ?_
    refine cV1 (av := []) dX8_takeReconstructed_8 lX8_76 rfl ⟨rfl, rfl⟩ rfl ⟨(Nat.le_of_ble_eq_true rfl), (Nat.le_of_ble_eq_true rfl)⟩ ⟨(Nat.le_of_ble_eq_true rfl), (Nat.le_of_ble_eq_true rfl)⟩ (Nat.le_of_ble_eq_true rfl) g76 rfl rfl (m_pixels) ?_
    rw [show rcA A1 B1 m n j 76 1 * rcA A1 B1 m n j 76 2 = nI n from hn]
    refine xi_icmp_ge (tgt := 31) dX8_takeReconstructed_11 rfl (fun h11 => ?_) (fun h11 => ?_)
    · have e : j = n := ge_eq hj (by omega) h11
      subst e
      refine xi_aload_n dX8_takeReconstructed_31 rfl rfl ?_
      refine cV1 (av := []) dX8_takeReconstructed_32 lX8_280 rfl ⟨rfl, rfl⟩ rfl ⟨(Nat.le_of_ble_eq_true rfl), (Nat.le_of_ble_eq_true rfl)⟩ ⟨(Nat.le_of_ble_eq_true rfl), (Nat.le_of_ble_eq_true rfl)⟩ (Nat.le_of_ble_eq_true rfl) g76 rfl rfl (m_takeMade (A := rcA A1 B1 m j j) hn hn64 hz hz8) ?_
      refine go_ret (r := some (.int _)) dX8_takeReconstructed_35 (Nat.le_of_ble_eq_true rfl) (Nat.le_of_ble_eq_true rfl) ?_
      exact ⟨rfl, rfl, rfl, rfl⟩
    · have hl : j < n := nge_lt hj (by omega) h11
      obtain ⟨t0, ht0, e0, hcf⟩ := h.2.2 j hl
      refine xi_aload_n dX8_takeReconstructed_14 rfl rfl ?_
      refine xi_getfield3 dX8_takeReconstructed_15 fX8_67 g76 r76_30 ?_
      refine xi_iload_n dX8_takeReconstructed_18 rfl rfl ?_
      refine xi_aload_n dX8_takeReconstructed_19 rfl rfl ?_
      refine xi_iload_n dX8_takeReconstructed_20 rfl rfl ?_
      refine cV1 (av := [_]) dX8_takeReconstructed_21 lX8_286 rfl ⟨rfl, rfl⟩ rfl ⟨(Nat.le_of_ble_eq_true rfl), (Nat.le_of_ble_eq_true rfl)⟩ ⟨(Nat.le_of_ble_eq_true rfl), (Nat.le_of_ble_eq_true rfl)⟩ (Nat.le_of_ble_eq_true rfl) g76 rfl rfl (m_reconstructed (A := rcA A1 B1 m n j) hl hn hn64 h.1 h.2.1 e0 ht0 hcf) ?_
      refine is dX8_takeReconstructed_24 g93 s93 rfl (by omega) (Nat.le_of_ble_eq_true rfl) ?_
      refine xi_iinc (v := 1) dX8_takeReconstructed_25 rfl (by decide) (Nat.le_of_ble_eq_true rfl) ?_
      refine xi_goto (tgt := 6) dX8_takeReconstructed_28 rfl ?_
      refine xgo_pick [0, 1] rfl ?_
      have q := ih hl
      rw [show rcA A1 B1 m n (j + 1) = updA (rcA A1 B1 m n j) 93 j (rcV (rcA A1 B1 m n j) B1 m n j t0) by
        unfold rcA
        rw [setA_u, mkF_s, rcV_93]
        simp only [e0]
        rw [nI_clamp (by omega)]] at q
      rw [nI_1]
      exact q
    )
  refine xi_aload_n dX8_takeReconstructed_0 rfl rfl ?_
  refine cV1 (av := []) dX8_takeReconstructed_1 lX8_113 rfl ⟨rfl, rfl⟩ rfl ⟨(Nat.le_of_ble_eq_true rfl), (Nat.le_of_ble_eq_true rfl)⟩ ⟨(Nat.le_of_ble_eq_true rfl), (Nat.le_of_ble_eq_true rfl)⟩ (Nat.le_of_ble_eq_true rfl) g76 rfl rfl (hlt) ?_
  refine xi_iconst (v := 0) dX8_takeReconstructed_4 (by decide) ?_
  refine xi_istore_n dX8_takeReconstructed_5 rfl (Nat.le_of_ble_eq_true rfl) ?_
  refine xgo_pick [0, 1] rfl ?_
  have l0 := loop 0 (Nat.zero_le _)
  rw [show rcA A1 B1 m n 0 = A1 by unfold rcA; rw [show mkF A1 (fun p => rcV A1 B1 m n p (rkM A1 p).toNatClampNeg) 0 = A1 93 by funext i; simp [mkF], setA_self]] at l0
  exact l0
def mk94 (old f : Nat → Int32) (k j : Nat) : Int32 := if j < k then f j else old j
theorem mk94_s (old f : Nat → Int32) (k : Nat) : mk94 old f (k + 1) = upd (mk94 old f k) k (f k) := by funext i; unfold mk94 upd; grind
theorem mk94_0 (old f : Nat → Int32) : mk94 old f 0 = old := by funext i; simp [mk94]
abbrev mrA (A : xA) (f : Nat → Int32) : xA := setA (updA A 76 0 0) 94 f
theorem m_reconstruct {c r n m sz : Nat} {A A1 : xA} {B B1 : xB} {D : xD} (hG : mG A c r n) (hG1 : mG A1 c r n) (hl4 : ∀ f D, does0 mX8_layTree [.ref 76] (mrA A f) B D (eqQ none (mrA A1 f) B1 D) nx) (h : rcOK A1 B1 n m) (hz : A1 76 7 = nI sz) (hz8 : sz ≤ 8) : does0 mX8_reconstruct [.ref 76] A B D (eqQ (some (.int (mdR (rcA (mrA A1 (mk94 (A 94) (fun p => trn (A 78 p) (A 76 5)) n)) B1 m n n) n).1)) (mdA (rcA (mrA A1 (mk94 (A 94) (fun p => trn (A 78 p) (A 76 5)) n)) B1 m n n) sz n) B1 D) nx := by
  refine does_go (by decide) rfl (Nat.le_of_ble_eq_true rfl) rfl ?_
  obtain ⟨hn, hn0, hn64⟩ := hG.n
  obtain ⟨hn1, -, -⟩ := hG1.n
  have loop := up_ind (n := n) (P := fun j => go0 mX8_reconstruct (eqQ (some (.int (mdR (rcA (mrA A1 (mk94 (A 94) (fun p => trn (A 78 p) (A 76 5)) n)) B1 m n n) n).1)) (mdA (rcA (mrA A1 (mk94 (A 94) (fun p => trn (A 78 p) (A 76 5)) n)) B1 m n n) sz n) B1 D) nx 0 0 7 [(0, .ref 76), (1, .int (nI j))] [] (mrA A (mk94 (A 94) (fun p => trn (A 78 p) (A 76 5)) j)) B D) (fun j hj ih => by
    refine xi_iload_n dX8_reconstruct_7 rfl rfl ?_
    refine xi_aload_n dX8_reconstruct_8 rfl rfl ?_
    refine cV1 (av := []) dX8_reconstruct_9 lX8_76 rfl ⟨rfl, rfl⟩ rfl ⟨(Nat.le_of_ble_eq_true rfl), (Nat.le_of_ble_eq_true rfl)⟩ ⟨(Nat.le_of_ble_eq_true rfl), (Nat.le_of_ble_eq_true rfl)⟩ (Nat.le_of_ble_eq_true rfl) g76 rfl rfl (m_pixels) ?_
    rw [show mrA A (mk94 (A 94) (fun p => trn (A 78 p) (A 76 5)) j) 76 1 * mrA A (mk94 (A 94) (fun p => trn (A 78 p) (A 76 5)) j) 76 2 = nI n from hn]
    refine xi_icmp_ge (tgt := 37) dX8_reconstruct_12 rfl (fun h12 => ?_) (fun h12 => ?_)
    · have e : j = n := ge_eq hj (by omega) h12
      subst e
      refine xi_aload_n dX8_reconstruct_37 rfl rfl ?_
      refine cV1 (av := []) dX8_reconstruct_38 lX8_289 rfl ⟨rfl, rfl⟩ rfl ⟨(Nat.le_of_ble_eq_true rfl), (Nat.le_of_ble_eq_true rfl)⟩ ⟨(Nat.le_of_ble_eq_true rfl), (Nat.le_of_ble_eq_true rfl)⟩ (Nat.le_of_ble_eq_true rfl) g76 rfl rfl (m_takeReconstructed (hl4 _ _) (show A1 76 1 * A1 76 2 = nI j from hn1) hn64 h hz hz8) ?_
      refine go_ret (r := some (.int _)) dX8_reconstruct_41 (Nat.le_of_ble_eq_true rfl) (Nat.le_of_ble_eq_true rfl) ?_
      exact ⟨rfl, rfl, rfl, rfl⟩
    · have hl : j < n := nge_lt hj (by omega) h12
      refine xi_aload_n dX8_reconstruct_15 rfl rfl ?_
      refine xi_getfield3 dX8_reconstruct_16 fX8_70 g76 r76_31 ?_
      refine xi_iload_n dX8_reconstruct_19 rfl rfl ?_
      refine xi_aload_n dX8_reconstruct_20 rfl rfl ?_
      refine xi_aload_n dX8_reconstruct_21 rfl rfl ?_
      refine xi_getfield3 dX8_reconstruct_22 fX8_20 g76 r76_4 ?_
      refine xi_iload_n dX8_reconstruct_25 rfl rfl ?_
      refine ia dX8_reconstruct_26 g78 s78 rfl (by omega) (Nat.le_of_ble_eq_true rfl) ?_
      refine cV1 (av := [_]) dX8_reconstruct_27 lX8_159 rfl ⟨rfl, rfl⟩ rfl ⟨(Nat.le_of_ble_eq_true rfl), (Nat.le_of_ble_eq_true rfl)⟩ ⟨(Nat.le_of_ble_eq_true rfl), (Nat.le_of_ble_eq_true rfl)⟩ (Nat.le_of_ble_eq_true rfl) g76 rfl rfl (m_rankOf) ?_
      refine is dX8_reconstruct_30 g94 s94 rfl (by omega) (Nat.le_of_ble_eq_true rfl) ?_
      refine xi_iinc (v := 1) dX8_reconstruct_31 rfl (by decide) (Nat.le_of_ble_eq_true rfl) ?_
      refine xi_goto (tgt := 7) dX8_reconstruct_34 rfl ?_
      refine xgo_pick [0, 1] rfl ?_
      rw [nI_1, setA_u]
      have q := ih hl
      rw [mk94_s] at q
      exact q
    )
  refine xi_aload_n dX8_reconstruct_0 rfl rfl ?_
  refine xi_iconst (v := 0) dX8_reconstruct_1 (by decide) ?_
  refine xi_putfield0 dX8_reconstruct_2 fX8_73 g76 pX8_73 ?_
  refine xi_iconst (v := 0) dX8_reconstruct_5 (by decide) ?_
  refine xi_istore_n dX8_reconstruct_6 rfl (Nat.le_of_ble_eq_true rfl) ?_
  refine xgo_pick [0, 1] rfl ?_
  have l0 := loop 0 (Nat.zero_le _)
  rw [mk94_0, show mrA A (A 94) = updA A 76 0 0 from setA_self (updA A 76 0 0) 94] at l0
  exact l0
theorem m_suppress {c r n m sz : Nat} {v : Int32} {A A1 : xA} {B B1 : xB} {D : xD} (hG : mG A c r n) (hG1 : mG A1 c r n) (hl4 : ∀ f D, does0 mX8_layTree [.ref 76] (mrA A f) B D (eqQ none (mrA A1 f) B1 D) nx) (h : rcOK A1 B1 n m) (hz : A1 76 7 = nI sz) (hz8 : sz ≤ 8) : does0 mX8_suppress [.ref 76, .int v] A B D (mQ D (btw v 0 15) True (some (.int (mdR (rcA (mrA A1 (mk94 (A 94) (fun p => grV (trn (A 77 p) (A 76 5) - v) 0) n)) B1 m n n) n).1)) (mdA (rcA (mrA A1 (mk94 (A 94) (fun p => grV (trn (A 77 p) (A 76 5) - v) 0) n)) B1 m n n) sz n) B1 A B) nx := by
  refine does_go (by decide) rfl (Nat.le_of_ble_eq_true rfl) rfl ?_
  obtain ⟨hn, hn0, hn64⟩ := hG.n
  obtain ⟨hn1, -, -⟩ := hG1.n
  have loop : btw v 0 15 → ∀ j, j ≤ n → go0 mX8_suppress (mQ D (btw v 0 15) True (some (.int (mdR (rcA (mrA A1 (mk94 (A 94) (fun p => grV (trn (A 77 p) (A 76 5) - v) 0) n)) B1 m n n) n).1)) (mdA (rcA (mrA A1 (mk94 (A 94) (fun p => grV (trn (A 77 p) (A 76 5) - v) 0) n)) B1 m n n) sz n) B1 A B) nx 0 0 30 [(0, .ref 76), (1, .int v), (2, .int (nI j))] [] (mrA A (mk94 (A 94) (fun p => grV (trn (A 77 p) (A 76 5) - v) 0) j)) B D := by
    intro hc
    refine up_ind (fun j hj ih => ?_)
    refine xi_iload_n dX8_suppress_30 rfl rfl ?_
    refine xi_aload_n dX8_suppress_31 rfl rfl ?_
    refine cV1 (av := []) dX8_suppress_32 lX8_76 rfl ⟨rfl, rfl⟩ rfl ⟨(Nat.le_of_ble_eq_true rfl), (Nat.le_of_ble_eq_true rfl)⟩ ⟨(Nat.le_of_ble_eq_true rfl), (Nat.le_of_ble_eq_true rfl)⟩ (Nat.le_of_ble_eq_true rfl) g76 rfl rfl (m_pixels) ?_
    rw [show mrA A (mk94 (A 94) (fun p => grV (trn (A 77 p) (A 76 5) - v) 0) j) 76 1 * mrA A (mk94 (A 94) (fun p => grV (trn (A 77 p) (A 76 5) - v) 0) j) 76 2 = nI n from hn]
    refine xi_icmp_ge (tgt := 66) dX8_suppress_35 rfl (fun h35 => ?_) (fun h35 => ?_)
    · have e : j = n := ge_eq hj (by omega) h35
      subst e
      refine xi_aload_n dX8_suppress_66 rfl rfl ?_
      refine cV1 (av := []) dX8_suppress_67 lX8_289 rfl ⟨rfl, rfl⟩ rfl ⟨(Nat.le_of_ble_eq_true rfl), (Nat.le_of_ble_eq_true rfl)⟩ ⟨(Nat.le_of_ble_eq_true rfl), (Nat.le_of_ble_eq_true rfl)⟩ (Nat.le_of_ble_eq_true rfl) g76 rfl rfl (m_takeReconstructed (hl4 _ _) (show A1 76 1 * A1 76 2 = nI j from hn1) hn64 h hz hz8) ?_
      refine go_ret (r := some (.int _)) dX8_suppress_70 (Nat.le_of_ble_eq_true rfl) (Nat.le_of_ble_eq_true rfl) ?_
      exact ⟨rfl, Or.inl ⟨hc, trivial, rfl, rfl, rfl⟩⟩
    · have hl : j < n := nge_lt hj (by omega) h35
      refine xi_aload_n dX8_suppress_38 rfl rfl ?_
      refine xi_getfield3 dX8_suppress_39 fX8_70 g76 r76_31 ?_
      refine xi_iload_n dX8_suppress_42 rfl rfl ?_
      refine xi_aload_n dX8_suppress_43 rfl rfl ?_
      refine xi_aload_n dX8_suppress_44 rfl rfl ?_
      refine xi_getfield3 dX8_suppress_45 fX8_16 g76 r76_3 ?_
      refine xi_iload_n dX8_suppress_48 rfl rfl ?_
      refine ia dX8_suppress_49 g77 s77 rfl (by omega) (Nat.le_of_ble_eq_true rfl) ?_
      refine cV1 (av := [_]) dX8_suppress_50 lX8_159 rfl ⟨rfl, rfl⟩ rfl ⟨(Nat.le_of_ble_eq_true rfl), (Nat.le_of_ble_eq_true rfl)⟩ ⟨(Nat.le_of_ble_eq_true rfl), (Nat.le_of_ble_eq_true rfl)⟩ (Nat.le_of_ble_eq_true rfl) g76 rfl rfl (m_rankOf) ?_
      refine xi_iload_n dX8_suppress_53 rfl rfl ?_
      refine xi_isub dX8_suppress_54 ?_
      refine xi_iconst (v := 0) dX8_suppress_55 (by decide) ?_
      refine cS1 (av := [_, _]) dX8_suppress_56 lX8_199 rfl ⟨rfl, rfl⟩ rfl ⟨(Nat.le_of_ble_eq_true rfl), (Nat.le_of_ble_eq_true rfl)⟩ ⟨(Nat.le_of_ble_eq_true rfl), (Nat.le_of_ble_eq_true rfl)⟩ (Nat.le_of_ble_eq_true rfl) (m_greater) ?_
      refine is dX8_suppress_59 g94 s94 rfl (by omega) (Nat.le_of_ble_eq_true rfl) ?_
      refine xi_iinc (v := 1) dX8_suppress_60 rfl (by decide) (Nat.le_of_ble_eq_true rfl) ?_
      refine xi_goto (tgt := 30) dX8_suppress_63 rfl ?_
      refine xgo_pick [0, 1, 2] rfl ?_
      rw [nI_1, setA_u]
      have q := ih hl
      rw [mk94_s] at q
      exact q
  refine xi_aload_n dX8_suppress_0 rfl rfl ?_
  refine xi_iload_n dX8_suppress_1 rfl rfl ?_
  refine xi_iconst (v := 0) dX8_suppress_2 (by decide) ?_
  refine xi_bipush (v := 15) dX8_suppress_3 (by decide) ?_
  refine cS1 (av := [_, _, _]) dX8_suppress_5 lX8_80 rfl ⟨rfl, rfl⟩ rfl ⟨(Nat.le_of_ble_eq_true rfl), (Nat.le_of_ble_eq_true rfl)⟩ ⟨(Nat.le_of_ble_eq_true rfl), (Nat.le_of_ble_eq_true rfl)⟩ (Nat.le_of_ble_eq_true rfl) (m_within) ?_
  refine xi_if_eq (tgt := 15) dX8_suppress_8 rfl (fun h8 => ?_) (fun h8 => ?_)
  · refine xi_iconst (v := 1) dX8_suppress_15 (by decide) ?_
    refine xi_putfield0 dX8_suppress_16 fX8_73 g76 pX8_73 ?_
    refine xi_aload_n dX8_suppress_19 rfl rfl ?_
    refine xi_getfield0 dX8_suppress_20 fX8_73 g76 ?_
    refine xi_if_le (tgt := 28) dX8_suppress_23 rfl (fun h => absurd h (show ¬ ((1 : Int32) ≤ 0) by decide)) (fun _ => ?_)
    refine xi_iconst (v := 0) dX8_suppress_26 (by decide) ?_
    refine go_ret (r := some (.int _)) dX8_suppress_27 (Nat.le_of_ble_eq_true rfl) (Nat.le_of_ble_eq_true rfl) ?_
    exact ⟨rfl, Or.inr (Or.inl ⟨(wi_eq _ _ _).mp h8, rfl, rfl, rfl⟩)⟩
  · refine xi_iconst (v := 0) dX8_suppress_11 (by decide) ?_
    refine xi_goto (tgt := 16) dX8_suppress_12 rfl ?_
    refine xi_putfield0 dX8_suppress_16 fX8_73 g76 pX8_73 ?_
    refine xi_aload_n dX8_suppress_19 rfl rfl ?_
    refine xi_getfield0 dX8_suppress_20 fX8_73 g76 ?_
    refine xi_if_le (tgt := 28) dX8_suppress_23 rfl (fun _ => ?_) (fun h => absurd h (show ¬ (¬ (0 : Int32) ≤ 0) by decide))
    refine xi_iconst (v := 0) dX8_suppress_28 (by decide) ?_
    refine xi_istore_n dX8_suppress_29 rfl (Nat.le_of_ble_eq_true rfl) ?_
    refine xgo_pick [0, 1, 2] rfl ?_
    have l0 := loop ((wi_ne _ _ _).mp h8) 0 (Nat.zero_le _)
    rw [mk94_0, show mrA A (A 94) = updA A 76 0 0 from setA_self (updA A 76 0 0) 94] at l0
    exact l0
def kpO (lo : Nat → Int32) (se : Nat → Int64) (v k : Nat) (b : Int32) : Int32 := if b = 0 then (if nI v = lo k then 1 else if blV se (lo k).toNatClampNeg v = 0 then 0 else 1) else 1
def kpV (lo : Nat → Int32) (se : Nat → Int64) (K v : Nat) : Int32 := itr (kpO lo se v) K (if v = 0 then 1 else 0)
theorem kp01 (lo : Nat → Int32) (se : Nat → Int64) (v : Nat) : ∀ K, itr (kpO lo se v) K (if v = 0 then 1 else 0) = 0 ∨ itr (kpO lo se v) K (if v = 0 then 1 else 0) = 1
  | 0 => by show (if v = 0 then (1 : Int32) else 0) = 0 ∨ (if v = 0 then (1 : Int32) else 0) = 1; split; exact Or.inr rfl; exact Or.inl rfl
  | K + 1 => by rw [itr_s]; unfold kpO; (repeat' split) <;> first | exact Or.inl rfl | exact Or.inr rfl
def kpM (lo old : Nat → Int32) (se : Nat → Int64) (K k j : Nat) : Int32 := if j < k then kpV lo se K j else old j
theorem kpM_s (lo old : Nat → Int32) (se : Nat → Int64) (K k : Nat) : kpM lo old se K (k + 1) = upd (kpM lo old se K k) k (kpV lo se K k) := by funext i; unfold kpM upd; grind
def kpA (A1 : xA) (B1 : xB) (K m : Nat) : xA := setA (updA A1 76 0 0) 92 (kpM (A1 90) (A1 92) (B1 84) K m)
theorem kpA_nw {A : xA} {B : xB} {c r n m lf K : Nat} (hT : mT A c r n m lf) (hR : mRt A m) : nwOK (kpA A B K m) n m := by
  obtain ⟨hG, hm, hm0, hm64, hpa, h1, h2, h3, h4, h5⟩ := hT
  refine ⟨hm, hm0, hm64, hR, h4, ?_⟩
  show ¬ kpM _ _ _ K m 0 = 0
  unfold kpM
  rw [if_pos hm0]
  unfold kpV
  have : ∀ K, itr (kpO (A 90) (B 84) 0) K (if 0 = 0 then 1 else 0) = 1 := by
    intro K
    induction K with
    | zero => rfl
    | succ K ih => rw [itr_s, ih]; rfl
  rw [this]
  decide
theorem m_keepPeaks {c r n m lf sz : Nat} {x : Int32} {A A1 : xA} {B B1 : xB} {D : xD} (hl : laid A B A1 B1) (hT : mT A1 c r n m lf) (hR : mRt A1 m) (hz : A1 76 7 = nI sz) (hz8 : sz ≤ 8) : does0 mX8_keepPeaks [.ref 76, .int x] A B D (mQ D (btw x 0 64) True (some (.int (mdR (trmA (kpA A1 B1 (min x.toNatClampNeg lf) m) B1 m n 0) n).1)) (mdA (trmA (kpA A1 B1 (min x.toNatClampNeg lf) m) B1 m n 0) sz n) B1 A B) nx := by
  refine does_go (by decide) rfl (Nat.le_of_ble_eq_true rfl) rfl ?_
  have hT2 := hT
  obtain ⟨hG, hm, hm0, hm64, hpa, hlf, hlf64, h3, h4, h5⟩ := hT
  obtain ⟨hn, hn0, hn64⟩ := hG.n
  have loop : ∀ X, X ≤ 64 → x = nI X → btw x 0 64 → ∀ j, j ≤ m → go0 mX8_keepPeaks (mQ D (btw x 0 64) True (some (.int (mdR (trmA (kpA A1 B1 (min x.toNatClampNeg lf) m) B1 m n 0) n).1)) (mdA (trmA (kpA A1 B1 (min x.toNatClampNeg lf) m) B1 m n 0) sz n) B1 A B) nx 0 0 34 [(0, .ref 76), (1, .int (nI X)), (2, .int (nI j))] [] (setA (updA A1 76 0 0) 92 (kpM (A1 90) (A1 92) (B1 84) (min X lf) j)) B1 D := by
    intro X hX ex hc
    subst ex
    rw [nI_clamp (by omega)]
    have hK : min X lf ≤ X ∧ min X lf ≤ lf ∧ (min X lf = X ∨ min X lf = lf) := by omega
    generalize min X lf = K at hK ⊢
    refine up_ind (fun j hj ih => ?_)
    have inner : j < m → ∀ g, g = kpM (A1 90) (A1 92) (B1 84) K j → ∀ k, k ≤ K → ∀ b, b = itr (kpO (A1 90) (B1 84) j) k (if j = 0 then 1 else 0) → go0 mX8_keepPeaks (mQ D (btw (nI X) 0 64) True (some (.int (mdR (trmA (kpA A1 B1 K m) B1 m n 0) n).1)) (mdA (trmA (kpA A1 B1 K m) B1 m n 0) sz n) B1 A B) nx 0 0 59 [(0, .ref 76), (1, .int (nI X)), (2, .int (nI j)), (3, .int (nI k))] [] (setA (updA A1 76 0 0) 92 (upd g j b)) B1 D := by
      intro hjm g hg
      have fin := ih hjm
      rw [kpM_s, ← hg] at fin
      refine up_ind (fun k hk ihk b hb => ?_)
      have exit : k = K → go0 mX8_keepPeaks (mQ D (btw (nI X) 0 64) True (some (.int (mdR (trmA (kpA A1 B1 K m) B1 m n 0) n).1)) (mdA (trmA (kpA A1 B1 K m) B1 m n 0) sz n) B1 A B) nx 0 0 34 [(0, .ref 76), (1, .int (nI X)), (2, .int (nI (j + 1)))] [] (setA (updA A1 76 0 0) 92 (upd g j b)) B1 D := fun e => by
        subst e
        rw [show b = kpV (A1 90) (B1 84) k j from hb]
        exact fin
      refine xi_iload_n dX8_keepPeaks_59 rfl rfl ?_
      refine xi_iload_n dX8_keepPeaks_60 rfl rfl ?_
      refine xi_icmp_ge (tgt := 122) dX8_keepPeaks_61 rfl (fun h61 => ?_) (fun h61 => ?_)
      · have e1 : k = K := by have := (nI_leI (a := X) (b := k) (by omega) (by omega)).mp h61; omega
        refine xi_iinc (v := 1) dX8_keepPeaks_122 rfl (by decide) (Nat.le_of_ble_eq_true rfl) ?_
        refine xi_goto (tgt := 34) dX8_keepPeaks_125 rfl ?_
        refine xgo_pick [0, 1, 2] rfl ?_
        rw [nI_1]
        exact exit e1
      · refine xi_iload_n dX8_keepPeaks_64 rfl rfl ?_
        refine xi_aload_n dX8_keepPeaks_65 rfl rfl ?_
        refine xi_getfield0 dX8_keepPeaks_66 fX8_190 g76 ?_
        rw [show setA (updA A1 76 0 0) 92 (upd g j b) 76 26 = nI lf from hlf]
        refine xi_icmp_ge (tgt := 122) dX8_keepPeaks_69 rfl (fun h69 => ?_) (fun h69 => ?_)
        · have e1 : k = K := by have := (nI_leI (a := lf) (b := k) (by omega) (by omega)).mp h69; omega
          refine xi_iinc (v := 1) dX8_keepPeaks_122 rfl (by decide) (Nat.le_of_ble_eq_true rfl) ?_
          refine xi_goto (tgt := 34) dX8_keepPeaks_125 rfl ?_
          refine xgo_pick [0, 1, 2] rfl ?_
          rw [nI_1]
          exact exit e1
        · have hkl : k < K := by
            have a1 := mt (nI_leI (a := X) (b := k) (by omega) (by omega)).mpr h61
            have a2 := mt (nI_leI (a := lf) (b := k) (by omega) (by omega)).mpr h69
            omega
          have ih1 := ihk hkl
          rw [itr_s, ← hb] at ih1
          unfold kpO at ih1
          obtain ⟨a, ha, ea⟩ := h5 k (by omega)
          refine xi_aload_n dX8_keepPeaks_72 rfl rfl ?_
          refine xi_getfield3 dX8_keepPeaks_73 fX8_63 g76 r76_29 ?_
          refine xi_iload_n dX8_keepPeaks_76 rfl rfl ?_
          refine xi_aload_n dX8_keepPeaks_77 rfl rfl ?_
          refine xi_getfield3 dX8_keepPeaks_78 fX8_63 g76 r76_29 ?_
          refine xi_iload_n dX8_keepPeaks_81 rfl rfl ?_
          refine za dX8_keepPeaks_82 g92 s92 rfl (by omega) (Nat.le_of_ble_eq_true rfl) ?_
          rw [show setA (updA A1 76 0 0) 92 (upd g j b) 92 j = b from by rw [setA_s, up_s]]
          refine xi_ifne (tgt := 110) dX8_keepPeaks_83 rfl (fun h83 => ?_) (fun h83 => ?_)
          · refine xi_iconst (v := 1) dX8_keepPeaks_110 (by decide) ?_
            refine xi_goto (tgt := 115) dX8_keepPeaks_111 rfl ?_
            refine zs dX8_keepPeaks_115 g92 s92 rfl (by omega) (Nat.le_of_ble_eq_true rfl) (by first | exact Or.inl rfl | exact Or.inr rfl) ?_
            refine xi_iinc (v := 1) dX8_keepPeaks_116 rfl (by decide) (Nat.le_of_ble_eq_true rfl) ?_
            refine xi_goto (tgt := 59) dX8_keepPeaks_119 rfl ?_
            refine xgo_pick [0, 1, 2, 3] rfl ?_
            rw [nI_1, setA_u, upd_upd]
            exact ih1 _ (by rw [if_neg h83])
          · refine xi_iload_n dX8_keepPeaks_86 rfl rfl ?_
            refine xi_aload_n dX8_keepPeaks_87 rfl rfl ?_
            refine xi_getfield3 dX8_keepPeaks_88 fX8_57 g76 r76_27 ?_
            refine xi_iload_n dX8_keepPeaks_91 rfl rfl ?_
            refine ia dX8_keepPeaks_92 g90 s90 rfl (by omega) (Nat.le_of_ble_eq_true rfl) ?_
            rw [show setA (updA A1 76 0 0) 92 (upd g j b) 90 k = A1 90 k from rfl]
            refine xi_icmp_eq (tgt := 110) dX8_keepPeaks_93 rfl (fun h93 => ?_) (fun h93 => ?_)
            · refine xi_iconst (v := 1) dX8_keepPeaks_110 (by decide) ?_
              refine xi_goto (tgt := 115) dX8_keepPeaks_111 rfl ?_
              refine zs dX8_keepPeaks_115 g92 s92 rfl (by omega) (Nat.le_of_ble_eq_true rfl) (by first | exact Or.inl rfl | exact Or.inr rfl) ?_
              refine xi_iinc (v := 1) dX8_keepPeaks_116 rfl (by decide) (Nat.le_of_ble_eq_true rfl) ?_
              refine xi_goto (tgt := 59) dX8_keepPeaks_119 rfl ?_
              refine xgo_pick [0, 1, 2, 3] rfl ?_
              rw [nI_1, setA_u, upd_upd]
              exact ih1 _ (by rw [if_pos h83, if_pos h93])
            · refine xi_aload_n dX8_keepPeaks_96 rfl rfl ?_
              refine xi_aload_n dX8_keepPeaks_97 rfl rfl ?_
              refine xi_getfield3 dX8_keepPeaks_98 fX8_57 g76 r76_27 ?_
              refine xi_iload_n dX8_keepPeaks_101 rfl rfl ?_
              refine ia dX8_keepPeaks_102 g90 s90 rfl (by omega) (Nat.le_of_ble_eq_true rfl) ?_
              rw [show setA (updA A1 76 0 0) 92 (upd g j b) 90 k = A1 90 k from rfl, ea]
              refine xi_iload_n dX8_keepPeaks_103 rfl rfl ?_
              refine cV1 (av := [_, _]) dX8_keepPeaks_104 lX8_170 rfl ⟨rfl, rfl⟩ rfl ⟨(Nat.le_of_ble_eq_true rfl), (Nat.le_of_ble_eq_true rfl)⟩ ⟨(Nat.le_of_ble_eq_true rfl), (Nat.le_of_ble_eq_true rfl)⟩ (Nat.le_of_ble_eq_true rfl) g76 rfl rfl (m_isBelow (by omega) (by omega)) ?_
              refine xi_if_eq (tgt := 114) dX8_keepPeaks_107 rfl (fun h107 => ?_) (fun h107 => ?_)
              · refine xi_iconst (v := 0) dX8_keepPeaks_114 (by decide) ?_
                refine zs dX8_keepPeaks_115 g92 s92 rfl (by omega) (Nat.le_of_ble_eq_true rfl) (by first | exact Or.inl rfl | exact Or.inr rfl) ?_
                refine xi_iinc (v := 1) dX8_keepPeaks_116 rfl (by decide) (Nat.le_of_ble_eq_true rfl) ?_
                refine xi_goto (tgt := 59) dX8_keepPeaks_119 rfl ?_
                refine xgo_pick [0, 1, 2, 3] rfl ?_
                rw [nI_1, setA_u, upd_upd]
                exact ih1 _ (by rw [if_pos h83, if_neg h93, ea, nI_clamp (by omega), if_pos h107])
              · refine xi_iconst (v := 1) dX8_keepPeaks_110 (by decide) ?_
                refine xi_goto (tgt := 115) dX8_keepPeaks_111 rfl ?_
                refine zs dX8_keepPeaks_115 g92 s92 rfl (by omega) (Nat.le_of_ble_eq_true rfl) (by first | exact Or.inl rfl | exact Or.inr rfl) ?_
                refine xi_iinc (v := 1) dX8_keepPeaks_116 rfl (by decide) (Nat.le_of_ble_eq_true rfl) ?_
                refine xi_goto (tgt := 59) dX8_keepPeaks_119 rfl ?_
                refine xgo_pick [0, 1, 2, 3] rfl ?_
                rw [nI_1, setA_u, upd_upd]
                exact ih1 _ (by rw [if_pos h83, if_neg h93, ea, nI_clamp (by omega), if_neg h107])
    refine xi_iload_n dX8_keepPeaks_34 rfl rfl ?_
    refine xi_aload_n dX8_keepPeaks_35 rfl rfl ?_
    refine xi_getfield0 dX8_keepPeaks_36 fX8_116 g76 ?_
    rw [show setA (updA A1 76 0 0) 92 (kpM (A1 90) (A1 92) (B1 84) K j) 76 19 = nI m from hm]
    refine xi_icmp_ge (tgt := 128) dX8_keepPeaks_39 rfl (fun h39 => ?_) (fun h39 => ?_)
    · have e : j = m := ge_eq hj (by omega) h39
      subst e
      refine xi_aload_n dX8_keepPeaks_128 rfl rfl ?_
      refine xi_iconst (v := 0) dX8_keepPeaks_129 (by decide) ?_
      refine cV1 (av := [_]) dX8_keepPeaks_130 lX8_283 rfl ⟨rfl, rfl⟩ rfl ⟨(Nat.le_of_ble_eq_true rfl), (Nat.le_of_ble_eq_true rfl)⟩ ⟨(Nat.le_of_ble_eq_true rfl), (Nat.le_of_ble_eq_true rfl)⟩ (Nat.le_of_ble_eq_true rfl) g76 rfl rfl (m_takeRemains (A := kpA A1 B1 K j) hn hn64 (kpA_nw hT2 hR) hz hz8) ?_
      refine go_ret (r := some (.int _)) dX8_keepPeaks_133 (Nat.le_of_ble_eq_true rfl) (Nat.le_of_ble_eq_true rfl) ?_
      exact ⟨rfl, Or.inl ⟨hc, trivial, rfl, rfl, rfl⟩⟩
    · have hjl : j < m := nge_lt hj (by omega) h39
      refine xi_aload_n dX8_keepPeaks_42 rfl rfl ?_
      refine xi_getfield3 dX8_keepPeaks_43 fX8_63 g76 r76_29 ?_
      refine xi_iload_n dX8_keepPeaks_46 rfl rfl ?_
      refine xi_iload_n dX8_keepPeaks_47 rfl rfl ?_
      refine xi_ifne (tgt := 55) dX8_keepPeaks_48 rfl (fun h48 => ?_) (fun h48 => ?_)
      · refine xi_iconst (v := 0) dX8_keepPeaks_55 (by decide) ?_
        refine zs dX8_keepPeaks_56 g92 s92 rfl (by omega) (Nat.le_of_ble_eq_true rfl) (by first | exact Or.inl rfl | exact Or.inr rfl) ?_
        refine xi_iconst (v := 0) dX8_keepPeaks_57 (by decide) ?_
        refine xi_istore_n dX8_keepPeaks_58 rfl (Nat.le_of_ble_eq_true rfl) ?_
        refine xgo_pick [0, 1, 2, 3] rfl ?_
        rw [setA_u]
        exact inner hjl _ rfl 0 (Nat.zero_le _) 0 (by show (0 : Int32) = if j = 0 then 1 else 0; rw [if_neg (fun z => h48 (by rw [z]; rfl))])
      · refine xi_iconst (v := 1) dX8_keepPeaks_51 (by decide) ?_
        refine xi_goto (tgt := 56) dX8_keepPeaks_52 rfl ?_
        refine zs dX8_keepPeaks_56 g92 s92 rfl (by omega) (Nat.le_of_ble_eq_true rfl) (by first | exact Or.inl rfl | exact Or.inr rfl) ?_
        refine xi_iconst (v := 0) dX8_keepPeaks_57 (by decide) ?_
        refine xi_istore_n dX8_keepPeaks_58 rfl (Nat.le_of_ble_eq_true rfl) ?_
        refine xgo_pick [0, 1, 2, 3] rfl ?_
        rw [setA_u]
        exact inner hjl _ rfl 0 (Nat.zero_le _) 1 (by show (1 : Int32) = if j = 0 then 1 else 0; rw [if_pos ((nI_eq (b := 0) (by omega) (by decide)).mp h48)])
  refine xi_aload_n dX8_keepPeaks_0 rfl rfl ?_
  refine xi_iload_n dX8_keepPeaks_1 rfl rfl ?_
  refine xi_iconst (v := 0) dX8_keepPeaks_2 (by decide) ?_
  refine xi_bipush (v := 64) dX8_keepPeaks_3 (by decide) ?_
  refine cS1 (av := [_, _, _]) dX8_keepPeaks_5 lX8_80 rfl ⟨rfl, rfl⟩ rfl ⟨(Nat.le_of_ble_eq_true rfl), (Nat.le_of_ble_eq_true rfl)⟩ ⟨(Nat.le_of_ble_eq_true rfl), (Nat.le_of_ble_eq_true rfl)⟩ (Nat.le_of_ble_eq_true rfl) (m_within) ?_
  refine xi_if_eq (tgt := 15) dX8_keepPeaks_8 rfl (fun h8 => ?_) (fun h8 => ?_)
  · refine xi_iconst (v := 1) dX8_keepPeaks_15 (by decide) ?_
    refine xi_putfield0 dX8_keepPeaks_16 fX8_73 g76 pX8_73 ?_
    refine xi_aload_n dX8_keepPeaks_19 rfl rfl ?_
    refine xi_getfield0 dX8_keepPeaks_20 fX8_73 g76 ?_
    refine xi_if_le (tgt := 28) dX8_keepPeaks_23 rfl (fun h => absurd h (show ¬ ((1 : Int32) ≤ 0) by decide)) (fun _ => ?_)
    refine xi_iconst (v := 0) dX8_keepPeaks_26 (by decide) ?_
    refine go_ret (r := some (.int _)) dX8_keepPeaks_27 (Nat.le_of_ble_eq_true rfl) (Nat.le_of_ble_eq_true rfl) ?_
    exact ⟨rfl, Or.inr (Or.inl ⟨(wi_eq _ _ _).mp h8, rfl, rfl, rfl⟩)⟩
  · refine xi_iconst (v := 0) dX8_keepPeaks_11 (by decide) ?_
    refine xi_goto (tgt := 16) dX8_keepPeaks_12 rfl ?_
    refine xi_putfield0 dX8_keepPeaks_16 fX8_73 g76 pX8_73 ?_
    refine xi_aload_n dX8_keepPeaks_19 rfl rfl ?_
    refine xi_getfield0 dX8_keepPeaks_20 fX8_73 g76 ?_
    refine xi_if_le (tgt := 28) dX8_keepPeaks_23 rfl (fun _ => ?_) (fun h => absurd h (show ¬ (¬ (0 : Int32) ≤ 0) by decide))
    refine xi_aload_n dX8_keepPeaks_28 rfl rfl ?_
    refine cV1 (av := []) dX8_keepPeaks_29 lX8_113 rfl ⟨rfl, rfl⟩ rfl ⟨(Nat.le_of_ble_eq_true rfl), (Nat.le_of_ble_eq_true rfl)⟩ ⟨(Nat.le_of_ble_eq_true rfl), (Nat.le_of_ble_eq_true rfl)⟩ (Nat.le_of_ble_eq_true rfl) g76 rfl rfl (hl.1 0 D) ?_
    refine xi_iconst (v := 0) dX8_keepPeaks_32 (by decide) ?_
    refine xi_istore_n dX8_keepPeaks_33 rfl (Nat.le_of_ble_eq_true rfl) ?_
    refine xgo_pick [0, 1, 2] rfl ?_
    have hc := (wi_ne _ _ _).mp h8
    obtain ⟨X, hX, ex⟩ := nI_of2 (M := 64) (n := 64) (by decide) hc.1 (Int32.not_lt.mp hc.2)
    have l0 := loop X hX ex hc 0 (Nat.zero_le _)
    rw [show kpM (A1 90) (A1 92) (B1 84) (min X lf) 0 = updA A1 76 0 0 92 by funext i; simp [kpM]; rfl, setA_self, ← ex] at l0
    exact l0
theorem m_ifLevel {c r n m lf : Nat} {i v w : Int32} {A A2 : xA} {B B2 : xB} {D : xD} (hG : mG A c r n) (hlt : inR i (nI n) → btw v 0 15 → does0 mX8_layTree [.ref 76] (updA (updA (updA A 76 0 0) 77 i.toNatClampNeg v) 76 18 0) B D (eqQ none A2 B2 D) nx) (hT : inR i (nI n) → btw v 0 15 → mT A2 c r n m lf) : does0 mX8_ifLevel [.ref 76, .int i, .int v, .int w] A B D (mQ D (inR i (nI n)) (btw v 0 15 ∧ btw w 2 4) (some (.int (mcV A2 n m w.toNatClampNeg))) (updA (updA A2 77 i.toNatClampNeg (A 77 i.toNatClampNeg)) 76 18 0) B2 A B) nx := by
  refine does_go (by decide) rfl (Nat.le_of_ble_eq_true rfl) rfl ?_
  obtain ⟨hn, hn0, hn64⟩ := hG.n
  refine xi_aload_n dX8_ifLevel_0 rfl rfl ?_
  refine xi_aload_n dX8_ifLevel_1 rfl rfl ?_
  refine xi_iload_n dX8_ifLevel_2 rfl rfl ?_
  refine cV1 (av := [_]) dX8_ifLevel_3 lX8_106 rfl ⟨rfl, rfl⟩ rfl ⟨(Nat.le_of_ble_eq_true rfl), (Nat.le_of_ble_eq_true rfl)⟩ ⟨(Nat.le_of_ble_eq_true rfl), (Nat.le_of_ble_eq_true rfl)⟩ (Nat.le_of_ble_eq_true rfl) g76 rfl rfl (m_isPixel) ?_
  rw [hn]
  refine xi_ifne (tgt := 13) dX8_ifLevel_6 rfl (fun h6 => ?_) (fun h6 => ?_)
  · have hp0 := (wch (by omega)).mp h6
    refine xi_iload_n dX8_ifLevel_13 rfl rfl ?_
    refine xi_iconst (v := 0) dX8_ifLevel_14 (by decide) ?_
    refine xi_bipush (v := 15) dX8_ifLevel_15 (by decide) ?_
    refine cS1 (av := [_, _, _]) dX8_ifLevel_17 lX8_80 rfl ⟨rfl, rfl⟩ rfl ⟨(Nat.le_of_ble_eq_true rfl), (Nat.le_of_ble_eq_true rfl)⟩ ⟨(Nat.le_of_ble_eq_true rfl), (Nat.le_of_ble_eq_true rfl)⟩ (Nat.le_of_ble_eq_true rfl) (m_within) ?_
    refine xi_if_eq (tgt := 36) dX8_ifLevel_20 rfl (fun h20 => ?_) (fun h20 => ?_)
    · refine xi_iconst (v := 2) dX8_ifLevel_36 (by decide) ?_
      refine xi_putfield0 dX8_ifLevel_37 fX8_73 g76 pX8_73 ?_
      refine xi_aload_n dX8_ifLevel_40 rfl rfl ?_
      refine xi_getfield0 dX8_ifLevel_41 fX8_73 g76 ?_
      refine xi_if_le (tgt := 49) dX8_ifLevel_44 rfl (fun h => absurd h (show ¬ ((2 : Int32) ≤ 0) by decide)) (fun _ => ?_)
      refine xi_iconst (v := 0) dX8_ifLevel_47 (by decide) ?_
      refine go_ret (r := some (.int _)) dX8_ifLevel_48 (Nat.le_of_ble_eq_true rfl) (Nat.le_of_ble_eq_true rfl) ?_
      exact ⟨rfl, Or.inr (Or.inr ⟨hp0, fun z => (wi_eq _ _ _).mp h20 z.1, rfl, rfl, rfl⟩)⟩
    · have hp1 := (wi_ne _ _ _).mp h20
      refine xi_iload_n dX8_ifLevel_23 rfl rfl ?_
      refine xi_iconst (v := 2) dX8_ifLevel_24 (by decide) ?_
      refine xi_iconst (v := 4) dX8_ifLevel_25 (by decide) ?_
      refine cS1 (av := [_, _, _]) dX8_ifLevel_26 lX8_80 rfl ⟨rfl, rfl⟩ rfl ⟨(Nat.le_of_ble_eq_true rfl), (Nat.le_of_ble_eq_true rfl)⟩ ⟨(Nat.le_of_ble_eq_true rfl), (Nat.le_of_ble_eq_true rfl)⟩ (Nat.le_of_ble_eq_true rfl) (m_within) ?_
      refine xi_if_eq (tgt := 36) dX8_ifLevel_29 rfl (fun h29 => ?_) (fun h29 => ?_)
      · refine xi_iconst (v := 2) dX8_ifLevel_36 (by decide) ?_
        refine xi_putfield0 dX8_ifLevel_37 fX8_73 g76 pX8_73 ?_
        refine xi_aload_n dX8_ifLevel_40 rfl rfl ?_
        refine xi_getfield0 dX8_ifLevel_41 fX8_73 g76 ?_
        refine xi_if_le (tgt := 49) dX8_ifLevel_44 rfl (fun h => absurd h (show ¬ ((2 : Int32) ≤ 0) by decide)) (fun _ => ?_)
        refine xi_iconst (v := 0) dX8_ifLevel_47 (by decide) ?_
        refine go_ret (r := some (.int _)) dX8_ifLevel_48 (Nat.le_of_ble_eq_true rfl) (Nat.le_of_ble_eq_true rfl) ?_
        exact ⟨rfl, Or.inr (Or.inr ⟨hp0, fun z => (wi_eq _ _ _).mp h29 z.2, rfl, rfl, rfl⟩)⟩
      · have hp2 := (wi_ne _ _ _).mp h29
        have hlt := hlt hp0 hp1
        obtain ⟨hG2, hm, hm0, hm64, hpa, -⟩ := hT hp0 hp1
        obtain ⟨hn2, -, -⟩ := hG2.n
        obtain ⟨p, hp, rfl⟩ := inR_nI hp0 (by omega)
        obtain ⟨ww, hww, rfl⟩ := nI_of2 (M := 4) (n := 4) (x := w) (by decide) (fun z => hp2.1 (Int32.lt_of_lt_of_le z (by decide))) (Int32.not_lt.mp hp2.2)
        rw [nI_clamp (by omega)] at hlt
        refine xi_iconst (v := 0) dX8_ifLevel_32 (by decide) ?_
        refine xi_goto (tgt := 37) dX8_ifLevel_33 rfl ?_
        refine xi_putfield0 dX8_ifLevel_37 fX8_73 g76 pX8_73 ?_
        refine xi_aload_n dX8_ifLevel_40 rfl rfl ?_
        refine xi_getfield0 dX8_ifLevel_41 fX8_73 g76 ?_
        refine xi_if_le (tgt := 49) dX8_ifLevel_44 rfl (fun _ => ?_) (fun h => absurd h (show ¬ (¬ (0 : Int32) ≤ 0) by decide))
        refine xi_aload_n dX8_ifLevel_49 rfl rfl ?_
        refine xi_getfield3 dX8_ifLevel_50 fX8_16 g76 r76_3 ?_
        refine xi_iload_n dX8_ifLevel_53 rfl rfl ?_
        refine ia dX8_ifLevel_54 g77 s77 rfl (by omega) (Nat.le_of_ble_eq_true rfl) ?_
        refine xi_istore dX8_ifLevel_55 (Nat.le_of_ble_eq_true rfl) ?_
        refine xi_aload_n dX8_ifLevel_57 rfl rfl ?_
        refine xi_getfield3 dX8_ifLevel_58 fX8_16 g76 r76_3 ?_
        refine xi_iload_n dX8_ifLevel_61 rfl rfl ?_
        refine xi_iload_n dX8_ifLevel_62 rfl rfl ?_
        refine is dX8_ifLevel_63 g77 s77 rfl (by omega) (Nat.le_of_ble_eq_true rfl) ?_
        refine xi_aload_n dX8_ifLevel_64 rfl rfl ?_
        refine xi_iconst (v := 0) dX8_ifLevel_65 (by decide) ?_
        refine xi_putfield1 dX8_ifLevel_66 fX8_97 g76 pX8_97 (by first | exact Or.inl rfl | exact Or.inr rfl) ?_
        refine xi_aload_n dX8_ifLevel_69 rfl rfl ?_
        refine xi_iload_n dX8_ifLevel_70 rfl rfl ?_
        refine cV1 (av := [_]) dX8_ifLevel_71 lX8_215 rfl ⟨rfl, rfl⟩ rfl ⟨(Nat.le_of_ble_eq_true rfl), (Nat.le_of_ble_eq_true rfl)⟩ ⟨(Nat.le_of_ble_eq_true rfl), (Nat.le_of_ble_eq_true rfl)⟩ (Nat.le_of_ble_eq_true rfl) g76 rfl rfl (m_countOf (by omega) hlt hn2 hn64 hm hm64 hpa) ?_
        refine xi_istore dX8_ifLevel_74 (Nat.le_of_ble_eq_true rfl) ?_
        refine xi_aload_n dX8_ifLevel_76 rfl rfl ?_
        refine xi_getfield3 dX8_ifLevel_77 fX8_16 g76 r76_3 ?_
        refine xi_iload_n dX8_ifLevel_80 rfl rfl ?_
        refine xi_iload dX8_ifLevel_81 rfl ?_
        refine is dX8_ifLevel_83 g77 s77 rfl (by omega) (Nat.le_of_ble_eq_true rfl) ?_
        refine xi_aload_n dX8_ifLevel_84 rfl rfl ?_
        refine xi_iconst (v := 0) dX8_ifLevel_85 (by decide) ?_
        refine xi_putfield1 dX8_ifLevel_86 fX8_97 g76 pX8_97 (by first | exact Or.inl rfl | exact Or.inr rfl) ?_
        refine xi_iload dX8_ifLevel_89 rfl ?_
        refine go_ret (r := some (.int _)) dX8_ifLevel_91 (Nat.le_of_ble_eq_true rfl) (Nat.le_of_ble_eq_true rfl) ?_
        exact ⟨rfl, Or.inl ⟨hp0, ⟨hp1, hp2⟩, by rw [nI_clamp (by omega)], by rw [nI_clamp (by omega)]; rfl, rfl⟩⟩
  · have hp0 := (wch0 (by omega)).mp h6
    refine xi_iconst (v := 1) dX8_ifLevel_9 (by decide) ?_
    refine xi_goto (tgt := 37) dX8_ifLevel_10 rfl ?_
    refine xi_putfield0 dX8_ifLevel_37 fX8_73 g76 pX8_73 ?_
    refine xi_aload_n dX8_ifLevel_40 rfl rfl ?_
    refine xi_getfield0 dX8_ifLevel_41 fX8_73 g76 ?_
    refine xi_if_le (tgt := 49) dX8_ifLevel_44 rfl (fun h => absurd h (show ¬ ((1 : Int32) ≤ 0) by decide)) (fun _ => ?_)
    refine xi_iconst (v := 0) dX8_ifLevel_47 (by decide) ?_
    refine go_ret (r := some (.int _)) dX8_ifLevel_48 (Nat.le_of_ble_eq_true rfl) (Nat.le_of_ble_eq_true rfl) ?_
    exact ⟨rfl, Or.inr (Or.inl ⟨hp0, rfl, rfl, rfl⟩)⟩
theorem itr_0 {σ : Type} (f : Nat → σ → σ) (s : σ) : itr f 0 s = s := rfl
abbrev hB (B : xB) (h : Int64) : xB := updB B 76 32 h
theorem m_mix {x h : Int64} {A : xA} {B : xB} {D : xD} : does0 mX8_mix [.ref 76, .long x] A (hB B h) D (eqQ none A (hB B (31 * h + x)) D) nx := by
  refine does_go (by decide) rfl (Nat.le_of_ble_eq_true rfl) rfl ?_
  refine xi_aload_n dX8_mix_0 rfl rfl ?_
  refine xi_ldc2_w dX8_mix_1 kX8_292 ?_
  refine xi_aload_n dX8_mix_4 rfl rfl ?_
  refine xi_getfield2 dX8_mix_5 fX8_294 g76 ?_
  rw [show hB B h 76 32 = h from updB_ss _ _ _ _]
  refine xi_lmul dX8_mix_8 ?_
  refine xi_lload_n dX8_mix_9 rfl rfl ?_
  refine xi_ladd dX8_mix_10 ?_
  refine xi_putfield2 dX8_mix_11 fX8_294 g76 pX8_294 ?_
  refine go_ret (r := none) dX8_mix_14 (Nat.le_of_ble_eq_true rfl) (Nat.le_of_ble_eq_true rfl) ?_
  exact ⟨rfl, rfl, by unfold hB; rw [updB_uu], rfl⟩
theorem atV_B (A : xA) (B : xB) (h : Int64) (c r n m v w : Nat) : atV A (hB B h) c r n m v w = atV A B c r n m v w := by unfold atV; split <;> rfl
theorem flA_B (A : xA) (B : xB) (h : Int64) (c r n m w : Nat) (t u : Int32) : flA A (hB B h) c r n m w t u = flA A B c r n m w t u := by
  unfold flA
  rw [show vaM A (hB B h) c r n m w m = vaM A B c r n m w m by funext j; unfold vaM; rw [atV_B]]
  rfl
theorem i0L : (0 : Int32).toInt64 = 0 := by decide
theorem i1L : (1 : Int32).toInt64 = 1 := by decide
def mg0 (A : xA) : Int64 := mixV (mixV 1879 (if A 76 5 = 0 then 0 else 1)) (if A 76 6 = 0 then 0 else 1)
def mgN (A : xA) (n m w : Nat) (h : Int64) : Int64 := mixV h (mcV A n m w)
def mg1 (A A1 : xA) (n m : Nat) : Int64 := itr (mgN A1 n m) 8 (mg0 A)
def mgT (A : xA) (B : xB) (c r n m k : Nat) (h : Int64) : Int64 := mixV h (atV A B c r n m (k / 12) (k % 12))
def mg2 (A A1 : xA) (B1 : xB) (c r n m lf : Nat) : Int64 := itr (hlS (A1 90)) lf (itr (mgT A1 B1 c r n m) (12 * m) (itr (hpS (A1 77) (A1 78) (A1 88)) n (mg1 A A1 n m)))
abbrev mgA1 (A1 : xA) (B1 : xB) (c r n m : Nat) : xA := flA (updA A1 76 0 0) B1 c r n m 1 3 1
abbrev mgA2 (A1 : xA) (B1 : xB) (c r n m : Nat) : xA := flA (mgA1 A1 B1 c r n m) B1 c r n m 6 4 3
def mg3 (A A1 : xA) (B1 : xB) (c r n m lf len : Nat) : Int64 := mixV (mixV (mixV (mg2 A A1 B1 c r n m lf) (loV (mgA1 A1 B1 c r n m) B1 m 0 n)) (loV (mgA2 A1 B1 c r n m) B1 m 1 n)) (nI len)
def mg4 (A A1 : xA) (B1 : xB) (c r n m lf len : Nat) : Int64 := itr (hlS (A1 82)) len (mg3 A A1 B1 c r n m lf len)
theorem loV_B (A : xA) (B : xB) (h : Int64) (m : Nat) (sm : Int32) (n : Nat) : loV A (hB B h) m sm n = loV A B m sm n := rfl
theorem m_digest {c r n m lf len : Nat} {A A1 : xA} {B B1 : xB} {D : xD} (hlB : ∀ h D, does0 mX8_layTree [.ref 76] (updA A 76 0 0) (hB B h) D (eqQ none (updA A1 76 0 0) (hB B1 h) D) nx) (hL1 : ¬ A1 76 18 = 0) (hT : mT A1 c r n m lf) (hR : mRt A1 m) (hl0 : A1 76 11 = nI len) (hl72 : len ≤ 72) : does0 mX8_digest [.ref 76] A B D (eqQ (some (.long (mg4 A A1 B1 c r n m lf len))) (mgA2 A1 B1 c r n m) (hB B1 (mg4 A A1 B1 c r n m lf len)) D) nx := by
  refine does_go (by decide) rfl (Nat.le_of_ble_eq_true rfl) rfl ?_
  have hT2 := hT
  obtain ⟨hG, hm, hm0, hm64, hpa, hlf, hlf64, h3, h4, h5⟩ := hT
  obtain ⟨hn, hn0, hn64⟩ := hG.n
  generalize hX : mg4 A A1 B1 c r n m lf len = X
  have loop5 := up_ind (n := len) (P := fun j => ∀ q, q = itr (hlS (A1 82)) j (mg3 A A1 B1 c r n m lf len) → go0 mX8_digest (eqQ (some (.long X)) (mgA2 A1 B1 c r n m) (hB B1 X) D) nx 0 0 216 [(0, .ref 76), (1, .int (nI j))] [] (mgA2 A1 B1 c r n m) (hB B1 q) D) (fun j hj ih q hq => by
    refine xi_iload_n dX8_digest_216 rfl rfl ?_
    refine xi_aload_n dX8_digest_217 rfl rfl ?_
    refine xi_getfield0 dX8_digest_218 fX8_126 g76 ?_
    rw [show mgA2 A1 B1 c r n m 76 11 = nI len from hl0]
    refine xi_icmp_ge (tgt := 241) dX8_digest_221 rfl (fun h221 => ?_) (fun h221 => ?_)
    · have e : j = len := ge_eq hj (by omega) h221
      subst e
      have e2 : q = X := by rw [hq, ← hX]; unfold mg4; rfl
      subst e2
      refine xi_aload_n dX8_digest_241 rfl rfl ?_
      refine xi_getfield2 dX8_digest_242 fX8_294 g76 ?_
      rw [show hB B1 q 76 32 = q from updB_ss _ _ _ _]
      refine go_ret (r := some (.long _)) dX8_digest_245 (Nat.le_of_ble_eq_true rfl) (Nat.le_of_ble_eq_true rfl) ?_
      exact ⟨rfl, rfl, rfl, rfl⟩
    · have hl : j < len := nge_lt hj (by omega) h221
      refine xi_aload_n dX8_digest_224 rfl rfl ?_
      refine xi_aload_n dX8_digest_225 rfl rfl ?_
      refine xi_getfield3 dX8_digest_226 fX8_32 g76 r76_12 ?_
      refine xi_iload_n dX8_digest_229 rfl rfl ?_
      refine ia dX8_digest_230 g82 s82 rfl (by omega) (Nat.le_of_ble_eq_true rfl) ?_
      rw [show mgA2 A1 B1 c r n m 82 j = A1 82 j from rfl]
      refine xi_i2l dX8_digest_231 ?_
      refine cV1 (av := [_]) dX8_digest_232 lX8_300 rfl ⟨rfl, rfl⟩ rfl ⟨(Nat.le_of_ble_eq_true rfl), (Nat.le_of_ble_eq_true rfl)⟩ ⟨(Nat.le_of_ble_eq_true rfl), (Nat.le_of_ble_eq_true rfl)⟩ (Nat.le_of_ble_eq_true rfl) g76 rfl rfl (m_mix) ?_
      refine xi_iinc (v := 1) dX8_digest_235 rfl (by decide) (Nat.le_of_ble_eq_true rfl) ?_
      refine xi_goto (tgt := 216) dX8_digest_238 rfl ?_
      refine xgo_pick [0, 1] rfl ?_
      rw [nI_1]
      exact ih hl _ (by rw [itr_s, ← hq]; simp only [hlS, hpS, mgT, mixV] <;> rfl)
    )
  have loop4 := up_ind (n := lf) (P := fun j => ∀ q, q = itr (hlS (A1 90)) j (itr (mgT A1 B1 c r n m) (12 * m) (itr (hpS (A1 77) (A1 78) (A1 88)) n (mg1 A A1 n m))) → go0 mX8_digest (eqQ (some (.long X)) (mgA2 A1 B1 c r n m) (hB B1 X) D) nx 0 0 155 [(0, .ref 76), (1, .int (nI j))] [] (updA A1 76 0 0) (hB B1 q) D) (fun j hj ih q hq => by
    have hq2 : j = lf → q = mg2 A A1 B1 c r n m lf := fun e => by rw [hq, e]; unfold mg2; rfl
    have hL2 : ¬ mgA1 A1 B1 c r n m 76 18 = 0 := hL1
    have d1 : ∀ h, does0 mX8_lossBy [.ref 76, .int 1, .int 3, .int 1] (updA A1 76 0 0) (hB B1 h) D (eqQ (some (.int (loV (mgA1 A1 B1 c r n m) B1 m 0 n))) (mgA1 A1 B1 c r n m) (hB B1 h) D) nx := fun h => by
      have := m_lossBy (w := 1) (t := 3) (u := 1) (by decide) (m_layDone (A := updA A1 76 0 0) (B := hB B1 h) (D := D) hL1) (mT_t hT2) hR
      rw [flA_B, loV_B, if_neg (by decide)] at this
      exact this
    have d2 : ∀ h, does0 mX8_lossBy [.ref 76, .int 6, .int 4, .int 3] (mgA1 A1 B1 c r n m) (hB B1 h) D (eqQ (some (.int (loV (mgA2 A1 B1 c r n m) B1 m 1 n))) (mgA2 A1 B1 c r n m) (hB B1 h) D) nx := fun h => by
      have := m_lossBy (w := 6) (t := 4) (u := 3) (c := c) (r := r) (n := n) (m := m) (lf := lf) (by decide) (m_layDone (A := mgA1 A1 B1 c r n m) (B := hB B1 h) (D := D) hL2) hT2 hR
      rw [flA_B, loV_B, if_pos rfl] at this
      exact this
    refine xi_iload_n dX8_digest_155 rfl rfl ?_
    refine xi_aload_n dX8_digest_156 rfl rfl ?_
    refine xi_getfield0 dX8_digest_157 fX8_190 g76 ?_
    rw [show updA A1 76 0 0 76 26 = nI lf from hlf]
    refine xi_icmp_ge (tgt := 180) dX8_digest_160 rfl (fun h160 => ?_) (fun h160 => ?_)
    · have e : j = lf := ge_eq hj (by omega) h160
      have hq2 := hq2 e
      refine xi_aload_n dX8_digest_180 rfl rfl ?_
      refine xi_aload_n dX8_digest_181 rfl rfl ?_
      refine xi_iconst (v := 1) dX8_digest_182 (by decide) ?_
      refine xi_iconst (v := 3) dX8_digest_183 (by decide) ?_
      refine xi_iconst (v := 1) dX8_digest_184 (by decide) ?_
      refine cV1 (av := [_, _, _]) dX8_digest_185 lX8_276 rfl ⟨rfl, rfl⟩ rfl ⟨(Nat.le_of_ble_eq_true rfl), (Nat.le_of_ble_eq_true rfl)⟩ ⟨(Nat.le_of_ble_eq_true rfl), (Nat.le_of_ble_eq_true rfl)⟩ (Nat.le_of_ble_eq_true rfl) g76 rfl rfl (d1 _) ?_
      refine xi_i2l dX8_digest_188 ?_
      refine cV1 (av := [_]) dX8_digest_189 lX8_300 rfl ⟨rfl, rfl⟩ rfl ⟨(Nat.le_of_ble_eq_true rfl), (Nat.le_of_ble_eq_true rfl)⟩ ⟨(Nat.le_of_ble_eq_true rfl), (Nat.le_of_ble_eq_true rfl)⟩ (Nat.le_of_ble_eq_true rfl) g76 rfl rfl (m_mix) ?_
      refine xi_aload_n dX8_digest_192 rfl rfl ?_
      refine xi_aload_n dX8_digest_193 rfl rfl ?_
      refine xi_bipush (v := 6) dX8_digest_194 (by decide) ?_
      refine xi_iconst (v := 4) dX8_digest_196 (by decide) ?_
      refine xi_iconst (v := 3) dX8_digest_197 (by decide) ?_
      refine cV1 (av := [_, _, _]) dX8_digest_198 lX8_276 rfl ⟨rfl, rfl⟩ rfl ⟨(Nat.le_of_ble_eq_true rfl), (Nat.le_of_ble_eq_true rfl)⟩ ⟨(Nat.le_of_ble_eq_true rfl), (Nat.le_of_ble_eq_true rfl)⟩ (Nat.le_of_ble_eq_true rfl) g76 rfl rfl (d2 _) ?_
      refine xi_i2l dX8_digest_201 ?_
      refine cV1 (av := [_]) dX8_digest_202 lX8_300 rfl ⟨rfl, rfl⟩ rfl ⟨(Nat.le_of_ble_eq_true rfl), (Nat.le_of_ble_eq_true rfl)⟩ ⟨(Nat.le_of_ble_eq_true rfl), (Nat.le_of_ble_eq_true rfl)⟩ (Nat.le_of_ble_eq_true rfl) g76 rfl rfl (m_mix) ?_
      refine xi_aload_n dX8_digest_205 rfl rfl ?_
      refine xi_aload_n dX8_digest_206 rfl rfl ?_
      refine xi_getfield0 dX8_digest_207 fX8_126 g76 ?_
      rw [show mgA2 A1 B1 c r n m 76 11 = nI len from hl0]
      refine xi_i2l dX8_digest_210 ?_
      refine cV1 (av := [_]) dX8_digest_211 lX8_300 rfl ⟨rfl, rfl⟩ rfl ⟨(Nat.le_of_ble_eq_true rfl), (Nat.le_of_ble_eq_true rfl)⟩ ⟨(Nat.le_of_ble_eq_true rfl), (Nat.le_of_ble_eq_true rfl)⟩ (Nat.le_of_ble_eq_true rfl) g76 rfl rfl (m_mix) ?_
      refine xi_iconst (v := 0) dX8_digest_214 (by decide) ?_
      refine xi_istore_n dX8_digest_215 rfl (Nat.le_of_ble_eq_true rfl) ?_
      refine xgo_pick [0, 1] rfl ?_
      exact loop5 0 (Nat.zero_le _) _ (by rw [itr_0, hq2]; unfold mg3 mixV; rfl)
    · have hl : j < lf := nge_lt hj (by omega) h160
      refine xi_aload_n dX8_digest_163 rfl rfl ?_
      refine xi_aload_n dX8_digest_164 rfl rfl ?_
      refine xi_getfield3 dX8_digest_165 fX8_57 g76 r76_27 ?_
      refine xi_iload_n dX8_digest_168 rfl rfl ?_
      refine ia dX8_digest_169 g90 s90 rfl (by omega) (Nat.le_of_ble_eq_true rfl) ?_
      refine xi_i2l dX8_digest_170 ?_
      refine cV1 (av := [_]) dX8_digest_171 lX8_300 rfl ⟨rfl, rfl⟩ rfl ⟨(Nat.le_of_ble_eq_true rfl), (Nat.le_of_ble_eq_true rfl)⟩ ⟨(Nat.le_of_ble_eq_true rfl), (Nat.le_of_ble_eq_true rfl)⟩ (Nat.le_of_ble_eq_true rfl) g76 rfl rfl (m_mix) ?_
      refine xi_iinc (v := 1) dX8_digest_174 rfl (by decide) (Nat.le_of_ble_eq_true rfl) ?_
      refine xi_goto (tgt := 155) dX8_digest_177 rfl ?_
      refine xgo_pick [0, 1] rfl ?_
      rw [nI_1]
      exact ih hl _ (by rw [itr_s, ← hq]; simp only [hlS, hpS, mgT, mixV] <;> rfl)
    )
  have loop3 := up_ind (n := 12 * m) (P := fun j => ∀ q, q = itr (mgT A1 B1 c r n m) j (itr (hpS (A1 77) (A1 78) (A1 88)) n (mg1 A A1 n m)) → go0 mX8_digest (eqQ (some (.long X)) (mgA2 A1 B1 c r n m) (hB B1 X) D) nx 0 0 119 [(0, .ref 76), (1, .int (nI j))] [] (updA A1 76 0 0) (hB B1 q) D) (fun j hj ih q hq => by
    have hA := fun (v w : Nat) (hv : v < m) (hw : w < 12) (h : Int64) => by
      have := m_attributeOf (A := updA A1 76 0 0) (B := hB B1 h) (D := D) hv hw hG hm hm64
      rw [atV_B, atV_t] at this
      exact this
    refine xi_iload_n dX8_digest_119 rfl rfl ?_
    refine xi_bipush (v := 12) dX8_digest_120 (by decide) ?_
    refine xi_aload_n dX8_digest_122 rfl rfl ?_
    refine xi_getfield0 dX8_digest_123 fX8_116 g76 ?_
    rw [show updA A1 76 0 0 76 19 = nI m from hm]
    refine xi_imul dX8_digest_126 ?_
    rw [show (12 : Int32) = nI 12 from rfl, pk_mul]
    refine xi_icmp_ge (tgt := 153) dX8_digest_127 rfl (fun h127 => ?_) (fun h127 => ?_)
    · have e : j = 12 * m := ge_eq hj (by omega) h127
      subst e
      refine xi_iconst (v := 0) dX8_digest_153 (by decide) ?_
      refine xi_istore_n dX8_digest_154 rfl (Nat.le_of_ble_eq_true rfl) ?_
      refine xgo_pick [0, 1] rfl ?_
      exact loop4 0 (Nat.zero_le _) _ (by rw [itr_0, hq])
    · have hl : j < 12 * m := nge_lt hj (by omega) h127
      refine xi_aload_n dX8_digest_130 rfl rfl ?_
      refine xi_aload_n dX8_digest_131 rfl rfl ?_
      refine xi_iload_n dX8_digest_132 rfl rfl ?_
      refine xi_bipush (v := 12) dX8_digest_133 (by decide) ?_
      refine xi_idiv dX8_digest_135 (show ¬ (12 : Int32) = 0 by decide) ?_
      rw [show (12 : Int32) = nI 12 from rfl, pk_div (by omega) (by decide) (by decide)]
      refine xi_iload_n dX8_digest_136 rfl rfl ?_
      refine xi_bipush (v := 12) dX8_digest_137 (by decide) ?_
      refine xi_irem dX8_digest_139 (show ¬ (12 : Int32) = 0 by decide) ?_
      rw [show (12 : Int32) = nI 12 from rfl, pk_rem (by omega) (by decide) (by decide)]
      refine cV1 (av := [_, _]) dX8_digest_140 lX8_250 rfl ⟨rfl, rfl⟩ rfl ⟨(Nat.le_of_ble_eq_true rfl), (Nat.le_of_ble_eq_true rfl)⟩ ⟨(Nat.le_of_ble_eq_true rfl), (Nat.le_of_ble_eq_true rfl)⟩ (Nat.le_of_ble_eq_true rfl) g76 rfl rfl (hA (j / 12) (j % 12) (by omega) (by omega) _) ?_
      refine xi_i2l dX8_digest_143 ?_
      refine cV1 (av := [_]) dX8_digest_144 lX8_300 rfl ⟨rfl, rfl⟩ rfl ⟨(Nat.le_of_ble_eq_true rfl), (Nat.le_of_ble_eq_true rfl)⟩ ⟨(Nat.le_of_ble_eq_true rfl), (Nat.le_of_ble_eq_true rfl)⟩ (Nat.le_of_ble_eq_true rfl) g76 rfl rfl (m_mix) ?_
      refine xi_iinc (v := 1) dX8_digest_147 rfl (by decide) (Nat.le_of_ble_eq_true rfl) ?_
      refine xi_goto (tgt := 119) dX8_digest_150 rfl ?_
      refine xgo_pick [0, 1] rfl ?_
      rw [nI_1]
      exact ih hl _ (by rw [itr_s, ← hq]; simp only [hlS, hpS, mgT, mixV] <;> rfl)
    )
  have loop2 := up_ind (n := n) (P := fun j => ∀ q, q = itr (hpS (A1 77) (A1 78) (A1 88)) j (mg1 A A1 n m) → go0 mX8_digest (eqQ (some (.long X)) (mgA2 A1 B1 c r n m) (hB B1 X) D) nx 0 0 70 [(0, .ref 76), (1, .int (nI j))] [] (updA A1 76 0 0) (hB B1 q) D) (fun j hj ih q hq => by
    refine xi_iload_n dX8_digest_70 rfl rfl ?_
    refine xi_aload_n dX8_digest_71 rfl rfl ?_
    refine cV1 (av := []) dX8_digest_72 lX8_76 rfl ⟨rfl, rfl⟩ rfl ⟨(Nat.le_of_ble_eq_true rfl), (Nat.le_of_ble_eq_true rfl)⟩ ⟨(Nat.le_of_ble_eq_true rfl), (Nat.le_of_ble_eq_true rfl)⟩ (Nat.le_of_ble_eq_true rfl) g76 rfl rfl (m_pixels) ?_
    rw [show updA A1 76 0 0 76 1 * updA A1 76 0 0 76 2 = nI n from hn]
    refine xi_icmp_ge (tgt := 117) dX8_digest_75 rfl (fun h75 => ?_) (fun h75 => ?_)
    · have e : j = n := ge_eq hj (by omega) h75
      subst e
      refine xi_iconst (v := 0) dX8_digest_117 (by decide) ?_
      refine xi_istore_n dX8_digest_118 rfl (Nat.le_of_ble_eq_true rfl) ?_
      refine xgo_pick [0, 1] rfl ?_
      exact loop3 0 (Nat.zero_le _) _ (by rw [itr_0, hq])
    · have hl : j < n := nge_lt hj (by omega) h75
      refine xi_aload_n dX8_digest_78 rfl rfl ?_
      refine xi_aload_n dX8_digest_79 rfl rfl ?_
      refine xi_getfield3 dX8_digest_80 fX8_16 g76 r76_3 ?_
      refine xi_iload_n dX8_digest_83 rfl rfl ?_
      refine ia dX8_digest_84 g77 s77 rfl (by omega) (Nat.le_of_ble_eq_true rfl) ?_
      refine xi_i2l dX8_digest_85 ?_
      refine cV1 (av := [_]) dX8_digest_86 lX8_300 rfl ⟨rfl, rfl⟩ rfl ⟨(Nat.le_of_ble_eq_true rfl), (Nat.le_of_ble_eq_true rfl)⟩ ⟨(Nat.le_of_ble_eq_true rfl), (Nat.le_of_ble_eq_true rfl)⟩ (Nat.le_of_ble_eq_true rfl) g76 rfl rfl (m_mix) ?_
      refine xi_aload_n dX8_digest_89 rfl rfl ?_
      refine xi_aload_n dX8_digest_90 rfl rfl ?_
      refine xi_getfield3 dX8_digest_91 fX8_20 g76 r76_4 ?_
      refine xi_iload_n dX8_digest_94 rfl rfl ?_
      refine ia dX8_digest_95 g78 s78 rfl (by omega) (Nat.le_of_ble_eq_true rfl) ?_
      refine xi_i2l dX8_digest_96 ?_
      refine cV1 (av := [_]) dX8_digest_97 lX8_300 rfl ⟨rfl, rfl⟩ rfl ⟨(Nat.le_of_ble_eq_true rfl), (Nat.le_of_ble_eq_true rfl)⟩ ⟨(Nat.le_of_ble_eq_true rfl), (Nat.le_of_ble_eq_true rfl)⟩ (Nat.le_of_ble_eq_true rfl) g76 rfl rfl (m_mix) ?_
      refine xi_aload_n dX8_digest_100 rfl rfl ?_
      refine xi_aload_n dX8_digest_101 rfl rfl ?_
      refine xi_getfield3 dX8_digest_102 fX8_51 g76 r76_24 ?_
      refine xi_iload_n dX8_digest_105 rfl rfl ?_
      refine ia dX8_digest_106 g88 s88 rfl (by omega) (Nat.le_of_ble_eq_true rfl) ?_
      refine xi_i2l dX8_digest_107 ?_
      refine cV1 (av := [_]) dX8_digest_108 lX8_300 rfl ⟨rfl, rfl⟩ rfl ⟨(Nat.le_of_ble_eq_true rfl), (Nat.le_of_ble_eq_true rfl)⟩ ⟨(Nat.le_of_ble_eq_true rfl), (Nat.le_of_ble_eq_true rfl)⟩ (Nat.le_of_ble_eq_true rfl) g76 rfl rfl (m_mix) ?_
      refine xi_iinc (v := 1) dX8_digest_111 rfl (by decide) (Nat.le_of_ble_eq_true rfl) ?_
      refine xi_goto (tgt := 70) dX8_digest_114 rfl ?_
      refine xgo_pick [0, 1] rfl ?_
      rw [nI_1]
      exact ih hl _ (by rw [itr_s, ← hq]; simp only [hlS, hpS, mgT, mixV] <;> rfl)
    )
  have loop1 := up_ind (n := 8) (P := fun j => ∀ q A0 B0, q = itr (mgN A1 n m) j (mg0 A) → (j = 8 → A0 = updA A1 76 0 0 ∧ B0 = hB B1 q) → (∀ D, does0 mX8_layTree [.ref 76] A0 B0 D (eqQ none (updA A1 76 0 0) (hB B1 q) D) nx) → go0 mX8_digest (eqQ (some (.long X)) (mgA2 A1 B1 c r n m) (hB B1 X) D) nx 0 0 46 [(0, .ref 76), (1, .int (nI j))] [] A0 B0 D) (fun j hj ih q A0 B0 hq he hd => by
    refine xi_iload_n dX8_digest_46 rfl rfl ?_
    refine xi_bipush (v := 8) dX8_digest_47 (by decide) ?_
    refine xi_icmp_ge (tgt := 68) dX8_digest_49 rfl (fun h49 => ?_) (fun h49 => ?_)
    · have e : j = 8 := ge_eq hj (by decide) h49
      obtain ⟨rfl, rfl⟩ := he e
      subst e
      refine xi_iconst (v := 0) dX8_digest_68 (by decide) ?_
      refine xi_istore_n dX8_digest_69 rfl (Nat.le_of_ble_eq_true rfl) ?_
      refine xgo_pick [0, 1] rfl ?_
      exact loop2 0 (Nat.zero_le _) _ (by rw [itr_0, hq]; unfold mg1; rfl)
    · have hl : j < 8 := nge_lt hj (by decide) h49
      refine xi_aload_n dX8_digest_52 rfl rfl ?_
      refine xi_aload_n dX8_digest_53 rfl rfl ?_
      refine xi_iload_n dX8_digest_54 rfl rfl ?_
      refine cV1 (av := [_]) dX8_digest_55 lX8_215 rfl ⟨rfl, rfl⟩ rfl ⟨(Nat.le_of_ble_eq_true rfl), (Nat.le_of_ble_eq_true rfl)⟩ ⟨(Nat.le_of_ble_eq_true rfl), (Nat.le_of_ble_eq_true rfl)⟩ (Nat.le_of_ble_eq_true rfl) g76 rfl rfl (m_countOf (A1 := updA A1 76 0 0) hl (hd _) hn hn64 hm hm64 hpa) ?_
      rw [mcV_t]
      refine xi_i2l dX8_digest_58 ?_
      refine cV1 (av := [_]) dX8_digest_59 lX8_300 rfl ⟨rfl, rfl⟩ rfl ⟨(Nat.le_of_ble_eq_true rfl), (Nat.le_of_ble_eq_true rfl)⟩ ⟨(Nat.le_of_ble_eq_true rfl), (Nat.le_of_ble_eq_true rfl)⟩ (Nat.le_of_ble_eq_true rfl) g76 rfl rfl (m_mix) ?_
      refine xi_iinc (v := 1) dX8_digest_62 rfl (by decide) (Nat.le_of_ble_eq_true rfl) ?_
      refine xi_goto (tgt := 46) dX8_digest_65 rfl ?_
      refine xgo_pick [0, 1] rfl ?_
      rw [nI_1]
      exact ih hl _ _ _ (by rw [itr_s, ← hq]; unfold mgN mixV; rfl) (fun _ => ⟨rfl, rfl⟩) (fun D => m_layDone hL1)
    )
  refine xi_aload_n dX8_digest_0 rfl rfl ?_
  refine xi_iconst (v := 0) dX8_digest_1 (by decide) ?_
  refine xi_putfield0 dX8_digest_2 fX8_73 g76 pX8_73 ?_
  refine xi_aload_n dX8_digest_5 rfl rfl ?_
  refine xi_ldc2_w dX8_digest_6 kX8_298 ?_
  refine xi_putfield2 dX8_digest_9 fX8_294 g76 pX8_294 ?_
  refine xi_aload_n dX8_digest_12 rfl rfl ?_
  refine xi_aload_n dX8_digest_13 rfl rfl ?_
  refine xi_getfield1 dX8_digest_14 fX8_84 g76 ?_
  refine xi_if_eq (tgt := 24) dX8_digest_17 rfl (fun h17 => ?_) (fun h17 => ?_)
  · refine xi_lconst (v := 0) dX8_digest_24 (by decide) ?_
    refine cV1 (av := [_]) dX8_digest_25 lX8_300 rfl ⟨rfl, rfl⟩ rfl ⟨(Nat.le_of_ble_eq_true rfl), (Nat.le_of_ble_eq_true rfl)⟩ ⟨(Nat.le_of_ble_eq_true rfl), (Nat.le_of_ble_eq_true rfl)⟩ (Nat.le_of_ble_eq_true rfl) g76 rfl rfl (m_mix) ?_
    refine xi_aload_n dX8_digest_28 rfl rfl ?_
    refine xi_aload_n dX8_digest_29 rfl rfl ?_
    refine xi_getfield1 dX8_digest_30 fX8_123 g76 ?_
    refine xi_if_eq (tgt := 40) dX8_digest_33 rfl (fun h33 => ?_) (fun h33 => ?_)
    · refine xi_lconst (v := 0) dX8_digest_40 (by decide) ?_
      refine cV1 (av := [_]) dX8_digest_41 lX8_300 rfl ⟨rfl, rfl⟩ rfl ⟨(Nat.le_of_ble_eq_true rfl), (Nat.le_of_ble_eq_true rfl)⟩ ⟨(Nat.le_of_ble_eq_true rfl), (Nat.le_of_ble_eq_true rfl)⟩ (Nat.le_of_ble_eq_true rfl) g76 rfl rfl (m_mix) ?_
      refine xi_iconst (v := 0) dX8_digest_44 (by decide) ?_
      refine xi_istore_n dX8_digest_45 rfl (Nat.le_of_ble_eq_true rfl) ?_
      refine xgo_pick [0, 1] rfl ?_
      refine loop1 0 (Nat.zero_le _) _ _ _ ?_ (fun z => absurd z (by decide)) (fun D => hlB _ D)
      rw [itr_0]
      unfold mg0 mixV
      first | rw [if_pos (show A 76 5 = 0 from h17), if_pos (show A 76 6 = 0 from h33), i0L] | rw [if_neg (show ¬ A 76 5 = 0 from h17), if_pos (show A 76 6 = 0 from h33), i0L, i1L]
    · refine xi_lconst (v := 1) dX8_digest_36 (by decide) ?_
      refine xi_goto (tgt := 41) dX8_digest_37 rfl ?_
      refine cV1 (av := [_]) dX8_digest_41 lX8_300 rfl ⟨rfl, rfl⟩ rfl ⟨(Nat.le_of_ble_eq_true rfl), (Nat.le_of_ble_eq_true rfl)⟩ ⟨(Nat.le_of_ble_eq_true rfl), (Nat.le_of_ble_eq_true rfl)⟩ (Nat.le_of_ble_eq_true rfl) g76 rfl rfl (m_mix) ?_
      refine xi_iconst (v := 0) dX8_digest_44 (by decide) ?_
      refine xi_istore_n dX8_digest_45 rfl (Nat.le_of_ble_eq_true rfl) ?_
      refine xgo_pick [0, 1] rfl ?_
      refine loop1 0 (Nat.zero_le _) _ _ _ ?_ (fun z => absurd z (by decide)) (fun D => hlB _ D)
      rw [itr_0]
      unfold mg0 mixV
      first | rw [if_pos (show A 76 5 = 0 from h17), if_neg (show ¬ A 76 6 = 0 from h33), i0L, i1L] | rw [if_neg (show ¬ A 76 5 = 0 from h17), if_neg (show ¬ A 76 6 = 0 from h33), i1L]
  · refine xi_lconst (v := 1) dX8_digest_20 (by decide) ?_
    refine xi_goto (tgt := 25) dX8_digest_21 rfl ?_
    refine cV1 (av := [_]) dX8_digest_25 lX8_300 rfl ⟨rfl, rfl⟩ rfl ⟨(Nat.le_of_ble_eq_true rfl), (Nat.le_of_ble_eq_true rfl)⟩ ⟨(Nat.le_of_ble_eq_true rfl), (Nat.le_of_ble_eq_true rfl)⟩ (Nat.le_of_ble_eq_true rfl) g76 rfl rfl (m_mix) ?_
    refine xi_aload_n dX8_digest_28 rfl rfl ?_
    refine xi_aload_n dX8_digest_29 rfl rfl ?_
    refine xi_getfield1 dX8_digest_30 fX8_123 g76 ?_
    refine xi_if_eq (tgt := 40) dX8_digest_33 rfl (fun h33 => ?_) (fun h33 => ?_)
    · refine xi_lconst (v := 0) dX8_digest_40 (by decide) ?_
      refine cV1 (av := [_]) dX8_digest_41 lX8_300 rfl ⟨rfl, rfl⟩ rfl ⟨(Nat.le_of_ble_eq_true rfl), (Nat.le_of_ble_eq_true rfl)⟩ ⟨(Nat.le_of_ble_eq_true rfl), (Nat.le_of_ble_eq_true rfl)⟩ (Nat.le_of_ble_eq_true rfl) g76 rfl rfl (m_mix) ?_
      refine xi_iconst (v := 0) dX8_digest_44 (by decide) ?_
      refine xi_istore_n dX8_digest_45 rfl (Nat.le_of_ble_eq_true rfl) ?_
      refine xgo_pick [0, 1] rfl ?_
      refine loop1 0 (Nat.zero_le _) _ _ _ ?_ (fun z => absurd z (by decide)) (fun D => hlB _ D)
      rw [itr_0]
      unfold mg0 mixV
      first | rw [if_pos (show A 76 5 = 0 from h17), if_pos (show A 76 6 = 0 from h33), i0L] | rw [if_neg (show ¬ A 76 5 = 0 from h17), if_pos (show A 76 6 = 0 from h33), i0L, i1L]
    · refine xi_lconst (v := 1) dX8_digest_36 (by decide) ?_
      refine xi_goto (tgt := 41) dX8_digest_37 rfl ?_
      refine cV1 (av := [_]) dX8_digest_41 lX8_300 rfl ⟨rfl, rfl⟩ rfl ⟨(Nat.le_of_ble_eq_true rfl), (Nat.le_of_ble_eq_true rfl)⟩ ⟨(Nat.le_of_ble_eq_true rfl), (Nat.le_of_ble_eq_true rfl)⟩ (Nat.le_of_ble_eq_true rfl) g76 rfl rfl (m_mix) ?_
      refine xi_iconst (v := 0) dX8_digest_44 (by decide) ?_
      refine xi_istore_n dX8_digest_45 rfl (Nat.le_of_ble_eq_true rfl) ?_
      refine xgo_pick [0, 1] rfl ?_
      refine loop1 0 (Nat.zero_le _) _ _ _ ?_ (fun z => absurd z (by decide)) (fun D => hlB _ D)
      rw [itr_0]
      unfold mg0 mixV
      first | rw [if_pos (show A 76 5 = 0 from h17), if_neg (show ¬ A 76 6 = 0 from h33), i0L, i1L] | rw [if_neg (show ¬ A 76 5 = 0 from h17), if_neg (show ¬ A 76 6 = 0 from h33), i1L]

