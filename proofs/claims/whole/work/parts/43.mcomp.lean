/-! the model: complement -/
def mcA (A : xA) (sz n : Nat) : xA := setA (svA (updA A 76 0 0) sz) 77 (itr cmS n (A 77))
theorem m_complement {c r n sz len : Nat} {A A1 : xA} {B B1 : xB} {D : xD} (h : mOK A c r n sz len) (hlt : does0 mX8_layTree [.ref 76] (mcA A sz n) B D (eqQ none A1 B1 D) nx) : does0 mX8_complement [.ref 76] A B D (eqQ (some (.int (A1 76 19))) A1 B1 D) nx := by
  refine does_go (by decide) rfl (Nat.le_of_ble_eq_true rfl) rfl ?_
  obtain ⟨hn, hn0, hn64⟩ := h.n
  have loop := up_ind (n := n) (P := fun j => ∀ q, q = itr cmS j (A 77) → go0 mX8_complement (eqQ (some (.int (A1 76 19))) A1 B1 D) nx 0 0 11 [(0, .ref 76), (1, .int (nI j))] [] (setA (svA (updA A 76 0 0) sz) 77 q) B D) (fun j hj ih q hq => by
    refine xi_iload_n dX8_complement_11 rfl rfl ?_
    refine xi_aload_n dX8_complement_12 rfl rfl ?_
    refine cV1 (av := []) dX8_complement_13 lX8_76 rfl ⟨rfl, rfl⟩ rfl ⟨(Nat.le_of_ble_eq_true rfl), (Nat.le_of_ble_eq_true rfl)⟩ ⟨(Nat.le_of_ble_eq_true rfl), (Nat.le_of_ble_eq_true rfl)⟩ (Nat.le_of_ble_eq_true rfl) g76 rfl rfl (m_pixels) ?_
    rw [show setA (svA (updA A 76 0 0) sz) 77 q 76 1 * setA (svA (updA A 76 0 0) sz) 77 q 76 2 = nI n from hn]
    refine xi_icmp_ge (tgt := 40) dX8_complement_16 rfl (fun h16 => ?_) (fun h16 => ?_)
    · have e : j = n := ge_eq hj (by omega) h16
      subst e
      refine xi_aload_n dX8_complement_40 rfl rfl ?_
      rw [hq]
      refine cV1 (av := []) dX8_complement_41 lX8_113 rfl ⟨rfl, rfl⟩ rfl ⟨(Nat.le_of_ble_eq_true rfl), (Nat.le_of_ble_eq_true rfl)⟩ ⟨(Nat.le_of_ble_eq_true rfl), (Nat.le_of_ble_eq_true rfl)⟩ (Nat.le_of_ble_eq_true rfl) g76 rfl rfl (hlt) ?_
      refine xi_aload_n dX8_complement_44 rfl rfl ?_
      refine xi_getfield0 dX8_complement_45 fX8_116 g76 ?_
      refine go_ret (r := some (.int _)) dX8_complement_48 (Nat.le_of_ble_eq_true rfl) (Nat.le_of_ble_eq_true rfl) ?_
      exact ⟨rfl, rfl, rfl, rfl⟩
    · have hl : j < n := nge_lt hj (by omega) h16
      refine xi_aload_n dX8_complement_19 rfl rfl ?_
      refine xi_getfield3 dX8_complement_20 fX8_16 g76 r76_3 ?_
      refine xi_iload_n dX8_complement_23 rfl rfl ?_
      refine xi_bipush (v := 15) dX8_complement_24 (by decide) ?_
      refine xi_aload_n dX8_complement_26 rfl rfl ?_
      refine xi_getfield3 dX8_complement_27 fX8_16 g76 r76_3 ?_
      refine xi_iload_n dX8_complement_30 rfl rfl ?_
      refine ia dX8_complement_31 g77 s77 rfl (by omega) (Nat.le_of_ble_eq_true rfl) ?_
      rw [setA_s]
      refine xi_isub dX8_complement_32 ?_
      refine is dX8_complement_33 g77 s77 rfl (by omega) (Nat.le_of_ble_eq_true rfl) ?_
      refine xi_iinc (v := 1) dX8_complement_34 rfl (by decide) (Nat.le_of_ble_eq_true rfl) ?_
      refine xi_goto (tgt := 11) dX8_complement_37 rfl ?_
      refine xgo_pick [0, 1] rfl ?_
      rw [nI_1, setA_u]
      exact ih hl _ (by rw [itr_s, ← hq]; rfl)
    )
  refine xi_aload_n dX8_complement_0 rfl rfl ?_
  refine xi_iconst (v := 0) dX8_complement_1 (by decide) ?_
  refine xi_putfield0 dX8_complement_2 fX8_73 g76 pX8_73 ?_
  refine xi_aload_n dX8_complement_5 rfl rfl ?_
  refine cV1 (av := []) dX8_complement_6 lX8_100 rfl ⟨rfl, rfl⟩ rfl ⟨(Nat.le_of_ble_eq_true rfl), (Nat.le_of_ble_eq_true rfl)⟩ ⟨(Nat.le_of_ble_eq_true rfl), (Nat.le_of_ble_eq_true rfl)⟩ (Nat.le_of_ble_eq_true rfl) g76 rfl rfl (m_save (sz := sz) h.2.1.1 h.2.1.2) ?_
  refine xi_iconst (v := 0) dX8_complement_9 (by decide) ?_
  refine xi_istore_n dX8_complement_10 rfl (Nat.le_of_ble_eq_true rfl) ?_
  refine xgo_pick [0, 1] rfl ?_
  have l0 := loop 0 (Nat.zero_le _) (A 77) rfl
  rw [show setA (svA (updA A 76 0 0) sz) 77 (A 77) = svA (updA A 76 0 0) sz from setA_self (svA (updA A 76 0 0) sz) 77] at l0
  exact l0

