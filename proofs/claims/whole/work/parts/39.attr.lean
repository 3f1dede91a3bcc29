/-! the model: attributes -/
theorem m_layDone {A : xA} {B : xB} {D : xD} (hL : ¬ A 76 18 = 0) : does0 mX8_layTree [.ref 76] A B D (eqQ none A B D) nx := by
  refine does_go (by decide) rfl (Nat.le_of_ble_eq_true rfl) rfl ?_
  refine xi_aload_n dX8_layTree_0 rfl rfl ?_
  refine xi_getfield1 dX8_layTree_1 fX8_97 g76 ?_
  refine xi_if_eq (tgt := 8) dX8_layTree_4 rfl (fun h4 => ?_) (fun h4 => ?_)
  · exact absurd h4 hL
  · refine go_ret (r := none) dX8_layTree_7 (Nat.le_of_ble_eq_true rfl) (Nat.le_of_ble_eq_true rfl) ?_
    exact ⟨rfl, rfl, rfl, rfl⟩
def owV (na : Nat → Int32) (x : Int32) (n : Nat) : Int32 := isum (fun p => if na p = x then 1 else 0) n
theorem m_own {n : Nat} {x : Int32} {A : xA} {B : xB} {D : xD} (hn : A 76 1 * A 76 2 = nI n) (hn64 : n ≤ 64) : does0 mX8_own [.ref 76, .int x] A B D (eqQ (some (.int (owV (A 88) x n))) A B D) nx := by
  refine does_go (by decide) rfl (Nat.le_of_ble_eq_true rfl) rfl ?_
  have loop := up_ind (n := n) (P := fun j => go0 mX8_own (eqQ (some (.int (owV (A 88) x n))) A B D) nx 0 0 4 [(0, .ref 76), (1, .int x), (2, .int (owV (A 88) x j)), (3, .int (nI j))] [] A B D) (fun j hj ih => by
    refine xi_iload_n dX8_own_4 rfl rfl ?_
    refine xi_aload_n dX8_own_5 rfl rfl ?_
    refine cV1 (av := []) dX8_own_6 lX8_76 rfl ⟨rfl, rfl⟩ rfl ⟨(Nat.le_of_ble_eq_true rfl), (Nat.le_of_ble_eq_true rfl)⟩ ⟨(Nat.le_of_ble_eq_true rfl), (Nat.le_of_ble_eq_true rfl)⟩ (Nat.le_of_ble_eq_true rfl) g76 rfl rfl (m_pixels) ?_
    rw [hn]
    refine xi_icmp_ge (tgt := 36) dX8_own_9 rfl (fun h9 => ?_) (fun h9 => ?_)
    · have e : j = n := ge_eq hj (by omega) h9
      subst e
      refine xi_iload_n dX8_own_36 rfl rfl ?_
      refine go_ret (r := some (.int _)) dX8_own_37 (Nat.le_of_ble_eq_true rfl) (Nat.le_of_ble_eq_true rfl) ?_
      exact ⟨rfl, rfl, rfl, rfl⟩
    · have hl : j < n := nge_lt hj (by omega) h9
      refine xi_iload_n dX8_own_12 rfl rfl ?_
      refine xi_aload_n dX8_own_13 rfl rfl ?_
      refine xi_getfield3 dX8_own_14 fX8_51 g76 r76_24 ?_
      refine xi_iload_n dX8_own_17 rfl rfl ?_
      refine ia dX8_own_18 g88 s88 rfl (by omega) (Nat.le_of_ble_eq_true rfl) ?_
      refine xi_iload_n dX8_own_19 rfl rfl ?_
      refine xi_icmpne (tgt := 27) dX8_own_20 rfl (fun h20 => ?_) (fun h20 => ?_)
      · refine xi_iconst (v := 0) dX8_own_27 (by decide) ?_
        refine xi_iadd dX8_own_28 ?_
        refine xi_istore_n dX8_own_29 rfl (Nat.le_of_ble_eq_true rfl) ?_
        refine xi_iinc (v := 1) dX8_own_30 rfl (by decide) (Nat.le_of_ble_eq_true rfl) ?_
        refine xi_goto (tgt := 4) dX8_own_33 rfl ?_
        refine xgo_pick [0, 1, 2, 3] rfl ?_
        rw [nI_1]
        have q := ih hl
        simp only [owV, isum, h20, if_true, if_false] at q ⊢
        exact q
      · refine xi_iconst (v := 1) dX8_own_23 (by decide) ?_
        refine xi_goto (tgt := 28) dX8_own_24 rfl ?_
        refine xi_iadd dX8_own_28 ?_
        refine xi_istore_n dX8_own_29 rfl (Nat.le_of_ble_eq_true rfl) ?_
        refine xi_iinc (v := 1) dX8_own_30 rfl (by decide) (Nat.le_of_ble_eq_true rfl) ?_
        refine xi_goto (tgt := 4) dX8_own_33 rfl ?_
        refine xgo_pick [0, 1, 2, 3] rfl ?_
        rw [nI_1]
        have q := ih hl
        simp only [owV, isum, h20, if_true, if_false] at q ⊢
        exact q
    )
  refine xi_iconst (v := 0) dX8_own_0 (by decide) ?_
  refine xi_istore_n dX8_own_1 rfl (Nat.le_of_ble_eq_true rfl) ?_
  refine xi_iconst (v := 0) dX8_own_2 (by decide) ?_
  refine xi_istore_n dX8_own_3 rfl (Nat.le_of_ble_eq_true rfl) ?_
  refine xgo_pick [0, 1, 2, 3] rfl ?_
  exact loop 0 (Nat.zero_le _)
def heS (s : Int64) (rp : Nat → Int32) (y : Int32) (p : Nat) (x : Int32) : Int32 := if hasM s (nI p) = 0 then x else grV x (rp p - y)
theorem m_heightOf {n v : Nat} (hv : v < 64) {A : xA} {B : xB} {D : xD} (hn : A 76 1 * A 76 2 = nI n) (hn64 : n ≤ 64) : does0 mX8_heightOf [.ref 76, .int (nI v)] A B D (eqQ (some (.int (itr (heS (B 84 v) (rkM A) (A 85 v)) n 0))) A B D) nx := by
  refine does_go (by decide) rfl (Nat.le_of_ble_eq_true rfl) rfl ?_
  have loop := up_ind (n := n) (P := fun j => ∀ q, q = itr (heS (B 84 v) (rkM A) (A 85 v)) j 0 → go0 mX8_heightOf (eqQ (some (.int (itr (heS (B 84 v) (rkM A) (A 85 v)) n 0))) A B D) nx 0 0 4 [(0, .ref 76), (1, .int (nI v)), (2, .int q), (3, .int (nI j))] [] A B D) (fun j hj ih q hq => by
    refine xi_iload_n dX8_heightOf_4 rfl rfl ?_
    refine xi_aload_n dX8_heightOf_5 rfl rfl ?_
    refine cV1 (av := []) dX8_heightOf_6 lX8_76 rfl ⟨rfl, rfl⟩ rfl ⟨(Nat.le_of_ble_eq_true rfl), (Nat.le_of_ble_eq_true rfl)⟩ ⟨(Nat.le_of_ble_eq_true rfl), (Nat.le_of_ble_eq_true rfl)⟩ (Nat.le_of_ble_eq_true rfl) g76 rfl rfl (m_pixels) ?_
    rw [hn]
    refine xi_icmp_ge (tgt := 57) dX8_heightOf_9 rfl (fun h9 => ?_) (fun h9 => ?_)
    · have e : j = n := ge_eq hj (by omega) h9
      subst e
      refine xi_iload_n dX8_heightOf_57 rfl rfl ?_
      refine go_ret (r := some (.int _)) dX8_heightOf_58 (Nat.le_of_ble_eq_true rfl) (Nat.le_of_ble_eq_true rfl) ?_
      exact ⟨by rw [hq], rfl, rfl, rfl⟩
    · have hl : j < n := nge_lt hj (by omega) h9
      refine xi_aload_n dX8_heightOf_12 rfl rfl ?_
      refine xi_getfield3 dX8_heightOf_13 fX8_38 g76 r76_20 ?_
      refine xi_iload_n dX8_heightOf_16 rfl rfl ?_
      refine la dX8_heightOf_17 g84 s84 rfl (by omega) (Nat.le_of_ble_eq_true rfl) ?_
      refine xi_iload_n dX8_heightOf_18 rfl rfl ?_
      refine cS1 (av := [_, _]) dX8_heightOf_19 lX8_151 rfl ⟨rfl, rfl⟩ rfl ⟨(Nat.le_of_ble_eq_true rfl), (Nat.le_of_ble_eq_true rfl)⟩ ⟨(Nat.le_of_ble_eq_true rfl), (Nat.le_of_ble_eq_true rfl)⟩ (Nat.le_of_ble_eq_true rfl) (m_has) ?_
      refine xi_if_eq (tgt := 49) dX8_heightOf_22 rfl (fun h22 => ?_) (fun h22 => ?_)
      · refine xi_iload_n dX8_heightOf_49 rfl rfl ?_
        refine xi_istore_n dX8_heightOf_50 rfl (Nat.le_of_ble_eq_true rfl) ?_
        refine xi_iinc (v := 1) dX8_heightOf_51 rfl (by decide) (Nat.le_of_ble_eq_true rfl) ?_
        refine xi_goto (tgt := 4) dX8_heightOf_54 rfl ?_
        refine xgo_pick [0, 1, 2, 3] rfl ?_
        rw [nI_1]
        exact ih hl _ (by rw [itr_s, ← hq]; unfold heS; simp only [h22, if_true, if_false])
      · refine xi_iload_n dX8_heightOf_25 rfl rfl ?_
        refine xi_aload_n dX8_heightOf_26 rfl rfl ?_
        refine xi_aload_n dX8_heightOf_27 rfl rfl ?_
        refine xi_getfield3 dX8_heightOf_28 fX8_16 g76 r76_3 ?_
        refine xi_iload_n dX8_heightOf_31 rfl rfl ?_
        refine ia dX8_heightOf_32 g77 s77 rfl (by omega) (Nat.le_of_ble_eq_true rfl) ?_
        refine cV1 (av := [_]) dX8_heightOf_33 lX8_159 rfl ⟨rfl, rfl⟩ rfl ⟨(Nat.le_of_ble_eq_true rfl), (Nat.le_of_ble_eq_true rfl)⟩ ⟨(Nat.le_of_ble_eq_true rfl), (Nat.le_of_ble_eq_true rfl)⟩ (Nat.le_of_ble_eq_true rfl) g76 rfl rfl (m_rankOf) ?_
        refine xi_aload_n dX8_heightOf_36 rfl rfl ?_
        refine xi_getfield3 dX8_heightOf_37 fX8_42 g76 r76_21 ?_
        refine xi_iload_n dX8_heightOf_40 rfl rfl ?_
        refine ia dX8_heightOf_41 g85 s85 rfl (by omega) (Nat.le_of_ble_eq_true rfl) ?_
        refine xi_isub dX8_heightOf_42 ?_
        refine cS1 (av := [_, _]) dX8_heightOf_43 lX8_199 rfl ⟨rfl, rfl⟩ rfl ⟨(Nat.le_of_ble_eq_true rfl), (Nat.le_of_ble_eq_true rfl)⟩ ⟨(Nat.le_of_ble_eq_true rfl), (Nat.le_of_ble_eq_true rfl)⟩ (Nat.le_of_ble_eq_true rfl) (m_greater) ?_
        refine xi_goto (tgt := 50) dX8_heightOf_46 rfl ?_
        refine xi_istore_n dX8_heightOf_50 rfl (Nat.le_of_ble_eq_true rfl) ?_
        refine xi_iinc (v := 1) dX8_heightOf_51 rfl (by decide) (Nat.le_of_ble_eq_true rfl) ?_
        refine xi_goto (tgt := 4) dX8_heightOf_54 rfl ?_
        refine xgo_pick [0, 1, 2, 3] rfl ?_
        rw [nI_1]
        exact ih hl _ (by rw [itr_s, ← hq]; unfold heS; simp only [h22, if_true, if_false])
    )
  refine xi_iconst (v := 0) dX8_heightOf_0 (by decide) ?_
  refine xi_istore_n dX8_heightOf_1 rfl (Nat.le_of_ble_eq_true rfl) ?_
  refine xi_iconst (v := 0) dX8_heightOf_2 (by decide) ?_
  refine xi_istore_n dX8_heightOf_3 rfl (Nat.le_of_ble_eq_true rfl) ?_
  refine xgo_pick [0, 1, 2, 3] rfl ?_
  exact loop 0 (Nat.zero_le _) _ rfl
def srV (s : Int64) (rp : Nat → Int32) (n : Nat) : Int32 := isum (fun p => if hasM s (nI p) = 0 then 0 else rp p) n
theorem m_sumOfRanks {n v : Nat} (hv : v < 64) {A : xA} {B : xB} {D : xD} (hn : A 76 1 * A 76 2 = nI n) (hn64 : n ≤ 64) : does0 mX8_sumOfRanks [.ref 76, .int (nI v)] A B D (eqQ (some (.int (srV (B 84 v) (rkM A) n))) A B D) nx := by
  refine does_go (by decide) rfl (Nat.le_of_ble_eq_true rfl) rfl ?_
  have loop := up_ind (n := n) (P := fun j => go0 mX8_sumOfRanks (eqQ (some (.int (srV (B 84 v) (rkM A) n))) A B D) nx 0 0 4 [(0, .ref 76), (1, .int (nI v)), (2, .int (srV (B 84 v) (rkM A) j)), (3, .int (nI j))] [] A B D) (fun j hj ih => by
    refine xi_iload_n dX8_sumOfRanks_4 rfl rfl ?_
    refine xi_aload_n dX8_sumOfRanks_5 rfl rfl ?_
    refine cV1 (av := []) dX8_sumOfRanks_6 lX8_76 rfl ⟨rfl, rfl⟩ rfl ⟨(Nat.le_of_ble_eq_true rfl), (Nat.le_of_ble_eq_true rfl)⟩ ⟨(Nat.le_of_ble_eq_true rfl), (Nat.le_of_ble_eq_true rfl)⟩ (Nat.le_of_ble_eq_true rfl) g76 rfl rfl (m_pixels) ?_
    rw [hn]
    refine xi_icmp_ge (tgt := 48) dX8_sumOfRanks_9 rfl (fun h9 => ?_) (fun h9 => ?_)
    · have e : j = n := ge_eq hj (by omega) h9
      subst e
      refine xi_iload_n dX8_sumOfRanks_48 rfl rfl ?_
      refine go_ret (r := some (.int _)) dX8_sumOfRanks_49 (Nat.le_of_ble_eq_true rfl) (Nat.le_of_ble_eq_true rfl) ?_
      exact ⟨rfl, rfl, rfl, rfl⟩
    · have hl : j < n := nge_lt hj (by omega) h9
      refine xi_iload_n dX8_sumOfRanks_12 rfl rfl ?_
      refine xi_aload_n dX8_sumOfRanks_13 rfl rfl ?_
      refine xi_getfield3 dX8_sumOfRanks_14 fX8_38 g76 r76_20 ?_
      refine xi_iload_n dX8_sumOfRanks_17 rfl rfl ?_
      refine la dX8_sumOfRanks_18 g84 s84 rfl (by omega) (Nat.le_of_ble_eq_true rfl) ?_
      refine xi_iload_n dX8_sumOfRanks_19 rfl rfl ?_
      refine cS1 (av := [_, _]) dX8_sumOfRanks_20 lX8_151 rfl ⟨rfl, rfl⟩ rfl ⟨(Nat.le_of_ble_eq_true rfl), (Nat.le_of_ble_eq_true rfl)⟩ ⟨(Nat.le_of_ble_eq_true rfl), (Nat.le_of_ble_eq_true rfl)⟩ (Nat.le_of_ble_eq_true rfl) (m_has) ?_
      refine xi_if_eq (tgt := 39) dX8_sumOfRanks_23 rfl (fun h23 => ?_) (fun h23 => ?_)
      · refine xi_iconst (v := 0) dX8_sumOfRanks_39 (by decide) ?_
        refine xi_iadd dX8_sumOfRanks_40 ?_
        refine xi_istore_n dX8_sumOfRanks_41 rfl (Nat.le_of_ble_eq_true rfl) ?_
        refine xi_iinc (v := 1) dX8_sumOfRanks_42 rfl (by decide) (Nat.le_of_ble_eq_true rfl) ?_
        refine xi_goto (tgt := 4) dX8_sumOfRanks_45 rfl ?_
        refine xgo_pick [0, 1, 2, 3] rfl ?_
        rw [nI_1]
        have q := ih hl
        simp only [srV, isum, h23, if_true, if_false] at q ⊢
        exact q
      · refine xi_aload_n dX8_sumOfRanks_26 rfl rfl ?_
        refine xi_aload_n dX8_sumOfRanks_27 rfl rfl ?_
        refine xi_getfield3 dX8_sumOfRanks_28 fX8_16 g76 r76_3 ?_
        refine xi_iload_n dX8_sumOfRanks_31 rfl rfl ?_
        refine ia dX8_sumOfRanks_32 g77 s77 rfl (by omega) (Nat.le_of_ble_eq_true rfl) ?_
        refine cV1 (av := [_]) dX8_sumOfRanks_33 lX8_159 rfl ⟨rfl, rfl⟩ rfl ⟨(Nat.le_of_ble_eq_true rfl), (Nat.le_of_ble_eq_true rfl)⟩ ⟨(Nat.le_of_ble_eq_true rfl), (Nat.le_of_ble_eq_true rfl)⟩ (Nat.le_of_ble_eq_true rfl) g76 rfl rfl (m_rankOf) ?_
        refine xi_goto (tgt := 40) dX8_sumOfRanks_36 rfl ?_
        refine xi_iadd dX8_sumOfRanks_40 ?_
        refine xi_istore_n dX8_sumOfRanks_41 rfl (Nat.le_of_ble_eq_true rfl) ?_
        refine xi_iinc (v := 1) dX8_sumOfRanks_42 rfl (by decide) (Nat.le_of_ble_eq_true rfl) ?_
        refine xi_goto (tgt := 4) dX8_sumOfRanks_45 rfl ?_
        refine xgo_pick [0, 1, 2, 3] rfl ?_
        rw [nI_1]
        have q := ih hl
        simp only [srV, isum, h23, if_true, if_false] at q ⊢
        exact q
    )
  refine xi_iconst (v := 0) dX8_sumOfRanks_0 (by decide) ?_
  refine xi_istore_n dX8_sumOfRanks_1 rfl (Nat.le_of_ble_eq_true rfl) ?_
  refine xi_iconst (v := 0) dX8_sumOfRanks_2 (by decide) ?_
  refine xi_istore_n dX8_sumOfRanks_3 rfl (Nat.le_of_ble_eq_true rfl) ?_
  refine xgo_pick [0, 1, 2, 3] rfl ?_
  exact loop 0 (Nat.zero_le _)
def exS (s : Int64) (co : Nat → Int32) (p : Nat) (q : Int32 × Int32) : Int32 × Int32 := if hasM s (nI p) = 0 then q else (if q.1 ≤ co p then q.1 else co p, grV q.2 (co p))
def exC (c : Nat) (by_ : Int32) (p : Nat) : Int32 := if by_ = 0 then nI (p % c) else nI (p / c)
def exV (s : Int64) (c n : Nat) (by_ : Int32) : Int32 := (itr (exS s (exC c by_)) n (8, 0)).2 - (itr (exS s (exC c by_)) n (8, 0)).1 + 1
theorem m_extent {c r n v : Nat} {by_ : Int32} (hv : v < 64) {A : xA} {B : xB} {D : xD} (h : mG A c r n) : does0 mX8_extent [.ref 76, .int (nI v), .int by_] A B D (eqQ (some (.int (exV (B 84 v) c n by_))) A B D) nx := by
  refine does_go (by decide) rfl (Nat.le_of_ble_eq_true rfl) rfl ?_
  obtain ⟨hn, hn0, hn64⟩ := h.n
  obtain ⟨hc, hr, hc0, hc8, hr0, hr8, hcr⟩ := h
  have hd : ¬ nI c = 0 := nI_ne0 hc0 (by omega)
  have loop := up_ind (n := n) (P := fun j => ∀ q, q = itr (exS (B 84 v) (exC c by_)) j (8, 0) → go0 mX8_extent (eqQ (some (.int (exV (B 84 v) c n by_))) A B D) nx 0 0 9 [(0, .ref 76), (1, .int (nI v)), (2, .int by_), (3, .int q.1), (4, .int q.2), (5, .int (nI j))] [] A B D) (fun j hj ih q hq => by
    have K : j < n → ∀ x, x = exC c by_ j → go0 mX8_extent (eqQ (some (.int (exV (B 84 v) c n by_))) A B D) nx 0 0 39 [(0, .ref 76), (1, .int (nI v)), (2, .int by_), (3, .int q.1), (4, .int q.2), (5, .int (nI j))] [.int x] A B D := by
      intro hl x hx
      have ih1 := ih hl
      rw [itr_s, ← hq] at ih1
      unfold exS at ih1
      rw [← hx] at ih1
      refine xi_istore dX8_extent_39 (Nat.le_of_ble_eq_true rfl) ?_
      refine xi_aload_n dX8_extent_41 rfl rfl ?_
      refine xi_getfield3 dX8_extent_42 fX8_38 g76 r76_20 ?_
      refine xi_iload_n dX8_extent_45 rfl rfl ?_
      refine la dX8_extent_46 g84 s84 rfl (by omega) (Nat.le_of_ble_eq_true rfl) ?_
      refine xi_iload dX8_extent_47 rfl ?_
      refine cS1 (av := [_, _]) dX8_extent_49 lX8_151 rfl ⟨rfl, rfl⟩ rfl ⟨(Nat.le_of_ble_eq_true rfl), (Nat.le_of_ble_eq_true rfl)⟩ ⟨(Nat.le_of_ble_eq_true rfl), (Nat.le_of_ble_eq_true rfl)⟩ (Nat.le_of_ble_eq_true rfl) (m_has) ?_
      refine xi_if_eq (tgt := 66) dX8_extent_52 rfl (fun h52 => ?_) (fun h52 => ?_)
      · refine xi_iload_n dX8_extent_66 rfl rfl ?_
        refine xi_istore_n dX8_extent_67 rfl (Nat.le_of_ble_eq_true rfl) ?_
        refine xi_aload_n dX8_extent_68 rfl rfl ?_
        refine xi_getfield3 dX8_extent_69 fX8_38 g76 r76_20 ?_
        refine xi_iload_n dX8_extent_72 rfl rfl ?_
        refine la dX8_extent_73 g84 s84 rfl (by omega) (Nat.le_of_ble_eq_true rfl) ?_
        refine xi_iload dX8_extent_74 rfl ?_
        refine cS1 (av := [_, _]) dX8_extent_76 lX8_151 rfl ⟨rfl, rfl⟩ rfl ⟨(Nat.le_of_ble_eq_true rfl), (Nat.le_of_ble_eq_true rfl)⟩ ⟨(Nat.le_of_ble_eq_true rfl), (Nat.le_of_ble_eq_true rfl)⟩ (Nat.le_of_ble_eq_true rfl) (m_has) ?_
        refine xi_if_eq (tgt := 92) dX8_extent_79 rfl (fun h79 => ?_) (fun h79 => ?_)
        · refine xi_iload dX8_extent_92 rfl ?_
          refine xi_istore dX8_extent_94 (Nat.le_of_ble_eq_true rfl) ?_
          refine xi_iinc (v := 1) dX8_extent_96 rfl (by decide) (Nat.le_of_ble_eq_true rfl) ?_
          refine xi_goto (tgt := 9) dX8_extent_99 rfl ?_
          refine xgo_pick [0, 1, 2, 3, 4, 5] rfl ?_
          rw [nI_1]
          exact ih1 q (by rw [if_pos h52])
        · exact absurd h52 h79
      · refine xi_iload dX8_extent_55 rfl ?_
        refine xi_iload_n dX8_extent_57 rfl rfl ?_
        refine xi_icmp_ge (tgt := 66) dX8_extent_58 rfl (fun h58 => ?_) (fun h58 => ?_)
        · refine xi_iload_n dX8_extent_66 rfl rfl ?_
          refine xi_istore_n dX8_extent_67 rfl (Nat.le_of_ble_eq_true rfl) ?_
          refine xi_aload_n dX8_extent_68 rfl rfl ?_
          refine xi_getfield3 dX8_extent_69 fX8_38 g76 r76_20 ?_
          refine xi_iload_n dX8_extent_72 rfl rfl ?_
          refine la dX8_extent_73 g84 s84 rfl (by omega) (Nat.le_of_ble_eq_true rfl) ?_
          refine xi_iload dX8_extent_74 rfl ?_
          refine cS1 (av := [_, _]) dX8_extent_76 lX8_151 rfl ⟨rfl, rfl⟩ rfl ⟨(Nat.le_of_ble_eq_true rfl), (Nat.le_of_ble_eq_true rfl)⟩ ⟨(Nat.le_of_ble_eq_true rfl), (Nat.le_of_ble_eq_true rfl)⟩ (Nat.le_of_ble_eq_true rfl) (m_has) ?_
          refine xi_if_eq (tgt := 92) dX8_extent_79 rfl (fun h79 => ?_) (fun h79 => ?_)
          · exact absurd h79 h52
          · refine xi_iload dX8_extent_82 rfl ?_
            refine xi_iload dX8_extent_84 rfl ?_
            refine cS1 (av := [_, _]) dX8_extent_86 lX8_199 rfl ⟨rfl, rfl⟩ rfl ⟨(Nat.le_of_ble_eq_true rfl), (Nat.le_of_ble_eq_true rfl)⟩ ⟨(Nat.le_of_ble_eq_true rfl), (Nat.le_of_ble_eq_true rfl)⟩ (Nat.le_of_ble_eq_true rfl) (m_greater) ?_
            refine xi_goto (tgt := 94) dX8_extent_89 rfl ?_
            refine xi_istore dX8_extent_94 (Nat.le_of_ble_eq_true rfl) ?_
            refine xi_iinc (v := 1) dX8_extent_96 rfl (by decide) (Nat.le_of_ble_eq_true rfl) ?_
            refine xi_goto (tgt := 9) dX8_extent_99 rfl ?_
            refine xgo_pick [0, 1, 2, 3, 4, 5] rfl ?_
            rw [nI_1]
            exact ih1 (q.1, grV q.2 x) (by rw [if_neg h52, if_pos h58])
        · refine xi_iload dX8_extent_61 rfl ?_
          refine xi_goto (tgt := 67) dX8_extent_63 rfl ?_
          refine xi_istore_n dX8_extent_67 rfl (Nat.le_of_ble_eq_true rfl) ?_
          refine xi_aload_n dX8_extent_68 rfl rfl ?_
          refine xi_getfield3 dX8_extent_69 fX8_38 g76 r76_20 ?_
          refine xi_iload_n dX8_extent_72 rfl rfl ?_
          refine la dX8_extent_73 g84 s84 rfl (by omega) (Nat.le_of_ble_eq_true rfl) ?_
          refine xi_iload dX8_extent_74 rfl ?_
          refine cS1 (av := [_, _]) dX8_extent_76 lX8_151 rfl ⟨rfl, rfl⟩ rfl ⟨(Nat.le_of_ble_eq_true rfl), (Nat.le_of_ble_eq_true rfl)⟩ ⟨(Nat.le_of_ble_eq_true rfl), (Nat.le_of_ble_eq_true rfl)⟩ (Nat.le_of_ble_eq_true rfl) (m_has) ?_
          refine xi_if_eq (tgt := 92) dX8_extent_79 rfl (fun h79 => ?_) (fun h79 => ?_)
          · exact absurd h79 h52
          · refine xi_iload dX8_extent_82 rfl ?_
            refine xi_iload dX8_extent_84 rfl ?_
            refine cS1 (av := [_, _]) dX8_extent_86 lX8_199 rfl ⟨rfl, rfl⟩ rfl ⟨(Nat.le_of_ble_eq_true rfl), (Nat.le_of_ble_eq_true rfl)⟩ ⟨(Nat.le_of_ble_eq_true rfl), (Nat.le_of_ble_eq_true rfl)⟩ (Nat.le_of_ble_eq_true rfl) (m_greater) ?_
            refine xi_goto (tgt := 94) dX8_extent_89 rfl ?_
            refine xi_istore dX8_extent_94 (Nat.le_of_ble_eq_true rfl) ?_
            refine xi_iinc (v := 1) dX8_extent_96 rfl (by decide) (Nat.le_of_ble_eq_true rfl) ?_
            refine xi_goto (tgt := 9) dX8_extent_99 rfl ?_
            refine xgo_pick [0, 1, 2, 3, 4, 5] rfl ?_
            rw [nI_1]
            exact ih1 (x, grV q.2 x) (by rw [if_neg h52, if_neg h58])
    refine xi_iload dX8_extent_9 rfl ?_
    refine xi_aload_n dX8_extent_11 rfl rfl ?_
    refine cV1 (av := []) dX8_extent_12 lX8_76 rfl ⟨rfl, rfl⟩ rfl ⟨(Nat.le_of_ble_eq_true rfl), (Nat.le_of_ble_eq_true rfl)⟩ ⟨(Nat.le_of_ble_eq_true rfl), (Nat.le_of_ble_eq_true rfl)⟩ (Nat.le_of_ble_eq_true rfl) g76 rfl rfl (m_pixels) ?_
    rw [hn]
    refine xi_icmp_ge (tgt := 102) dX8_extent_15 rfl (fun h15 => ?_) (fun h15 => ?_)
    · have e : j = n := ge_eq hj (by omega) h15
      subst e
      refine xi_iload dX8_extent_102 rfl ?_
      refine xi_iload_n dX8_extent_104 rfl rfl ?_
      refine xi_isub dX8_extent_105 ?_
      refine xi_iconst (v := 1) dX8_extent_106 (by decide) ?_
      refine xi_iadd dX8_extent_107 ?_
      refine go_ret (r := some (.int _)) dX8_extent_108 (Nat.le_of_ble_eq_true rfl) (Nat.le_of_ble_eq_true rfl) ?_
      exact ⟨by rw [hq]; rfl, rfl, rfl, rfl⟩
    · have hl : j < n := nge_lt hj (by omega) h15
      refine xi_iload_n dX8_extent_18 rfl rfl ?_
      refine xi_if_eq (tgt := 32) dX8_extent_19 rfl (fun h19 => ?_) (fun h19 => ?_)
      · refine xi_iload dX8_extent_32 rfl ?_
        refine xi_aload_n dX8_extent_34 rfl rfl ?_
        refine xi_getfield0 dX8_extent_35 fX8_7 g76 ?_
        rw [hc]
        refine xi_irem dX8_extent_38 hd ?_
        refine xgo_pick [0, 1, 2, 3, 4, 5] rfl ?_
        rw [pk_rem (by omega) hc0 (by omega)]
        exact K hl _ (by unfold exC; rw [if_pos h19])
      · refine xi_iload dX8_extent_22 rfl ?_
        refine xi_aload_n dX8_extent_24 rfl rfl ?_
        refine xi_getfield0 dX8_extent_25 fX8_7 g76 ?_
        rw [hc]
        refine xi_idiv dX8_extent_28 hd ?_
        refine xi_goto (tgt := 39) dX8_extent_29 rfl ?_
        refine xgo_pick [0, 1, 2, 3, 4, 5] rfl ?_
        rw [pk_div (by omega) hc0 (by omega)]
        exact K hl _ (by unfold exC; rw [if_neg h19])
    )
  refine xi_bipush (v := 8) dX8_extent_0 (by decide) ?_
  refine xi_istore_n dX8_extent_2 rfl (Nat.le_of_ble_eq_true rfl) ?_
  refine xi_iconst (v := 0) dX8_extent_3 (by decide) ?_
  refine xi_istore dX8_extent_4 (Nat.le_of_ble_eq_true rfl) ?_
  refine xi_iconst (v := 0) dX8_extent_6 (by decide) ?_
  refine xi_istore dX8_extent_7 (Nat.le_of_ble_eq_true rfl) ?_
  refine xgo_pick [0, 1, 2, 3, 4, 5] rfl ?_
  exact loop 0 (Nat.zero_le _) (8, 0) rfl
def peV (s : Int64) (c r : Nat) (n : Nat) : Int32 := isum (fun p => if hasM s (nI p) = 0 then 0 else 4 - c1V (bsV c r p 0 &&& s) 64) n
theorem m_perimeter {c r n v : Nat} (hv : v < 64) {A : xA} {B : xB} {D : xD} (h : mG A c r n) : does0 mX8_perimeter [.ref 76, .int (nI v)] A B D (eqQ (some (.int (peV (B 84 v) c r n))) A B D) nx := by
  refine does_go (by decide) rfl (Nat.le_of_ble_eq_true rfl) rfl ?_
  obtain ⟨hn, hn0, hn64⟩ := h.n
  have loop := up_ind (n := n) (P := fun j => go0 mX8_perimeter (eqQ (some (.int (peV (B 84 v) c r n))) A B D) nx 0 0 4 [(0, .ref 76), (1, .int (nI v)), (2, .int (peV (B 84 v) c r j)), (3, .int (nI j))] [] A B D) (fun j hj ih => by
    refine xi_iload_n dX8_perimeter_4 rfl rfl ?_
    refine xi_aload_n dX8_perimeter_5 rfl rfl ?_
    refine cV1 (av := []) dX8_perimeter_6 lX8_76 rfl ⟨rfl, rfl⟩ rfl ⟨(Nat.le_of_ble_eq_true rfl), (Nat.le_of_ble_eq_true rfl)⟩ ⟨(Nat.le_of_ble_eq_true rfl), (Nat.le_of_ble_eq_true rfl)⟩ (Nat.le_of_ble_eq_true rfl) g76 rfl rfl (m_pixels) ?_
    rw [hn]
    refine xi_icmp_ge (tgt := 56) dX8_perimeter_9 rfl (fun h9 => ?_) (fun h9 => ?_)
    · have e : j = n := ge_eq hj (by omega) h9
      subst e
      refine xi_iload_n dX8_perimeter_56 rfl rfl ?_
      refine go_ret (r := some (.int _)) dX8_perimeter_57 (Nat.le_of_ble_eq_true rfl) (Nat.le_of_ble_eq_true rfl) ?_
      exact ⟨rfl, rfl, rfl, rfl⟩
    · have hl : j < n := nge_lt hj (by omega) h9
      refine xi_iload_n dX8_perimeter_12 rfl rfl ?_
      refine xi_aload_n dX8_perimeter_13 rfl rfl ?_
      refine xi_getfield3 dX8_perimeter_14 fX8_38 g76 r76_20 ?_
      refine xi_iload_n dX8_perimeter_17 rfl rfl ?_
      refine la dX8_perimeter_18 g84 s84 rfl (by omega) (Nat.le_of_ble_eq_true rfl) ?_
      refine xi_iload_n dX8_perimeter_19 rfl rfl ?_
      refine cS1 (av := [_, _]) dX8_perimeter_20 lX8_151 rfl ⟨rfl, rfl⟩ rfl ⟨(Nat.le_of_ble_eq_true rfl), (Nat.le_of_ble_eq_true rfl)⟩ ⟨(Nat.le_of_ble_eq_true rfl), (Nat.le_of_ble_eq_true rfl)⟩ (Nat.le_of_ble_eq_true rfl) (m_has) ?_
      refine xi_if_eq (tgt := 47) dX8_perimeter_23 rfl (fun h23 => ?_) (fun h23 => ?_)
      · refine xi_iconst (v := 0) dX8_perimeter_47 (by decide) ?_
        refine xi_iadd dX8_perimeter_48 ?_
        refine xi_istore_n dX8_perimeter_49 rfl (Nat.le_of_ble_eq_true rfl) ?_
        refine xi_iinc (v := 1) dX8_perimeter_50 rfl (by decide) (Nat.le_of_ble_eq_true rfl) ?_
        refine xi_goto (tgt := 4) dX8_perimeter_53 rfl ?_
        refine xgo_pick [0, 1, 2, 3] rfl ?_
        rw [nI_1]
        have q := ih hl
        simp only [peV, isum, h23, if_true, if_false] at q ⊢
        exact q
      · refine xi_iconst (v := 4) dX8_perimeter_26 (by decide) ?_
        refine xi_aload_n dX8_perimeter_27 rfl rfl ?_
        refine xi_iload_n dX8_perimeter_28 rfl rfl ?_
        refine xi_iconst (v := 0) dX8_perimeter_29 (by decide) ?_
        refine cV1 (av := [_, _]) dX8_perimeter_30 lX8_155 rfl ⟨rfl, rfl⟩ rfl ⟨(Nat.le_of_ble_eq_true rfl), (Nat.le_of_ble_eq_true rfl)⟩ ⟨(Nat.le_of_ble_eq_true rfl), (Nat.le_of_ble_eq_true rfl)⟩ (Nat.le_of_ble_eq_true rfl) g76 rfl rfl (m_beside h hl) ?_
        refine xi_aload_n dX8_perimeter_33 rfl rfl ?_
        refine xi_getfield3 dX8_perimeter_34 fX8_38 g76 r76_20 ?_
        refine xi_iload_n dX8_perimeter_37 rfl rfl ?_
        refine la dX8_perimeter_38 g84 s84 rfl (by omega) (Nat.le_of_ble_eq_true rfl) ?_
        refine xi_land dX8_perimeter_39 ?_
        refine cS1 (av := [_]) dX8_perimeter_40 lX8_202 rfl ⟨rfl, rfl⟩ rfl ⟨(Nat.le_of_ble_eq_true rfl), (Nat.le_of_ble_eq_true rfl)⟩ ⟨(Nat.le_of_ble_eq_true rfl), (Nat.le_of_ble_eq_true rfl)⟩ (Nat.le_of_ble_eq_true rfl) (m_count1) ?_
        refine xi_isub dX8_perimeter_43 ?_
        refine xi_goto (tgt := 48) dX8_perimeter_44 rfl ?_
        refine xi_iadd dX8_perimeter_48 ?_
        refine xi_istore_n dX8_perimeter_49 rfl (Nat.le_of_ble_eq_true rfl) ?_
        refine xi_iinc (v := 1) dX8_perimeter_50 rfl (by decide) (Nat.le_of_ble_eq_true rfl) ?_
        refine xi_goto (tgt := 4) dX8_perimeter_53 rfl ?_
        refine xgo_pick [0, 1, 2, 3] rfl ?_
        rw [nI_1]
        have q := ih hl
        simp only [peV, isum, h23, if_true, if_false] at q ⊢
        exact q
    )
  refine xi_iconst (v := 0) dX8_perimeter_0 (by decide) ?_
  refine xi_istore_n dX8_perimeter_1 rfl (Nat.le_of_ble_eq_true rfl) ?_
  refine xi_iconst (v := 0) dX8_perimeter_2 (by decide) ?_
  refine xi_istore_n dX8_perimeter_3 rfl (Nat.le_of_ble_eq_true rfl) ?_
  refine xgo_pick [0, 1, 2, 3] rfl ?_
  exact loop 0 (Nat.zero_le _)
def riO (c r p : Nat) : Int64 := if nI (p % c) = 0 then shlL 1 (nI p) else if nI (p / c) = 0 then shlL 1 (nI p) else if nI (p % c) = nI c - 1 then shlL 1 (nI p) else if nI (p / c) = nI r - 1 then shlL 1 (nI p) else 0
def riS (c r p : Nat) (s : Int64) : Int64 := s ||| riO c r p
def riV (c r n : Nat) : Int64 := itr (riS c r) n 0
theorem m_rim {c r n : Nat} {A : xA} {B : xB} {D : xD} (h : mG A c r n) : does0 mX8_rim [.ref 76] A B D (eqQ (some (.long (riV c r n))) A B D) nx := by
  refine does_go (by decide) rfl (Nat.le_of_ble_eq_true rfl) rfl ?_
  obtain ⟨hn, hn0, hn64⟩ := h.n
  obtain ⟨hc, hr, hc0, hc8, hr0, hr8, hcr⟩ := h
  have hd : ¬ nI c = 0 := nI_ne0 hc0 (by omega)
  have loop := up_ind (n := n) (P := fun j => ∀ q, q = itr (riS c r) j 0 → go0 mX8_rim (eqQ (some (.long (riV c r n))) A B D) nx 0 0 4 [(0, .ref 76), (1, .long q), (3, .int (nI j))] [] A B D) (fun j hj ih q hq => by
    refine xi_iload_n dX8_rim_4 rfl rfl ?_
    refine xi_aload_n dX8_rim_5 rfl rfl ?_
    refine cV1 (av := []) dX8_rim_6 lX8_76 rfl ⟨rfl, rfl⟩ rfl ⟨(Nat.le_of_ble_eq_true rfl), (Nat.le_of_ble_eq_true rfl)⟩ ⟨(Nat.le_of_ble_eq_true rfl), (Nat.le_of_ble_eq_true rfl)⟩ (Nat.le_of_ble_eq_true rfl) g76 rfl rfl (m_pixels) ?_
    rw [hn]
    refine xi_icmp_ge (tgt := 76) dX8_rim_9 rfl (fun h9 => ?_) (fun h9 => ?_)
    · have e : j = n := ge_eq hj (by omega) h9
      subst e
      refine xi_lload_n dX8_rim_76 rfl rfl ?_
      refine go_ret (r := some (.long _)) dX8_rim_77 (Nat.le_of_ble_eq_true rfl) (Nat.le_of_ble_eq_true rfl) ?_
      exact ⟨by rw [hq]; rfl, rfl, rfl, rfl⟩
    · have hl : j < n := nge_lt hj (by omega) h9
      refine xi_iload_n dX8_rim_12 rfl rfl ?_
      refine xi_aload_n dX8_rim_13 rfl rfl ?_
      refine xi_getfield0 dX8_rim_14 fX8_7 g76 ?_
      rw [hc]
      refine xi_irem dX8_rim_17 hd ?_
      rw [pk_rem (by omega) hc0 (by omega)]
      refine xi_istore dX8_rim_18 (Nat.le_of_ble_eq_true rfl) ?_
      refine xi_iload_n dX8_rim_20 rfl rfl ?_
      refine xi_aload_n dX8_rim_21 rfl rfl ?_
      refine xi_getfield0 dX8_rim_22 fX8_7 g76 ?_
      rw [hc]
      refine xi_idiv dX8_rim_25 hd ?_
      rw [pk_div (by omega) hc0 (by omega)]
      refine xi_istore dX8_rim_26 (Nat.le_of_ble_eq_true rfl) ?_
      refine xi_lload_n dX8_rim_28 rfl rfl ?_
      refine xi_iload dX8_rim_29 rfl ?_
      refine xi_if_eq (tgt := 61) dX8_rim_31 rfl (fun h31 => ?_) (fun h31 => ?_)
      · refine xi_lconst (v := 1) dX8_rim_61 (by decide) ?_
        refine xi_iload_n dX8_rim_62 rfl rfl ?_
        refine xi_lshl dX8_rim_63 ?_
        refine xi_goto (tgt := 68) dX8_rim_64 rfl ?_
        refine xi_lor dX8_rim_68 ?_
        refine xi_lstore_n dX8_rim_69 rfl (Nat.le_of_ble_eq_true rfl) ?_
        refine xi_iinc (v := 1) dX8_rim_70 rfl (by decide) (Nat.le_of_ble_eq_true rfl) ?_
        refine xi_goto (tgt := 4) dX8_rim_73 rfl ?_
        refine xgo_pick [0, 1, 3] rfl ?_
        rw [nI_1]
        exact ih hl _ (by rw [itr_s, ← hq]; unfold riS riO; rw [if_pos h31])
      · refine xi_iload dX8_rim_34 rfl ?_
        refine xi_if_eq (tgt := 61) dX8_rim_36 rfl (fun h36 => ?_) (fun h36 => ?_)
        · refine xi_lconst (v := 1) dX8_rim_61 (by decide) ?_
          refine xi_iload_n dX8_rim_62 rfl rfl ?_
          refine xi_lshl dX8_rim_63 ?_
          refine xi_goto (tgt := 68) dX8_rim_64 rfl ?_
          refine xi_lor dX8_rim_68 ?_
          refine xi_lstore_n dX8_rim_69 rfl (Nat.le_of_ble_eq_true rfl) ?_
          refine xi_iinc (v := 1) dX8_rim_70 rfl (by decide) (Nat.le_of_ble_eq_true rfl) ?_
          refine xi_goto (tgt := 4) dX8_rim_73 rfl ?_
          refine xgo_pick [0, 1, 3] rfl ?_
          rw [nI_1]
          exact ih hl _ (by rw [itr_s, ← hq]; unfold riS riO; rw [if_neg h31, if_pos h36])
        · refine xi_iload dX8_rim_39 rfl ?_
          refine xi_aload_n dX8_rim_41 rfl rfl ?_
          refine xi_getfield0 dX8_rim_42 fX8_7 g76 ?_
          rw [hc]
          refine xi_iconst (v := 1) dX8_rim_45 (by decide) ?_
          refine xi_isub dX8_rim_46 ?_
          refine xi_icmp_eq (tgt := 61) dX8_rim_47 rfl (fun h47 => ?_) (fun h47 => ?_)
          · refine xi_lconst (v := 1) dX8_rim_61 (by decide) ?_
            refine xi_iload_n dX8_rim_62 rfl rfl ?_
            refine xi_lshl dX8_rim_63 ?_
            refine xi_goto (tgt := 68) dX8_rim_64 rfl ?_
            refine xi_lor dX8_rim_68 ?_
            refine xi_lstore_n dX8_rim_69 rfl (Nat.le_of_ble_eq_true rfl) ?_
            refine xi_iinc (v := 1) dX8_rim_70 rfl (by decide) (Nat.le_of_ble_eq_true rfl) ?_
            refine xi_goto (tgt := 4) dX8_rim_73 rfl ?_
            refine xgo_pick [0, 1, 3] rfl ?_
            rw [nI_1]
            exact ih hl _ (by rw [itr_s, ← hq]; unfold riS riO; rw [if_neg h31, if_neg h36, if_pos h47])
          · refine xi_iload dX8_rim_50 rfl ?_
            refine xi_aload_n dX8_rim_52 rfl rfl ?_
            refine xi_getfield0 dX8_rim_53 fX8_13 g76 ?_
            rw [hr]
            refine xi_iconst (v := 1) dX8_rim_56 (by decide) ?_
            refine xi_isub dX8_rim_57 ?_
            refine xi_icmpne (tgt := 67) dX8_rim_58 rfl (fun h58 => ?_) (fun h58 => ?_)
            · refine xi_lconst (v := 0) dX8_rim_67 (by decide) ?_
              refine xi_lor dX8_rim_68 ?_
              refine xi_lstore_n dX8_rim_69 rfl (Nat.le_of_ble_eq_true rfl) ?_
              refine xi_iinc (v := 1) dX8_rim_70 rfl (by decide) (Nat.le_of_ble_eq_true rfl) ?_
              refine xi_goto (tgt := 4) dX8_rim_73 rfl ?_
              refine xgo_pick [0, 1, 3] rfl ?_
              rw [nI_1]
              exact ih hl _ (by rw [itr_s, ← hq]; unfold riS riO; rw [if_neg h31, if_neg h36, if_neg h47, if_neg h58])
            · refine xi_lconst (v := 1) dX8_rim_61 (by decide) ?_
              refine xi_iload_n dX8_rim_62 rfl rfl ?_
              refine xi_lshl dX8_rim_63 ?_
              refine xi_goto (tgt := 68) dX8_rim_64 rfl ?_
              refine xi_lor dX8_rim_68 ?_
              refine xi_lstore_n dX8_rim_69 rfl (Nat.le_of_ble_eq_true rfl) ?_
              refine xi_iinc (v := 1) dX8_rim_70 rfl (by decide) (Nat.le_of_ble_eq_true rfl) ?_
              refine xi_goto (tgt := 4) dX8_rim_73 rfl ?_
              refine xgo_pick [0, 1, 3] rfl ?_
              rw [nI_1]
              exact ih hl _ (by rw [itr_s, ← hq]; unfold riS riO; rw [if_neg h31, if_neg h36, if_neg h47, if_pos h58])
    )
  refine xi_lconst (v := 0) dX8_rim_0 (by decide) ?_
  refine xi_lstore_n dX8_rim_1 rfl (Nat.le_of_ble_eq_true rfl) ?_
  refine xi_iconst (v := 0) dX8_rim_2 (by decide) ?_
  refine xi_istore_n dX8_rim_3 rfl (Nat.le_of_ble_eq_true rfl) ?_
  refine xgo_pick [0, 1, 3] rfl ?_
  exact loop 0 (Nat.zero_le _) 0 rfl
theorem hb_all {n : Nat} (h0 : 0 < n) (hn : n ≤ 64) (q : Nat) : hb (allM (nI n)) q = true ↔ q < n := by
  unfold allM
  by_cases e : n = 64
  · subst e
    rw [if_pos (show nI 64 = 64 from rfl), hb_m1, decide_eq_true_eq]
  · rw [if_neg (show ¬ nI n = 64 from fun z => e ((nI_eq (b := 64) (by omega) (by decide)).mp z)), hb_low (by omega), decide_eq_true_eq]
def hoP (c r : Nat) (ei : Int32) (out : Int64) (p : Nat) : Int64 := if hasM out (nI p) = 0 then 0 else cpV c r (if ei = 0 then 1 else 0) out p
def hoO (c r n : Nat) (ei : Int32) (out : Int64) (p : Nat) : Int32 := if hoP c r ei out p = 0 then 0 else if (hoP c r ei out p &&& (shlL 1 (nI p) - 1)) = 0 then (if (hoP c r ei out p &&& riV c r n) = 0 then 1 else 0) else 0
def hoV (s : Int64) (c r n : Nat) (ei : Int32) (k : Nat) : Int32 := isum (hoO c r n ei (allM (nI n) &&& (s ^^^ -1))) k
theorem m_holes {c r n v : Nat} (hv : v < 64) {A : xA} {B : xB} {D : xD} (h : mG A c r n) : does0 mX8_holes [.ref 76, .int (nI v)] A B D (eqQ (some (.int (hoV (B 84 v) c r n (A 76 6) n))) A B D) nx := by
  refine does_go (by decide) rfl (Nat.le_of_ble_eq_true rfl) rfl ?_
  obtain ⟨hn, hn0, hn64⟩ := h.n
  have hout : ∀ q, hb (allM (nI n) &&& (B 84 v ^^^ -1)) q = true → q < n := fun q hq => by
    rw [hb_and, Bool.and_eq_true] at hq
    exact (hb_all hn0 hn64 q).mp hq.1
  unfold hoV
  generalize ho : (allM (nI n) &&& (B 84 v ^^^ -1)) = out at hout ⊢
  generalize hR : isum (hoO c r n (A 76 6) out) n = R
  have loop := up_ind (n := n) (P := fun j => go0 mX8_holes (eqQ (some (.int R)) A B D) nx 0 0 22 [(0, .ref 76), (2, .long out), (4, .int (isum (hoO c r n (A 76 6) out) j)), (5, .int (nI j))] [] A B D) (fun j hj ih => by
    have K : j < n → ∀ x, x = hoP c r (A 76 6) out j → go0 mX8_holes (eqQ (some (.int R)) A B D) nx 0 0 63 [(0, .ref 76), (2, .long out), (4, .int (isum (hoO c r n (A 76 6) out) j)), (5, .int (nI j))] [.long x] A B D := by
      intro hl x hx
      have ih1 := ih hl
      unfold isum at ih1
      rw [show hoO c r n (A 76 6) out j = if x = 0 then 0 else if (x &&& (shlL 1 (nI j) - 1)) = 0 then (if (x &&& riV c r n) = 0 then 1 else 0) else 0 by rw [hx]; rfl] at ih1
      refine xi_lstore dX8_holes_63 (Nat.le_of_ble_eq_true rfl) ?_
      refine xi_lload dX8_holes_65 rfl ?_
      refine xi_lconst (v := 0) dX8_holes_67 (by decide) ?_
      refine xi_lcmpeq (tgt := 102) dX8_holes_68 dX8_holes_69 rfl (fun h69 => ?_) (fun h69 => ?_)
      · refine xi_iconst (v := 0) dX8_holes_102 (by decide) ?_
        refine xi_istore dX8_holes_103 (Nat.le_of_ble_eq_true rfl) ?_
        refine xi_iload dX8_holes_105 rfl ?_
        refine xi_iload dX8_holes_107 rfl ?_
        refine xi_if_eq (tgt := 116) dX8_holes_109 rfl (fun _ => ?_) (fun h => absurd h (show ¬ (¬ (0 : Int32) = 0) by decide))
        refine xi_iconst (v := 0) dX8_holes_116 (by decide) ?_
        refine xi_iadd dX8_holes_117 ?_
        refine xi_istore dX8_holes_118 (Nat.le_of_ble_eq_true rfl) ?_
        refine xi_iinc (v := 1) dX8_holes_120 rfl (by decide) (Nat.le_of_ble_eq_true rfl) ?_
        refine xi_goto (tgt := 22) dX8_holes_123 rfl ?_
        refine xgo_pick [0, 2, 4, 5] rfl ?_
        rw [nI_1]
        rw [if_pos h69] at ih1
        exact ih1
      · refine xi_lload dX8_holes_72 rfl ?_
        refine xi_lconst (v := 1) dX8_holes_74 (by decide) ?_
        refine xi_iload dX8_holes_75 rfl ?_
        refine xi_lshl dX8_holes_77 ?_
        refine xi_lconst (v := 1) dX8_holes_78 (by decide) ?_
        refine xi_lsub dX8_holes_79 ?_
        refine xi_land dX8_holes_80 ?_
        refine xi_lconst (v := 0) dX8_holes_81 (by decide) ?_
        refine xi_lcmpne (tgt := 102) dX8_holes_82 dX8_holes_83 rfl (fun h83 => ?_) (fun h83 => ?_)
        · refine xi_iconst (v := 0) dX8_holes_102 (by decide) ?_
          refine xi_istore dX8_holes_103 (Nat.le_of_ble_eq_true rfl) ?_
          refine xi_iload dX8_holes_105 rfl ?_
          refine xi_iload dX8_holes_107 rfl ?_
          refine xi_if_eq (tgt := 116) dX8_holes_109 rfl (fun _ => ?_) (fun h => absurd h (show ¬ (¬ (0 : Int32) = 0) by decide))
          refine xi_iconst (v := 0) dX8_holes_116 (by decide) ?_
          refine xi_iadd dX8_holes_117 ?_
          refine xi_istore dX8_holes_118 (Nat.le_of_ble_eq_true rfl) ?_
          refine xi_iinc (v := 1) dX8_holes_120 rfl (by decide) (Nat.le_of_ble_eq_true rfl) ?_
          refine xi_goto (tgt := 22) dX8_holes_123 rfl ?_
          refine xgo_pick [0, 2, 4, 5] rfl ?_
          rw [nI_1]
          rw [if_neg h69, if_neg h83] at ih1
          exact ih1
        · refine xi_lload dX8_holes_86 rfl ?_
          refine xi_aload_n dX8_holes_88 rfl rfl ?_
          refine cV1 (av := []) dX8_holes_89 lX8_222 rfl ⟨rfl, rfl⟩ rfl ⟨(Nat.le_of_ble_eq_true rfl), (Nat.le_of_ble_eq_true rfl)⟩ ⟨(Nat.le_of_ble_eq_true rfl), (Nat.le_of_ble_eq_true rfl)⟩ (Nat.le_of_ble_eq_true rfl) g76 rfl rfl (m_rim h) ?_
          refine xi_land dX8_holes_92 ?_
          refine xi_lconst (v := 0) dX8_holes_93 (by decide) ?_
          refine xi_lcmpne (tgt := 102) dX8_holes_94 dX8_holes_95 rfl (fun h95 => ?_) (fun h95 => ?_)
          · refine xi_iconst (v := 0) dX8_holes_102 (by decide) ?_
            refine xi_istore dX8_holes_103 (Nat.le_of_ble_eq_true rfl) ?_
            refine xi_iload dX8_holes_105 rfl ?_
            refine xi_iload dX8_holes_107 rfl ?_
            refine xi_if_eq (tgt := 116) dX8_holes_109 rfl (fun _ => ?_) (fun h => absurd h (show ¬ (¬ (0 : Int32) = 0) by decide))
            refine xi_iconst (v := 0) dX8_holes_116 (by decide) ?_
            refine xi_iadd dX8_holes_117 ?_
            refine xi_istore dX8_holes_118 (Nat.le_of_ble_eq_true rfl) ?_
            refine xi_iinc (v := 1) dX8_holes_120 rfl (by decide) (Nat.le_of_ble_eq_true rfl) ?_
            refine xi_goto (tgt := 22) dX8_holes_123 rfl ?_
            refine xgo_pick [0, 2, 4, 5] rfl ?_
            rw [nI_1]
            rw [if_neg h69, if_pos h83, if_neg h95] at ih1
            exact ih1
          · refine xi_iconst (v := 1) dX8_holes_98 (by decide) ?_
            refine xi_goto (tgt := 103) dX8_holes_99 rfl ?_
            refine xi_istore dX8_holes_103 (Nat.le_of_ble_eq_true rfl) ?_
            refine xi_iload dX8_holes_105 rfl ?_
            refine xi_iload dX8_holes_107 rfl ?_
            refine xi_if_eq (tgt := 116) dX8_holes_109 rfl (fun h => absurd h (show ¬ ((1 : Int32) = 0) by decide)) (fun _ => ?_)
            refine xi_iconst (v := 1) dX8_holes_112 (by decide) ?_
            refine xi_goto (tgt := 117) dX8_holes_113 rfl ?_
            refine xi_iadd dX8_holes_117 ?_
            refine xi_istore dX8_holes_118 (Nat.le_of_ble_eq_true rfl) ?_
            refine xi_iinc (v := 1) dX8_holes_120 rfl (by decide) (Nat.le_of_ble_eq_true rfl) ?_
            refine xi_goto (tgt := 22) dX8_holes_123 rfl ?_
            refine xgo_pick [0, 2, 4, 5] rfl ?_
            rw [nI_1]
            rw [if_neg h69, if_pos h83, if_pos h95] at ih1
            exact ih1
    refine xi_iload dX8_holes_22 rfl ?_
    refine xi_aload_n dX8_holes_24 rfl rfl ?_
    refine cV1 (av := []) dX8_holes_25 lX8_76 rfl ⟨rfl, rfl⟩ rfl ⟨(Nat.le_of_ble_eq_true rfl), (Nat.le_of_ble_eq_true rfl)⟩ ⟨(Nat.le_of_ble_eq_true rfl), (Nat.le_of_ble_eq_true rfl)⟩ (Nat.le_of_ble_eq_true rfl) g76 rfl rfl (m_pixels) ?_
    rw [hn]
    refine xi_icmp_ge (tgt := 126) dX8_holes_28 rfl (fun h28 => ?_) (fun h28 => ?_)
    · have e : j = n := ge_eq hj (by omega) h28
      subst e
      refine xi_iload dX8_holes_126 rfl ?_
      refine go_ret (r := some (.int _)) dX8_holes_128 (Nat.le_of_ble_eq_true rfl) (Nat.le_of_ble_eq_true rfl) ?_
      exact ⟨by rw [hR], rfl, rfl, rfl⟩
    · have hl : j < n := nge_lt hj (by omega) h28
      refine xi_lload_n dX8_holes_31 rfl rfl ?_
      refine xi_iload dX8_holes_32 rfl ?_
      refine cS1 (av := [_, _]) dX8_holes_34 lX8_151 rfl ⟨rfl, rfl⟩ rfl ⟨(Nat.le_of_ble_eq_true rfl), (Nat.le_of_ble_eq_true rfl)⟩ ⟨(Nat.le_of_ble_eq_true rfl), (Nat.le_of_ble_eq_true rfl)⟩ (Nat.le_of_ble_eq_true rfl) (m_has) ?_
      refine xi_if_eq (tgt := 62) dX8_holes_37 rfl (fun h37 => ?_) (fun h37 => ?_)
      · refine xi_lconst (v := 0) dX8_holes_62 (by decide) ?_
        refine xgo_pick [0, 2, 4, 5] rfl ?_
        exact K hl 0 (by unfold hoP; rw [if_pos h37])
      · have hp1 : hb out j = true := by cases e : hb out j; exact (h37 ((hasM0 _ (by omega)).mpr e)).elim; rfl
        refine xi_aload_n dX8_holes_40 rfl rfl ?_
        refine xi_iload dX8_holes_41 rfl ?_
        refine xi_lload_n dX8_holes_43 rfl rfl ?_
        refine xi_aload_n dX8_holes_44 rfl rfl ?_
        refine xi_getfield1 dX8_holes_45 fX8_123 g76 ?_
        refine xi_ifne (tgt := 55) dX8_holes_48 rfl (fun h48 => ?_) (fun h48 => ?_)
        · refine xi_iconst (v := 0) dX8_holes_55 (by decide) ?_
          refine cV1 (av := [_, _, _]) dX8_holes_56 lX8_177 rfl ⟨rfl, rfl⟩ rfl ⟨(Nat.le_of_ble_eq_true rfl), (Nat.le_of_ble_eq_true rfl)⟩ ⟨(Nat.le_of_ble_eq_true rfl), (Nat.le_of_ble_eq_true rfl)⟩ (Nat.le_of_ble_eq_true rfl) g76 rfl rfl (m_spread h hout hp1) ?_
          refine xi_goto (tgt := 63) dX8_holes_59 rfl ?_
          refine xgo_pick [0, 2, 4, 5] rfl ?_
          exact K hl _ (by unfold hoP; rw [if_neg h37, if_neg h48])
        · refine xi_iconst (v := 1) dX8_holes_51 (by decide) ?_
          refine xi_goto (tgt := 56) dX8_holes_52 rfl ?_
          refine cV1 (av := [_, _, _]) dX8_holes_56 lX8_177 rfl ⟨rfl, rfl⟩ rfl ⟨(Nat.le_of_ble_eq_true rfl), (Nat.le_of_ble_eq_true rfl)⟩ ⟨(Nat.le_of_ble_eq_true rfl), (Nat.le_of_ble_eq_true rfl)⟩ (Nat.le_of_ble_eq_true rfl) g76 rfl rfl (m_spread h hout hp1) ?_
          refine xi_goto (tgt := 63) dX8_holes_59 rfl ?_
          refine xgo_pick [0, 2, 4, 5] rfl ?_
          exact K hl _ (by unfold hoP; rw [if_neg h37, if_pos h48])
    )
  refine xi_aload_n dX8_holes_0 rfl rfl ?_
  refine cV1 (av := []) dX8_holes_1 lX8_218 rfl ⟨rfl, rfl⟩ rfl ⟨(Nat.le_of_ble_eq_true rfl), (Nat.le_of_ble_eq_true rfl)⟩ ⟨(Nat.le_of_ble_eq_true rfl), (Nat.le_of_ble_eq_true rfl)⟩ (Nat.le_of_ble_eq_true rfl) g76 rfl rfl (m_all) ?_
  refine xi_aload_n dX8_holes_4 rfl rfl ?_
  refine xi_getfield3 dX8_holes_5 fX8_38 g76 r76_20 ?_
  refine xi_iload_n dX8_holes_8 rfl rfl ?_
  refine la dX8_holes_9 g84 s84 rfl (by omega) (Nat.le_of_ble_eq_true rfl) ?_
  refine xi_ldc2_w dX8_holes_10 kX8_88 ?_
  refine xi_lxor dX8_holes_13 ?_
  refine xi_land dX8_holes_14 ?_
  rw [hn, ho]
  refine xi_lstore_n dX8_holes_15 rfl (Nat.le_of_ble_eq_true rfl) ?_
  refine xi_iconst (v := 0) dX8_holes_16 (by decide) ?_
  refine xi_istore dX8_holes_17 (Nat.le_of_ble_eq_true rfl) ?_
  refine xi_iconst (v := 0) dX8_holes_19 (by decide) ?_
  refine xi_istore dX8_holes_20 (Nat.le_of_ble_eq_true rfl) ?_
  refine xgo_pick [0, 2, 4, 5] rfl ?_
  exact loop 0 (Nat.zero_le _)
def bpS (pr ch : Nat → Int32) (se : Nat → Int64) (v k : Nat) (x : Int32) : Int32 := if lfV ch k = 0 then x else if k = v then grV x (pr k) else if blV se k v = 0 then x else grV x (pr k)
theorem m_bestProminence {m v : Nat} (hv : v < 64) {A : xA} {B : xB} {D : xD} (hm : A 76 19 = nI m) (hm64 : m ≤ 64) : does0 mX8_bestProminence [.ref 76, .int (nI v)] A B D (eqQ (some (.int (itr (bpS (A 89) (A 87) (B 84) v) m 0))) A B D) nx := by
  refine does_go (by decide) rfl (Nat.le_of_ble_eq_true rfl) rfl ?_
  have loop := up_ind (n := m) (P := fun j => ∀ q, q = itr (bpS (A 89) (A 87) (B 84) v) j 0 → go0 mX8_bestProminence (eqQ (some (.int (itr (bpS (A 89) (A 87) (B 84) v) m 0))) A B D) nx 0 0 4 [(0, .ref 76), (1, .int (nI v)), (2, .int q), (3, .int (nI j))] [] A B D) (fun j hj ih q hq => by
    refine xi_iload_n dX8_bestProminence_4 rfl rfl ?_
    refine xi_aload_n dX8_bestProminence_5 rfl rfl ?_
    refine xi_getfield0 dX8_bestProminence_6 fX8_116 g76 ?_
    rw [hm]
    refine xi_icmp_ge (tgt := 67) dX8_bestProminence_9 rfl (fun h9 => ?_) (fun h9 => ?_)
    · have e : j = m := ge_eq hj (by omega) h9
      subst e
      refine xi_iload_n dX8_bestProminence_67 rfl rfl ?_
      refine go_ret (r := some (.int _)) dX8_bestProminence_68 (Nat.le_of_ble_eq_true rfl) (Nat.le_of_ble_eq_true rfl) ?_
      exact ⟨by rw [hq], rfl, rfl, rfl⟩
    · have hl : j < m := nge_lt hj (by omega) h9
      refine xi_aload_n dX8_bestProminence_12 rfl rfl ?_
      refine xi_iload_n dX8_bestProminence_13 rfl rfl ?_
      refine cV1 (av := [_]) dX8_bestProminence_14 lX8_184 rfl ⟨rfl, rfl⟩ rfl ⟨(Nat.le_of_ble_eq_true rfl), (Nat.le_of_ble_eq_true rfl)⟩ ⟨(Nat.le_of_ble_eq_true rfl), (Nat.le_of_ble_eq_true rfl)⟩ (Nat.le_of_ble_eq_true rfl) g76 rfl rfl (m_isLeaf (by omega)) ?_
      refine xi_if_eq (tgt := 38) dX8_bestProminence_17 rfl (fun h17 => ?_) (fun h17 => ?_)
      · refine xi_iconst (v := 0) dX8_bestProminence_38 (by decide) ?_
        refine xi_istore dX8_bestProminence_39 (Nat.le_of_ble_eq_true rfl) ?_
        refine xi_iload dX8_bestProminence_41 rfl ?_
        refine xi_if_eq (tgt := 59) dX8_bestProminence_43 rfl (fun _ => ?_) (fun h => absurd h (show ¬ (¬ (0 : Int32) = 0) by decide))
        refine xi_iload_n dX8_bestProminence_59 rfl rfl ?_
        refine xi_istore_n dX8_bestProminence_60 rfl (Nat.le_of_ble_eq_true rfl) ?_
        refine xi_iinc (v := 1) dX8_bestProminence_61 rfl (by decide) (Nat.le_of_ble_eq_true rfl) ?_
        refine xi_goto (tgt := 4) dX8_bestProminence_64 rfl ?_
        refine xgo_pick [0, 1, 2, 3] rfl ?_
        rw [nI_1]
        exact ih hl _ (by rw [itr_s, ← hq]; unfold bpS; rw [if_pos h17])
      · refine xi_iload_n dX8_bestProminence_20 rfl rfl ?_
        refine xi_iload_n dX8_bestProminence_21 rfl rfl ?_
        refine xi_icmp_eq (tgt := 34) dX8_bestProminence_22 rfl (fun h22 => ?_) (fun h22 => ?_)
        · have e1 : j = v := (nI_eq (by omega) (by omega)).mp h22
          refine xi_iconst (v := 1) dX8_bestProminence_34 (by decide) ?_
          refine xi_goto (tgt := 39) dX8_bestProminence_35 rfl ?_
          refine xi_istore dX8_bestProminence_39 (Nat.le_of_ble_eq_true rfl) ?_
          refine xi_iload dX8_bestProminence_41 rfl ?_
          refine xi_if_eq (tgt := 59) dX8_bestProminence_43 rfl (fun h => absurd h (show ¬ ((1 : Int32) = 0) by decide)) (fun _ => ?_)
          refine xi_iload_n dX8_bestProminence_46 rfl rfl ?_
          refine xi_aload_n dX8_bestProminence_47 rfl rfl ?_
          refine xi_getfield3 dX8_bestProminence_48 fX8_54 g76 r76_25 ?_
          refine xi_iload_n dX8_bestProminence_51 rfl rfl ?_
          refine ia dX8_bestProminence_52 g89 s89 rfl (by omega) (Nat.le_of_ble_eq_true rfl) ?_
          refine cS1 (av := [_, _]) dX8_bestProminence_53 lX8_199 rfl ⟨rfl, rfl⟩ rfl ⟨(Nat.le_of_ble_eq_true rfl), (Nat.le_of_ble_eq_true rfl)⟩ ⟨(Nat.le_of_ble_eq_true rfl), (Nat.le_of_ble_eq_true rfl)⟩ (Nat.le_of_ble_eq_true rfl) (m_greater) ?_
          refine xi_goto (tgt := 60) dX8_bestProminence_56 rfl ?_
          refine xi_istore_n dX8_bestProminence_60 rfl (Nat.le_of_ble_eq_true rfl) ?_
          refine xi_iinc (v := 1) dX8_bestProminence_61 rfl (by decide) (Nat.le_of_ble_eq_true rfl) ?_
          refine xi_goto (tgt := 4) dX8_bestProminence_64 rfl ?_
          refine xgo_pick [0, 1, 2, 3] rfl ?_
          rw [nI_1]
          exact ih hl _ (by rw [itr_s, ← hq]; unfold bpS; rw [if_neg h17, if_pos e1])
        · have e1 : ¬ j = v := fun z => h22 (by rw [z])
          refine xi_aload_n dX8_bestProminence_25 rfl rfl ?_
          refine xi_iload_n dX8_bestProminence_26 rfl rfl ?_
          refine xi_iload_n dX8_bestProminence_27 rfl rfl ?_
          refine cV1 (av := [_, _]) dX8_bestProminence_28 lX8_170 rfl ⟨rfl, rfl⟩ rfl ⟨(Nat.le_of_ble_eq_true rfl), (Nat.le_of_ble_eq_true rfl)⟩ ⟨(Nat.le_of_ble_eq_true rfl), (Nat.le_of_ble_eq_true rfl)⟩ (Nat.le_of_ble_eq_true rfl) g76 rfl rfl (m_isBelow (by omega) (by omega)) ?_
          refine xi_if_eq (tgt := 38) dX8_bestProminence_31 rfl (fun h31 => ?_) (fun h31 => ?_)
          · refine xi_iconst (v := 0) dX8_bestProminence_38 (by decide) ?_
            refine xi_istore dX8_bestProminence_39 (Nat.le_of_ble_eq_true rfl) ?_
            refine xi_iload dX8_bestProminence_41 rfl ?_
            refine xi_if_eq (tgt := 59) dX8_bestProminence_43 rfl (fun _ => ?_) (fun h => absurd h (show ¬ (¬ (0 : Int32) = 0) by decide))
            refine xi_iload_n dX8_bestProminence_59 rfl rfl ?_
            refine xi_istore_n dX8_bestProminence_60 rfl (Nat.le_of_ble_eq_true rfl) ?_
            refine xi_iinc (v := 1) dX8_bestProminence_61 rfl (by decide) (Nat.le_of_ble_eq_true rfl) ?_
            refine xi_goto (tgt := 4) dX8_bestProminence_64 rfl ?_
            refine xgo_pick [0, 1, 2, 3] rfl ?_
            rw [nI_1]
            exact ih hl _ (by rw [itr_s, ← hq]; unfold bpS; rw [if_neg h17, if_neg e1, if_pos h31])
          · refine xi_iconst (v := 1) dX8_bestProminence_34 (by decide) ?_
            refine xi_goto (tgt := 39) dX8_bestProminence_35 rfl ?_
            refine xi_istore dX8_bestProminence_39 (Nat.le_of_ble_eq_true rfl) ?_
            refine xi_iload dX8_bestProminence_41 rfl ?_
            refine xi_if_eq (tgt := 59) dX8_bestProminence_43 rfl (fun h => absurd h (show ¬ ((1 : Int32) = 0) by decide)) (fun _ => ?_)
            refine xi_iload_n dX8_bestProminence_46 rfl rfl ?_
            refine xi_aload_n dX8_bestProminence_47 rfl rfl ?_
            refine xi_getfield3 dX8_bestProminence_48 fX8_54 g76 r76_25 ?_
            refine xi_iload_n dX8_bestProminence_51 rfl rfl ?_
            refine ia dX8_bestProminence_52 g89 s89 rfl (by omega) (Nat.le_of_ble_eq_true rfl) ?_
            refine cS1 (av := [_, _]) dX8_bestProminence_53 lX8_199 rfl ⟨rfl, rfl⟩ rfl ⟨(Nat.le_of_ble_eq_true rfl), (Nat.le_of_ble_eq_true rfl)⟩ ⟨(Nat.le_of_ble_eq_true rfl), (Nat.le_of_ble_eq_true rfl)⟩ (Nat.le_of_ble_eq_true rfl) (m_greater) ?_
            refine xi_goto (tgt := 60) dX8_bestProminence_56 rfl ?_
            refine xi_istore_n dX8_bestProminence_60 rfl (Nat.le_of_ble_eq_true rfl) ?_
            refine xi_iinc (v := 1) dX8_bestProminence_61 rfl (by decide) (Nat.le_of_ble_eq_true rfl) ?_
            refine xi_goto (tgt := 4) dX8_bestProminence_64 rfl ?_
            refine xgo_pick [0, 1, 2, 3] rfl ?_
            rw [nI_1]
            exact ih hl _ (by rw [itr_s, ← hq]; unfold bpS; rw [if_neg h17, if_neg e1, if_neg h31])
    )
  refine xi_iconst (v := 0) dX8_bestProminence_0 (by decide) ?_
  refine xi_istore_n dX8_bestProminence_1 rfl (Nat.le_of_ble_eq_true rfl) ?_
  refine xi_iconst (v := 0) dX8_bestProminence_2 (by decide) ?_
  refine xi_istore_n dX8_bestProminence_3 rfl (Nat.le_of_ble_eq_true rfl) ?_
  refine xgo_pick [0, 1, 2, 3] rfl ?_
  exact loop 0 (Nat.zero_le _) _ rfl
/-- the model's attributes -/
def atV (A : xA) (B : xB) (c r n m v w : Nat) : Int32 := match w with
  | 0 => A 85 v
  | 1 => c1V (B 84 v) 64
  | 2 => owV (A 88) (nI v) n
  | 3 => A 86 v
  | 4 => A 87 v
  | 5 => itr (heS (B 84 v) (rkM A) (A 85 v)) n 0
  | 6 => srV (B 84 v) (rkM A) n - A 85 v * c1V (B 84 v) 64
  | 7 => exV (B 84 v) c n 0
  | 8 => exV (B 84 v) c n 1
  | 9 => peV (B 84 v) c r n
  | 10 => hoV (B 84 v) c r n (A 76 6) n
  | _ => itr (bpS (A 89) (A 87) (B 84) v) m 0
theorem m_attributeOf {c r n m v w : Nat} (hv : v < m) (hw : w < 12) {A : xA} {B : xB} {D : xD} (h : mG A c r n) (hm : A 76 19 = nI m) (hm64 : m ≤ 64) : does0 mX8_attributeOf [.ref 76, .int (nI v), .int (nI w)] A B D (eqQ (some (.int (atV A B c r n m v w))) A B D) nx := by
  refine does_go (by decide) rfl (Nat.le_of_ble_eq_true rfl) rfl ?_
  obtain ⟨hn, hn0, hn64⟩ := h.n
  refine xi_iload_n dX8_attributeOf_0 rfl rfl ?_
  rcases (show w = 0 ∨ w = 1 ∨ w = 2 ∨ w = 3 ∨ w = 4 ∨ w = 5 ∨ w = 6 ∨ w = 7 ∨ w = 8 ∨ w = 9 ∨ w = 10 ∨ w = 11 by omega) with rfl | rfl | rfl | rfl | rfl | rfl | rfl | rfl | rfl | rfl | rfl | rfl
  · refine xi_tableIn (off := 59) (tgt := 60) dX8_attributeOf_1 (by decide) (by decide) (by decide) rfl ?_
    refine xi_aload_n dX8_attributeOf_60 rfl rfl ?_
    refine xi_getfield3 dX8_attributeOf_61 fX8_42 g76 r76_21 ?_
    refine xi_iload_n dX8_attributeOf_64 rfl rfl ?_
    refine ia dX8_attributeOf_65 g85 s85 rfl (by omega) (Nat.le_of_ble_eq_true rfl) ?_
    refine go_ret (r := some (.int _)) dX8_attributeOf_66 (Nat.le_of_ble_eq_true rfl) (Nat.le_of_ble_eq_true rfl) ?_
    exact ⟨rfl, rfl, rfl, rfl⟩
  · refine xi_tableIn (off := 66) (tgt := 67) dX8_attributeOf_1 (by decide) (by decide) (by decide) rfl ?_
    refine xi_aload_n dX8_attributeOf_67 rfl rfl ?_
    refine xi_getfield3 dX8_attributeOf_68 fX8_38 g76 r76_20 ?_
    refine xi_iload_n dX8_attributeOf_71 rfl rfl ?_
    refine la dX8_attributeOf_72 g84 s84 rfl (by omega) (Nat.le_of_ble_eq_true rfl) ?_
    refine cS1 (av := [_]) dX8_attributeOf_73 lX8_202 rfl ⟨rfl, rfl⟩ rfl ⟨(Nat.le_of_ble_eq_true rfl), (Nat.le_of_ble_eq_true rfl)⟩ ⟨(Nat.le_of_ble_eq_true rfl), (Nat.le_of_ble_eq_true rfl)⟩ (Nat.le_of_ble_eq_true rfl) (m_count1) ?_
    refine go_ret (r := some (.int _)) dX8_attributeOf_76 (Nat.le_of_ble_eq_true rfl) (Nat.le_of_ble_eq_true rfl) ?_
    exact ⟨rfl, rfl, rfl, rfl⟩
  · refine xi_tableIn (off := 76) (tgt := 77) dX8_attributeOf_1 (by decide) (by decide) (by decide) rfl ?_
    refine xi_aload_n dX8_attributeOf_77 rfl rfl ?_
    refine xi_iload_n dX8_attributeOf_78 rfl rfl ?_
    refine cV1 (av := [_]) dX8_attributeOf_79 lX8_225 rfl ⟨rfl, rfl⟩ rfl ⟨(Nat.le_of_ble_eq_true rfl), (Nat.le_of_ble_eq_true rfl)⟩ ⟨(Nat.le_of_ble_eq_true rfl), (Nat.le_of_ble_eq_true rfl)⟩ (Nat.le_of_ble_eq_true rfl) g76 rfl rfl (m_own hn hn64) ?_
    refine go_ret (r := some (.int _)) dX8_attributeOf_82 (Nat.le_of_ble_eq_true rfl) (Nat.le_of_ble_eq_true rfl) ?_
    exact ⟨rfl, rfl, rfl, rfl⟩
  · refine xi_tableIn (off := 82) (tgt := 83) dX8_attributeOf_1 (by decide) (by decide) (by decide) rfl ?_
    refine xi_aload_n dX8_attributeOf_83 rfl rfl ?_
    refine xi_getfield3 dX8_attributeOf_84 fX8_45 g76 r76_22 ?_
    refine xi_iload_n dX8_attributeOf_87 rfl rfl ?_
    refine ia dX8_attributeOf_88 g86 s86 rfl (by omega) (Nat.le_of_ble_eq_true rfl) ?_
    refine go_ret (r := some (.int _)) dX8_attributeOf_89 (Nat.le_of_ble_eq_true rfl) (Nat.le_of_ble_eq_true rfl) ?_
    exact ⟨rfl, rfl, rfl, rfl⟩
  · refine xi_tableIn (off := 89) (tgt := 90) dX8_attributeOf_1 (by decide) (by decide) (by decide) rfl ?_
    refine xi_aload_n dX8_attributeOf_90 rfl rfl ?_
    refine xi_getfield3 dX8_attributeOf_91 fX8_48 g76 r76_23 ?_
    refine xi_iload_n dX8_attributeOf_94 rfl rfl ?_
    refine ia dX8_attributeOf_95 g87 s87 rfl (by omega) (Nat.le_of_ble_eq_true rfl) ?_
    refine go_ret (r := some (.int _)) dX8_attributeOf_96 (Nat.le_of_ble_eq_true rfl) (Nat.le_of_ble_eq_true rfl) ?_
    exact ⟨rfl, rfl, rfl, rfl⟩
  · refine xi_tableIn (off := 96) (tgt := 97) dX8_attributeOf_1 (by decide) (by decide) (by decide) rfl ?_
    refine xi_aload_n dX8_attributeOf_97 rfl rfl ?_
    refine xi_iload_n dX8_attributeOf_98 rfl rfl ?_
    refine cV1 (av := [_]) dX8_attributeOf_99 lX8_228 rfl ⟨rfl, rfl⟩ rfl ⟨(Nat.le_of_ble_eq_true rfl), (Nat.le_of_ble_eq_true rfl)⟩ ⟨(Nat.le_of_ble_eq_true rfl), (Nat.le_of_ble_eq_true rfl)⟩ (Nat.le_of_ble_eq_true rfl) g76 rfl rfl (m_heightOf (by omega) hn hn64) ?_
    refine go_ret (r := some (.int _)) dX8_attributeOf_102 (Nat.le_of_ble_eq_true rfl) (Nat.le_of_ble_eq_true rfl) ?_
    exact ⟨rfl, rfl, rfl, rfl⟩
  · refine xi_tableIn (off := 102) (tgt := 103) dX8_attributeOf_1 (by decide) (by decide) (by decide) rfl ?_
    refine xi_aload_n dX8_attributeOf_103 rfl rfl ?_
    refine xi_iload_n dX8_attributeOf_104 rfl rfl ?_
    refine cV1 (av := [_]) dX8_attributeOf_105 lX8_231 rfl ⟨rfl, rfl⟩ rfl ⟨(Nat.le_of_ble_eq_true rfl), (Nat.le_of_ble_eq_true rfl)⟩ ⟨(Nat.le_of_ble_eq_true rfl), (Nat.le_of_ble_eq_true rfl)⟩ (Nat.le_of_ble_eq_true rfl) g76 rfl rfl (m_sumOfRanks (by omega) hn hn64) ?_
    refine xi_aload_n dX8_attributeOf_108 rfl rfl ?_
    refine xi_getfield3 dX8_attributeOf_109 fX8_42 g76 r76_21 ?_
    refine xi_iload_n dX8_attributeOf_112 rfl rfl ?_
    refine ia dX8_attributeOf_113 g85 s85 rfl (by omega) (Nat.le_of_ble_eq_true rfl) ?_
    refine xi_aload_n dX8_attributeOf_114 rfl rfl ?_
    refine xi_getfield3 dX8_attributeOf_115 fX8_38 g76 r76_20 ?_
    refine xi_iload_n dX8_attributeOf_118 rfl rfl ?_
    refine la dX8_attributeOf_119 g84 s84 rfl (by omega) (Nat.le_of_ble_eq_true rfl) ?_
    refine cS1 (av := [_]) dX8_attributeOf_120 lX8_202 rfl ⟨rfl, rfl⟩ rfl ⟨(Nat.le_of_ble_eq_true rfl), (Nat.le_of_ble_eq_true rfl)⟩ ⟨(Nat.le_of_ble_eq_true rfl), (Nat.le_of_ble_eq_true rfl)⟩ (Nat.le_of_ble_eq_true rfl) (m_count1) ?_
    refine xi_imul dX8_attributeOf_123 ?_
    refine xi_isub dX8_attributeOf_124 ?_
    refine go_ret (r := some (.int _)) dX8_attributeOf_125 (Nat.le_of_ble_eq_true rfl) (Nat.le_of_ble_eq_true rfl) ?_
    exact ⟨rfl, rfl, rfl, rfl⟩
  · refine xi_tableIn (off := 125) (tgt := 126) dX8_attributeOf_1 (by decide) (by decide) (by decide) rfl ?_
    refine xi_aload_n dX8_attributeOf_126 rfl rfl ?_
    refine xi_iload_n dX8_attributeOf_127 rfl rfl ?_
    refine xi_iconst (v := 0) dX8_attributeOf_128 (by decide) ?_
    refine cV1 (av := [_, _]) dX8_attributeOf_129 lX8_234 rfl ⟨rfl, rfl⟩ rfl ⟨(Nat.le_of_ble_eq_true rfl), (Nat.le_of_ble_eq_true rfl)⟩ ⟨(Nat.le_of_ble_eq_true rfl), (Nat.le_of_ble_eq_true rfl)⟩ (Nat.le_of_ble_eq_true rfl) g76 rfl rfl (m_extent (by omega) h) ?_
    refine go_ret (r := some (.int _)) dX8_attributeOf_132 (Nat.le_of_ble_eq_true rfl) (Nat.le_of_ble_eq_true rfl) ?_
    exact ⟨rfl, rfl, rfl, rfl⟩
  · refine xi_tableIn (off := 132) (tgt := 133) dX8_attributeOf_1 (by decide) (by decide) (by decide) rfl ?_
    refine xi_aload_n dX8_attributeOf_133 rfl rfl ?_
    refine xi_iload_n dX8_attributeOf_134 rfl rfl ?_
    refine xi_iconst (v := 1) dX8_attributeOf_135 (by decide) ?_
    refine cV1 (av := [_, _]) dX8_attributeOf_136 lX8_234 rfl ⟨rfl, rfl⟩ rfl ⟨(Nat.le_of_ble_eq_true rfl), (Nat.le_of_ble_eq_true rfl)⟩ ⟨(Nat.le_of_ble_eq_true rfl), (Nat.le_of_ble_eq_true rfl)⟩ (Nat.le_of_ble_eq_true rfl) g76 rfl rfl (m_extent (by omega) h) ?_
    refine go_ret (r := some (.int _)) dX8_attributeOf_139 (Nat.le_of_ble_eq_true rfl) (Nat.le_of_ble_eq_true rfl) ?_
    exact ⟨rfl, rfl, rfl, rfl⟩
  · refine xi_tableIn (off := 139) (tgt := 140) dX8_attributeOf_1 (by decide) (by decide) (by decide) rfl ?_
    refine xi_aload_n dX8_attributeOf_140 rfl rfl ?_
    refine xi_iload_n dX8_attributeOf_141 rfl rfl ?_
    refine cV1 (av := [_]) dX8_attributeOf_142 lX8_238 rfl ⟨rfl, rfl⟩ rfl ⟨(Nat.le_of_ble_eq_true rfl), (Nat.le_of_ble_eq_true rfl)⟩ ⟨(Nat.le_of_ble_eq_true rfl), (Nat.le_of_ble_eq_true rfl)⟩ (Nat.le_of_ble_eq_true rfl) g76 rfl rfl (m_perimeter (by omega) h) ?_
    refine go_ret (r := some (.int _)) dX8_attributeOf_145 (Nat.le_of_ble_eq_true rfl) (Nat.le_of_ble_eq_true rfl) ?_
    exact ⟨rfl, rfl, rfl, rfl⟩
  · refine xi_tableIn (off := 145) (tgt := 146) dX8_attributeOf_1 (by decide) (by decide) (by decide) rfl ?_
    refine xi_aload_n dX8_attributeOf_146 rfl rfl ?_
    refine xi_iload_n dX8_attributeOf_147 rfl rfl ?_
    refine cV1 (av := [_]) dX8_attributeOf_148 lX8_241 rfl ⟨rfl, rfl⟩ rfl ⟨(Nat.le_of_ble_eq_true rfl), (Nat.le_of_ble_eq_true rfl)⟩ ⟨(Nat.le_of_ble_eq_true rfl), (Nat.le_of_ble_eq_true rfl)⟩ (Nat.le_of_ble_eq_true rfl) g76 rfl rfl (m_holes (by omega) h) ?_
    refine go_ret (r := some (.int _)) dX8_attributeOf_151 (Nat.le_of_ble_eq_true rfl) (Nat.le_of_ble_eq_true rfl) ?_
    exact ⟨rfl, rfl, rfl, rfl⟩
  · refine xi_tableOut (tgt := 152) dX8_attributeOf_1 (by decide) rfl ?_
    refine xi_aload_n dX8_attributeOf_152 rfl rfl ?_
    refine xi_iload_n dX8_attributeOf_153 rfl rfl ?_
    refine cV1 (av := [_]) dX8_attributeOf_154 lX8_244 rfl ⟨rfl, rfl⟩ rfl ⟨(Nat.le_of_ble_eq_true rfl), (Nat.le_of_ble_eq_true rfl)⟩ ⟨(Nat.le_of_ble_eq_true rfl), (Nat.le_of_ble_eq_true rfl)⟩ (Nat.le_of_ble_eq_true rfl) g76 rfl rfl (m_bestProminence (by omega) hm hm64) ?_
    refine go_ret (r := some (.int _)) dX8_attributeOf_157 (Nat.le_of_ble_eq_true rfl) (Nat.le_of_ble_eq_true rfl) ?_
    exact ⟨rfl, rfl, rfl, rfl⟩

