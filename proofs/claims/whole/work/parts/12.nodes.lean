/-! Nodes -/
def trn (v dk : Int32) : Int32 := if dk = 0 then v else 15 - v
theorem c_turned {v dk : Int32} {A : xA} {B : xB} {D : xD} : does0 mX7_turned [.int v, .int dk] A B D (eqQ (some (.int (trn v dk))) A B D) nx := by
  refine does_go (by decide) rfl (Nat.le_of_ble_eq_true rfl) rfl ?_
  refine xi_iload_n dX7_turned_0 rfl rfl ?_
  refine xi_if_eq (tgt := 11) dX7_turned_1 rfl (fun h1 => ?_) (fun h1 => ?_)
  · refine xi_iload_n dX7_turned_11 rfl rfl ?_
    refine go_ret (r := some (.int _)) dX7_turned_12 (Nat.le_of_ble_eq_true rfl) (Nat.le_of_ble_eq_true rfl) ?_
    exact ⟨by simp only [trn, h1, if_true, if_false], rfl, rfl, rfl⟩
  · refine xi_bipush (v := 15) dX7_turned_4 (by decide) ?_
    refine xi_iload_n dX7_turned_6 rfl rfl ?_
    refine xi_isub dX7_turned_7 ?_
    refine xi_goto (tgt := 12) dX7_turned_8 rfl ?_
    refine go_ret (r := some (.int _)) dX7_turned_12 (Nat.le_of_ble_eq_true rfl) (Nat.le_of_ble_eq_true rfl) ?_
    exact ⟨by simp only [trn, h1, if_true, if_false], rfl, rfl, rfl⟩
def hasV (s : Int64) (p : Nat) : Int32 := if (ushL s (nI p) &&& 1) = 0 then 0 else 1
theorem c_holds {k v p : Nat} (hk : isNod k) (hv : v < 64) {A : xA} {B : xB} {D : xD} : does0 mX5_holds [.ref k, .int (nI v), .int (nI p)] A B D (eqQ (some (.int (hasV (B (k + 2) v) p))) A B D) nx := by
  refine does_go (by decide) rfl (Nat.le_of_ble_eq_true rfl) rfl ?_
  refine xi_aload_n dX5_holds_0 rfl rfl ?_
  refine xi_getfield3 dX5_holds_1 fX5_32 hk.g hk.r5 ?_
  refine xi_iload_n dX5_holds_4 rfl rfl ?_
  refine la dX5_holds_5 hk.g2 hk.s2 rfl (by omega) (Nat.le_of_ble_eq_true rfl) ?_
  refine xi_iload_n dX5_holds_6 rfl rfl ?_
  refine xi_lushr dX5_holds_7 ?_
  refine xi_lconst (v := 1) dX5_holds_8 (by decide) ?_
  refine xi_land dX5_holds_9 ?_
  refine xi_lconst (v := 0) dX5_holds_10 (by decide) ?_
  refine xi_lcmpeq (tgt := 19) dX5_holds_11 dX5_holds_12 rfl (fun h12 => ?_) (fun h12 => ?_)
  · refine xi_iconst (v := 0) dX5_holds_19 (by decide) ?_
    refine go_ret (r := some (.int _)) ⟨dX5_holds_20, (by first | exact Or.inl rfl | exact Or.inr rfl)⟩ (Nat.le_of_ble_eq_true rfl) (Nat.le_of_ble_eq_true rfl) ?_
    exact ⟨by simp only [hasV, h12, if_true, if_false], rfl, rfl, rfl⟩
  · refine xi_iconst (v := 1) dX5_holds_15 (by decide) ?_
    refine xi_goto (tgt := 20) dX5_holds_16 rfl ?_
    refine go_ret (r := some (.int _)) ⟨dX5_holds_20, (by first | exact Or.inl rfl | exact Or.inr rfl)⟩ (Nat.le_of_ble_eq_true rfl) (Nat.le_of_ble_eq_true rfl) ?_
    exact ⟨by simp only [hasV, h12, if_true, if_false], rfl, rfl, rfl⟩
/-- set o lies in set v -/
def subV (o v : Int64) : Int32 := if (o &&& (v ^^^ -1)) = 0 then 1 else 0
theorem c_holdsNode {k v o : Nat} (hk : isNod k) (hv : v < 64) (ho : o < 64) {A : xA} {B : xB} {D : xD} : does0 mX5_holdsNode [.ref k, .int (nI v), .int (nI o)] A B D (eqQ (some (.int (subV (B (k + 2) o) (B (k + 2) v)))) A B D) nx := by
  refine does_go (by decide) rfl (Nat.le_of_ble_eq_true rfl) rfl ?_
  refine xi_aload_n dX5_holdsNode_0 rfl rfl ?_
  refine xi_getfield3 dX5_holdsNode_1 fX5_32 hk.g hk.r5 ?_
  refine xi_iload_n dX5_holdsNode_4 rfl rfl ?_
  refine la dX5_holdsNode_5 hk.g2 hk.s2 rfl (by omega) (Nat.le_of_ble_eq_true rfl) ?_
  refine xi_aload_n dX5_holdsNode_6 rfl rfl ?_
  refine xi_getfield3 dX5_holdsNode_7 fX5_32 hk.g hk.r5 ?_
  refine xi_iload_n dX5_holdsNode_10 rfl rfl ?_
  refine la dX5_holdsNode_11 hk.g2 hk.s2 rfl (by omega) (Nat.le_of_ble_eq_true rfl) ?_
  refine xi_ldc2_w dX5_holdsNode_12 kX5_88 ?_
  refine xi_lxor dX5_holdsNode_15 ?_
  refine xi_land dX5_holdsNode_16 ?_
  refine xi_lconst (v := 0) dX5_holdsNode_17 (by decide) ?_
  refine xi_lcmpne (tgt := 26) dX5_holdsNode_18 dX5_holdsNode_19 rfl (fun h19 => ?_) (fun h19 => ?_)
  · refine xi_iconst (v := 0) dX5_holdsNode_26 (by decide) ?_
    refine go_ret (r := some (.int _)) ⟨dX5_holdsNode_27, (by first | exact Or.inl rfl | exact Or.inr rfl)⟩ (Nat.le_of_ble_eq_true rfl) (Nat.le_of_ble_eq_true rfl) ?_
    exact ⟨by simp only [subV, h19, if_true, if_false], rfl, rfl, rfl⟩
  · refine xi_iconst (v := 1) dX5_holdsNode_22 (by decide) ?_
    refine xi_goto (tgt := 27) dX5_holdsNode_23 rfl ?_
    refine go_ret (r := some (.int _)) ⟨dX5_holdsNode_27, (by first | exact Or.inl rfl | exact Or.inr rfl)⟩ (Nat.le_of_ble_eq_true rfl) (Nat.le_of_ble_eq_true rfl) ?_
    exact ⟨by simp only [subV, h19, if_true, if_false], rfl, rfl, rfl⟩
def numV (A : xA) (k : Nat) (w : Int32) : Int32 := if w = 2 then A k 2 else if w = 4 then A k 4 else A k 3
theorem c_numberOf {k : Nat} (hk : isNod k) {w : Int32} {A : xA} {B : xB} {D : xD} : does0 mX5_numberOf [.ref k, .int w] A B D (eqQ (some (.int (numV A k w))) A B D) nx := by
  refine does_go (by decide) rfl (Nat.le_of_ble_eq_true rfl) rfl ?_
  refine xi_iload_n dX5_numberOf_0 rfl rfl ?_
  refine xi_iconst (v := 2) dX5_numberOf_1 (by decide) ?_
  refine xi_icmpne (tgt := 10) dX5_numberOf_2 rfl (fun h2 => ?_) (fun h2 => ?_)
  · refine xi_iload_n dX5_numberOf_10 rfl rfl ?_
    refine xi_iconst (v := 4) dX5_numberOf_11 (by decide) ?_
    refine xi_icmpne (tgt := 22) dX5_numberOf_12 rfl (fun h12 => ?_) (fun h12 => ?_)
    · refine xi_aload_n dX5_numberOf_22 rfl rfl ?_
      refine xi_getfield0 dX5_numberOf_23 fX5_26 hk.g ?_
      refine go_ret (r := some (.int _)) dX5_numberOf_26 (Nat.le_of_ble_eq_true rfl) (Nat.le_of_ble_eq_true rfl) ?_
      exact ⟨by unfold numV; rw [if_neg h2]; first | rw [if_pos h12] | rw [if_neg h12], rfl, rfl, rfl⟩
    · refine xi_aload_n dX5_numberOf_15 rfl rfl ?_
      refine xi_getfield0 dX5_numberOf_16 fX5_29 hk.g ?_
      refine xi_goto (tgt := 26) dX5_numberOf_19 rfl ?_
      refine go_ret (r := some (.int _)) dX5_numberOf_26 (Nat.le_of_ble_eq_true rfl) (Nat.le_of_ble_eq_true rfl) ?_
      exact ⟨by unfold numV; rw [if_neg h2]; first | rw [if_pos h12] | rw [if_neg h12], rfl, rfl, rfl⟩
  · refine xi_aload_n dX5_numberOf_5 rfl rfl ?_
    refine xi_getfield0 dX5_numberOf_6 fX5_22 hk.g ?_
    refine go_ret (r := some (.int _)) dX5_numberOf_9 (Nat.le_of_ble_eq_true rfl) (Nat.le_of_ble_eq_true rfl) ?_
    exact ⟨by simp only [numV, h2, if_true, if_false], rfl, rfl, rfl⟩
def leafV (ch : Nat → Int32) (m : Nat) : Int32 := isum (fun v => if ch v = 0 then 1 else 0) m
theorem c_countLeaves {k m : Nat} (hk : isNod k) {A : xA} {B : xB} {D : xD} (hm : A k 2 = nI m) (hb : m ≤ 64) : does0 mX5_countLeaves [.ref k] A B D (eqQ none (updA A k 3 (leafV (A (k + 6)) m)) B D) nx := by
  refine does_go (by decide) rfl (Nat.le_of_ble_eq_true rfl) rfl ?_
  have loop := up_ind (n := m) (P := fun j => go0 mX5_countLeaves (eqQ none (updA A k 3 (leafV (A (k + 6)) m)) B D) nx 0 0 7 [(0, .ref k), (1, .int (nI j))] [] (updA A k 3 (leafV (A (k + 6)) j)) B D) (fun j hj ih => by
    refine xi_iload_n dX5_countLeaves_7 rfl rfl ?_
    refine xi_aload_n dX5_countLeaves_8 rfl rfl ?_
    refine xi_getfield0 dX5_countLeaves_9 fX5_22 hk.g ?_
    rw [updA_sj _ _ _ (by decide), hm]
    refine xi_icmp_ge (tgt := 44) dX5_countLeaves_12 rfl (fun h12 => ?_) (fun h12 => ?_)
    · have e : j = m := ge_eq hj (by omega) h12
      subst e
      refine go_ret (r := none) dX5_countLeaves_44 (Nat.le_of_ble_eq_true rfl) (Nat.le_of_ble_eq_true rfl) ?_
      exact ⟨rfl, rfl, rfl, rfl⟩
    · have hl : j < m := nge_lt hj (by omega) h12
      refine xi_aload_n dX5_countLeaves_15 rfl rfl ?_
      refine xi_dup dX5_countLeaves_16 rfl ?_
      refine xi_getfield0 dX5_countLeaves_17 fX5_26 hk.g ?_
      refine xi_aload_n dX5_countLeaves_20 rfl rfl ?_
      refine xi_getfield3 dX5_countLeaves_21 fX5_46 hk.g hk.r9 ?_
      refine xi_iload_n dX5_countLeaves_24 rfl rfl ?_
      refine ia dX5_countLeaves_25 hk.g6 hk.s6 rfl (by omega) (Nat.le_of_ble_eq_true rfl) ?_
      rw [updA_n _ _ _ (by omega)]
      refine xi_ifne (tgt := 33) dX5_countLeaves_26 rfl (fun h26 => ?_) (fun h26 => ?_)
      · refine xi_iconst (v := 0) dX5_countLeaves_33 (by decide) ?_
        refine xi_iadd dX5_countLeaves_34 ?_
        rw [updA_ss]
        refine xi_putfield0 dX5_countLeaves_35 fX5_26 hk.g pX5_26 ?_
        refine xi_iinc (v := 1) dX5_countLeaves_38 rfl (by decide) (Nat.le_of_ble_eq_true rfl) ?_
        refine xi_goto (tgt := 7) dX5_countLeaves_41 rfl ?_
        refine xgo_pick [0, 1] rfl ?_
        rw [nI_1, updA_uu]
        have q := ih hl
        simp only [leafV, isum, h26, if_true, if_false] at q ⊢
        exact q
      · refine xi_iconst (v := 1) dX5_countLeaves_29 (by decide) ?_
        refine xi_goto (tgt := 34) dX5_countLeaves_30 rfl ?_
        refine xi_iadd dX5_countLeaves_34 ?_
        rw [updA_ss]
        refine xi_putfield0 dX5_countLeaves_35 fX5_26 hk.g pX5_26 ?_
        refine xi_iinc (v := 1) dX5_countLeaves_38 rfl (by decide) (Nat.le_of_ble_eq_true rfl) ?_
        refine xi_goto (tgt := 7) dX5_countLeaves_41 rfl ?_
        refine xgo_pick [0, 1] rfl ?_
        rw [nI_1, updA_uu]
        have q := ih hl
        simp only [leafV, isum, h26, if_true, if_false] at q ⊢
        exact q
    )
  refine xi_aload_n dX5_countLeaves_0 rfl rfl ?_
  refine xi_iconst (v := 0) dX5_countLeaves_1 (by decide) ?_
  refine xi_putfield0 dX5_countLeaves_2 fX5_26 hk.g pX5_26 ?_
  refine xi_iconst (v := 0) dX5_countLeaves_5 (by decide) ?_
  refine xi_istore_n dX5_countLeaves_6 rfl (Nat.le_of_ble_eq_true rfl) ?_
  refine xgo_pick [0, 1] rfl ?_
  exact loop 0 (Nat.zero_le _)
def childV (pa : Nat → Int32) (node idx : Int32) : Nat → Nat → Int32 → Int32
  | 0, _, _ => -1
  | d + 1, i, ps => if pa i = node then (if ps = idx then nI i else childV pa node idx d (i + 1) (ps + 1)) else childV pa node idx d (i + 1) ps
theorem c_childAt {k m v : Nat} (hk : isNod k) {x : Int32} {A : xA} {B : xB} {D : xD} (hm : A k 2 = nI m) (hb : m ≤ 64) (hv : v < m) : does0 mX5_childAt [.ref k, .int (nI v), .int x] A B D (eqQ (some (.int (childV (A (k + 5)) (nI v) x (m - (v + 1)) (v + 1) 0))) A B D) nx := by
  refine does_go (by decide) rfl (Nat.le_of_ble_eq_true rfl) rfl ?_
  generalize hR : childV (A (k + 5)) (nI v) x (m - (v + 1)) (v + 1) 0 = R
  have loop := up_ind (n := m) (P := fun j => ∀ ps, childV (A (k + 5)) (nI v) x (m - j) j ps = R → go0 mX5_childAt (eqQ (some (.int R)) A B D) nx 0 0 7 [(0, .ref k), (1, .int (nI v)), (2, .int x), (3, .int ps), (4, .int (nI j))] [] A B D) (fun j hj ih ps hx => by
    refine xi_iload dX5_childAt_7 rfl ?_
    refine xi_aload_n dX5_childAt_9 rfl rfl ?_
    refine xi_getfield0 dX5_childAt_10 fX5_22 hk.g ?_
    rw [hm]
    refine xi_icmp_ge (tgt := 44) dX5_childAt_13 rfl (fun h13 => ?_) (fun h13 => ?_)
    · have e : j = m := ge_eq hj (by omega) h13
      subst e
      refine xi_iconst (v := (-1)) dX5_childAt_44 (by decide) ?_
      refine go_ret (r := some (.int _)) dX5_childAt_45 (Nat.le_of_ble_eq_true rfl) (Nat.le_of_ble_eq_true rfl) ?_
      exact ⟨by rw [← hx, Nat.sub_self]; rfl, rfl, rfl, rfl⟩
    · have hl : j < m := nge_lt hj (by omega) h13
      obtain ⟨d, hd⟩ : ∃ d, m - j = d + 1 := ⟨m - j - 1, by omega⟩
      have hd2 : m - (j + 1) = d := by omega
      rw [hd] at hx
      unfold childV at hx
      refine xi_aload_n dX5_childAt_16 rfl rfl ?_
      refine xi_getfield3 dX5_childAt_17 fX5_43 hk.g hk.r8 ?_
      refine xi_iload dX5_childAt_20 rfl ?_
      refine ia dX5_childAt_22 hk.g5 hk.s5 rfl (by omega) (Nat.le_of_ble_eq_true rfl) ?_
      refine xi_iload_n dX5_childAt_23 rfl rfl ?_
      refine xi_icmpne (tgt := 38) dX5_childAt_24 rfl (fun h24 => ?_) (fun h24 => ?_)
      · refine xi_iinc (v := 1) dX5_childAt_38 rfl (by decide) (Nat.le_of_ble_eq_true rfl) ?_
        refine xi_goto (tgt := 7) dX5_childAt_41 rfl ?_
        refine xgo_pick [0, 1, 2, 3, 4] rfl ?_
        rw [nI_1]
        first
          | exact ih hl _ (by rw [hd2]; rw [if_neg h24] at hx; exact hx)
          | exact ih hl _ (by rw [hd2]; rw [if_pos h24, if_neg h29] at hx; exact hx)
      · refine xi_iload_n dX5_childAt_27 rfl rfl ?_
        refine xi_iload_n dX5_childAt_28 rfl rfl ?_
        refine xi_icmpne (tgt := 35) dX5_childAt_29 rfl (fun h29 => ?_) (fun h29 => ?_)
        · refine xi_iinc (v := 1) dX5_childAt_35 rfl (by decide) (Nat.le_of_ble_eq_true rfl) ?_
          refine xi_iinc (v := 1) dX5_childAt_38 rfl (by decide) (Nat.le_of_ble_eq_true rfl) ?_
          refine xi_goto (tgt := 7) dX5_childAt_41 rfl ?_
          refine xgo_pick [0, 1, 2, 3, 4] rfl ?_
          rw [nI_1]
          first
            | exact ih hl _ (by rw [hd2]; rw [if_neg h24] at hx; exact hx)
            | exact ih hl _ (by rw [hd2]; rw [if_pos h24, if_neg h29] at hx; exact hx)
        · refine xi_iload dX5_childAt_32 rfl ?_
          refine go_ret (r := some (.int _)) dX5_childAt_34 (Nat.le_of_ble_eq_true rfl) (Nat.le_of_ble_eq_true rfl) ?_
          exact ⟨by rw [if_pos h24, if_pos h29] at hx; rw [hx], rfl, rfl, rfl⟩
    )
  refine xi_iconst (v := 0) dX5_childAt_0 (by decide) ?_
  refine xi_istore_n dX5_childAt_1 rfl (Nat.le_of_ble_eq_true rfl) ?_
  refine xi_iload_n dX5_childAt_2 rfl rfl ?_
  refine xi_iconst (v := 1) dX5_childAt_3 (by decide) ?_
  refine xi_iadd dX5_childAt_4 ?_
  refine xi_istore dX5_childAt_5 (Nat.le_of_ble_eq_true rfl) ?_
  refine xgo_pick [0, 1, 2, 3, 4] rfl ?_
  rw [nI_1]
  exact loop (v + 1) (by omega) _ hR
def lowV (rk : Nat → Int32) (se : Nat → Int64) (p : Nat) (le : Int32) : Nat → Nat → Int32
  | 0, _ => -1
  | d + 1, i => if rk i < le then lowV rk se p le d (i + 1) else if hasV (se i) p = 0 then lowV rk se p le d (i + 1) else nI i
theorem c_lowestWith {k m p : Nat} (hk : isNod k) {x : Int32} {A : xA} {B : xB} {D : xD} (hm : A k 2 = nI m) (hb : m ≤ 64) : does0 mX5_lowestWith [.ref k, .int (nI p), .int x] A B D (eqQ (some (.int (lowV (A (k + 3)) (B (k + 2)) p x m 0))) A B D) nx := by
  refine does_go (by decide) rfl (Nat.le_of_ble_eq_true rfl) rfl ?_
  generalize hR : lowV (A (k + 3)) (B (k + 2)) p x m 0 = R
  have loop := up_ind (n := m) (P := fun j => lowV (A (k + 3)) (B (k + 2)) p x (m - j) j = R → go0 mX5_lowestWith (eqQ (some (.int R)) A B D) nx 0 0 2 [(0, .ref k), (1, .int (nI p)), (2, .int x), (3, .int (nI j))] [] A B D) (fun j hj ih hx => by
    refine xi_iload_n dX5_lowestWith_2 rfl rfl ?_
    refine xi_aload_n dX5_lowestWith_3 rfl rfl ?_
    refine xi_getfield0 dX5_lowestWith_4 fX5_22 hk.g ?_
    rw [hm]
    refine xi_icmp_ge (tgt := 37) dX5_lowestWith_7 rfl (fun h7 => ?_) (fun h7 => ?_)
    · have e : j = m := ge_eq hj (by omega) h7
      subst e
      refine xi_iconst (v := (-1)) dX5_lowestWith_37 (by decide) ?_
      refine go_ret (r := some (.int _)) dX5_lowestWith_38 (Nat.le_of_ble_eq_true rfl) (Nat.le_of_ble_eq_true rfl) ?_
      exact ⟨by rw [← hx, Nat.sub_self]; rfl, rfl, rfl, rfl⟩
    · have hl : j < m := nge_lt hj (by omega) h7
      obtain ⟨d, hd⟩ : ∃ d, m - j = d + 1 := ⟨m - j - 1, by omega⟩
      have hd2 : m - (j + 1) = d := by omega
      rw [hd] at hx
      unfold lowV at hx
      refine xi_aload_n dX5_lowestWith_10 rfl rfl ?_
      refine xi_getfield3 dX5_lowestWith_11 fX5_36 hk.g hk.r6 ?_
      refine xi_iload_n dX5_lowestWith_14 rfl rfl ?_
      refine ia dX5_lowestWith_15 hk.g3 hk.s3 rfl (by omega) (Nat.le_of_ble_eq_true rfl) ?_
      refine xi_iload_n dX5_lowestWith_16 rfl rfl ?_
      refine xi_icmp_lt (tgt := 31) dX5_lowestWith_17 rfl (fun h17 => ?_) (fun h17 => ?_)
      · refine xi_iinc (v := 1) dX5_lowestWith_31 rfl (by decide) (Nat.le_of_ble_eq_true rfl) ?_
        refine xi_goto (tgt := 2) dX5_lowestWith_34 rfl ?_
        refine xgo_pick [0, 1, 2, 3] rfl ?_
        rw [nI_1]
        first
          | exact ih hl (by rw [hd2]; rw [if_pos h17] at hx; exact hx)
          | exact ih hl (by rw [hd2]; rw [if_neg h17, if_pos h26] at hx; exact hx)
      · refine xi_aload_n dX5_lowestWith_20 rfl rfl ?_
        refine xi_iload_n dX5_lowestWith_21 rfl rfl ?_
        refine xi_iload_n dX5_lowestWith_22 rfl rfl ?_
        refine cV1 (av := [_, _]) dX5_lowestWith_23 lX5_126 rfl ⟨rfl, rfl⟩ rfl ⟨(Nat.le_of_ble_eq_true rfl), (Nat.le_of_ble_eq_true rfl)⟩ ⟨(Nat.le_of_ble_eq_true rfl), (Nat.le_of_ble_eq_true rfl)⟩ (Nat.le_of_ble_eq_true rfl) hk.g rfl rfl (c_holds hk (by omega)) ?_
        refine xi_if_eq (tgt := 31) dX5_lowestWith_26 rfl (fun h26 => ?_) (fun h26 => ?_)
        · refine xi_iinc (v := 1) dX5_lowestWith_31 rfl (by decide) (Nat.le_of_ble_eq_true rfl) ?_
          refine xi_goto (tgt := 2) dX5_lowestWith_34 rfl ?_
          refine xgo_pick [0, 1, 2, 3] rfl ?_
          rw [nI_1]
          first
            | exact ih hl (by rw [hd2]; rw [if_pos h17] at hx; exact hx)
            | exact ih hl (by rw [hd2]; rw [if_neg h17, if_pos h26] at hx; exact hx)
        · refine xi_iload_n dX5_lowestWith_29 rfl rfl ?_
          refine go_ret (r := some (.int _)) dX5_lowestWith_30 (Nat.le_of_ble_eq_true rfl) (Nat.le_of_ble_eq_true rfl) ?_
          exact ⟨by rw [if_neg h17, if_neg h26] at hx; rw [hx], rfl, rfl, rfl⟩
    )
  refine xi_iconst (v := 0) dX5_lowestWith_0 (by decide) ?_
  refine xi_istore_n dX5_lowestWith_1 rfl (Nat.le_of_ble_eq_true rfl) ?_
  refine xgo_pick [0, 1, 2, 3] rfl ?_
  exact loop 0 (Nat.zero_le _) hR
def smallV (se : Nat → Int64) (p q : Nat) : Nat → Int32
  | 0 => 0
  | v + 1 => if hasV (se (v + 1)) p = 0 then smallV se p q v else if hasV (se (v + 1)) q = 0 then smallV se p q v else nI (v + 1)
theorem nI_le0 {v : Nat} (hv : v < 2 ^ 31) (h : nI v ≤ 0) : v = 0 := by
  have := (nI_leI (a := v) (b := 0) hv (by decide)).mp h
  omega
theorem nI_gt0 {v : Nat} (h : ¬ nI v ≤ 0) : ∃ u, v = u + 1 := by
  cases v with
  | zero => exact absurd (by decide) h
  | succ u => exact ⟨u, rfl⟩
theorem c_smallestWith {k m p q : Nat} (hk : isNod k) {A : xA} {B : xB} {D : xD} (hm : A k 2 = nI (m + 1)) (hb : m < 64) : does0 mX5_smallestWith [.ref k, .int (nI p), .int (nI q)] A B D (eqQ (some (.int (smallV (B (k + 2)) p q m))) A B D) nx := by
  refine does_go (by decide) rfl (Nat.le_of_ble_eq_true rfl) rfl ?_
  generalize hR : smallV (B (k + 2)) p q m = R
  have loop := dn_ind (P := fun j => j < 64 → smallV (B (k + 2)) p q j = R → go0 mX5_smallestWith (eqQ (some (.int R)) A B D) nx 0 0 7 [(0, .ref k), (1, .int (nI p)), (2, .int (nI q)), (3, .int (nI j))] [] A B D) (fun j ih hj hx => by
    refine xi_iload_n dX5_smallestWith_7 rfl rfl ?_
    refine xi_if_le (tgt := 37) dX5_smallestWith_8 rfl (fun h8 => ?_) (fun h8 => ?_)
    · have e : j = 0 := nI_le0 (by omega) h8
      subst e
      refine xi_iconst (v := 0) dX5_smallestWith_37 (by decide) ?_
      refine go_ret (r := some (.int _)) dX5_smallestWith_38 (Nat.le_of_ble_eq_true rfl) (Nat.le_of_ble_eq_true rfl) ?_
      exact ⟨by rw [← hx]; rfl, rfl, rfl, rfl⟩
    · obtain ⟨u, rfl⟩ := nI_gt0 h8
      unfold smallV at hx
      refine xi_aload_n dX5_smallestWith_11 rfl rfl ?_
      refine xi_iload_n dX5_smallestWith_12 rfl rfl ?_
      refine xi_iload_n dX5_smallestWith_13 rfl rfl ?_
      refine cV1 (av := [_, _]) dX5_smallestWith_14 lX5_126 rfl ⟨rfl, rfl⟩ rfl ⟨(Nat.le_of_ble_eq_true rfl), (Nat.le_of_ble_eq_true rfl)⟩ ⟨(Nat.le_of_ble_eq_true rfl), (Nat.le_of_ble_eq_true rfl)⟩ (Nat.le_of_ble_eq_true rfl) hk.g rfl rfl (c_holds hk (by omega)) ?_
      refine xi_if_eq (tgt := 31) dX5_smallestWith_17 rfl (fun h17 => ?_) (fun h17 => ?_)
      · refine xi_iinc (v := (-1)) dX5_smallestWith_31 rfl (by decide) (Nat.le_of_ble_eq_true rfl) ?_
        refine xi_goto (tgt := 7) dX5_smallestWith_34 rfl ?_
        refine xgo_pick [0, 1, 2, 3] rfl ?_
        rw [pk_m1]
        first
          | exact ih u rfl (by omega) (by rw [if_pos h17] at hx; exact hx)
          | exact ih u rfl (by omega) (by rw [if_neg h17, if_pos h26] at hx; exact hx)
      · refine xi_aload_n dX5_smallestWith_20 rfl rfl ?_
        refine xi_iload_n dX5_smallestWith_21 rfl rfl ?_
        refine xi_iload_n dX5_smallestWith_22 rfl rfl ?_
        refine cV1 (av := [_, _]) dX5_smallestWith_23 lX5_126 rfl ⟨rfl, rfl⟩ rfl ⟨(Nat.le_of_ble_eq_true rfl), (Nat.le_of_ble_eq_true rfl)⟩ ⟨(Nat.le_of_ble_eq_true rfl), (Nat.le_of_ble_eq_true rfl)⟩ (Nat.le_of_ble_eq_true rfl) hk.g rfl rfl (c_holds hk (by omega)) ?_
        refine xi_if_eq (tgt := 31) dX5_smallestWith_26 rfl (fun h26 => ?_) (fun h26 => ?_)
        · refine xi_iinc (v := (-1)) dX5_smallestWith_31 rfl (by decide) (Nat.le_of_ble_eq_true rfl) ?_
          refine xi_goto (tgt := 7) dX5_smallestWith_34 rfl ?_
          refine xgo_pick [0, 1, 2, 3] rfl ?_
          rw [pk_m1]
          first
            | exact ih u rfl (by omega) (by rw [if_pos h17] at hx; exact hx)
            | exact ih u rfl (by omega) (by rw [if_neg h17, if_pos h26] at hx; exact hx)
        · refine xi_iload_n dX5_smallestWith_29 rfl rfl ?_
          refine go_ret (r := some (.int _)) dX5_smallestWith_30 (Nat.le_of_ble_eq_true rfl) (Nat.le_of_ble_eq_true rfl) ?_
          exact ⟨by rw [if_neg h17, if_neg h26] at hx; rw [hx], rfl, rfl, rfl⟩
    )
  refine xi_aload_n dX5_smallestWith_0 rfl rfl ?_
  refine xi_getfield0 dX5_smallestWith_1 fX5_22 hk.g ?_
  refine xi_iconst (v := 1) dX5_smallestWith_4 (by decide) ?_
  rw [hm]
  refine xi_isub dX5_smallestWith_5 ?_
  refine xi_istore_n dX5_smallestWith_6 rfl (Nat.le_of_ble_eq_true rfl) ?_
  refine xgo_pick [0, 1, 2, 3] rfl ?_
  rw [nI_pred]
  exact loop m hb hR
def stepsV (se : Nat → Int64) (a b m : Nat) : Int32 := isum (fun v => if subV (se a) (se v) = subV (se b) (se v) then 0 else 1) m
theorem c_stepsBetween {k m a b : Nat} (hk : isNod k) {A : xA} {B : xB} {D : xD} (hm : A k 2 = nI m) (hb : m ≤ 64) (ha : a < 64) (hb2 : b < 64) : does0 mX5_stepsBetween [.ref k, .int (nI a), .int (nI b)] A B D (eqQ (some (.int (stepsV (B (k + 2)) a b m))) A B D) nx := by
  refine does_go (by decide) rfl (Nat.le_of_ble_eq_true rfl) rfl ?_
  have loop := up_ind (n := m) (P := fun j => go0 mX5_stepsBetween (eqQ (some (.int (stepsV (B (k + 2)) a b m))) A B D) nx 0 0 5 [(0, .ref k), (1, .int (nI a)), (2, .int (nI b)), (3, .int (stepsV (B (k + 2)) a b j)), (4, .int (nI j))] [] A B D) (fun j hj ih => by
    refine xi_iload dX5_stepsBetween_5 rfl ?_
    refine xi_aload_n dX5_stepsBetween_7 rfl rfl ?_
    refine xi_getfield0 dX5_stepsBetween_8 fX5_22 hk.g ?_
    rw [hm]
    refine xi_icmp_ge (tgt := 45) dX5_stepsBetween_11 rfl (fun h11 => ?_) (fun h11 => ?_)
    · have e : j = m := ge_eq hj (by omega) h11
      subst e
      refine xi_iload_n dX5_stepsBetween_45 rfl rfl ?_
      refine go_ret (r := some (.int _)) dX5_stepsBetween_46 (Nat.le_of_ble_eq_true rfl) (Nat.le_of_ble_eq_true rfl) ?_
      exact ⟨rfl, rfl, rfl, rfl⟩
    · have hl : j < m := nge_lt hj (by omega) h11
      refine xi_iload_n dX5_stepsBetween_14 rfl rfl ?_
      refine xi_aload_n dX5_stepsBetween_15 rfl rfl ?_
      refine xi_iload dX5_stepsBetween_16 rfl ?_
      refine xi_iload_n dX5_stepsBetween_18 rfl rfl ?_
      refine cV1 (av := [_, _]) dX5_stepsBetween_19 lX5_130 rfl ⟨rfl, rfl⟩ rfl ⟨(Nat.le_of_ble_eq_true rfl), (Nat.le_of_ble_eq_true rfl)⟩ ⟨(Nat.le_of_ble_eq_true rfl), (Nat.le_of_ble_eq_true rfl)⟩ (Nat.le_of_ble_eq_true rfl) hk.g rfl rfl (c_holdsNode hk (by omega) (by omega)) ?_
      refine xi_aload_n dX5_stepsBetween_22 rfl rfl ?_
      refine xi_iload dX5_stepsBetween_23 rfl ?_
      refine xi_iload_n dX5_stepsBetween_25 rfl rfl ?_
      refine cV1 (av := [_, _]) dX5_stepsBetween_26 lX5_130 rfl ⟨rfl, rfl⟩ rfl ⟨(Nat.le_of_ble_eq_true rfl), (Nat.le_of_ble_eq_true rfl)⟩ ⟨(Nat.le_of_ble_eq_true rfl), (Nat.le_of_ble_eq_true rfl)⟩ (Nat.le_of_ble_eq_true rfl) hk.g rfl rfl (c_holdsNode hk (by omega) (by omega)) ?_
      refine xi_icmp_eq (tgt := 36) dX5_stepsBetween_29 rfl (fun h29 => ?_) (fun h29 => ?_)
      · refine xi_iconst (v := 0) dX5_stepsBetween_36 (by decide) ?_
        refine xi_iadd dX5_stepsBetween_37 ?_
        refine xi_istore_n dX5_stepsBetween_38 rfl (Nat.le_of_ble_eq_true rfl) ?_
        refine xi_iinc (v := 1) dX5_stepsBetween_39 rfl (by decide) (Nat.le_of_ble_eq_true rfl) ?_
        refine xi_goto (tgt := 5) dX5_stepsBetween_42 rfl ?_
        refine xgo_pick [0, 1, 2, 3, 4] rfl ?_
        rw [nI_1]
        have q := ih hl
        simp only [stepsV, isum, h29, if_true, if_false] at q ⊢
        exact q
      · refine xi_iconst (v := 1) dX5_stepsBetween_32 (by decide) ?_
        refine xi_goto (tgt := 37) dX5_stepsBetween_33 rfl ?_
        refine xi_iadd dX5_stepsBetween_37 ?_
        refine xi_istore_n dX5_stepsBetween_38 rfl (Nat.le_of_ble_eq_true rfl) ?_
        refine xi_iinc (v := 1) dX5_stepsBetween_39 rfl (by decide) (Nat.le_of_ble_eq_true rfl) ?_
        refine xi_goto (tgt := 5) dX5_stepsBetween_42 rfl ?_
        refine xgo_pick [0, 1, 2, 3, 4] rfl ?_
        rw [nI_1]
        have q := ih hl
        simp only [stepsV, isum, h29, if_true, if_false] at q ⊢
        exact q
    )
  refine xi_iconst (v := 0) dX5_stepsBetween_0 (by decide) ?_
  refine xi_istore_n dX5_stepsBetween_1 rfl (Nat.le_of_ble_eq_true rfl) ?_
  refine xi_iconst (v := 0) dX5_stepsBetween_2 (by decide) ?_
  refine xi_istore dX5_stepsBetween_3 (Nat.le_of_ble_eq_true rfl) ?_
  refine xgo_pick [0, 1, 2, 3, 4] rfl ?_
  exact loop 0 (Nat.zero_le _)

