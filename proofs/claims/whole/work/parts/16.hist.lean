/-! the rest of Change; History, InputText, Picture.paint -/
theorem copyA_o {A : xA} {k k2 k' : Nat} (h0 : k' ≠ k) (h1 : k' ≠ k + 1) (h2 : k' ≠ k + 2) : copyA A k k2 k' = A k' := by
  unfold copyA
  rw [cpA_n _ _ h2, cpA_n _ _ h1, updA_n _ _ _ h0, updA_n _ _ _ h0]
theorem imin_nI {a b : Nat} (ha : a < 2 ^ 31) (hb : b < 2 ^ 31) : imin (nI a) (nI b) = nI (min a b) := by
  unfold imin
  by_cases h : b < a
  · rw [if_pos ((nI_ltI hb ha).mpr h), Nat.min_eq_right (by omega)]
  · rw [if_neg (fun q => h ((nI_ltI hb ha).mp q)), Nat.min_eq_left (by omega)]
theorem imax_nI {a b : Nat} (ha : a < 2 ^ 31) (hb : b < 2 ^ 31) : imax (nI a) (nI b) = nI (max a b) := by
  unfold imax
  by_cases h : a < b
  · rw [if_pos ((nI_ltI ha hb).mpr h), Nat.max_eq_right (by omega)]
  · rw [if_neg (fun q => h ((nI_ltI ha hb).mp q)), Nat.max_eq_left (by omega)]
def keepA (A : xA) (x sz : Nat) : xA := updA (updA (copyA A (9 + 3 * x) 1) 7 1 (nI ((x + 1) % 8))) 7 2 (nI (min (sz + 1) 8))
theorem c_keep {x sz : Nat} {A : xA} {B : xB} {D : xD} (hx : A 7 1 = nI x) (hx8 : x < 8) (hz : A 7 2 = nI sz) (hz8 : sz ≤ 8) : does0 mX2_keep [.ref 7, .ref 1] A B D (eqQ none (keepA A x sz) B D) nx := by
  refine does_go (by decide) rfl (Nat.le_of_ble_eq_true rfl) rfl ?_
  unfold keepA
  obtain ⟨kx, hkx⟩ : ∃ kx, kx = 9 + 3 * x := ⟨_, rfl⟩
  have hk : isPic kx := by rw [hkx]; exact isPic_k hx8
  rw [← hkx]
  have h7 : copyA A kx 1 7 = A 7 := copyA_o (by omega) (by omega) (by omega)
  refine xi_aload_n dX2_keep_0 rfl rfl ?_
  refine xi_getfield3 dX2_keep_1 fX2_11 g7 r7_0 ?_
  refine xi_aload_n dX2_keep_4 rfl rfl ?_
  refine xi_getfield0 dX2_keep_5 fX2_17 g7 ?_
  rw [hx]
  refine xi_aaload6 (r := kx) dX2_keep_8 g8 s8 (vp_in_nI hx8 (by decide)) (by rw [nI_clamp (by omega), hkx]; exact r8 hx8) ?_
  refine xi_aload_n dX2_keep_9 rfl rfl ?_
  refine cV1 (av := [_]) dX2_keep_10 lX2_25 rfl ⟨rfl, rfl⟩ rfl ⟨(Nat.le_of_ble_eq_true rfl), (Nat.le_of_ble_eq_true rfl)⟩ ⟨(Nat.le_of_ble_eq_true rfl), (Nat.le_of_ble_eq_true rfl)⟩ (Nat.le_of_ble_eq_true rfl) hk.g rfl rfl (c_copyFrom hk isPic_1 (by omega)) ?_
  refine xi_aload_n dX2_keep_13 rfl rfl ?_
  refine xi_aload_n dX2_keep_14 rfl rfl ?_
  refine xi_getfield0 dX2_keep_15 fX2_17 g7 ?_
  rw [h7, hx]
  refine xi_iconst (v := 1) dX2_keep_18 (by decide) ?_
  refine xi_iadd dX2_keep_19 ?_
  rw [nI_1]
  refine xi_bipush (v := 8) dX2_keep_20 (by decide) ?_
  refine xi_irem dX2_keep_22 (show ¬ (8 : Int32) = 0 by decide) ?_
  rw [show (8 : Int32) = nI 8 from rfl, pk_rem (by omega) (by omega) (by omega)]
  refine xi_putfield0 dX2_keep_23 fX2_17 g7 pX2_17 ?_
  refine xi_aload_n dX2_keep_26 rfl rfl ?_
  refine xi_aload_n dX2_keep_27 rfl rfl ?_
  refine xi_getfield0 dX2_keep_28 fX2_21 g7 ?_
  rw [updA_sj _ _ _ (by decide), h7, hz]
  refine xi_iconst (v := 1) dX2_keep_31 (by decide) ?_
  refine xi_iadd dX2_keep_32 ?_
  refine xi_bipush (v := 8) dX2_keep_33 (by decide) ?_
  refine xi_mmin dX2_keep_35 eX2_29 ⟨(Nat.le_of_ble_eq_true rfl), (Nat.le_of_ble_eq_true rfl)⟩ ⟨(Nat.le_of_ble_eq_true rfl), (Nat.le_of_ble_eq_true rfl)⟩ ?_
  rw [nI_1, show (8 : Int32) = nI 8 from rfl, imin_nI (by omega) (by omega)]
  refine xi_putfield0 dX2_keep_38 fX2_21 g7 pX2_21 ?_
  refine go_ret (r := none) dX2_keep_41 (Nat.le_of_ble_eq_true rfl) (Nat.le_of_ble_eq_true rfl) ?_
  exact ⟨rfl, rfl, rfl, rfl⟩
def backA (A : xA) (x sz : Nat) : xA := copyA (updA (updA A 7 1 (nI ((x + 7) % 8))) 7 2 (nI sz)) 1 (9 + 3 * ((x + 7) % 8))
theorem c_giveBack {x sz : Nat} {A : xA} {B : xB} {D : xD} (hx : A 7 1 = nI x) (hx8 : x < 8) (hz : A 7 2 = nI (sz + 1)) : does0 mX2_giveBack [.ref 7, .ref 1] A B D (eqQ none (backA A x sz) B D) nx := by
  refine does_go (by decide) rfl (Nat.le_of_ble_eq_true rfl) rfl ?_
  unfold backA
  obtain ⟨y, hy⟩ : ∃ y, y = (x + 7) % 8 := ⟨_, rfl⟩
  have hy8 : y < 8 := by omega
  obtain ⟨kx, hkx⟩ : ∃ kx, kx = 9 + 3 * y := ⟨_, rfl⟩
  have hk : isPic kx := by rw [hkx]; exact isPic_k hy8
  rw [← hy, ← hkx]
  refine xi_aload_n dX2_giveBack_0 rfl rfl ?_
  refine xi_aload_n dX2_giveBack_1 rfl rfl ?_
  refine xi_getfield0 dX2_giveBack_2 fX2_17 g7 ?_
  rw [hx]
  refine xi_bipush (v := 8) dX2_giveBack_5 (by decide) ?_
  refine xi_iadd dX2_giveBack_7 ?_
  refine xi_iconst (v := 1) dX2_giveBack_8 (by decide) ?_
  refine xi_isub dX2_giveBack_9 ?_
  refine xi_bipush (v := 8) dX2_giveBack_10 (by decide) ?_
  rw [show (8 : Int32) = nI 8 from rfl, nI_add, show (1 : Int32) = nI 1 from rfl, pk_sub (by omega)]
  refine xi_irem dX2_giveBack_12 (show ¬ (8 : Int32) = 0 by decide) ?_
  rw [pk_rem (by omega) (by omega) (by omega), show (x + 8 - 1) % 8 = y by omega]
  refine xi_putfield0 dX2_giveBack_13 fX2_17 g7 pX2_17 ?_
  refine xi_aload_n dX2_giveBack_16 rfl rfl ?_
  refine xi_aload_n dX2_giveBack_17 rfl rfl ?_
  refine xi_getfield0 dX2_giveBack_18 fX2_21 g7 ?_
  rw [updA_sj _ _ _ (by decide), hz]
  refine xi_iconst (v := 1) dX2_giveBack_21 (by decide) ?_
  refine xi_isub dX2_giveBack_22 ?_
  rw [nI_pred]
  refine xi_putfield0 dX2_giveBack_23 fX2_21 g7 pX2_21 ?_
  refine xi_aload_n dX2_giveBack_26 rfl rfl ?_
  refine xi_aload_n dX2_giveBack_27 rfl rfl ?_
  refine xi_getfield3 dX2_giveBack_28 fX2_11 g7 r7_0 ?_
  refine xi_aload_n dX2_giveBack_31 rfl rfl ?_
  refine xi_getfield0 dX2_giveBack_32 fX2_17 g7 ?_
  rw [updA_sj _ _ _ (by decide), updA_ss]
  refine xi_aaload6 (r := kx) dX2_giveBack_35 g8 s8 (vp_in_nI hy8 (by decide)) (by rw [nI_clamp (by omega), hkx]; exact r8 hy8) ?_
  refine cV1 (av := [_]) dX2_giveBack_36 lX2_25 rfl ⟨rfl, rfl⟩ rfl ⟨(Nat.le_of_ble_eq_true rfl), (Nat.le_of_ble_eq_true rfl)⟩ ⟨(Nat.le_of_ble_eq_true rfl), (Nat.le_of_ble_eq_true rfl)⟩ (Nat.le_of_ble_eq_true rfl) g1 rfl rfl (c_copyFrom isPic_1 hk (by omega)) ?_
  refine go_ret (r := none) dX2_giveBack_39 (Nat.le_of_ble_eq_true rfl) (Nat.le_of_ble_eq_true rfl) ?_
  exact ⟨rfl, rfl, rfl, rfl⟩
def valV (c : Int32) : Int32 := if c < 48 then (if c < 65 then -1 else if 70 < c then -1 else c - 65 + 10) else if 57 < c then (if c < 65 then -1 else if 70 < c then -1 else c - 65 + 10) else c - 48
theorem c_valueOf {c : Int32} {A : xA} {B : xB} {D : xD} : does0 mX3_valueOf [.int c] A B D (eqQ (some (.int (valV c))) A B D) nx := by
  refine does_go (by decide) rfl (Nat.le_of_ble_eq_true rfl) rfl ?_
  refine xi_iload_n dX3_valueOf_0 rfl rfl ?_
  refine xi_bipush (v := 48) dX3_valueOf_1 (by decide) ?_
  refine xi_icmp_lt (tgt := 17) dX3_valueOf_3 rfl (fun h3 => ?_) (fun h3 => ?_)
  · refine xi_iload_n dX3_valueOf_17 rfl rfl ?_
    refine xi_bipush (v := 65) dX3_valueOf_18 (by decide) ?_
    refine xi_icmp_lt (tgt := 39) dX3_valueOf_20 rfl (fun h20 => ?_) (fun h20 => ?_)
    · refine xi_iconst (v := (-1)) dX3_valueOf_39 (by decide) ?_
      refine go_ret (r := some (.int _)) dX3_valueOf_40 (Nat.le_of_ble_eq_true rfl) (Nat.le_of_ble_eq_true rfl) ?_
      exact ⟨by unfold valV; simp only [*, if_true, if_false], rfl, rfl, rfl⟩
    · refine xi_iload_n dX3_valueOf_23 rfl rfl ?_
      refine xi_bipush (v := 70) dX3_valueOf_24 (by decide) ?_
      refine xi_icmp_gt (tgt := 39) dX3_valueOf_26 rfl (fun h26 => ?_) (fun h26 => ?_)
      · refine xi_iconst (v := (-1)) dX3_valueOf_39 (by decide) ?_
        refine go_ret (r := some (.int _)) dX3_valueOf_40 (Nat.le_of_ble_eq_true rfl) (Nat.le_of_ble_eq_true rfl) ?_
        exact ⟨by unfold valV; simp only [*, if_true, if_false], rfl, rfl, rfl⟩
      · refine xi_iload_n dX3_valueOf_29 rfl rfl ?_
        refine xi_bipush (v := 65) dX3_valueOf_30 (by decide) ?_
        refine xi_isub dX3_valueOf_32 ?_
        refine xi_bipush (v := 10) dX3_valueOf_33 (by decide) ?_
        refine xi_iadd dX3_valueOf_35 ?_
        refine xi_goto (tgt := 40) dX3_valueOf_36 rfl ?_
        refine go_ret (r := some (.int _)) dX3_valueOf_40 (Nat.le_of_ble_eq_true rfl) (Nat.le_of_ble_eq_true rfl) ?_
        exact ⟨by unfold valV; simp only [*, if_true, if_false], rfl, rfl, rfl⟩
  · refine xi_iload_n dX3_valueOf_6 rfl rfl ?_
    refine xi_bipush (v := 57) dX3_valueOf_7 (by decide) ?_
    refine xi_icmp_gt (tgt := 17) dX3_valueOf_9 rfl (fun h9 => ?_) (fun h9 => ?_)
    · refine xi_iload_n dX3_valueOf_17 rfl rfl ?_
      refine xi_bipush (v := 65) dX3_valueOf_18 (by decide) ?_
      refine xi_icmp_lt (tgt := 39) dX3_valueOf_20 rfl (fun h20 => ?_) (fun h20 => ?_)
      · refine xi_iconst (v := (-1)) dX3_valueOf_39 (by decide) ?_
        refine go_ret (r := some (.int _)) dX3_valueOf_40 (Nat.le_of_ble_eq_true rfl) (Nat.le_of_ble_eq_true rfl) ?_
        exact ⟨by unfold valV; simp only [*, if_true, if_false], rfl, rfl, rfl⟩
      · refine xi_iload_n dX3_valueOf_23 rfl rfl ?_
        refine xi_bipush (v := 70) dX3_valueOf_24 (by decide) ?_
        refine xi_icmp_gt (tgt := 39) dX3_valueOf_26 rfl (fun h26 => ?_) (fun h26 => ?_)
        · refine xi_iconst (v := (-1)) dX3_valueOf_39 (by decide) ?_
          refine go_ret (r := some (.int _)) dX3_valueOf_40 (Nat.le_of_ble_eq_true rfl) (Nat.le_of_ble_eq_true rfl) ?_
          exact ⟨by unfold valV; simp only [*, if_true, if_false], rfl, rfl, rfl⟩
        · refine xi_iload_n dX3_valueOf_29 rfl rfl ?_
          refine xi_bipush (v := 65) dX3_valueOf_30 (by decide) ?_
          refine xi_isub dX3_valueOf_32 ?_
          refine xi_bipush (v := 10) dX3_valueOf_33 (by decide) ?_
          refine xi_iadd dX3_valueOf_35 ?_
          refine xi_goto (tgt := 40) dX3_valueOf_36 rfl ?_
          refine go_ret (r := some (.int _)) dX3_valueOf_40 (Nat.le_of_ble_eq_true rfl) (Nat.le_of_ble_eq_true rfl) ?_
          exact ⟨by unfold valV; simp only [*, if_true, if_false], rfl, rfl, rfl⟩
    · refine xi_iload_n dX3_valueOf_12 rfl rfl ?_
      refine xi_bipush (v := 48) dX3_valueOf_13 (by decide) ?_
      refine xi_isub dX3_valueOf_15 ?_
      refine go_ret (r := some (.int _)) dX3_valueOf_16 (Nat.le_of_ble_eq_true rfl) (Nat.le_of_ble_eq_true rfl) ?_
      exact ⟨by unfold valV; simp only [*, if_true, if_false], rfl, rfl, rfl⟩
/-- the scan's state: columns, rows, place in the row -/
def inpA (A : xA) (q : Int32 × Int32 × Int32) : xA := setA A 33 (fun j => if j = 2 then q.1 else if j = 3 then q.2.1 else if j = 4 then q.2.2 else A 33 j)
theorem inpA_2 (A : xA) (q : Int32 × Int32 × Int32) (v : Int32) : updA (inpA A q) 33 2 v = inpA A (v, q.2.1, q.2.2) := by
  unfold inpA; rw [setA_u]; congr 1; funext j; unfold upd; grind
theorem inpA_3 (A : xA) (q : Int32 × Int32 × Int32) (v : Int32) : updA (inpA A q) 33 3 v = inpA A (q.1, v, q.2.2) := by
  unfold inpA; rw [setA_u]; congr 1; funext j; unfold upd; grind
theorem inpA_4 (A : xA) (q : Int32 × Int32 × Int32) (v : Int32) : updA (inpA A q) 33 4 v = inpA A (q.1, q.2.1, v) := by
  unfold inpA; rw [setA_u]; congr 1; funext j; unfold upd; grind
theorem inpA_self (A : xA) : inpA A (A 33 2, A 33 3, A 33 4) = A := by
  unfold inpA
  funext k j
  unfold setA
  by_cases h : k = 33
  · subst h; simp only [if_true]; grind
  · rw [if_neg h]
def slV (q : Int32 × Int32 × Int32) : Int32 × Int32 × Int32 × Int32 := if q.2.2 = 0 then (0, q) else if q.2.2 < q.1 then (0, q) else if q.2.1 = 8 then (0, q) else (1, q.1, q.2.1 + 1, 0)
theorem c_takeSlash {q : Int32 × Int32 × Int32} {A : xA} {B : xB} {D : xD} : does0 mX3_takeSlash [.ref 33] (inpA A q) B D (eqQ (some (.int (slV q).1)) (inpA A (slV q).2) B D) nx := by
  refine does_go (by decide) rfl (Nat.le_of_ble_eq_true rfl) rfl ?_
  have e2 : inpA A q 33 2 = q.1 := rfl
  have e3 : inpA A q 33 3 = q.2.1 := rfl
  have e4 : inpA A q 33 4 = q.2.2 := rfl
  refine xi_aload_n dX3_takeSlash_0 rfl rfl ?_
  refine xi_getfield0 dX3_takeSlash_1 fX3_25 g33 ?_
  rw [e4]
  refine xi_if_eq (tgt := 27) dX3_takeSlash_4 rfl (fun h4 => ?_) (fun h4 => ?_)
  · refine xi_iconst (v := 0) dX3_takeSlash_27 (by decide) ?_
    refine go_ret (r := some (.int _)) ⟨dX3_takeSlash_28, (by first | exact Or.inl rfl | exact Or.inr rfl)⟩ (Nat.le_of_ble_eq_true rfl) (Nat.le_of_ble_eq_true rfl) ?_
    exact ⟨by unfold slV; simp only [*, if_true, if_false], by unfold slV; simp only [*, if_true, if_false], rfl, rfl⟩
  · refine xi_aload_n dX3_takeSlash_7 rfl rfl ?_
    refine xi_getfield0 dX3_takeSlash_8 fX3_25 g33 ?_
    refine xi_aload_n dX3_takeSlash_11 rfl rfl ?_
    refine xi_getfield0 dX3_takeSlash_12 fX3_19 g33 ?_
    rw [e4, e2]
    refine xi_icmp_lt (tgt := 27) dX3_takeSlash_15 rfl (fun h15 => ?_) (fun h15 => ?_)
    · refine xi_iconst (v := 0) dX3_takeSlash_27 (by decide) ?_
      refine go_ret (r := some (.int _)) ⟨dX3_takeSlash_28, (by first | exact Or.inl rfl | exact Or.inr rfl)⟩ (Nat.le_of_ble_eq_true rfl) (Nat.le_of_ble_eq_true rfl) ?_
      exact ⟨by unfold slV; simp only [*, if_true, if_false], by unfold slV; simp only [*, if_true, if_false], rfl, rfl⟩
    · refine xi_aload_n dX3_takeSlash_18 rfl rfl ?_
      refine xi_getfield0 dX3_takeSlash_19 fX3_22 g33 ?_
      refine xi_bipush (v := 8) dX3_takeSlash_22 (by decide) ?_
      rw [e3]
      refine xi_icmpne (tgt := 29) dX3_takeSlash_24 rfl (fun h24 => ?_) (fun h24 => ?_)
      · refine xi_aload_n dX3_takeSlash_29 rfl rfl ?_
        refine xi_dup dX3_takeSlash_30 rfl ?_
        refine xi_getfield0 dX3_takeSlash_31 fX3_22 g33 ?_
        refine xi_iconst (v := 1) dX3_takeSlash_34 (by decide) ?_
        refine xi_iadd dX3_takeSlash_35 ?_
        rw [e3]
        refine xi_putfield0 dX3_takeSlash_36 fX3_22 g33 pX3_22 ?_
        rw [inpA_3]
        refine xi_aload_n dX3_takeSlash_39 rfl rfl ?_
        refine xi_iconst (v := 0) dX3_takeSlash_40 (by decide) ?_
        refine xi_putfield0 dX3_takeSlash_41 fX3_25 g33 pX3_25 ?_
        rw [inpA_4]
        refine xi_iconst (v := 1) dX3_takeSlash_44 (by decide) ?_
        refine go_ret (r := some (.int _)) ⟨dX3_takeSlash_45, (by first | exact Or.inl rfl | exact Or.inr rfl)⟩ (Nat.le_of_ble_eq_true rfl) (Nat.le_of_ble_eq_true rfl) ?_
        exact ⟨by unfold slV; simp only [*, if_true, if_false], by unfold slV; simp only [*, if_true, if_false], rfl, rfl⟩
      · refine xi_iconst (v := 0) dX3_takeSlash_27 (by decide) ?_
        refine go_ret (r := some (.int _)) ⟨dX3_takeSlash_28, (by first | exact Or.inl rfl | exact Or.inr rfl)⟩ (Nat.le_of_ble_eq_true rfl) (Nat.le_of_ble_eq_true rfl) ?_
        exact ⟨by unfold slV; simp only [*, if_true, if_false], by unfold slV; simp only [*, if_true, if_false], rfl, rfl⟩
def tvV (c : Int32) (q : Int32 × Int32 × Int32) : Int32 × Int32 × Int32 × Int32 := if valV c = -1 then (0, q) else if q.2.2 < (if q.2.1 = 1 then 8 else q.1) then (if q.2.1 = 1 then (1, q.2.2 + 1, q.2.1, q.2.2 + 1) else (1, q.1, q.2.1, q.2.2 + 1)) else (0, q)
theorem c_takeValue {c : Int32} {q : Int32 × Int32 × Int32} {A : xA} {B : xB} {D : xD} : does0 mX3_takeValue [.ref 33, .int c] (inpA A q) B D (eqQ (some (.int (tvV c q).1)) (inpA A (tvV c q).2) B D) nx := by
  refine does_go (by decide) rfl (Nat.le_of_ble_eq_true rfl) rfl ?_
  have e2 : inpA A q 33 2 = q.1 := rfl
  have e3 : inpA A q 33 3 = q.2.1 := rfl
  have e4 : inpA A q 33 4 = q.2.2 := rfl
  refine xi_aload_n dX3_takeValue_0 rfl rfl ?_
  refine xi_getfield0 dX3_takeValue_1 fX3_22 g33 ?_
  refine xi_iconst (v := 1) dX3_takeValue_4 (by decide) ?_
  rw [e3]
  refine xi_icmpne (tgt := 13) dX3_takeValue_5 rfl (fun h5 => ?_) (fun h5 => ?_)
  · refine xi_aload_n dX3_takeValue_13 rfl rfl ?_
    refine xi_getfield0 dX3_takeValue_14 fX3_19 g33 ?_
    first | rw [e2] | skip
    refine xi_istore_n dX3_takeValue_17 rfl (Nat.le_of_ble_eq_true rfl) ?_
    refine xi_iload_n dX3_takeValue_18 rfl rfl ?_
    refine cS1 (av := [_]) dX3_takeValue_19 lX3_36 rfl ⟨rfl, rfl⟩ rfl ⟨(Nat.le_of_ble_eq_true rfl), (Nat.le_of_ble_eq_true rfl)⟩ ⟨(Nat.le_of_ble_eq_true rfl), (Nat.le_of_ble_eq_true rfl)⟩ (Nat.le_of_ble_eq_true rfl) (c_valueOf) ?_
    refine xi_iconst (v := (-1)) dX3_takeValue_22 (by decide) ?_
    refine xi_icmp_eq (tgt := 34) dX3_takeValue_23 rfl (fun h23 => ?_) (fun h23 => ?_)
    · refine xi_iconst (v := 0) dX3_takeValue_34 (by decide) ?_
      refine go_ret (r := some (.int _)) ⟨dX3_takeValue_35, (by first | exact Or.inl rfl | exact Or.inr rfl)⟩ (Nat.le_of_ble_eq_true rfl) (Nat.le_of_ble_eq_true rfl) ?_
      first | exact absurd h51 h5 | exact absurd h5 h51 | exact ⟨by unfold tvV; simp only [*, if_true, if_false], by unfold tvV; simp only [*, if_true, if_false], rfl, rfl⟩
    · refine xi_aload_n dX3_takeValue_26 rfl rfl ?_
      refine xi_getfield0 dX3_takeValue_27 fX3_25 g33 ?_
      refine xi_iload_n dX3_takeValue_30 rfl rfl ?_
      rw [e4]
      refine xi_icmp_lt (tgt := 36) dX3_takeValue_31 rfl (fun h31 => ?_) (fun h31 => ?_)
      · refine xi_aload_n dX3_takeValue_36 rfl rfl ?_
        refine xi_dup dX3_takeValue_37 rfl ?_
        refine xi_getfield0 dX3_takeValue_38 fX3_25 g33 ?_
        refine xi_iconst (v := 1) dX3_takeValue_41 (by decide) ?_
        refine xi_iadd dX3_takeValue_42 ?_
        rw [e4]
        refine xi_putfield0 dX3_takeValue_43 fX3_25 g33 pX3_25 ?_
        rw [inpA_4]
        refine xi_aload_n dX3_takeValue_46 rfl rfl ?_
        refine xi_getfield0 dX3_takeValue_47 fX3_22 g33 ?_
        refine xi_iconst (v := 1) dX3_takeValue_50 (by decide) ?_
        rw [show inpA A (q.1, q.2.1, q.2.2 + 1) 33 3 = q.2.1 from rfl]
        refine xi_icmpne (tgt := 62) dX3_takeValue_51 rfl (fun h51 => ?_) (fun h51 => ?_)
        · first | rw [inpA_2] | skip
          refine xi_iconst (v := 1) dX3_takeValue_62 (by decide) ?_
          refine go_ret (r := some (.int _)) ⟨dX3_takeValue_63, (by first | exact Or.inl rfl | exact Or.inr rfl)⟩ (Nat.le_of_ble_eq_true rfl) (Nat.le_of_ble_eq_true rfl) ?_
          first | exact absurd h51 h5 | exact absurd h5 h51 | exact ⟨by unfold tvV; simp only [*, if_true, if_false], by unfold tvV; simp only [*, if_true, if_false], rfl, rfl⟩
        · refine xi_aload_n dX3_takeValue_54 rfl rfl ?_
          refine xi_aload_n dX3_takeValue_55 rfl rfl ?_
          refine xi_getfield0 dX3_takeValue_56 fX3_25 g33 ?_
          rw [show inpA A (q.1, q.2.1, q.2.2 + 1) 33 4 = q.2.2 + 1 from rfl]
          refine xi_putfield0 dX3_takeValue_59 fX3_19 g33 pX3_19 ?_
          first | rw [inpA_2] | skip
          refine xi_iconst (v := 1) dX3_takeValue_62 (by decide) ?_
          refine go_ret (r := some (.int _)) ⟨dX3_takeValue_63, (by first | exact Or.inl rfl | exact Or.inr rfl)⟩ (Nat.le_of_ble_eq_true rfl) (Nat.le_of_ble_eq_true rfl) ?_
          first | exact absurd h51 h5 | exact absurd h5 h51 | exact ⟨by unfold tvV; simp only [*, if_true, if_false], by unfold tvV; simp only [*, if_true, if_false], rfl, rfl⟩
      · refine xi_iconst (v := 0) dX3_takeValue_34 (by decide) ?_
        refine go_ret (r := some (.int _)) ⟨dX3_takeValue_35, (by first | exact Or.inl rfl | exact Or.inr rfl)⟩ (Nat.le_of_ble_eq_true rfl) (Nat.le_of_ble_eq_true rfl) ?_
        first | exact absurd h51 h5 | exact absurd h5 h51 | exact ⟨by unfold tvV; simp only [*, if_true, if_false], by unfold tvV; simp only [*, if_true, if_false], rfl, rfl⟩
  · refine xi_bipush (v := 8) dX3_takeValue_8 (by decide) ?_
    refine xi_goto (tgt := 17) dX3_takeValue_10 rfl ?_
    first | rw [e2] | skip
    refine xi_istore_n dX3_takeValue_17 rfl (Nat.le_of_ble_eq_true rfl) ?_
    refine xi_iload_n dX3_takeValue_18 rfl rfl ?_
    refine cS1 (av := [_]) dX3_takeValue_19 lX3_36 rfl ⟨rfl, rfl⟩ rfl ⟨(Nat.le_of_ble_eq_true rfl), (Nat.le_of_ble_eq_true rfl)⟩ ⟨(Nat.le_of_ble_eq_true rfl), (Nat.le_of_ble_eq_true rfl)⟩ (Nat.le_of_ble_eq_true rfl) (c_valueOf) ?_
    refine xi_iconst (v := (-1)) dX3_takeValue_22 (by decide) ?_
    refine xi_icmp_eq (tgt := 34) dX3_takeValue_23 rfl (fun h23 => ?_) (fun h23 => ?_)
    · refine xi_iconst (v := 0) dX3_takeValue_34 (by decide) ?_
      refine go_ret (r := some (.int _)) ⟨dX3_takeValue_35, (by first | exact Or.inl rfl | exact Or.inr rfl)⟩ (Nat.le_of_ble_eq_true rfl) (Nat.le_of_ble_eq_true rfl) ?_
      first | exact absurd h51 h5 | exact absurd h5 h51 | exact ⟨by unfold tvV; simp only [*, if_true, if_false], by unfold tvV; simp only [*, if_true, if_false], rfl, rfl⟩
    · refine xi_aload_n dX3_takeValue_26 rfl rfl ?_
      refine xi_getfield0 dX3_takeValue_27 fX3_25 g33 ?_
      refine xi_iload_n dX3_takeValue_30 rfl rfl ?_
      rw [e4]
      refine xi_icmp_lt (tgt := 36) dX3_takeValue_31 rfl (fun h31 => ?_) (fun h31 => ?_)
      · refine xi_aload_n dX3_takeValue_36 rfl rfl ?_
        refine xi_dup dX3_takeValue_37 rfl ?_
        refine xi_getfield0 dX3_takeValue_38 fX3_25 g33 ?_
        refine xi_iconst (v := 1) dX3_takeValue_41 (by decide) ?_
        refine xi_iadd dX3_takeValue_42 ?_
        rw [e4]
        refine xi_putfield0 dX3_takeValue_43 fX3_25 g33 pX3_25 ?_
        rw [inpA_4]
        refine xi_aload_n dX3_takeValue_46 rfl rfl ?_
        refine xi_getfield0 dX3_takeValue_47 fX3_22 g33 ?_
        refine xi_iconst (v := 1) dX3_takeValue_50 (by decide) ?_
        rw [show inpA A (q.1, q.2.1, q.2.2 + 1) 33 3 = q.2.1 from rfl]
        refine xi_icmpne (tgt := 62) dX3_takeValue_51 rfl (fun h51 => ?_) (fun h51 => ?_)
        · first | rw [inpA_2] | skip
          refine xi_iconst (v := 1) dX3_takeValue_62 (by decide) ?_
          refine go_ret (r := some (.int _)) ⟨dX3_takeValue_63, (by first | exact Or.inl rfl | exact Or.inr rfl)⟩ (Nat.le_of_ble_eq_true rfl) (Nat.le_of_ble_eq_true rfl) ?_
          first | exact absurd h51 h5 | exact absurd h5 h51 | exact ⟨by unfold tvV; simp only [*, if_true, if_false], by unfold tvV; simp only [*, if_true, if_false], rfl, rfl⟩
        · refine xi_aload_n dX3_takeValue_54 rfl rfl ?_
          refine xi_aload_n dX3_takeValue_55 rfl rfl ?_
          refine xi_getfield0 dX3_takeValue_56 fX3_25 g33 ?_
          rw [show inpA A (q.1, q.2.1, q.2.2 + 1) 33 4 = q.2.2 + 1 from rfl]
          refine xi_putfield0 dX3_takeValue_59 fX3_19 g33 pX3_19 ?_
          first | rw [inpA_2] | skip
          refine xi_iconst (v := 1) dX3_takeValue_62 (by decide) ?_
          refine go_ret (r := some (.int _)) ⟨dX3_takeValue_63, (by first | exact Or.inl rfl | exact Or.inr rfl)⟩ (Nat.le_of_ble_eq_true rfl) (Nat.le_of_ble_eq_true rfl) ?_
          first | exact absurd h51 h5 | exact absurd h5 h51 | exact ⟨by unfold tvV; simp only [*, if_true, if_false], by unfold tvV; simp only [*, if_true, if_false], rfl, rfl⟩
      · refine xi_iconst (v := 0) dX3_takeValue_34 (by decide) ?_
        refine go_ret (r := some (.int _)) ⟨dX3_takeValue_35, (by first | exact Or.inl rfl | exact Or.inr rfl)⟩ (Nat.le_of_ble_eq_true rfl) (Nat.le_of_ble_eq_true rfl) ?_
        first | exact absurd h51 h5 | exact absurd h5 h51 | exact ⟨by unfold tvV; simp only [*, if_true, if_false], by unfold tvV; simp only [*, if_true, if_false], rfl, rfl⟩
def tkV (c : Int32) (q : Int32 × Int32 × Int32) : Int32 × Int32 × Int32 × Int32 := if c = 47 then slV q else tvV c q
def scnV (f : Nat → Int32) (len : Nat) : Nat → Nat → Int32 × Int32 × Int32 → Int32 × Int32 × Int32 × Int32
  | 0, _, q => (nI len, q)
  | d + 1, i, q => if (tkV (f i) q).1 = 0 then (nI i, (tkV (f i) q).2) else scnV f len d (i + 1) (tkV (f i) q).2
def scanV (A : xA) (len : Nat) : Int32 × Int32 × Int32 × Int32 := scnV (A 34) len len 0 (0, 1, 0)
theorem c_scan {len : Nat} {A : xA} {B : xB} {D : xD} (hl0 : A 33 1 = nI len) (hl72 : len ≤ 72) : does0 mX3_scan [.ref 33] A B D (eqQ (some (.int (scanV A len).1)) (inpA A (scanV A len).2) B D) nx := by
  refine does_go (by decide) rfl (Nat.le_of_ble_eq_true rfl) rfl ?_
  generalize hR : scanV A len = R
  have loop := up_ind (n := len) (P := fun j => ∀ q, scnV (A 34) len (len - j) j q = R → go0 mX3_scan (eqQ (some (.int R.1)) (inpA A R.2) B D) nx 0 0 17 [(0, .ref 33), (1, .int (nI j))] [] (inpA A q) B D) (fun j hj ih q hx => by
    have e1 : ∀ q, inpA A q 33 1 = nI len := fun q => hl0
    refine xi_iload_n dX3_scan_17 rfl rfl ?_
    refine xi_aload_n dX3_scan_18 rfl rfl ?_
    refine xi_getfield0 dX3_scan_19 fX3_15 g33 ?_
    rw [e1]
    refine xi_icmp_ge (tgt := 66) dX3_scan_22 rfl (fun h22 => ?_) (fun h22 => ?_)
    · have e : j = len := ge_eq hj (by omega) h22
      subst e
      refine xi_aload_n dX3_scan_66 rfl rfl ?_
      refine xi_getfield0 dX3_scan_67 fX3_15 g33 ?_
      rw [e1]
      refine go_ret (r := some (.int _)) dX3_scan_70 (Nat.le_of_ble_eq_true rfl) (Nat.le_of_ble_eq_true rfl) ?_
      rw [Nat.sub_self] at hx
      exact ⟨by rw [← hx]; rfl, by rw [← hx]; rfl, rfl, rfl⟩
    · have hl : j < len := nge_lt hj (by omega) h22
      obtain ⟨d, hd⟩ : ∃ d, len - j = d + 1 := ⟨len - j - 1, by omega⟩
      have hd2 : len - (j + 1) = d := by omega
      rw [hd] at hx
      unfold scnV at hx
      refine xi_aload_n dX3_scan_25 rfl rfl ?_
      refine xi_getfield3 dX3_scan_26 fX3_9 g33 r33_0 ?_
      refine xi_iload_n dX3_scan_29 rfl rfl ?_
      refine ia dX3_scan_30 g34 s34 rfl (by omega) (Nat.le_of_ble_eq_true rfl) ?_
      refine xi_bipush (v := 47) dX3_scan_31 (by decide) ?_
      rw [show inpA A q 34 j = A 34 j from rfl]
      refine xi_icmpne (tgt := 43) dX3_scan_33 rfl (fun h33 => ?_) (fun h33 => ?_)
      · rw [show tkV (A 34 j) q = tvV (A 34 j) q from if_neg h33] at hx
        refine xi_aload_n dX3_scan_43 rfl rfl ?_
        refine xi_aload_n dX3_scan_44 rfl rfl ?_
        refine xi_getfield3 dX3_scan_45 fX3_9 g33 r33_0 ?_
        refine xi_iload_n dX3_scan_48 rfl rfl ?_
        refine ia dX3_scan_49 g34 s34 rfl (by omega) (Nat.le_of_ble_eq_true rfl) ?_
        rw [show inpA A q 34 j = A 34 j from rfl]
        refine cV1 (av := [_]) dX3_scan_50 lX3_32 rfl ⟨rfl, rfl⟩ rfl ⟨(Nat.le_of_ble_eq_true rfl), (Nat.le_of_ble_eq_true rfl)⟩ ⟨(Nat.le_of_ble_eq_true rfl), (Nat.le_of_ble_eq_true rfl)⟩ (Nat.le_of_ble_eq_true rfl) g33 rfl rfl (c_takeValue) ?_
        refine xi_istore_n dX3_scan_53 rfl (Nat.le_of_ble_eq_true rfl) ?_
        refine xi_iload_n dX3_scan_54 rfl rfl ?_
        refine xi_ifne (tgt := 60) dX3_scan_55 rfl (fun h55 => ?_) (fun h55 => ?_)
        · refine xi_iinc (v := 1) dX3_scan_60 rfl (by decide) (Nat.le_of_ble_eq_true rfl) ?_
          refine xi_goto (tgt := 17) dX3_scan_63 rfl ?_
          refine xgo_pick [0, 1] rfl ?_
          rw [nI_1]
          rw [if_neg h55] at hx
          exact ih hl _ (by rw [hd2]; exact hx)
        · refine xi_iload_n dX3_scan_58 rfl rfl ?_
          refine go_ret (r := some (.int _)) dX3_scan_59 (Nat.le_of_ble_eq_true rfl) (Nat.le_of_ble_eq_true rfl) ?_
          rw [if_pos h55] at hx
          exact ⟨by rw [← hx], by rw [← hx], rfl, rfl⟩
      · rw [show tkV (A 34 j) q = slV q from if_pos h33] at hx
        refine xi_aload_n dX3_scan_36 rfl rfl ?_
        refine cV1 (av := []) dX3_scan_37 lX3_28 rfl ⟨rfl, rfl⟩ rfl ⟨(Nat.le_of_ble_eq_true rfl), (Nat.le_of_ble_eq_true rfl)⟩ ⟨(Nat.le_of_ble_eq_true rfl), (Nat.le_of_ble_eq_true rfl)⟩ (Nat.le_of_ble_eq_true rfl) g33 rfl rfl (c_takeSlash) ?_
        refine xi_goto (tgt := 53) dX3_scan_40 rfl ?_
        refine xi_istore_n dX3_scan_53 rfl (Nat.le_of_ble_eq_true rfl) ?_
        refine xi_iload_n dX3_scan_54 rfl rfl ?_
        refine xi_ifne (tgt := 60) dX3_scan_55 rfl (fun h55 => ?_) (fun h55 => ?_)
        · refine xi_iinc (v := 1) dX3_scan_60 rfl (by decide) (Nat.le_of_ble_eq_true rfl) ?_
          refine xi_goto (tgt := 17) dX3_scan_63 rfl ?_
          refine xgo_pick [0, 1] rfl ?_
          rw [nI_1]
          rw [if_neg h55] at hx
          exact ih hl _ (by rw [hd2]; exact hx)
        · refine xi_iload_n dX3_scan_58 rfl rfl ?_
          refine go_ret (r := some (.int _)) dX3_scan_59 (Nat.le_of_ble_eq_true rfl) (Nat.le_of_ble_eq_true rfl) ?_
          rw [if_pos h55] at hx
          exact ⟨by rw [← hx], by rw [← hx], rfl, rfl⟩
    )
  refine xi_aload_n dX3_scan_0 rfl rfl ?_
  refine xi_iconst (v := 0) dX3_scan_1 (by decide) ?_
  refine xi_putfield0 dX3_scan_2 fX3_19 g33 pX3_19 ?_
  refine xi_aload_n dX3_scan_5 rfl rfl ?_
  refine xi_iconst (v := 1) dX3_scan_6 (by decide) ?_
  refine xi_putfield0 dX3_scan_7 fX3_22 g33 pX3_22 ?_
  refine xi_aload_n dX3_scan_10 rfl rfl ?_
  refine xi_iconst (v := 0) dX3_scan_11 (by decide) ?_
  refine xi_putfield0 dX3_scan_12 fX3_25 g33 pX3_25 ?_
  refine xi_iconst (v := 0) dX3_scan_15 (by decide) ?_
  refine xi_istore_n dX3_scan_16 rfl (Nat.le_of_ble_eq_true rfl) ?_
  refine xgo_pick [0, 1] rfl ?_
  have l0 := loop 0 (Nat.zero_le _) (0, 1, 0) hR
  rw [show updA (updA (updA A 33 2 0) 33 3 1) 33 4 0 = inpA A (0, 1, 0) by conv => lhs; rw [← inpA_self A, inpA_2, inpA_3, inpA_4]]
  exact l0
def isPicV (R : Int32 × Int32 × Int32 × Int32) (len : Nat) : Int32 := if R.1 = nI len then (if R.2.2.2 ≤ 0 then 0 else if R.2.2.2 = R.2.1 then 1 else 0) else 0
theorem c_isPicture {len : Nat} {A : xA} {B : xB} {D : xD} (hl0 : A 33 1 = nI len) (hl72 : len ≤ 72) : does0 mX3_isPicture [.ref 33] A B D (eqQ (some (.int (isPicV (scanV A len) len))) (inpA A (scanV A len).2) B D) nx := by
  refine does_go (by decide) rfl (Nat.le_of_ble_eq_true rfl) rfl ?_
  refine xi_aload_n dX3_isPicture_0 rfl rfl ?_
  refine cV1 (av := []) dX3_isPicture_1 lX3_40 rfl ⟨rfl, rfl⟩ rfl ⟨(Nat.le_of_ble_eq_true rfl), (Nat.le_of_ble_eq_true rfl)⟩ ⟨(Nat.le_of_ble_eq_true rfl), (Nat.le_of_ble_eq_true rfl)⟩ (Nat.le_of_ble_eq_true rfl) g33 rfl rfl (c_scan hl0 hl72) ?_
  refine xi_aload_n dX3_isPicture_4 rfl rfl ?_
  refine xi_getfield0 dX3_isPicture_5 fX3_15 g33 ?_
  rw [show inpA A (scanV A len).2 33 1 = nI len from hl0]
  refine xi_icmpne (tgt := 33) dX3_isPicture_8 rfl (fun h8 => ?_) (fun h8 => ?_)
  · refine xi_iconst (v := 0) dX3_isPicture_33 (by decide) ?_
    refine go_ret (r := some (.int _)) ⟨dX3_isPicture_34, (by first | exact Or.inl rfl | exact Or.inr rfl)⟩ (Nat.le_of_ble_eq_true rfl) (Nat.le_of_ble_eq_true rfl) ?_
    exact ⟨by unfold isPicV; first | rw [if_neg h8] | (rw [if_pos h8]; first | rw [if_pos h15] | (rw [if_neg h15]; first | rw [if_pos h26] | rw [if_neg h26])), rfl, rfl, rfl⟩
  · refine xi_aload_n dX3_isPicture_11 rfl rfl ?_
    refine xi_getfield0 dX3_isPicture_12 fX3_25 g33 ?_
    rw [show inpA A (scanV A len).2 33 4 = (scanV A len).2.2.2 from rfl]
    refine xi_if_le (tgt := 33) dX3_isPicture_15 rfl (fun h15 => ?_) (fun h15 => ?_)
    · refine xi_iconst (v := 0) dX3_isPicture_33 (by decide) ?_
      refine go_ret (r := some (.int _)) ⟨dX3_isPicture_34, (by first | exact Or.inl rfl | exact Or.inr rfl)⟩ (Nat.le_of_ble_eq_true rfl) (Nat.le_of_ble_eq_true rfl) ?_
      exact ⟨by unfold isPicV; first | rw [if_neg h8] | (rw [if_pos h8]; first | rw [if_pos h15] | (rw [if_neg h15]; first | rw [if_pos h26] | rw [if_neg h26])), rfl, rfl, rfl⟩
    · refine xi_aload_n dX3_isPicture_18 rfl rfl ?_
      refine xi_getfield0 dX3_isPicture_19 fX3_25 g33 ?_
      refine xi_aload_n dX3_isPicture_22 rfl rfl ?_
      refine xi_getfield0 dX3_isPicture_23 fX3_19 g33 ?_
      rw [show inpA A (scanV A len).2 33 4 = (scanV A len).2.2.2 from rfl, show inpA A (scanV A len).2 33 2 = (scanV A len).2.1 from rfl]
      refine xi_icmpne (tgt := 33) dX3_isPicture_26 rfl (fun h26 => ?_) (fun h26 => ?_)
      · refine xi_iconst (v := 0) dX3_isPicture_33 (by decide) ?_
        refine go_ret (r := some (.int _)) ⟨dX3_isPicture_34, (by first | exact Or.inl rfl | exact Or.inr rfl)⟩ (Nat.le_of_ble_eq_true rfl) (Nat.le_of_ble_eq_true rfl) ?_
        exact ⟨by unfold isPicV; first | rw [if_neg h8] | (rw [if_pos h8]; first | rw [if_pos h15] | (rw [if_neg h15]; first | rw [if_pos h26] | rw [if_neg h26])), rfl, rfl, rfl⟩
      · refine xi_iconst (v := 1) dX3_isPicture_29 (by decide) ?_
        refine xi_goto (tgt := 34) dX3_isPicture_30 rfl ?_
        refine go_ret (r := some (.int _)) ⟨dX3_isPicture_34, (by first | exact Or.inl rfl | exact Or.inr rfl)⟩ (Nat.le_of_ble_eq_true rfl) (Nat.le_of_ble_eq_true rfl) ?_
        exact ⟨by unfold isPicV; first | rw [if_neg h8] | (rw [if_pos h8]; first | rw [if_pos h15] | (rw [if_neg h15]; first | rw [if_pos h26] | rw [if_neg h26])), rfl, rfl, rfl⟩
theorem c_add {len : Nat} {c : Int32} {A : xA} {B : xB} {D : xD} (hl0 : A 33 1 = nI len) (hl72 : len < 72) : does0 mX3_add [.ref 33, .int c] A B D (eqQ none (updA (updA A 34 len c) 33 1 (nI (len + 1))) B D) nx := by
  refine does_go (by decide) rfl (Nat.le_of_ble_eq_true rfl) rfl ?_
  refine xi_aload_n dX3_add_0 rfl rfl ?_
  refine xi_getfield0 dX3_add_1 fX3_15 g33 ?_
  refine xi_bipush (v := 72) dX3_add_4 (by decide) ?_
  rw [hl0]
  refine xi_icmp_ge (tgt := 29) dX3_add_6 rfl (fun h6 => ?_) (fun h6 => ?_)
  · exact absurd ((nI_leI (a := 72) (b := len) (by decide) (by omega)).mp h6) (by omega)
  · refine xi_aload_n dX3_add_9 rfl rfl ?_
    refine xi_getfield3 dX3_add_10 fX3_9 g33 r33_0 ?_
    refine xi_aload_n dX3_add_13 rfl rfl ?_
    refine xi_getfield0 dX3_add_14 fX3_15 g33 ?_
    refine xi_iload_n dX3_add_17 rfl rfl ?_
    refine is dX3_add_18 g34 s34 hl0 hl72 (Nat.le_of_ble_eq_true rfl) ?_
    refine xi_aload_n dX3_add_19 rfl rfl ?_
    refine xi_dup dX3_add_20 rfl ?_
    refine xi_getfield0 dX3_add_21 fX3_15 g33 ?_
    refine xi_iconst (v := 1) dX3_add_24 (by decide) ?_
    refine xi_iadd dX3_add_25 ?_
    rw [updA_n _ _ _ (by decide), hl0, nI_1]
    refine xi_putfield0 dX3_add_26 fX3_15 g33 pX3_15 ?_
    refine go_ret (r := none) dX3_add_29 (Nat.le_of_ble_eq_true rfl) (Nat.le_of_ble_eq_true rfl) ?_
    exact ⟨rfl, rfl, rfl, rfl⟩

def wcS (f : Nat → Int32) (c row col : Nat) (s : Nat → Int32) : Nat → Int32 := upd s (row * c + col) (valV (f (row * (c + 1) + col)))
def wrS (f : Nat → Int32) (c row : Nat) (s : Nat → Int32) : Nat → Int32 := itr (wcS f c row) c s
def wtA (A : xA) (c r : Nat) : xA := setA (blankA A 1 (nI c) (nI r)) 2 (itr (wrS (A 34) c) r (blankA A 1 (nI c) (nI r) 2))
theorem blankA_o {A : xA} {k : Nat} {c r : Int32} {k' : Nat} (h0 : k' ≠ k) (h1 : k' ≠ k + 1) (h2 : k' ≠ k + 2) : blankA A k c r k' = A k' := by
  unfold blankA filA
  rw [setA_n _ _ h2, setA_n _ _ h1, updA_n _ _ _ h0, updA_n _ _ _ h0]
theorem i_writeTo {Q : Option Value → xA → xB → xD → Prop} {c r row : Nat} {A : xA} {B : xB} {D : xD} {s0 : Nat → Int32} (hc : A 33 2 = nI c) (hc8 : c ≤ 8) (hrow : row < 8) (K : go0 mX3_writeTo Q nx 0 0 73 [(0, .ref 33), (1, .ref 1), (2, .int (nI row))] [] (setA A 2 (wrS (A 34) c row s0)) B D) :
    ∀ j, j ≤ c → ∀ s, s = itr (wcS (A 34) c row) j s0 → go0 mX3_writeTo Q nx 0 0 24 [(0, .ref 33), (1, .ref 1), (2, .int (nI row)), (3, .int (nI j))] [] (setA A 2 s) B D :=
  up_ind (fun j hj ih s hs => by
    have hrc : row * c ≤ 7 * 8 := Nat.mul_le_mul (by omega) hc8
    have hrc1 : row * (c + 1) ≤ 7 * 9 := Nat.mul_le_mul (by omega) (by omega)
    have hrc2 : j < c → row * c + j < 64 := fun h => by
      have : row * c + j < (row + 1) * c := by rw [Nat.succ_mul]; omega
      have h2 : (row + 1) * c ≤ 8 * 8 := Nat.mul_le_mul (by omega) hc8
      omega
    refine xi_iload_n dX3_writeTo_24 rfl rfl ?_
    refine xi_aload_n dX3_writeTo_25 rfl rfl ?_
    refine xi_getfield0 dX3_writeTo_26 fX3_19 g33 ?_
    rw [show setA A 2 s 33 2 = nI c from hc]
    refine xi_icmp_ge (tgt := 73) dX3_writeTo_29 rfl (fun h29 => ?_) (fun h29 => ?_)
    · have e : j = c := ge_eq hj (by omega) h29
      subst e
      refine xgo_pick [0, 1, 2] rfl ?_
      rw [hs]
      exact K
    · have hl : j < c := nge_lt hj (by omega) h29
      have := hrc2 hl
      refine xi_aload_n dX3_writeTo_32 rfl rfl ?_
      refine xi_getfield3 dX3_writeTo_33 fX3_9 g33 r33_0 ?_
      refine xi_iload_n dX3_writeTo_36 rfl rfl ?_
      refine xi_aload_n dX3_writeTo_37 rfl rfl ?_
      refine xi_getfield0 dX3_writeTo_38 fX3_19 g33 ?_
      rw [show setA A 2 s 33 2 = nI c from hc]
      refine xi_iconst (v := 1) dX3_writeTo_41 (by decide) ?_
      refine xi_iadd dX3_writeTo_42 ?_
      refine xi_imul dX3_writeTo_43 ?_
      refine xi_iload_n dX3_writeTo_44 rfl rfl ?_
      refine xi_iadd dX3_writeTo_45 ?_
      rw [nI_1, pk_mul, nI_add]
      refine ia dX3_writeTo_46 g34 s34 rfl (by omega) (Nat.le_of_ble_eq_true rfl) ?_
      refine xi_istore dX3_writeTo_47 (Nat.le_of_ble_eq_true rfl) ?_
      refine xi_aload_n dX3_writeTo_49 rfl rfl ?_
      refine xi_getfield3 dX3_writeTo_50 fX3_50 g1 r1_2 ?_
      refine xi_iload_n dX3_writeTo_53 rfl rfl ?_
      refine xi_aload_n dX3_writeTo_54 rfl rfl ?_
      refine xi_getfield0 dX3_writeTo_55 fX3_19 g33 ?_
      rw [show setA A 2 s 33 2 = nI c from hc]
      refine xi_imul dX3_writeTo_58 ?_
      refine xi_iload_n dX3_writeTo_59 rfl rfl ?_
      refine xi_iadd dX3_writeTo_60 ?_
      refine xi_iload dX3_writeTo_61 rfl ?_
      refine cS1 (av := [_]) dX3_writeTo_63 lX3_36 rfl ⟨rfl, rfl⟩ rfl ⟨(Nat.le_of_ble_eq_true rfl), (Nat.le_of_ble_eq_true rfl)⟩ ⟨(Nat.le_of_ble_eq_true rfl), (Nat.le_of_ble_eq_true rfl)⟩ (Nat.le_of_ble_eq_true rfl) (c_valueOf) ?_
      rw [pk_mul, nI_add]
      refine is dX3_writeTo_66 g2 s2 rfl (by omega) (Nat.le_of_ble_eq_true rfl) ?_
      refine xi_iinc (v := 1) dX3_writeTo_67 rfl (by decide) (Nat.le_of_ble_eq_true rfl) ?_
      refine xi_goto (tgt := 24) dX3_writeTo_70 rfl ?_
      refine xgo_pick [0, 1, 2, 3] rfl ?_
      rw [nI_1, setA_u]
      exact ih hl _ (by rw [itr_s, ← hs]; rfl)
    )
theorem c_writeTo {c r : Nat} {A : xA} {B : xB} {D : xD} (hc : A 33 2 = nI c) (hr : A 33 3 = nI r) (hc8 : c ≤ 8) (hr8 : r ≤ 8) : does0 mX3_writeTo [.ref 33, .ref 1] A B D (eqQ none (wtA A c r) B D) nx := by
  refine does_go (by decide) rfl (Nat.le_of_ble_eq_true rfl) rfl ?_
  have e33 : blankA A 1 (nI c) (nI r) 33 = A 33 := blankA_o (by decide) (by decide) (by decide)
  have e34 : blankA A 1 (nI c) (nI r) 34 = A 34 := blankA_o (by decide) (by decide) (by decide)
  unfold wtA
  rw [← e34]
  rw [← e33] at hc hr
  have loop := up_ind (n := r) (P := fun j => ∀ s, s = itr (wrS (blankA A 1 (nI c) (nI r) 34) c) j (blankA A 1 (nI c) (nI r) 2) → go0 mX3_writeTo (eqQ none (setA (blankA A 1 (nI c) (nI r)) 2 (itr (wrS (blankA A 1 (nI c) (nI r) 34) c) r (blankA A 1 (nI c) (nI r) 2))) B D) nx 0 0 14 [(0, .ref 33), (1, .ref 1), (2, .int (nI j))] [] (setA (blankA A 1 (nI c) (nI r)) 2 s) B D) (fun j hj ih s hs => by
    generalize blankA A 1 (nI c) (nI r) = A0 at hc hr ih hs ⊢
    refine xi_iload_n dX3_writeTo_14 rfl rfl ?_
    refine xi_aload_n dX3_writeTo_15 rfl rfl ?_
    refine xi_getfield0 dX3_writeTo_16 fX3_22 g33 ?_
    rw [show setA A0 2 s 33 3 = nI r from hr]
    refine xi_icmp_ge (tgt := 79) dX3_writeTo_19 rfl (fun h19 => ?_) (fun h19 => ?_)
    · have e : j = r := ge_eq hj (by omega) h19
      subst e
      refine go_ret (r := none) dX3_writeTo_79 (Nat.le_of_ble_eq_true rfl) (Nat.le_of_ble_eq_true rfl) ?_
      exact ⟨rfl, by rw [hs], rfl, rfl⟩
    · have hl : j < r := nge_lt hj (by omega) h19
      refine xi_iconst (v := 0) dX3_writeTo_22 (by decide) ?_
      refine xi_istore_n dX3_writeTo_23 rfl (Nat.le_of_ble_eq_true rfl) ?_
      refine xgo_pick [0, 1, 2, 3] rfl ?_
      refine i_writeTo (r := r) hc hc8 (by omega) ?_ 0 (Nat.zero_le _) s rfl
      refine xi_iinc (v := 1) dX3_writeTo_73 rfl (by decide) (Nat.le_of_ble_eq_true rfl) ?_
      refine xi_goto (tgt := 14) dX3_writeTo_76 rfl ?_
      refine xgo_pick [0, 1, 2] rfl ?_
      rw [nI_1]
      exact ih hl _ (by rw [itr_s, ← hs])
    )
  refine xi_aload_n dX3_writeTo_0 rfl rfl ?_
  refine xi_aload_n dX3_writeTo_1 rfl rfl ?_
  refine xi_getfield0 dX3_writeTo_2 fX3_19 g33 ?_
  rw [show A 33 2 = nI c by rw [← e33]; exact hc]
  refine xi_aload_n dX3_writeTo_5 rfl rfl ?_
  refine xi_getfield0 dX3_writeTo_6 fX3_22 g33 ?_
  rw [show A 33 3 = nI r by rw [← e33]; exact hr]
  refine cV1 (av := [_, _]) dX3_writeTo_9 lX3_44 rfl ⟨rfl, rfl⟩ rfl ⟨(Nat.le_of_ble_eq_true rfl), (Nat.le_of_ble_eq_true rfl)⟩ ⟨(Nat.le_of_ble_eq_true rfl), (Nat.le_of_ble_eq_true rfl)⟩ (Nat.le_of_ble_eq_true rfl) g1 rfl rfl (c_blank isPic_1) ?_
  refine xi_iconst (v := 0) dX3_writeTo_12 (by decide) ?_
  refine xi_istore_n dX3_writeTo_13 rfl (Nat.le_of_ble_eq_true rfl) ?_
  refine xgo_pick [0, 1, 2] rfl ?_
  have l0 := loop 0 (Nat.zero_le _) _ rfl
  rw [show ∀ f s, itr (wrS f c) 0 s = s from fun _ _ => rfl, setA_self] at l0
  exact l0
/-- paint: one pixel; the state is (how many changed, the levels) -/
def paS (c : Nat) (lev : Int32) (row col : Nat) (q : Int32 × (Nat → Int32)) : Int32 × (Nat → Int32) := (q.1 + (if q.2 (row * c + col) = lev then 0 else 1), upd q.2 (row * c + col) lev)
def prS (c l w : Nat) (lev : Int32) (row : Nat) (q : Int32 × (Nat → Int32)) : Int32 × (Nat → Int32) := itr (fun i => paS c lev row (l + i)) w q
def pntV (c a b : Nat) (lev : Int32) (s : Nat → Int32) : Int32 × (Nat → Int32) :=
  itr (fun i => prS c (min (a % c) (b % c)) (max (a % c) (b % c) + 1 - min (a % c) (b % c)) lev (min (a / c) (b / c) + i)) (max (a / c) (b / c) + 1 - min (a / c) (b / c)) (0, s)
theorem gt_eq {l w j : Nat} (hj : j ≤ w) (hw : w < 1000) (hl : l < 1000) (h0 : 0 < w) (h : nI (l + w - 1) < nI (l + j)) : j = w := by
  have := (nI_ltI (by omega) (by omega)).mp h
  omega
theorem ngt_lt {l w j : Nat} (hj : j ≤ w) (hw : w < 1000) (hl : l < 1000) (h0 : 0 < w) (h : ¬ nI (l + w - 1) < nI (l + j)) : j < w := by
  rcases Nat.lt_or_ge j w with q | q
  · exact q
  · exact absurd ((nI_ltI (a := l + w - 1) (b := l + j) (by omega) (by omega)).mpr (by omega)) h
theorem i_paint {Q : Option Value → xA → xB → xD → Prop} {c l w row n bot : Nat} {lev : Int32} {A : xA} {B : xB} {D : xD} {q0 : Int32 × (Nat → Int32)} (hc : A 1 0 = nI c) (hw : l + w ≤ c) (hw0 : 0 < w) (hr : row * c + c ≤ 64) (hc8 : c ≤ 8) (hrow : row < 8)
    (K : go0 mX6_paint Q nx 0 0 132 [(0, .ref 1), (3, .int lev), (4, .int (nI l)), (5, .int (nI (l + w - 1))), (7, .int (nI bot)), (8, .int (prS c l w lev row q0).1), (9, .int (nI row))] [] (setA A 2 (prS c l w lev row q0).2) B D) :
    ∀ j, j ≤ w → ∀ q, q = itr (fun i => paS c lev row (l + i)) j q0 → go0 mX6_paint Q nx 0 0 78 [(0, .ref 1), (3, .int lev), (4, .int (nI l)), (5, .int (nI (l + w - 1))), (7, .int (nI bot)), (8, .int q.1), (9, .int (nI row)), (10, .int (nI (l + j)))] [] (setA A 2 q.2) B D :=
  up_ind (fun j hj ih q hq => by
    refine xi_iload dX6_paint_78 rfl ?_
    refine xi_iload dX6_paint_80 rfl ?_
    refine xi_icmp_gt (tgt := 132) dX6_paint_82 rfl (fun h82 => ?_) (fun h82 => ?_)
    · have e : j = w := gt_eq hj (by omega) (by omega) hw0 h82
      subst e
      refine xgo_pick [0, 3, 4, 5, 7, 8, 9] rfl ?_
      rw [hq]
      exact K
    · have hl : j < w := ngt_lt hj (by omega) (by omega) hw0 h82
      have hx : row * c + (l + j) < 64 := by omega
      have q2 := ih hl
      rw [itr_s, ← hq] at q2
      unfold paS at q2
      refine xi_iload dX6_paint_85 rfl ?_
      refine xi_aload_n dX6_paint_87 rfl rfl ?_
      refine xi_getfield0 dX6_paint_88 fX6_9 g1 ?_
      rw [show setA A 2 q.2 1 0 = nI c from hc]
      refine xi_imul dX6_paint_91 ?_
      refine xi_iload dX6_paint_92 rfl ?_
      refine xi_iadd dX6_paint_94 ?_
      rw [pk_mul, nI_add]
      refine xi_istore dX6_paint_95 (Nat.le_of_ble_eq_true rfl) ?_
      refine xi_iload dX6_paint_97 rfl ?_
      refine xi_aload_n dX6_paint_99 rfl rfl ?_
      refine xi_getfield3 dX6_paint_100 fX6_18 g1 r1_2 ?_
      refine xi_iload dX6_paint_103 rfl ?_
      refine ia dX6_paint_105 g2 s2 rfl (by omega) (Nat.le_of_ble_eq_true rfl) ?_
      refine xi_iload_n dX6_paint_106 rfl rfl ?_
      rw [setA_s]
      refine xi_icmpne (tgt := 114) dX6_paint_107 rfl (fun h107 => ?_) (fun h107 => ?_)
      · refine xi_iconst (v := 1) dX6_paint_114 (by decide) ?_
        refine xi_iadd dX6_paint_115 ?_
        refine xi_istore dX6_paint_116 (Nat.le_of_ble_eq_true rfl) ?_
        refine xi_aload_n dX6_paint_118 rfl rfl ?_
        refine xi_getfield3 dX6_paint_119 fX6_18 g1 r1_2 ?_
        refine xi_iload dX6_paint_122 rfl ?_
        refine xi_iload_n dX6_paint_124 rfl rfl ?_
        refine is dX6_paint_125 g2 s2 rfl (by omega) (Nat.le_of_ble_eq_true rfl) ?_
        refine xi_iinc (v := 1) dX6_paint_126 rfl (by decide) (Nat.le_of_ble_eq_true rfl) ?_
        refine xi_goto (tgt := 78) dX6_paint_129 rfl ?_
        refine xgo_pick [0, 3, 4, 5, 7, 8, 9, 10] rfl ?_
        rw [nI_1, setA_u]
        exact q2 (q.1 + 1, upd q.2 (row * c + (l + j)) lev) (by rw [if_neg h107])
      · refine xi_iconst (v := 0) dX6_paint_110 (by decide) ?_
        refine xi_goto (tgt := 115) dX6_paint_111 rfl ?_
        refine xi_iadd dX6_paint_115 ?_
        refine xi_istore dX6_paint_116 (Nat.le_of_ble_eq_true rfl) ?_
        refine xi_aload_n dX6_paint_118 rfl rfl ?_
        refine xi_getfield3 dX6_paint_119 fX6_18 g1 r1_2 ?_
        refine xi_iload dX6_paint_122 rfl ?_
        refine xi_iload_n dX6_paint_124 rfl rfl ?_
        refine is dX6_paint_125 g2 s2 rfl (by omega) (Nat.le_of_ble_eq_true rfl) ?_
        refine xi_iinc (v := 1) dX6_paint_126 rfl (by decide) (Nat.le_of_ble_eq_true rfl) ?_
        refine xi_goto (tgt := 78) dX6_paint_129 rfl ?_
        refine xgo_pick [0, 3, 4, 5, 7, 8, 9, 10] rfl ?_
        rw [nI_1, setA_u]
        exact q2 (q.1 + 0, upd q.2 (row * c + (l + j)) lev) (by rw [if_pos h107])
    )
theorem c_paint {c r a b : Nat} {lev : Int32} {A : xA} {B : xB} {D : xD} (hc : A 1 0 = nI c) (hc0 : 0 < c) (hc8 : c ≤ 8) (hr8 : r ≤ 8) (ha : a < c * r) (hb : b < c * r) : does0 mX6_paint [.ref 1, .int (nI a), .int (nI b), .int lev] A B D (eqQ (some (.int (pntV c a b lev (A 2)).1)) (setA A 2 (pntV c a b lev (A 2)).2) B D) nx := by
  refine does_go (by decide) rfl (Nat.le_of_ble_eq_true rfl) rfl ?_
  generalize hR : pntV c a b lev (A 2) = R
  unfold pntV at hR
  have hcr : c * r ≤ 8 * 8 := Nat.mul_le_mul hc8 hr8
  have hac : a / c < r := Nat.div_lt_of_lt_mul ha
  have hbc : b / c < r := Nat.div_lt_of_lt_mul hb
  have hma : a % c < c := Nat.mod_lt _ hc0
  have hmb : b % c < c := Nat.mod_lt _ hc0
  have hge : 1 ≤ A 1 0 := by rw [hc]; exact (nI_leI (a := 1) (by decide) (by omega)).mpr hc0
  obtain ⟨l, hl⟩ : ∃ l, l = min (a % c) (b % c) := ⟨_, rfl⟩
  obtain ⟨rt, hrt⟩ : ∃ rt, rt = max (a % c) (b % c) := ⟨_, rfl⟩
  obtain ⟨tp, htp⟩ : ∃ tp, tp = min (a / c) (b / c) := ⟨_, rfl⟩
  obtain ⟨bt, hbt⟩ : ∃ bt, bt = max (a / c) (b / c) := ⟨_, rfl⟩
  rw [← hl, ← hrt, ← htp, ← hbt] at hR
  have h1 : l ≤ rt := by omega
  have h2 : tp ≤ bt := by omega
  have h3 : rt < c := by omega
  have h4 : bt < r := by omega
  obtain ⟨w, hw⟩ : ∃ w, w = rt + 1 - l := ⟨_, rfl⟩
  obtain ⟨H, hH⟩ : ∃ H, H = bt + 1 - tp := ⟨_, rfl⟩
  rw [← hw, ← hH] at hR
  have hrw : l + w - 1 = rt := by omega
  have hbH : tp + H - 1 = bt := by omega
  have loop := up_ind (n := H) (P := fun j => ∀ q, q = itr (fun i => prS c l w lev (tp + i)) j (0, A 2) → go0 mX6_paint (eqQ (some (.int R.1)) (setA A 2 R.2) B D) nx 0 0 67 [(0, .ref 1), (3, .int lev), (4, .int (nI l)), (5, .int (nI (l + w - 1))), (7, .int (nI (tp + H - 1))), (8, .int q.1), (9, .int (nI (tp + j)))] [] (setA A 2 q.2) B D) (fun j hj ih q hq => by
    refine xi_iload dX6_paint_67 rfl ?_
    refine xi_iload dX6_paint_69 rfl ?_
    refine xi_icmp_gt (tgt := 138) dX6_paint_71 rfl (fun h71 => ?_) (fun h71 => ?_)
    · have e : j = H := gt_eq hj (by omega) (by omega) (by omega) h71
      subst e
      refine xi_iload dX6_paint_138 rfl ?_
      refine go_ret (r := some (.int _)) dX6_paint_140 (Nat.le_of_ble_eq_true rfl) (Nat.le_of_ble_eq_true rfl) ?_
      exact ⟨by rw [← hR, hq], by rw [← hR, hq], rfl, rfl⟩
    · have hl2 : j < H := ngt_lt hj (by omega) (by omega) (by omega) h71
      have hx : (tp + j) * c + c ≤ 64 := by
        have : (tp + j + 1) * c ≤ r * c := Nat.mul_le_mul (by omega) (Nat.le_refl _)
        rw [Nat.succ_mul, Nat.mul_comm r c] at this
        omega
      refine xi_iload dX6_paint_74 rfl ?_
      refine xi_istore dX6_paint_76 (Nat.le_of_ble_eq_true rfl) ?_
      refine xgo_pick [0, 3, 4, 5, 7, 8, 9, 10] rfl ?_
      refine i_paint (n := 0) hc (by omega) (by omega) hx hc8 (by omega) ?_ 0 (Nat.zero_le _) q rfl
      refine xi_iinc (v := 1) dX6_paint_132 rfl (by decide) (Nat.le_of_ble_eq_true rfl) ?_
      refine xi_goto (tgt := 67) dX6_paint_135 rfl ?_
      refine xgo_pick [0, 3, 4, 5, 7, 8, 9] rfl ?_
      rw [nI_1]
      exact ih hl2 _ (by rw [itr_s, ← hq])
    )
  have e1 : imin (nI a - nI a / nI c * nI c) (nI b - nI b / nI c * nI c) = nI l := by rw [pk_rem (by omega) hc0 (by omega), pk_rem (by omega) hc0 (by omega), imin_nI (by omega) (by omega), ← hl]
  have e2 : imax (nI a - nI a / nI c * nI c) (nI b - nI b / nI c * nI c) = nI (l + w - 1) := by rw [pk_rem (by omega) hc0 (by omega), pk_rem (by omega) hc0 (by omega), imax_nI (by omega) (by omega), hrw, hrt]
  have e3 : imin (nI a / nI c) (nI b / nI c) = nI tp := by rw [pk_div (by omega) hc0 (by omega), pk_div (by omega) hc0 (by omega), imin_nI (by omega) (by omega), ← htp]
  have e4 : imax (nI a / nI c) (nI b / nI c) = nI (tp + H - 1) := by rw [pk_div (by omega) hc0 (by omega), pk_div (by omega) hc0 (by omega), imax_nI (by omega) (by omega), hbH, hbt]
  refine xi_aload_n dX6_paint_0 rfl rfl ?_
  refine xi_iload_n dX6_paint_1 rfl rfl ?_
  refine cV1 (av := [_]) dX6_paint_2 lX6_41 rfl ⟨rfl, rfl⟩ rfl ⟨(Nat.le_of_ble_eq_true rfl), (Nat.le_of_ble_eq_true rfl)⟩ ⟨(Nat.le_of_ble_eq_true rfl), (Nat.le_of_ble_eq_true rfl)⟩ (Nat.le_of_ble_eq_true rfl) g1 rfl rfl (c_columnOf isPic_1 hge) ?_
  refine xi_aload_n dX6_paint_5 rfl rfl ?_
  refine xi_iload_n dX6_paint_6 rfl rfl ?_
  refine cV1 (av := [_]) dX6_paint_7 lX6_41 rfl ⟨rfl, rfl⟩ rfl ⟨(Nat.le_of_ble_eq_true rfl), (Nat.le_of_ble_eq_true rfl)⟩ ⟨(Nat.le_of_ble_eq_true rfl), (Nat.le_of_ble_eq_true rfl)⟩ (Nat.le_of_ble_eq_true rfl) g1 rfl rfl (c_columnOf isPic_1 hge) ?_
  refine xi_mmin dX6_paint_10 eX6_44 ⟨(Nat.le_of_ble_eq_true rfl), (Nat.le_of_ble_eq_true rfl)⟩ ⟨(Nat.le_of_ble_eq_true rfl), (Nat.le_of_ble_eq_true rfl)⟩ ?_
  rw [hc, e1]
  refine xi_istore dX6_paint_13 (Nat.le_of_ble_eq_true rfl) ?_
  refine xi_aload_n dX6_paint_15 rfl rfl ?_
  refine xi_iload_n dX6_paint_16 rfl rfl ?_
  refine cV1 (av := [_]) dX6_paint_17 lX6_41 rfl ⟨rfl, rfl⟩ rfl ⟨(Nat.le_of_ble_eq_true rfl), (Nat.le_of_ble_eq_true rfl)⟩ ⟨(Nat.le_of_ble_eq_true rfl), (Nat.le_of_ble_eq_true rfl)⟩ (Nat.le_of_ble_eq_true rfl) g1 rfl rfl (c_columnOf isPic_1 hge) ?_
  refine xi_aload_n dX6_paint_20 rfl rfl ?_
  refine xi_iload_n dX6_paint_21 rfl rfl ?_
  refine cV1 (av := [_]) dX6_paint_22 lX6_41 rfl ⟨rfl, rfl⟩ rfl ⟨(Nat.le_of_ble_eq_true rfl), (Nat.le_of_ble_eq_true rfl)⟩ ⟨(Nat.le_of_ble_eq_true rfl), (Nat.le_of_ble_eq_true rfl)⟩ (Nat.le_of_ble_eq_true rfl) g1 rfl rfl (c_columnOf isPic_1 hge) ?_
  refine xi_mmax dX6_paint_25 eX6_50 ⟨(Nat.le_of_ble_eq_true rfl), (Nat.le_of_ble_eq_true rfl)⟩ ⟨(Nat.le_of_ble_eq_true rfl), (Nat.le_of_ble_eq_true rfl)⟩ ?_
  rw [hc, e2]
  refine xi_istore dX6_paint_28 (Nat.le_of_ble_eq_true rfl) ?_
  refine xi_aload_n dX6_paint_30 rfl rfl ?_
  refine xi_iload_n dX6_paint_31 rfl rfl ?_
  refine cV1 (av := [_]) dX6_paint_32 lX6_37 rfl ⟨rfl, rfl⟩ rfl ⟨(Nat.le_of_ble_eq_true rfl), (Nat.le_of_ble_eq_true rfl)⟩ ⟨(Nat.le_of_ble_eq_true rfl), (Nat.le_of_ble_eq_true rfl)⟩ (Nat.le_of_ble_eq_true rfl) g1 rfl rfl (c_rowOf isPic_1 hge) ?_
  refine xi_aload_n dX6_paint_35 rfl rfl ?_
  refine xi_iload_n dX6_paint_36 rfl rfl ?_
  refine cV1 (av := [_]) dX6_paint_37 lX6_37 rfl ⟨rfl, rfl⟩ rfl ⟨(Nat.le_of_ble_eq_true rfl), (Nat.le_of_ble_eq_true rfl)⟩ ⟨(Nat.le_of_ble_eq_true rfl), (Nat.le_of_ble_eq_true rfl)⟩ (Nat.le_of_ble_eq_true rfl) g1 rfl rfl (c_rowOf isPic_1 hge) ?_
  refine xi_mmin dX6_paint_40 eX6_44 ⟨(Nat.le_of_ble_eq_true rfl), (Nat.le_of_ble_eq_true rfl)⟩ ⟨(Nat.le_of_ble_eq_true rfl), (Nat.le_of_ble_eq_true rfl)⟩ ?_
  rw [hc, e3]
  refine xi_istore dX6_paint_43 (Nat.le_of_ble_eq_true rfl) ?_
  refine xi_aload_n dX6_paint_45 rfl rfl ?_
  refine xi_iload_n dX6_paint_46 rfl rfl ?_
  refine cV1 (av := [_]) dX6_paint_47 lX6_37 rfl ⟨rfl, rfl⟩ rfl ⟨(Nat.le_of_ble_eq_true rfl), (Nat.le_of_ble_eq_true rfl)⟩ ⟨(Nat.le_of_ble_eq_true rfl), (Nat.le_of_ble_eq_true rfl)⟩ (Nat.le_of_ble_eq_true rfl) g1 rfl rfl (c_rowOf isPic_1 hge) ?_
  refine xi_aload_n dX6_paint_50 rfl rfl ?_
  refine xi_iload_n dX6_paint_51 rfl rfl ?_
  refine cV1 (av := [_]) dX6_paint_52 lX6_37 rfl ⟨rfl, rfl⟩ rfl ⟨(Nat.le_of_ble_eq_true rfl), (Nat.le_of_ble_eq_true rfl)⟩ ⟨(Nat.le_of_ble_eq_true rfl), (Nat.le_of_ble_eq_true rfl)⟩ (Nat.le_of_ble_eq_true rfl) g1 rfl rfl (c_rowOf isPic_1 hge) ?_
  refine xi_mmax dX6_paint_55 eX6_50 ⟨(Nat.le_of_ble_eq_true rfl), (Nat.le_of_ble_eq_true rfl)⟩ ⟨(Nat.le_of_ble_eq_true rfl), (Nat.le_of_ble_eq_true rfl)⟩ ?_
  rw [hc, e4]
  refine xi_istore dX6_paint_58 (Nat.le_of_ble_eq_true rfl) ?_
  refine xi_iconst (v := 0) dX6_paint_60 (by decide) ?_
  refine xi_istore dX6_paint_61 (Nat.le_of_ble_eq_true rfl) ?_
  refine xi_iload dX6_paint_63 rfl ?_
  refine xi_istore dX6_paint_65 (Nat.le_of_ble_eq_true rfl) ?_
  refine xgo_pick [0, 3, 4, 5, 7, 8, 9] rfl ?_
  have l0 := loop 0 (Nat.zero_le _) (0, A 2) rfl
  rw [setA_self] at l0
  exact l0

/-- keepLeaves: which leaves are marked -/
def klS (lf : Nat → Int32) (i : Nat) (s : Nat → Int32) : Nat → Int32 := upd s (lf i).toNatClampNeg 1
def kz0 (old : Nat → Int32) (j i : Nat) : Int32 := if i < j then (if i = 0 then 1 else 0) else old i
def kl0 (lf old : Nat → Int32) (m t : Nat) : Nat → Int32 := itr (klS lf) t (kz0 old m)
def klA (A : xA) (pa : Nat → Nat) (m t : Nat) : xA := setA (setA A 73 (kaV pa m (kl0 (A 69) (A 73) m t))) 74 (siV (A 38) (kaV pa m (kl0 (A 69) (A 73) m t)) pa m (A 74))
theorem c_keepLeaves {m t : Nat} {pa : Nat → Nat} {A : xA} {B : xB} {D : xD} (h : trOK A m pa) (ht : t ≤ 64) (hlf : ∀ i, i < t → ∃ a, a < 64 ∧ A 69 i = nI a) : does0 mX0_keepLeaves [.ref 72, .ref 35, .ref 69, .int (nI t)] A B D (eqQ none (klA A pa m t) B D) nx := by
  refine does_go (by decide) rfl (Nat.le_of_ble_eq_true rfl) rfl ?_
  obtain ⟨hm, hm0, hm64, hp0, hpa, hch⟩ := id h
  have hT : ∀ f, trOK (setA A 73 f) m pa := fun f => h
  have loop := up_ind (n := t) (P := fun j => ∀ s, s = itr (klS (A 69)) j (kz0 (A 73) m) → go0 mX0_keepLeaves (eqQ none (klA A pa m t) B D) nx 0 0 38 [(0, .ref 72), (1, .ref 35), (2, .ref 69), (3, .int (nI t)), (4, .int (nI j))] [] (setA A 73 s) B D) (fun j hj ih s hs => by
    refine xi_iload dX0_keepLeaves_38 rfl ?_
    refine xi_iload_n dX0_keepLeaves_40 rfl rfl ?_
    refine xi_icmp_ge (tgt := 60) dX0_keepLeaves_41 rfl (fun h41 => ?_) (fun h41 => ?_)
    · have e : j = t := ge_eq hj (by omega) h41
      subst e
      refine xi_aload_n dX0_keepLeaves_60 rfl rfl ?_
      refine xi_aload_n dX0_keepLeaves_61 rfl rfl ?_
      refine cV1 (av := [_]) dX0_keepLeaves_62 lX0_29 rfl ⟨rfl, rfl⟩ rfl ⟨(Nat.le_of_ble_eq_true rfl), (Nat.le_of_ble_eq_true rfl)⟩ ⟨(Nat.le_of_ble_eq_true rfl), (Nat.le_of_ble_eq_true rfl)⟩ (Nat.le_of_ble_eq_true rfl) g72 rfl rfl (c_keepAboveKept (hT _)) ?_
      rw [setA_setA, setA_s]
      refine xi_aload_n dX0_keepLeaves_65 rfl rfl ?_
      refine xi_aload_n dX0_keepLeaves_66 rfl rfl ?_
      refine cV1 (av := [_]) dX0_keepLeaves_67 lX0_35 rfl ⟨rfl, rfl⟩ rfl ⟨(Nat.le_of_ble_eq_true rfl), (Nat.le_of_ble_eq_true rfl)⟩ ⟨(Nat.le_of_ble_eq_true rfl), (Nat.le_of_ble_eq_true rfl)⟩ (Nat.le_of_ble_eq_true rfl) g72 rfl rfl (c_sinkToRemaining (hT _)) ?_
      refine go_ret (r := none) dX0_keepLeaves_70 (Nat.le_of_ble_eq_true rfl) (Nat.le_of_ble_eq_true rfl) ?_
      exact ⟨rfl, by unfold klA kl0; rw [hs]; rfl, rfl, rfl⟩
    · have hl : j < t := nge_lt hj (by omega) h41
      obtain ⟨a, ha, hfa⟩ := hlf j hl
      refine xi_aload_n dX0_keepLeaves_44 rfl rfl ?_
      refine xi_getfield3 dX0_keepLeaves_45 fX0_9 g72 r72_0 ?_
      refine xi_aload_n dX0_keepLeaves_48 rfl rfl ?_
      refine xi_iload dX0_keepLeaves_49 rfl ?_
      refine ia dX0_keepLeaves_51 g69 s69 rfl (by omega) (Nat.le_of_ble_eq_true rfl) ?_
      refine xi_iconst (v := 1) dX0_keepLeaves_52 (by decide) ?_
      refine zs dX0_keepLeaves_53 g73 s73 hfa ha (Nat.le_of_ble_eq_true rfl) (by first | exact Or.inl rfl | exact Or.inr rfl) ?_
      refine xi_iinc (v := 1) dX0_keepLeaves_54 rfl (by decide) (Nat.le_of_ble_eq_true rfl) ?_
      refine xi_goto (tgt := 38) dX0_keepLeaves_57 rfl ?_
      refine xgo_pick [0, 1, 2, 3, 4] rfl ?_
      rw [nI_1, setA_u]
      exact ih hl _ (by rw [itr_s, ← hs]; unfold klS; rw [hfa, nI_clamp (by omega)])
    )
  have loop1 := up_ind (n := m) (P := fun j => go0 mX0_keepLeaves (eqQ none (klA A pa m t) B D) nx 0 0 3 [(0, .ref 72), (1, .ref 35), (2, .ref 69), (3, .int (nI t)), (4, .int (nI j))] [] (setA A 73 (kz0 (A 73) j)) B D) (fun j hj ih => by
    refine xi_iload dX0_keepLeaves_3 rfl ?_
    refine xi_aload_n dX0_keepLeaves_5 rfl rfl ?_
    refine xi_getfield0 dX0_keepLeaves_6 fX0_19 g35 ?_
    rw [show setA A 73 (kz0 (A 73) j) 35 2 = nI m from hm]
    refine xi_icmp_ge (tgt := 35) dX0_keepLeaves_9 rfl (fun h9 => ?_) (fun h9 => ?_)
    · have e : j = m := ge_eq hj (by omega) h9
      subst e
      refine xi_iconst (v := 0) dX0_keepLeaves_35 (by decide) ?_
      refine xi_istore dX0_keepLeaves_36 (Nat.le_of_ble_eq_true rfl) ?_
      refine xgo_pick [0, 1, 2, 3, 4] rfl ?_
      exact loop 0 (Nat.zero_le _) _ rfl
    · have hl : j < m := nge_lt hj (by omega) h9
      have q := ih hl
      rw [show kz0 (A 73) (j + 1) = upd (kz0 (A 73) j) j (if j = 0 then 1 else 0) by funext i; unfold kz0 upd; grind] at q
      refine xi_aload_n dX0_keepLeaves_12 rfl rfl ?_
      refine xi_getfield3 dX0_keepLeaves_13 fX0_9 g72 r72_0 ?_
      refine xi_iload dX0_keepLeaves_16 rfl ?_
      refine xi_iload dX0_keepLeaves_18 rfl ?_
      refine xi_ifne (tgt := 27) dX0_keepLeaves_20 rfl (fun h20 => ?_) (fun h20 => ?_)
      · have e0 : j ≠ 0 := fun e => h20 (by rw [e]; rfl)
        refine xi_iconst (v := 0) dX0_keepLeaves_27 (by decide) ?_
        refine zs dX0_keepLeaves_28 g73 s73 rfl (by omega) (Nat.le_of_ble_eq_true rfl) (by first | exact Or.inl rfl | exact Or.inr rfl) ?_
        refine xi_iinc (v := 1) dX0_keepLeaves_29 rfl (by decide) (Nat.le_of_ble_eq_true rfl) ?_
        refine xi_goto (tgt := 3) dX0_keepLeaves_32 rfl ?_
        refine xgo_pick [0, 1, 2, 3, 4] rfl ?_
        rw [nI_1, setA_u]
        rw [if_neg e0] at q
        exact q
      · have e0 : j = 0 := nI_le0 (by omega) (by rw [h20]; decide)
        refine xi_iconst (v := 1) dX0_keepLeaves_23 (by decide) ?_
        refine xi_goto (tgt := 28) dX0_keepLeaves_24 rfl ?_
        refine zs dX0_keepLeaves_28 g73 s73 rfl (by omega) (Nat.le_of_ble_eq_true rfl) (by first | exact Or.inl rfl | exact Or.inr rfl) ?_
        refine xi_iinc (v := 1) dX0_keepLeaves_29 rfl (by decide) (Nat.le_of_ble_eq_true rfl) ?_
        refine xi_goto (tgt := 3) dX0_keepLeaves_32 rfl ?_
        refine xgo_pick [0, 1, 2, 3, 4] rfl ?_
        rw [nI_1, setA_u]
        rw [if_pos e0] at q
        exact q
    )
  have l0 := loop1 0 (Nat.zero_le _)
  rw [show kz0 (A 73) 0 = A 73 by funext i; simp [kz0], setA_self] at l0
  refine xi_iconst (v := 0) dX0_keepLeaves_0 (by decide) ?_
  refine xi_istore dX0_keepLeaves_1 (Nat.le_of_ble_eq_true rfl) ?_
  refine xgo_pick [0, 1, 2, 3, 4] rfl ?_
  exact l0
/-- rebuild -/
def rb1 (nd : Nat → Int32) (mr : Nat → Int32) (p : Nat) (s : Nat → Int32) : Nat → Int32 := upd s (nd p).toNatClampNeg (imax (s (nd p).toNatClampNeg) (mr p))
def rb2 (pa : Nat → Nat) (v : Nat) (s : Nat → Int32) : Nat → Int32 := upd s (pa v) (imax (s (pa v)) (s v))
def rb3 (rk : Nat → Int32) (pa : Nat → Nat) (i : Nat) (s : Nat → Int32) : Nat → Int32 := upd s (i + 1) (imax (imin (s (i + 1)) (rk (i + 1))) (s (pa (i + 1))))
def rbA (nd mr old : Nat → Int32) (n : Nat) : Nat → Int32 := itr (rb1 nd mr) n (fun j => if j < 64 then 0 else old j)
def rbB (nd mr old : Nat → Int32) (pa : Nat → Nat) (n m : Nat) : Nat → Int32 := dit (rb2 pa) (m - 1) (rbA nd mr old n)
def rbV (nd mr old rk : Nat → Int32) (pa : Nat → Nat) (n m : Nat) : Nat → Int32 := itr (rb3 rk pa) (m - 1) (upd (rbB nd mr old pa n m) 0 (imin (rbB nd mr old pa n m 0) (rk 0)))
theorem c_rebuild {m n : Nat} {pa : Nat → Nat} {A : xA} {B : xB} {D : xD} (h : trOK A m pa) (hn : A 36 2 = nI n) (hn64 : n ≤ 64) (hnd : ∀ p, p < n → ∃ a, a < 64 ∧ A 42 p = nI a) : does0 mX0_rebuild [.ref 72, .ref 35, .ref 75] A B D (eqQ none (setA A 74 (rbV (A 42) (A 75) (A 74) (A 38) pa n m)) B D) nx := by
  refine does_go (by decide) rfl (Nat.le_of_ble_eq_true rfl) rfl ?_
  obtain ⟨hm, hm0, hm64, hp0, hpa, hch⟩ := id h
  obtain ⟨M, rfl⟩ : ∃ M, m = M + 1 := ⟨m - 1, by omega⟩
  generalize hR : rbV (A 42) (A 75) (A 74) (A 38) pa n (M + 1) = R
  unfold rbV at hR
  generalize hS : rbB (A 42) (A 75) (A 74) pa n (M + 1) = S at hR
  unfold rbB at hS
  have loop3 := up_ind (n := M) (P := fun i => ∀ s, s = itr (rb3 (A 38) pa) i (upd S 0 (imin (S 0) (A 38 0))) → go0 mX0_rebuild (eqQ none (setA A 74 R) B D) nx 0 0 126 [(0, .ref 72), (1, .ref 35), (3, .int (nI (i + 1)))] [] (setA A 74 s) B D) (fun i hi ih s hs => by
    refine xi_iload_n dX0_rebuild_126 rfl rfl ?_
    refine xi_aload_n dX0_rebuild_127 rfl rfl ?_
    refine xi_getfield0 dX0_rebuild_128 fX0_19 g35 ?_
    rw [show setA A 74 s 35 2 = nI (M + 1) from hm]
    refine xi_icmp_ge (tgt := 179) dX0_rebuild_131 rfl (fun h131 => ?_) (fun h131 => ?_)
    · have e : i = M := vge hi (by omega) h131
      subst e
      refine go_ret (r := none) dX0_rebuild_179 (Nat.le_of_ble_eq_true rfl) (Nat.le_of_ble_eq_true rfl) ?_
      exact ⟨rfl, by rw [← hR, hs]; rfl, rfl, rfl⟩
    · have hl : i < M := vnge hi (by omega) h131
      obtain ⟨hq, hq2⟩ := hpa (i + 1) (by omega) (by omega)
      refine xi_aload_n dX0_rebuild_134 rfl rfl ?_
      refine xi_getfield3 dX0_rebuild_135 fX0_15 g72 r72_1 ?_
      refine xi_iload_n dX0_rebuild_138 rfl rfl ?_
      refine ia dX0_rebuild_139 g74 s74 rfl (by omega) (Nat.le_of_ble_eq_true rfl) ?_
      rw [setA_s]
      refine xi_aload_n dX0_rebuild_140 rfl rfl ?_
      refine xi_getfield3 dX0_rebuild_141 fX0_41 g35 r35_6 ?_
      refine xi_iload_n dX0_rebuild_144 rfl rfl ?_
      refine ia dX0_rebuild_145 g38 s38 rfl (by omega) (Nat.le_of_ble_eq_true rfl) ?_
      refine xi_mmin dX0_rebuild_146 eX0_68 ⟨(Nat.le_of_ble_eq_true rfl), (Nat.le_of_ble_eq_true rfl)⟩ ⟨(Nat.le_of_ble_eq_true rfl), (Nat.le_of_ble_eq_true rfl)⟩ ?_
      refine xi_istore dX0_rebuild_149 (Nat.le_of_ble_eq_true rfl) ?_
      refine xi_aload_n dX0_rebuild_151 rfl rfl ?_
      refine xi_getfield3 dX0_rebuild_152 fX0_15 g72 r72_1 ?_
      refine xi_iload_n dX0_rebuild_155 rfl rfl ?_
      refine xi_iload dX0_rebuild_156 rfl ?_
      refine xi_aload_n dX0_rebuild_158 rfl rfl ?_
      refine xi_getfield3 dX0_rebuild_159 fX0_15 g72 r72_1 ?_
      refine xi_aload_n dX0_rebuild_162 rfl rfl ?_
      refine xi_getfield3 dX0_rebuild_163 fX0_38 g35 r35_8 ?_
      refine xi_iload_n dX0_rebuild_166 rfl rfl ?_
      refine ia dX0_rebuild_167 g40 s40 rfl (by omega) (Nat.le_of_ble_eq_true rfl) ?_
      refine ia dX0_rebuild_168 g74 s74 hq (by omega) (Nat.le_of_ble_eq_true rfl) ?_
      rw [setA_s]
      refine xi_mmax dX0_rebuild_169 eX0_62 ⟨(Nat.le_of_ble_eq_true rfl), (Nat.le_of_ble_eq_true rfl)⟩ ⟨(Nat.le_of_ble_eq_true rfl), (Nat.le_of_ble_eq_true rfl)⟩ ?_
      refine is dX0_rebuild_172 g74 s74 rfl (by omega) (Nat.le_of_ble_eq_true rfl) ?_
      refine xi_iinc (v := 1) dX0_rebuild_173 rfl (by decide) (Nat.le_of_ble_eq_true rfl) ?_
      refine xi_goto (tgt := 126) dX0_rebuild_176 rfl ?_
      refine xgo_pick [0, 1, 3] rfl ?_
      rw [nI_1, setA_u]
      exact ih hl _ (by rw [itr_s, ← hs]; rfl)
    )
  have loop2 := dn_ind (P := fun j => j < M + 1 → ∀ s, dit (rb2 pa) j s = S → go0 mX0_rebuild (eqQ none (setA A 74 R) B D) nx 0 0 62 [(0, .ref 72), (1, .ref 35), (3, .int (nI j))] [] (setA A 74 s) B D) (fun j ih hj s hx => by
    refine xi_iload_n dX0_rebuild_62 rfl rfl ?_
    refine xi_if_le (tgt := 103) dX0_rebuild_63 rfl (fun h63 => ?_) (fun h63 => ?_)
    · have e : j = 0 := nI_le0 (by omega) h63
      subst e
      have e : s = S := hx
      subst e
      refine xi_aload_n dX0_rebuild_103 rfl rfl ?_
      refine xi_getfield3 dX0_rebuild_104 fX0_15 g72 r72_1 ?_
      refine xi_iconst (v := 0) dX0_rebuild_107 (by decide) ?_
      refine xi_aload_n dX0_rebuild_108 rfl rfl ?_
      refine xi_getfield3 dX0_rebuild_109 fX0_15 g72 r72_1 ?_
      refine xi_iconst (v := 0) dX0_rebuild_112 (by decide) ?_
      refine ia dX0_rebuild_113 g74 s74 (j := 0) rfl (by omega) (Nat.le_of_ble_eq_true rfl) ?_
      rw [setA_s]
      refine xi_aload_n dX0_rebuild_114 rfl rfl ?_
      refine xi_getfield3 dX0_rebuild_115 fX0_41 g35 r35_6 ?_
      refine xi_iconst (v := 0) dX0_rebuild_118 (by decide) ?_
      refine ia dX0_rebuild_119 g38 s38 (j := 0) rfl (by omega) (Nat.le_of_ble_eq_true rfl) ?_
      refine xi_mmin dX0_rebuild_120 eX0_68 ⟨(Nat.le_of_ble_eq_true rfl), (Nat.le_of_ble_eq_true rfl)⟩ ⟨(Nat.le_of_ble_eq_true rfl), (Nat.le_of_ble_eq_true rfl)⟩ ?_
      refine is dX0_rebuild_123 g74 s74 (j := 0) rfl (by omega) (Nat.le_of_ble_eq_true rfl) ?_
      refine xi_iconst (v := 1) dX0_rebuild_124 (by decide) ?_
      refine xi_istore_n dX0_rebuild_125 rfl (Nat.le_of_ble_eq_true rfl) ?_
      refine xgo_pick [0, 1, 3] rfl ?_
      rw [setA_u]
      exact loop3 0 (Nat.zero_le _) _ rfl
    · obtain ⟨u, rfl⟩ := nI_gt0 h63
      obtain ⟨hq, hq2⟩ := hpa (u + 1) (by omega) hj
      refine xi_aload_n dX0_rebuild_66 rfl rfl ?_
      refine xi_getfield3 dX0_rebuild_67 fX0_38 g35 r35_8 ?_
      refine xi_iload_n dX0_rebuild_70 rfl rfl ?_
      refine ia dX0_rebuild_71 g40 s40 rfl (by omega) (Nat.le_of_ble_eq_true rfl) ?_
      refine xi_istore dX0_rebuild_72 (Nat.le_of_ble_eq_true rfl) ?_
      refine xi_aload_n dX0_rebuild_74 rfl rfl ?_
      refine xi_getfield3 dX0_rebuild_75 fX0_15 g72 r72_1 ?_
      refine xi_iload dX0_rebuild_78 rfl ?_
      refine xi_aload_n dX0_rebuild_80 rfl rfl ?_
      refine xi_getfield3 dX0_rebuild_81 fX0_15 g72 r72_1 ?_
      refine xi_iload dX0_rebuild_84 rfl ?_
      refine ia dX0_rebuild_86 g74 s74 hq (by omega) (Nat.le_of_ble_eq_true rfl) ?_
      refine xi_aload_n dX0_rebuild_87 rfl rfl ?_
      refine xi_getfield3 dX0_rebuild_88 fX0_15 g72 r72_1 ?_
      refine xi_iload_n dX0_rebuild_91 rfl rfl ?_
      refine ia dX0_rebuild_92 g74 s74 rfl (by omega) (Nat.le_of_ble_eq_true rfl) ?_
      rw [setA_s]
      refine xi_mmax dX0_rebuild_93 eX0_62 ⟨(Nat.le_of_ble_eq_true rfl), (Nat.le_of_ble_eq_true rfl)⟩ ⟨(Nat.le_of_ble_eq_true rfl), (Nat.le_of_ble_eq_true rfl)⟩ ?_
      refine is dX0_rebuild_96 g74 s74 hq (by omega) (Nat.le_of_ble_eq_true rfl) ?_
      refine xi_iinc (v := (-1)) dX0_rebuild_97 rfl (by decide) (Nat.le_of_ble_eq_true rfl) ?_
      refine xi_goto (tgt := 62) dX0_rebuild_100 rfl ?_
      refine xgo_pick [0, 1, 3] rfl ?_
      rw [pk_m1, setA_u]
      exact ih u rfl (by omega) _ hx
    )
  have loop := up_ind (n := n) (P := fun j => ∀ s, s = itr (rb1 (A 42) (A 75)) j (fun j => if j < 64 then 0 else A 74 j) → go0 mX0_rebuild (eqQ none (setA A 74 R) B D) nx 0 0 10 [(0, .ref 72), (1, .ref 35), (2, .ref 75), (3, .int (nI j))] [] (setA A 74 s) B D) (fun j hj ih s hs => by
    refine xi_iload_n dX0_rebuild_10 rfl rfl ?_
    refine xi_aload_n dX0_rebuild_11 rfl rfl ?_
    refine xi_getfield3 dX0_rebuild_12 fX0_50 g35 r35_0 ?_
    refine xi_getfield0 dX0_rebuild_15 fX0_54 g36 ?_
    rw [show setA A 74 s 36 2 = nI n from hn]
    refine xi_icmp_ge (tgt := 55) dX0_rebuild_18 rfl (fun h18 => ?_) (fun h18 => ?_)
    · have e : j = n := ge_eq hj (by omega) h18
      subst e
      refine xi_aload_n dX0_rebuild_55 rfl rfl ?_
      refine xi_getfield0 dX0_rebuild_56 fX0_19 g35 ?_
      rw [show setA A 74 s 35 2 = nI (M + 1) from hm]
      refine xi_iconst (v := 1) dX0_rebuild_59 (by decide) ?_
      refine xi_isub dX0_rebuild_60 ?_
      refine xi_istore_n dX0_rebuild_61 rfl (Nat.le_of_ble_eq_true rfl) ?_
      refine xgo_pick [0, 1, 3] rfl ?_
      rw [nI_pred]
      exact loop2 M (by omega) s (by rw [← hS, hs]; rfl)
    · have hl : j < n := nge_lt hj (by omega) h18
      obtain ⟨a, ha, hfa⟩ := hnd j hl
      refine xi_aload_n dX0_rebuild_21 rfl rfl ?_
      refine xi_getfield3 dX0_rebuild_22 fX0_59 g35 r35_10 ?_
      refine xi_iload_n dX0_rebuild_25 rfl rfl ?_
      refine ia dX0_rebuild_26 g42 s42 rfl (by omega) (Nat.le_of_ble_eq_true rfl) ?_
      refine xi_istore dX0_rebuild_27 (Nat.le_of_ble_eq_true rfl) ?_
      refine xi_aload_n dX0_rebuild_29 rfl rfl ?_
      refine xi_getfield3 dX0_rebuild_30 fX0_15 g72 r72_1 ?_
      refine xi_iload dX0_rebuild_33 rfl ?_
      refine xi_aload_n dX0_rebuild_35 rfl rfl ?_
      refine xi_getfield3 dX0_rebuild_36 fX0_15 g72 r72_1 ?_
      refine xi_iload dX0_rebuild_39 rfl ?_
      refine ia dX0_rebuild_41 g74 s74 hfa ha (Nat.le_of_ble_eq_true rfl) ?_
      rw [setA_s]
      refine xi_aload_n dX0_rebuild_42 rfl rfl ?_
      refine xi_iload_n dX0_rebuild_43 rfl rfl ?_
      refine ia dX0_rebuild_44 g75 s75 rfl (by omega) (Nat.le_of_ble_eq_true rfl) ?_
      refine xi_mmax dX0_rebuild_45 eX0_62 ⟨(Nat.le_of_ble_eq_true rfl), (Nat.le_of_ble_eq_true rfl)⟩ ⟨(Nat.le_of_ble_eq_true rfl), (Nat.le_of_ble_eq_true rfl)⟩ ?_
      refine is dX0_rebuild_48 g74 s74 hfa ha (Nat.le_of_ble_eq_true rfl) ?_
      refine xi_iinc (v := 1) dX0_rebuild_49 rfl (by decide) (Nat.le_of_ble_eq_true rfl) ?_
      refine xi_goto (tgt := 10) dX0_rebuild_52 rfl ?_
      refine xgo_pick [0, 1, 2, 3] rfl ?_
      rw [nI_1, setA_u]
      exact ih hl _ (by rw [itr_s, ← hs]; unfold rb1; rw [hfa, nI_clamp (by omega)]; rfl)
    )
  refine xi_aload_n dX0_rebuild_0 rfl rfl ?_
  refine xi_getfield3 dX0_rebuild_1 fX0_15 g72 r72_1 ?_
  refine xi_iconst (v := 0) dX0_rebuild_4 (by decide) ?_
  refine cS1 (av := [_, _]) dX0_rebuild_5 lX0_44 rfl ⟨rfl, rfl⟩ rfl ⟨(Nat.le_of_ble_eq_true rfl), (Nat.le_of_ble_eq_true rfl)⟩ ⟨(Nat.le_of_ble_eq_true rfl), (Nat.le_of_ble_eq_true rfl)⟩ (Nat.le_of_ble_eq_true rfl) (c_fillI g74 s74 (by decide)) ?_
  refine xi_iconst (v := 0) dX0_rebuild_8 (by decide) ?_
  refine xi_istore_n dX0_rebuild_9 rfl (Nat.le_of_ble_eq_true rfl) ?_
  refine xgo_pick [0, 1, 2, 3] rfl ?_
  exact loop 0 (Nat.zero_le _) _ rfl

