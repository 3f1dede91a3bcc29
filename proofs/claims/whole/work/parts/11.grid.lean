/-! Grid -/
def rowSetV (c row : Int32) : Int64 := shlL (shlL 1 c - 1) (row * c)
theorem c_rowSet {k : Nat} (hk : isGrd k) {x : Int32} {A : xA} {B : xB} {D : xD} : does0 mX1_rowSet [.ref k, .int x] A B D (eqQ (some (.long (rowSetV (A k 0) x))) A B D) nx := by
  refine does_go (by decide) rfl (Nat.le_of_ble_eq_true rfl) rfl ?_
  refine xi_lconst (v := 1) dX1_rowSet_0 (by decide) ?_
  refine xi_aload_n dX1_rowSet_1 rfl rfl ?_
  refine xi_getfield0 dX1_rowSet_2 fX1_9 hk.g ?_
  refine xi_lshl dX1_rowSet_5 ?_
  refine xi_lconst (v := 1) dX1_rowSet_6 (by decide) ?_
  refine xi_lsub dX1_rowSet_7 ?_
  refine xi_iload_n dX1_rowSet_8 rfl rfl ?_
  refine xi_aload_n dX1_rowSet_9 rfl rfl ?_
  refine xi_getfield0 dX1_rowSet_10 fX1_9 hk.g ?_
  refine xi_imul dX1_rowSet_13 ?_
  refine xi_lshl dX1_rowSet_14 ?_
  refine go_ret (r := some (.long _)) dX1_rowSet_15 (Nat.le_of_ble_eq_true rfl) (Nat.le_of_ble_eq_true rfl) ?_
  exact ⟨rfl, rfl, rfl, rfl⟩
theorem c_columnSet {k : Nat} (hk : isGrd k) {x : Int32} {A : xA} {B : xB} {D : xD} : does0 mX1_columnSet [.ref k, .int x] A B D (eqQ (some (.long (shlL (B k 4) x))) A B D) nx := by
  refine does_go (by decide) rfl (Nat.le_of_ble_eq_true rfl) rfl ?_
  refine xi_aload_n dX1_columnSet_0 rfl rfl ?_
  refine xi_getfield2 dX1_columnSet_1 fX1_25 hk.g ?_
  refine xi_iload_n dX1_columnSet_4 rfl rfl ?_
  refine xi_lshl dX1_columnSet_5 ?_
  refine go_ret (r := some (.long _)) dX1_columnSet_6 (Nat.le_of_ble_eq_true rfl) (Nat.le_of_ble_eq_true rfl) ?_
  exact ⟨rfl, rfl, rfl, rfl⟩
/-- the first pixels of the first rows -/
def leftV (c : Int32) : Nat → Int64
  | 0 => 0
  | j + 1 => leftV c j ||| shlL 1 (nI j * c)
def shapeA (A : xA) (k : Nat) (c r : Int32) : xA := updA (updA (updA A k 0 c) k 1 r) k 2 (c * r)
def borderV (c : Int32) (r : Nat) : Int64 := ((leftV c r ||| shlL (leftV c r) (c - 1)) ||| rowSetV c 0) ||| rowSetV c (nI r - 1)
def shapeB (B : xB) (k : Nat) (c : Int32) (r : Nat) : xB := updB (updB (updB (updB B k 3 (ushL (-1) (64 - c * nI r))) k 4 (leftV c r)) k 5 (shlL (leftV c r) (c - 1))) k 6 (borderV c r)
theorem c_shape {k r : Nat} (hk : isGrd k) (hr : r ≤ 8) {c : Int32} {A : xA} {B : xB} {D : xD} : does0 mX1_shape [.ref k, .int c, .int (nI r)] A B D (eqQ none (shapeA A k c (nI r)) (shapeB B k c r) D) nx := by
  refine does_go (by decide) rfl (Nat.le_of_ble_eq_true rfl) rfl ?_
  have loop := up_ind (n := r) (P := fun j => go0 mX1_shape (eqQ none (shapeA A k c (nI r)) (shapeB B k c r) D) nx 0 0 45 [(0, .ref k), (3, .int (nI j))] [] (shapeA A k c (nI r)) (updB (updB B k 3 (ushL (-1) (64 - c * nI r))) k 4 (leftV c j)) D) (fun j hj ih => by
    refine xi_iload_n dX1_shape_45 rfl rfl ?_
    refine xi_aload_n dX1_shape_46 rfl rfl ?_
    refine xi_getfield0 dX1_shape_47 fX1_15 hk.g ?_
    rw [show shapeA A k c (nI r) k 1 = nI r by simp [shapeA, updA_get]]
    refine xi_icmp_ge (tgt := 76) dX1_shape_50 rfl (fun h50 => ?_) (fun h50 => ?_)
    · have e : j = r := ge_eq hj (by omega) h50
      subst e
      refine xi_aload_n dX1_shape_76 rfl rfl ?_
      refine xi_aload_n dX1_shape_77 rfl rfl ?_
      refine xi_getfield2 dX1_shape_78 fX1_25 hk.g ?_
      refine xi_aload_n dX1_shape_81 rfl rfl ?_
      refine xi_getfield0 dX1_shape_82 fX1_9 hk.g ?_
      refine xi_iconst (v := 1) dX1_shape_85 (by decide) ?_
      refine xi_isub dX1_shape_86 ?_
      rw [updB_ss, show shapeA A k c (nI j) k 0 = c by simp [shapeA, updA_get]]
      refine xi_lshl dX1_shape_87 ?_
      refine xi_putfield2 dX1_shape_88 fX1_28 hk.g pX1_28 ?_
      refine xi_aload_n dX1_shape_91 rfl rfl ?_
      refine xi_aload_n dX1_shape_92 rfl rfl ?_
      refine xi_getfield2 dX1_shape_93 fX1_25 hk.g ?_
      refine xi_aload_n dX1_shape_96 rfl rfl ?_
      refine xi_getfield2 dX1_shape_97 fX1_28 hk.g ?_
      refine xi_lor dX1_shape_100 ?_
      refine xi_aload_n dX1_shape_101 rfl rfl ?_
      refine xi_iconst (v := 0) dX1_shape_102 (by decide) ?_
      refine cV1 (av := [_]) dX1_shape_103 lX1_36 rfl ⟨rfl, rfl⟩ rfl ⟨(Nat.le_of_ble_eq_true rfl), (Nat.le_of_ble_eq_true rfl)⟩ ⟨(Nat.le_of_ble_eq_true rfl), (Nat.le_of_ble_eq_true rfl)⟩ (Nat.le_of_ble_eq_true rfl) hk.g rfl rfl (c_rowSet hk) ?_
      refine xi_lor dX1_shape_106 ?_
      refine xi_aload_n dX1_shape_107 rfl rfl ?_
      refine xi_aload_n dX1_shape_108 rfl rfl ?_
      refine xi_getfield0 dX1_shape_109 fX1_15 hk.g ?_
      refine xi_iconst (v := 1) dX1_shape_112 (by decide) ?_
      refine xi_isub dX1_shape_113 ?_
      refine cV1 (av := [_]) dX1_shape_114 lX1_36 rfl ⟨rfl, rfl⟩ rfl ⟨(Nat.le_of_ble_eq_true rfl), (Nat.le_of_ble_eq_true rfl)⟩ ⟨(Nat.le_of_ble_eq_true rfl), (Nat.le_of_ble_eq_true rfl)⟩ (Nat.le_of_ble_eq_true rfl) hk.g rfl rfl (c_rowSet hk) ?_
      refine xi_lor dX1_shape_117 ?_
      rw [show shapeA A k c (nI j) k 0 = c by simp [shapeA, updA_get], show shapeA A k c (nI j) k 1 = nI j by simp [shapeA, updA_get], updB_ss, updB_sj _ _ _ (by decide), updB_ss]
      refine xi_putfield2 dX1_shape_118 fX1_31 hk.g pX1_31 ?_
      refine go_ret (r := none) dX1_shape_121 (Nat.le_of_ble_eq_true rfl) (Nat.le_of_ble_eq_true rfl) ?_
      exact ⟨rfl, rfl, rfl, rfl⟩
    · have hl : j < r := nge_lt hj (by omega) h50
      refine xi_aload_n dX1_shape_53 rfl rfl ?_
      refine xi_dup dX1_shape_54 rfl ?_
      refine xi_getfield2 dX1_shape_55 fX1_25 hk.g ?_
      refine xi_lconst (v := 1) dX1_shape_58 (by decide) ?_
      refine xi_iload_n dX1_shape_59 rfl rfl ?_
      refine xi_aload_n dX1_shape_60 rfl rfl ?_
      refine xi_getfield0 dX1_shape_61 fX1_9 hk.g ?_
      refine xi_imul dX1_shape_64 ?_
      refine xi_lshl dX1_shape_65 ?_
      refine xi_lor dX1_shape_66 ?_
      rw [updB_ss, show shapeA A k c (nI r) k 0 = c by simp [shapeA, updA_get]]
      refine xi_putfield2 dX1_shape_67 fX1_25 hk.g pX1_25 ?_
      refine xi_iinc (v := 1) dX1_shape_70 rfl (by decide) (Nat.le_of_ble_eq_true rfl) ?_
      refine xi_goto (tgt := 45) dX1_shape_73 rfl ?_
      refine xgo_pick [0, 3] rfl ?_
      rw [nI_1, updB_uu]
      exact ih hl
    )
  refine xi_aload_n dX1_shape_0 rfl rfl ?_
  refine xi_iload_n dX1_shape_1 rfl rfl ?_
  refine xi_putfield0 dX1_shape_2 fX1_9 hk.g pX1_9 ?_
  refine xi_aload_n dX1_shape_5 rfl rfl ?_
  refine xi_iload_n dX1_shape_6 rfl rfl ?_
  refine xi_putfield0 dX1_shape_7 fX1_15 hk.g pX1_15 ?_
  refine xi_aload_n dX1_shape_10 rfl rfl ?_
  refine xi_aload_n dX1_shape_11 rfl rfl ?_
  refine xi_getfield0 dX1_shape_12 fX1_9 hk.g ?_
  refine xi_aload_n dX1_shape_15 rfl rfl ?_
  refine xi_getfield0 dX1_shape_16 fX1_15 hk.g ?_
  refine xi_imul dX1_shape_19 ?_
  rw [updA_sj _ _ _ (by decide), updA_ss, updA_ss]
  refine xi_putfield0 dX1_shape_20 fX1_18 hk.g pX1_18 ?_
  refine xi_aload_n dX1_shape_23 rfl rfl ?_
  refine xi_ldc2_w dX1_shape_24 kX1_34 ?_
  refine xi_bipush (v := 64) dX1_shape_27 (by decide) ?_
  refine xi_aload_n dX1_shape_29 rfl rfl ?_
  refine xi_getfield0 dX1_shape_30 fX1_18 hk.g ?_
  refine xi_isub dX1_shape_33 ?_
  rw [updA_ss]
  refine xi_lushr dX1_shape_34 ?_
  refine xi_putfield2 dX1_shape_35 fX1_21 hk.g pX1_21 ?_
  refine xi_aload_n dX1_shape_38 rfl rfl ?_
  refine xi_lconst (v := 0) dX1_shape_39 (by decide) ?_
  refine xi_putfield2 dX1_shape_40 fX1_25 hk.g pX1_25 ?_
  refine xi_iconst (v := 0) dX1_shape_43 (by decide) ?_
  refine xi_istore_n dX1_shape_44 rfl (Nat.le_of_ble_eq_true rfl) ?_
  refine xgo_pick [0, 3] rfl ?_
  exact loop 0 (Nat.zero_le _)
def spreadV (c : Int32) (lf rt s : Int64) (dg : Int32) : Int64 :=
  let w := (s ||| shlL (s &&& (rt ^^^ -1)) 1) ||| ushL (s &&& (lf ^^^ -1)) 1
  let t := if dg = 0 then s else w
  (w ||| shlL t c) ||| ushL t c
theorem c_spread {k : Nat} (hk : isGrd k) {s : Int64} {dg : Int32} {A : xA} {B : xB} {D : xD} : does0 mX1_spread [.ref k, .long s, .int dg] A B D (eqQ (some (.long (spreadV (A k 0) (B k 4) (B k 5) s dg))) A B D) nx := by
  refine does_go (by decide) rfl (Nat.le_of_ble_eq_true rfl) rfl ?_
  refine xi_lload_n dX1_spread_0 rfl rfl ?_
  refine xi_lload_n dX1_spread_1 rfl rfl ?_
  refine xi_aload_n dX1_spread_2 rfl rfl ?_
  refine xi_getfield2 dX1_spread_3 fX1_28 hk.g ?_
  refine xi_ldc2_w dX1_spread_6 kX1_34 ?_
  refine xi_lxor dX1_spread_9 ?_
  refine xi_land dX1_spread_10 ?_
  refine xi_iconst (v := 1) dX1_spread_11 (by decide) ?_
  refine xi_lshl dX1_spread_12 ?_
  refine xi_lor dX1_spread_13 ?_
  refine xi_lload_n dX1_spread_14 rfl rfl ?_
  refine xi_aload_n dX1_spread_15 rfl rfl ?_
  refine xi_getfield2 dX1_spread_16 fX1_25 hk.g ?_
  refine xi_ldc2_w dX1_spread_19 kX1_34 ?_
  refine xi_lxor dX1_spread_22 ?_
  refine xi_land dX1_spread_23 ?_
  refine xi_iconst (v := 1) dX1_spread_24 (by decide) ?_
  refine xi_lushr dX1_spread_25 ?_
  refine xi_lor dX1_spread_26 ?_
  refine xi_lstore dX1_spread_27 (Nat.le_of_ble_eq_true rfl) ?_
  refine xi_iload_n dX1_spread_29 rfl rfl ?_
  refine xi_if_eq (tgt := 38) dX1_spread_30 rfl (fun h30 => ?_) (fun h30 => ?_)
  · refine xi_lload_n dX1_spread_38 rfl rfl ?_
    refine xi_lstore dX1_spread_39 (Nat.le_of_ble_eq_true rfl) ?_
    refine xi_lload dX1_spread_41 rfl ?_
    refine xi_lload dX1_spread_43 rfl ?_
    refine xi_aload_n dX1_spread_45 rfl rfl ?_
    refine xi_getfield0 dX1_spread_46 fX1_9 hk.g ?_
    refine xi_lshl dX1_spread_49 ?_
    refine xi_lor dX1_spread_50 ?_
    refine xi_lload dX1_spread_51 rfl ?_
    refine xi_aload_n dX1_spread_53 rfl rfl ?_
    refine xi_getfield0 dX1_spread_54 fX1_9 hk.g ?_
    refine xi_lushr dX1_spread_57 ?_
    refine xi_lor dX1_spread_58 ?_
    refine go_ret (r := some (.long _)) dX1_spread_59 (Nat.le_of_ble_eq_true rfl) (Nat.le_of_ble_eq_true rfl) ?_
    exact ⟨by simp only [spreadV, h30, if_true, if_false], rfl, rfl, rfl⟩
  · refine xi_lload dX1_spread_33 rfl ?_
    refine xi_goto (tgt := 39) dX1_spread_35 rfl ?_
    refine xi_lstore dX1_spread_39 (Nat.le_of_ble_eq_true rfl) ?_
    refine xi_lload dX1_spread_41 rfl ?_
    refine xi_lload dX1_spread_43 rfl ?_
    refine xi_aload_n dX1_spread_45 rfl rfl ?_
    refine xi_getfield0 dX1_spread_46 fX1_9 hk.g ?_
    refine xi_lshl dX1_spread_49 ?_
    refine xi_lor dX1_spread_50 ?_
    refine xi_lload dX1_spread_51 rfl ?_
    refine xi_aload_n dX1_spread_53 rfl rfl ?_
    refine xi_getfield0 dX1_spread_54 fX1_9 hk.g ?_
    refine xi_lushr dX1_spread_57 ?_
    refine xi_lor dX1_spread_58 ?_
    refine go_ret (r := some (.long _)) dX1_spread_59 (Nat.le_of_ble_eq_true rfl) (Nat.le_of_ble_eq_true rfl) ?_
    exact ⟨by simp only [spreadV, h30, if_true, if_false], rfl, rfl, rfl⟩
def connV (c : Int32) (lf rt wi : Int64) (dg : Int32) : Nat → Int64 → Int64
  | 0, x => x
  | n + 1, x => if (spreadV c lf rt x dg &&& wi) = x then x else connV c lf rt wi dg n (spreadV c lf rt x dg &&& wi)
theorem c_connected {k : Nat} (hk : isGrd k) {sd wi : Int64} {dg : Int32} {A : xA} {B : xB} {D : xD} : does0 mX1_connected [.ref k, .long sd, .long wi, .int dg] A B D (eqQ (some (.long (connV (A k 0) (B k 4) (B k 5) wi dg 64 sd))) A B D) nx := by
  refine does_go (by decide) rfl (Nat.le_of_ble_eq_true rfl) rfl ?_
  generalize hR : connV (A k 0) (B k 4) (B k 5) wi dg 64 sd = R
  have loop := up_ind (n := 64) (P := fun j => ∀ x, connV (A k 0) (B k 4) (B k 5) wi dg (64 - j) x = R → go0 mX1_connected (eqQ (some (.long R)) A B D) nx 0 0 6 [(0, .ref k), (3, .long wi), (5, .int dg), (6, .long x), (8, .int (nI j))] [] A B D) (fun j hj ih x hx => by
    refine xi_iload dX1_connected_6 rfl ?_
    refine xi_bipush (v := 64) dX1_connected_8 (by decide) ?_
    refine xi_icmp_ge (tgt := 46) dX1_connected_10 rfl (fun h10 => ?_) (fun h10 => ?_)
    · have e : j = 64 := ge_eq hj (by decide) h10
      subst e
      refine xi_lload dX1_connected_46 rfl ?_
      refine go_ret (r := some (.long _)) dX1_connected_48 (Nat.le_of_ble_eq_true rfl) (Nat.le_of_ble_eq_true rfl) ?_
      exact ⟨by rw [← hx]; rfl, rfl, rfl, rfl⟩
    · have hl : j < 64 := nge_lt hj (by decide) h10
      obtain ⟨d, hd⟩ : ∃ d, 64 - j = d + 1 := ⟨63 - j, by omega⟩
      rw [hd] at hx
      unfold connV at hx
      refine xi_aload_n dX1_connected_13 rfl rfl ?_
      refine xi_lload dX1_connected_14 rfl ?_
      refine xi_iload dX1_connected_16 rfl ?_
      refine cV1 (av := [_, _]) dX1_connected_18 lX1_40 rfl ⟨rfl, rfl⟩ rfl ⟨(Nat.le_of_ble_eq_true rfl), (Nat.le_of_ble_eq_true rfl)⟩ ⟨(Nat.le_of_ble_eq_true rfl), (Nat.le_of_ble_eq_true rfl)⟩ (Nat.le_of_ble_eq_true rfl) hk.g rfl rfl (c_spread hk) ?_
      refine xi_lload_n dX1_connected_21 rfl rfl ?_
      refine xi_land dX1_connected_22 ?_
      refine xi_lstore dX1_connected_23 (Nat.le_of_ble_eq_true rfl) ?_
      refine xi_lload dX1_connected_25 rfl ?_
      refine xi_lload dX1_connected_27 rfl ?_
      refine xi_lcmpne (tgt := 36) dX1_connected_29 dX1_connected_30 rfl (fun h30 => ?_) (fun h30 => ?_)
      · refine xi_lload dX1_connected_36 rfl ?_
        refine xi_lstore dX1_connected_38 (Nat.le_of_ble_eq_true rfl) ?_
        refine xi_iinc (v := 1) dX1_connected_40 rfl (by decide) (Nat.le_of_ble_eq_true rfl) ?_
        refine xi_goto (tgt := 6) dX1_connected_43 rfl ?_
        refine xgo_pick [0, 3, 5, 6, 8] rfl ?_
        rw [nI_1]
        rw [if_neg h30] at hx
        exact ih hl _ (by rw [show 64 - (j + 1) = d by omega]; exact hx)
      · refine xi_lload dX1_connected_33 rfl ?_
        refine go_ret (r := some (.long _)) dX1_connected_35 (Nat.le_of_ble_eq_true rfl) (Nat.le_of_ble_eq_true rfl) ?_
        exact ⟨by rw [if_pos h30] at hx; rw [hx], rfl, rfl, rfl⟩
    )
  refine xi_lload_n dX1_connected_0 rfl rfl ?_
  refine xi_lstore dX1_connected_1 (Nat.le_of_ble_eq_true rfl) ?_
  refine xi_iconst (v := 0) dX1_connected_3 (by decide) ?_
  refine xi_istore dX1_connected_4 (Nat.le_of_ble_eq_true rfl) ?_
  refine xgo_pick [0, 3, 5, 6, 8] rfl ?_
  exact loop 0 (Nat.zero_le _) _ hR
def perimV (c : Int32) (rt s : Int64) : Int32 := 4 * bcL s - 2 * (bcL (s &&& shlL (s &&& (rt ^^^ -1)) 1) + bcL (s &&& shlL s c))
theorem c_perimeterOf {k : Nat} (hk : isGrd k) {s : Int64} {A : xA} {B : xB} {D : xD} : does0 mX1_perimeterOf [.ref k, .long s] A B D (eqQ (some (.int (perimV (A k 0) (B k 5) s))) A B D) nx := by
  refine does_go (by decide) rfl (Nat.le_of_ble_eq_true rfl) rfl ?_
  refine xi_lload_n dX1_perimeterOf_0 rfl rfl ?_
  refine xi_lload_n dX1_perimeterOf_1 rfl rfl ?_
  refine xi_aload_n dX1_perimeterOf_2 rfl rfl ?_
  refine xi_getfield2 dX1_perimeterOf_3 fX1_28 hk.g ?_
  refine xi_ldc2_w dX1_perimeterOf_6 kX1_34 ?_
  refine xi_lxor dX1_perimeterOf_9 ?_
  refine xi_land dX1_perimeterOf_10 ?_
  refine xi_iconst (v := 1) dX1_perimeterOf_11 (by decide) ?_
  refine xi_lshl dX1_perimeterOf_12 ?_
  refine xi_land dX1_perimeterOf_13 ?_
  refine cS1 (av := [_]) dX1_perimeterOf_14 lX1_44 rfl ⟨rfl, rfl⟩ rfl ⟨(Nat.le_of_ble_eq_true rfl), (Nat.le_of_ble_eq_true rfl)⟩ ⟨(Nat.le_of_ble_eq_true rfl), (Nat.le_of_ble_eq_true rfl)⟩ (Nat.le_of_ble_eq_true rfl) (c_bcL) ?_
  refine xi_istore_n dX1_perimeterOf_17 rfl (Nat.le_of_ble_eq_true rfl) ?_
  refine xi_lload_n dX1_perimeterOf_18 rfl rfl ?_
  refine xi_lload_n dX1_perimeterOf_19 rfl rfl ?_
  refine xi_aload_n dX1_perimeterOf_20 rfl rfl ?_
  refine xi_getfield0 dX1_perimeterOf_21 fX1_9 hk.g ?_
  refine xi_lshl dX1_perimeterOf_24 ?_
  refine xi_land dX1_perimeterOf_25 ?_
  refine cS1 (av := [_]) dX1_perimeterOf_26 lX1_44 rfl ⟨rfl, rfl⟩ rfl ⟨(Nat.le_of_ble_eq_true rfl), (Nat.le_of_ble_eq_true rfl)⟩ ⟨(Nat.le_of_ble_eq_true rfl), (Nat.le_of_ble_eq_true rfl)⟩ (Nat.le_of_ble_eq_true rfl) (c_bcL) ?_
  refine xi_istore dX1_perimeterOf_29 (Nat.le_of_ble_eq_true rfl) ?_
  refine xi_iconst (v := 4) dX1_perimeterOf_31 (by decide) ?_
  refine xi_lload_n dX1_perimeterOf_32 rfl rfl ?_
  refine cS1 (av := [_]) dX1_perimeterOf_33 lX1_44 rfl ⟨rfl, rfl⟩ rfl ⟨(Nat.le_of_ble_eq_true rfl), (Nat.le_of_ble_eq_true rfl)⟩ ⟨(Nat.le_of_ble_eq_true rfl), (Nat.le_of_ble_eq_true rfl)⟩ (Nat.le_of_ble_eq_true rfl) (c_bcL) ?_
  refine xi_imul dX1_perimeterOf_36 ?_
  refine xi_iconst (v := 2) dX1_perimeterOf_37 (by decide) ?_
  refine xi_iload_n dX1_perimeterOf_38 rfl rfl ?_
  refine xi_iload dX1_perimeterOf_39 rfl ?_
  refine xi_iadd dX1_perimeterOf_41 ?_
  refine xi_imul dX1_perimeterOf_42 ?_
  refine xi_isub dX1_perimeterOf_43 ?_
  refine go_ret (r := some (.int _)) dX1_perimeterOf_44 (Nat.le_of_ble_eq_true rfl) (Nat.le_of_ble_eq_true rfl) ?_
  exact ⟨rfl, rfl, rfl, rfl⟩
def widthV (lf s : Int64) (n : Nat) : Int32 := isum (fun j => if (s &&& shlL lf (nI j)) = 0 then 0 else 1) n
theorem c_widthOf {k n : Nat} (hk : isGrd k) {s : Int64} {A : xA} {B : xB} {D : xD} (hn : A k 0 = nI n) (hb : n ≤ 8) : does0 mX1_widthOf [.ref k, .long s] A B D (eqQ (some (.int (widthV (B k 4) s n))) A B D) nx := by
  refine does_go (by decide) rfl (Nat.le_of_ble_eq_true rfl) rfl ?_
  have loop := up_ind (n := n) (P := fun j => go0 mX1_widthOf (eqQ (some (.int (widthV (B k 4) s n))) A B D) nx 0 0 5 [(0, .ref k), (1, .long s), (3, .int (widthV (B k 4) s j)), (4, .int (nI j))] [] A B D) (fun j hj ih => by
    refine xi_iload dX1_widthOf_5 rfl ?_
    refine xi_aload_n dX1_widthOf_7 rfl rfl ?_
    refine xi_getfield0 dX1_widthOf_8 fX1_9 hk.g ?_
    rw [hn]
    refine xi_icmp_ge (tgt := 41) dX1_widthOf_11 rfl (fun h11 => ?_) (fun h11 => ?_)
    · have e : j = n := ge_eq hj (by omega) h11
      subst e
      refine xi_iload_n dX1_widthOf_41 rfl rfl ?_
      refine go_ret (r := some (.int _)) dX1_widthOf_42 (Nat.le_of_ble_eq_true rfl) (Nat.le_of_ble_eq_true rfl) ?_
      exact ⟨rfl, rfl, rfl, rfl⟩
    · have hl : j < n := nge_lt hj (by omega) h11
      refine xi_iload_n dX1_widthOf_14 rfl rfl ?_
      refine xi_lload_n dX1_widthOf_15 rfl rfl ?_
      refine xi_aload_n dX1_widthOf_16 rfl rfl ?_
      refine xi_iload dX1_widthOf_17 rfl ?_
      refine cV1 (av := [_]) dX1_widthOf_19 lX1_50 rfl ⟨rfl, rfl⟩ rfl ⟨(Nat.le_of_ble_eq_true rfl), (Nat.le_of_ble_eq_true rfl)⟩ ⟨(Nat.le_of_ble_eq_true rfl), (Nat.le_of_ble_eq_true rfl)⟩ (Nat.le_of_ble_eq_true rfl) hk.g rfl rfl (c_columnSet hk) ?_
      refine xi_land dX1_widthOf_22 ?_
      refine xi_lconst (v := 0) dX1_widthOf_23 (by decide) ?_
      refine xi_lcmpne (tgt := 32) dX1_widthOf_24 dX1_widthOf_25 rfl (fun h25 => ?_) (fun h25 => ?_)
      · refine xi_iconst (v := 1) dX1_widthOf_32 (by decide) ?_
        refine xi_iadd dX1_widthOf_33 ?_
        refine xi_istore_n dX1_widthOf_34 rfl (Nat.le_of_ble_eq_true rfl) ?_
        refine xi_iinc (v := 1) dX1_widthOf_35 rfl (by decide) (Nat.le_of_ble_eq_true rfl) ?_
        refine xi_goto (tgt := 5) dX1_widthOf_38 rfl ?_
        refine xgo_pick [0, 1, 3, 4] rfl ?_
        rw [nI_1]
        have q := ih hl
        simp only [widthV, isum, h25, if_true, if_false] at q ⊢
        exact q
      · refine xi_iconst (v := 0) dX1_widthOf_28 (by decide) ?_
        refine xi_goto (tgt := 33) dX1_widthOf_29 rfl ?_
        refine xi_iadd dX1_widthOf_33 ?_
        refine xi_istore_n dX1_widthOf_34 rfl (Nat.le_of_ble_eq_true rfl) ?_
        refine xi_iinc (v := 1) dX1_widthOf_35 rfl (by decide) (Nat.le_of_ble_eq_true rfl) ?_
        refine xi_goto (tgt := 5) dX1_widthOf_38 rfl ?_
        refine xgo_pick [0, 1, 3, 4] rfl ?_
        rw [nI_1]
        have q := ih hl
        simp only [widthV, isum, h25, if_true, if_false] at q ⊢
        exact q
    )
  refine xi_iconst (v := 0) dX1_widthOf_0 (by decide) ?_
  refine xi_istore_n dX1_widthOf_1 rfl (Nat.le_of_ble_eq_true rfl) ?_
  refine xi_iconst (v := 0) dX1_widthOf_2 (by decide) ?_
  refine xi_istore dX1_widthOf_3 (Nat.le_of_ble_eq_true rfl) ?_
  refine xgo_pick [0, 1, 3, 4] rfl ?_
  exact loop 0 (Nat.zero_le _)
def tallV (c : Int32) (s : Int64) (n : Nat) : Int32 := isum (fun j => if (s &&& rowSetV c (nI j)) = 0 then 0 else 1) n
theorem c_tallnessOf {k n : Nat} (hk : isGrd k) {s : Int64} {A : xA} {B : xB} {D : xD} (hn : A k 1 = nI n) (hb : n ≤ 8) : does0 mX1_tallnessOf [.ref k, .long s] A B D (eqQ (some (.int (tallV (A k 0) s n))) A B D) nx := by
  refine does_go (by decide) rfl (Nat.le_of_ble_eq_true rfl) rfl ?_
  have loop := up_ind (n := n) (P := fun j => go0 mX1_tallnessOf (eqQ (some (.int (tallV (A k 0) s n))) A B D) nx 0 0 5 [(0, .ref k), (1, .long s), (3, .int (tallV (A k 0) s j)), (4, .int (nI j))] [] A B D) (fun j hj ih => by
    refine xi_iload dX1_tallnessOf_5 rfl ?_
    refine xi_aload_n dX1_tallnessOf_7 rfl rfl ?_
    refine xi_getfield0 dX1_tallnessOf_8 fX1_15 hk.g ?_
    rw [hn]
    refine xi_icmp_ge (tgt := 41) dX1_tallnessOf_11 rfl (fun h11 => ?_) (fun h11 => ?_)
    · have e : j = n := ge_eq hj (by omega) h11
      subst e
      refine xi_iload_n dX1_tallnessOf_41 rfl rfl ?_
      refine go_ret (r := some (.int _)) dX1_tallnessOf_42 (Nat.le_of_ble_eq_true rfl) (Nat.le_of_ble_eq_true rfl) ?_
      exact ⟨rfl, rfl, rfl, rfl⟩
    · have hl : j < n := nge_lt hj (by omega) h11
      refine xi_iload_n dX1_tallnessOf_14 rfl rfl ?_
      refine xi_lload_n dX1_tallnessOf_15 rfl rfl ?_
      refine xi_aload_n dX1_tallnessOf_16 rfl rfl ?_
      refine xi_iload dX1_tallnessOf_17 rfl ?_
      refine cV1 (av := [_]) dX1_tallnessOf_19 lX1_36 rfl ⟨rfl, rfl⟩ rfl ⟨(Nat.le_of_ble_eq_true rfl), (Nat.le_of_ble_eq_true rfl)⟩ ⟨(Nat.le_of_ble_eq_true rfl), (Nat.le_of_ble_eq_true rfl)⟩ (Nat.le_of_ble_eq_true rfl) hk.g rfl rfl (c_rowSet hk) ?_
      refine xi_land dX1_tallnessOf_22 ?_
      refine xi_lconst (v := 0) dX1_tallnessOf_23 (by decide) ?_
      refine xi_lcmpne (tgt := 32) dX1_tallnessOf_24 dX1_tallnessOf_25 rfl (fun h25 => ?_) (fun h25 => ?_)
      · refine xi_iconst (v := 1) dX1_tallnessOf_32 (by decide) ?_
        refine xi_iadd dX1_tallnessOf_33 ?_
        refine xi_istore_n dX1_tallnessOf_34 rfl (Nat.le_of_ble_eq_true rfl) ?_
        refine xi_iinc (v := 1) dX1_tallnessOf_35 rfl (by decide) (Nat.le_of_ble_eq_true rfl) ?_
        refine xi_goto (tgt := 5) dX1_tallnessOf_38 rfl ?_
        refine xgo_pick [0, 1, 3, 4] rfl ?_
        rw [nI_1]
        have q := ih hl
        simp only [tallV, isum, h25, if_true, if_false] at q ⊢
        exact q
      · refine xi_iconst (v := 0) dX1_tallnessOf_28 (by decide) ?_
        refine xi_goto (tgt := 33) dX1_tallnessOf_29 rfl ?_
        refine xi_iadd dX1_tallnessOf_33 ?_
        refine xi_istore_n dX1_tallnessOf_34 rfl (Nat.le_of_ble_eq_true rfl) ?_
        refine xi_iinc (v := 1) dX1_tallnessOf_35 rfl (by decide) (Nat.le_of_ble_eq_true rfl) ?_
        refine xi_goto (tgt := 5) dX1_tallnessOf_38 rfl ?_
        refine xgo_pick [0, 1, 3, 4] rfl ?_
        rw [nI_1]
        have q := ih hl
        simp only [tallV, isum, h25, if_true, if_false] at q ⊢
        exact q
    )
  refine xi_iconst (v := 0) dX1_tallnessOf_0 (by decide) ?_
  refine xi_istore_n dX1_tallnessOf_1 rfl (Nat.le_of_ble_eq_true rfl) ?_
  refine xi_iconst (v := 0) dX1_tallnessOf_2 (by decide) ?_
  refine xi_istore dX1_tallnessOf_3 (Nat.le_of_ble_eq_true rfl) ?_
  refine xgo_pick [0, 1, 3, 4] rfl ?_
  exact loop 0 (Nat.zero_le _)
/-- one pixel of the search for holes -/
def holS (con : Int64 → Int64 → Int64) (bd : Int64) (j : Nat) (q : Int32 × Int64) : Int32 × Int64 :=
  if (q.2 &&& shlL 1 (nI j)) = 0 then q else (q.1 + (if (con (shlL 1 (nI j)) q.2 &&& bd) = 0 then 1 else 0), q.2 &&& (con (shlL 1 (nI j)) q.2 ^^^ -1))
theorem holS1 {con : Int64 → Int64 → Int64} {bd : Int64} {j : Nat} {q : Int32 × Int64} (h : (q.2 &&& shlL 1 (nI j)) = 0) : holS con bd j q = q := if_pos h
theorem holS2 {con : Int64 → Int64 → Int64} {bd : Int64} {j : Nat} {q : Int32 × Int64} (h : ¬ (q.2 &&& shlL 1 (nI j)) = 0) (h2 : (con (shlL 1 (nI j)) q.2 &&& bd) = 0) : holS con bd j q = (q.1 + 1, q.2 &&& (con (shlL 1 (nI j)) q.2 ^^^ -1)) := by unfold holS; rw [if_neg h, if_pos h2]
theorem holS3 {con : Int64 → Int64 → Int64} {bd : Int64} {j : Nat} {q : Int32 × Int64} (h : ¬ (q.2 &&& shlL 1 (nI j)) = 0) (h2 : ¬ (con (shlL 1 (nI j)) q.2 &&& bd) = 0) : holS con bd j q = (q.1 + 0, q.2 &&& (con (shlL 1 (nI j)) q.2 ^^^ -1)) := by unfold holS; rw [if_neg h, if_neg h2]
theorem holS_stop (con : Int64 → Int64 → Int64) (bd : Int64) (s0 : Int32 × Int64) {j : Nat} (h : (itr (holS con bd) j s0).2 = 0) : ∀ d, itr (holS con bd) (j + d) s0 = itr (holS con bd) j s0
  | 0 => rfl
  | d + 1 => by
    show holS con bd (j + d) (itr (holS con bd) (j + d) s0) = _
    rw [holS_stop con bd s0 h d]
    exact holS1 (by rw [h]; exact Int64.zero_and)
def holV (c : Int32) (lf rt all bd s : Int64) (ei : Int32) (n : Nat) : Int32 := (itr (holS (fun b r => connV c lf rt r (if ei = 0 then 1 else 0) 64 b) bd) n (0, all &&& (s ^^^ -1))).1
theorem c_holesOf {k n : Nat} (hk : isGrd k) {s : Int64} {ei : Int32} {A : xA} {B : xB} {D : xD} (hn : A k 2 = nI n) (hb : n ≤ 64) : does0 mX1_holesOf [.ref k, .long s, .int ei] A B D (eqQ (some (.int (holV (A k 0) (B k 4) (B k 5) (B k 3) (B k 6) s ei n))) A B D) nx := by
  refine does_go (by decide) rfl (Nat.le_of_ble_eq_true rfl) rfl ?_
  generalize hR : holV (A k 0) (B k 4) (B k 5) (B k 3) (B k 6) s ei n = R
  unfold holV at hR
  generalize hc0 : (fun b r => connV (A k 0) (B k 4) (B k 5) r (if ei = 0 then 1 else 0) 64 b) = con at hR
  have ec : ∀ b r dg, (if ei = 0 then 1 else 0) = dg → connV (A k 0) (B k 4) (B k 5) r dg 64 b = con b r := fun b r dg h => by rw [← hc0, ← h]
  have loop := up_ind (n := n) (P := fun j => ∀ q, q = itr (holS con (B k 6)) j (0, B k 3 &&& (s ^^^ -1)) → go0 mX1_holesOf (eqQ (some (.int R)) A B D) nx 0 0 18 [(0, .ref k), (3, .int ei), (4, .int q.1), (5, .long q.2), (7, .int (nI j))] [] A B D) (fun j hj ih q hq => by
    refine xi_iload dX1_holesOf_18 rfl ?_
    refine xi_aload_n dX1_holesOf_20 rfl rfl ?_
    refine xi_getfield0 dX1_holesOf_21 fX1_18 hk.g ?_
    rw [hn]
    refine xi_icmp_ge (tgt := 108) dX1_holesOf_24 rfl (fun h24 => ?_) (fun h24 => ?_)
    · have e : j = n := ge_eq hj (by omega) h24
      subst e
      refine xi_iload dX1_holesOf_108 rfl ?_
      refine go_ret (r := some (.int _)) dX1_holesOf_110 (Nat.le_of_ble_eq_true rfl) (Nat.le_of_ble_eq_true rfl) ?_
      exact ⟨by rw [← hR] <;> rw [← hq], rfl, rfl, rfl⟩
    · have hl : j < n := nge_lt hj (by omega) h24
      refine xi_lload dX1_holesOf_27 rfl ?_
      refine xi_lconst (v := 0) dX1_holesOf_29 (by decide) ?_
      refine xi_lcmpeq (tgt := 108) dX1_holesOf_30 dX1_holesOf_31 rfl (fun h31 => ?_) (fun h31 => ?_)
      · have e := holS_stop con (B k 6) (0, B k 3 &&& (s ^^^ -1)) (by rw [← hq]; exact h31) (n - j)
        rw [show j + (n - j) = n by omega, ← hq] at e
        rw [e] at hR
        refine xi_iload dX1_holesOf_108 rfl ?_
        refine go_ret (r := some (.int _)) dX1_holesOf_110 (Nat.le_of_ble_eq_true rfl) (Nat.le_of_ble_eq_true rfl) ?_
        exact ⟨by rw [← hR] <;> rw [← hq], rfl, rfl, rfl⟩
      · refine xi_lconst (v := 1) dX1_holesOf_34 (by decide) ?_
        refine xi_iload dX1_holesOf_35 rfl ?_
        refine xi_lshl dX1_holesOf_37 ?_
        refine xi_lstore dX1_holesOf_38 (Nat.le_of_ble_eq_true rfl) ?_
        refine xi_lload dX1_holesOf_40 rfl ?_
        refine xi_lload dX1_holesOf_42 rfl ?_
        refine xi_land dX1_holesOf_44 ?_
        refine xi_lconst (v := 0) dX1_holesOf_45 (by decide) ?_
        refine xi_lcmpeq (tgt := 102) dX1_holesOf_46 dX1_holesOf_47 rfl (fun h47 => ?_) (fun h47 => ?_)
        · refine xi_iinc (v := 1) dX1_holesOf_102 rfl (by decide) (Nat.le_of_ble_eq_true rfl) ?_
          refine xi_goto (tgt := 18) dX1_holesOf_105 rfl ?_
          refine xgo_pick [0, 3, 4, 5, 7] rfl ?_
          rw [nI_1]
          first
            | exact ih hl _ (by rw [itr_s, ← hq, holS1 h47])
            | exact ih hl (_, _) (by rw [itr_s, ← hq, holS2 h47 h80])
            | exact ih hl (_, _) (by rw [itr_s, ← hq, holS3 h47 h80])
        · refine xi_aload_n dX1_holesOf_50 rfl rfl ?_
          refine xi_lload dX1_holesOf_51 rfl ?_
          refine xi_lload dX1_holesOf_53 rfl ?_
          refine xi_iload_n dX1_holesOf_55 rfl rfl ?_
          refine xi_ifne (tgt := 63) dX1_holesOf_56 rfl (fun h56 => ?_) (fun h56 => ?_)
          · refine xi_iconst (v := 0) dX1_holesOf_63 (by decide) ?_
            refine cV1 (av := [_, _, _]) dX1_holesOf_64 lX1_53 rfl ⟨rfl, rfl⟩ rfl ⟨(Nat.le_of_ble_eq_true rfl), (Nat.le_of_ble_eq_true rfl)⟩ ⟨(Nat.le_of_ble_eq_true rfl), (Nat.le_of_ble_eq_true rfl)⟩ (Nat.le_of_ble_eq_true rfl) hk.g rfl rfl (c_connected hk) ?_
            rw [ec _ _ _ (by first | exact if_pos h56 | exact if_neg h56)]
            refine xi_lstore dX1_holesOf_67 (Nat.le_of_ble_eq_true rfl) ?_
            refine xi_iload dX1_holesOf_69 rfl ?_
            refine xi_lload dX1_holesOf_71 rfl ?_
            refine xi_aload_n dX1_holesOf_73 rfl rfl ?_
            refine xi_getfield2 dX1_holesOf_74 fX1_31 hk.g ?_
            refine xi_land dX1_holesOf_77 ?_
            refine xi_lconst (v := 0) dX1_holesOf_78 (by decide) ?_
            refine xi_lcmpne (tgt := 87) dX1_holesOf_79 dX1_holesOf_80 rfl (fun h80 => ?_) (fun h80 => ?_)
            · refine xi_iconst (v := 0) dX1_holesOf_87 (by decide) ?_
              refine xi_iadd dX1_holesOf_88 ?_
              refine xi_istore dX1_holesOf_89 (Nat.le_of_ble_eq_true rfl) ?_
              refine xi_lload dX1_holesOf_91 rfl ?_
              refine xi_lload dX1_holesOf_93 rfl ?_
              refine xi_ldc2_w dX1_holesOf_95 kX1_34 ?_
              refine xi_lxor dX1_holesOf_98 ?_
              refine xi_land dX1_holesOf_99 ?_
              refine xi_lstore dX1_holesOf_100 (Nat.le_of_ble_eq_true rfl) ?_
              refine xi_iinc (v := 1) dX1_holesOf_102 rfl (by decide) (Nat.le_of_ble_eq_true rfl) ?_
              refine xi_goto (tgt := 18) dX1_holesOf_105 rfl ?_
              refine xgo_pick [0, 3, 4, 5, 7] rfl ?_
              rw [nI_1]
              first
                | exact ih hl _ (by rw [itr_s, ← hq, holS1 h47])
                | exact ih hl (_, _) (by rw [itr_s, ← hq, holS2 h47 h80])
                | exact ih hl (_, _) (by rw [itr_s, ← hq, holS3 h47 h80])
            · refine xi_iconst (v := 1) dX1_holesOf_83 (by decide) ?_
              refine xi_goto (tgt := 88) dX1_holesOf_84 rfl ?_
              refine xi_iadd dX1_holesOf_88 ?_
              refine xi_istore dX1_holesOf_89 (Nat.le_of_ble_eq_true rfl) ?_
              refine xi_lload dX1_holesOf_91 rfl ?_
              refine xi_lload dX1_holesOf_93 rfl ?_
              refine xi_ldc2_w dX1_holesOf_95 kX1_34 ?_
              refine xi_lxor dX1_holesOf_98 ?_
              refine xi_land dX1_holesOf_99 ?_
              refine xi_lstore dX1_holesOf_100 (Nat.le_of_ble_eq_true rfl) ?_
              refine xi_iinc (v := 1) dX1_holesOf_102 rfl (by decide) (Nat.le_of_ble_eq_true rfl) ?_
              refine xi_goto (tgt := 18) dX1_holesOf_105 rfl ?_
              refine xgo_pick [0, 3, 4, 5, 7] rfl ?_
              rw [nI_1]
              first
                | exact ih hl _ (by rw [itr_s, ← hq, holS1 h47])
                | exact ih hl (_, _) (by rw [itr_s, ← hq, holS2 h47 h80])
                | exact ih hl (_, _) (by rw [itr_s, ← hq, holS3 h47 h80])
          · refine xi_iconst (v := 1) dX1_holesOf_59 (by decide) ?_
            refine xi_goto (tgt := 64) dX1_holesOf_60 rfl ?_
            refine cV1 (av := [_, _, _]) dX1_holesOf_64 lX1_53 rfl ⟨rfl, rfl⟩ rfl ⟨(Nat.le_of_ble_eq_true rfl), (Nat.le_of_ble_eq_true rfl)⟩ ⟨(Nat.le_of_ble_eq_true rfl), (Nat.le_of_ble_eq_true rfl)⟩ (Nat.le_of_ble_eq_true rfl) hk.g rfl rfl (c_connected hk) ?_
            rw [ec _ _ _ (by first | exact if_pos h56 | exact if_neg h56)]
            refine xi_lstore dX1_holesOf_67 (Nat.le_of_ble_eq_true rfl) ?_
            refine xi_iload dX1_holesOf_69 rfl ?_
            refine xi_lload dX1_holesOf_71 rfl ?_
            refine xi_aload_n dX1_holesOf_73 rfl rfl ?_
            refine xi_getfield2 dX1_holesOf_74 fX1_31 hk.g ?_
            refine xi_land dX1_holesOf_77 ?_
            refine xi_lconst (v := 0) dX1_holesOf_78 (by decide) ?_
            refine xi_lcmpne (tgt := 87) dX1_holesOf_79 dX1_holesOf_80 rfl (fun h80 => ?_) (fun h80 => ?_)
            · refine xi_iconst (v := 0) dX1_holesOf_87 (by decide) ?_
              refine xi_iadd dX1_holesOf_88 ?_
              refine xi_istore dX1_holesOf_89 (Nat.le_of_ble_eq_true rfl) ?_
              refine xi_lload dX1_holesOf_91 rfl ?_
              refine xi_lload dX1_holesOf_93 rfl ?_
              refine xi_ldc2_w dX1_holesOf_95 kX1_34 ?_
              refine xi_lxor dX1_holesOf_98 ?_
              refine xi_land dX1_holesOf_99 ?_
              refine xi_lstore dX1_holesOf_100 (Nat.le_of_ble_eq_true rfl) ?_
              refine xi_iinc (v := 1) dX1_holesOf_102 rfl (by decide) (Nat.le_of_ble_eq_true rfl) ?_
              refine xi_goto (tgt := 18) dX1_holesOf_105 rfl ?_
              refine xgo_pick [0, 3, 4, 5, 7] rfl ?_
              rw [nI_1]
              first
                | exact ih hl _ (by rw [itr_s, ← hq, holS1 h47])
                | exact ih hl (_, _) (by rw [itr_s, ← hq, holS2 h47 h80])
                | exact ih hl (_, _) (by rw [itr_s, ← hq, holS3 h47 h80])
            · refine xi_iconst (v := 1) dX1_holesOf_83 (by decide) ?_
              refine xi_goto (tgt := 88) dX1_holesOf_84 rfl ?_
              refine xi_iadd dX1_holesOf_88 ?_
              refine xi_istore dX1_holesOf_89 (Nat.le_of_ble_eq_true rfl) ?_
              refine xi_lload dX1_holesOf_91 rfl ?_
              refine xi_lload dX1_holesOf_93 rfl ?_
              refine xi_ldc2_w dX1_holesOf_95 kX1_34 ?_
              refine xi_lxor dX1_holesOf_98 ?_
              refine xi_land dX1_holesOf_99 ?_
              refine xi_lstore dX1_holesOf_100 (Nat.le_of_ble_eq_true rfl) ?_
              refine xi_iinc (v := 1) dX1_holesOf_102 rfl (by decide) (Nat.le_of_ble_eq_true rfl) ?_
              refine xi_goto (tgt := 18) dX1_holesOf_105 rfl ?_
              refine xgo_pick [0, 3, 4, 5, 7] rfl ?_
              rw [nI_1]
              first
                | exact ih hl _ (by rw [itr_s, ← hq, holS1 h47])
                | exact ih hl (_, _) (by rw [itr_s, ← hq, holS2 h47 h80])
                | exact ih hl (_, _) (by rw [itr_s, ← hq, holS3 h47 h80])
    )
  refine xi_iconst (v := 0) dX1_holesOf_0 (by decide) ?_
  refine xi_istore dX1_holesOf_1 (Nat.le_of_ble_eq_true rfl) ?_
  refine xi_aload_n dX1_holesOf_3 rfl rfl ?_
  refine xi_getfield2 dX1_holesOf_4 fX1_21 hk.g ?_
  refine xi_lload_n dX1_holesOf_7 rfl rfl ?_
  refine xi_ldc2_w dX1_holesOf_8 kX1_34 ?_
  refine xi_lxor dX1_holesOf_11 ?_
  refine xi_land dX1_holesOf_12 ?_
  refine xi_lstore dX1_holesOf_13 (Nat.le_of_ble_eq_true rfl) ?_
  refine xi_iconst (v := 0) dX1_holesOf_15 (by decide) ?_
  refine xi_istore dX1_holesOf_16 (Nat.le_of_ble_eq_true rfl) ?_
  refine xgo_pick [0, 3, 4, 5, 7] rfl ?_
  exact loop 0 (Nat.zero_le _) (_, _) rfl

