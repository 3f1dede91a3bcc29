/-! Arrays.fill, bitCount, Picture -/
theorem c_fillI {k n : Nat} {v : Int32} (hg : (xG0 k).1 = 1) (hs : (xG0 k).2.1 = n) (hn : n < 1000) {A : xA} {B : xB} {D : xD} : does0 mJ7_fill_53178 [.ref k, .int v] A B D (eqQ none (filA A k n v) B D) nx := by
  refine does_go (by decide) rfl (Nat.le_of_ble_eq_true rfl) rfl ?_
  have loop := up_ind (n := n) (P := fun j => go0 mJ7_fill_53178 (eqQ none (filA A k n v) B D) nx 0 0 5 [(0, .ref k), (1, .int v), (2, .int (nI j)), (3, .int (nI n))] [] (filA A k j v) B D) (fun j hj ih => by
    refine xi_iload_n dJ7_fill_53178_5 rfl rfl ?_
    refine xi_iload_n dJ7_fill_53178_6 rfl rfl ?_
    refine xi_icmp_ge (tgt := 20) dJ7_fill_53178_7 rfl (fun h7 => ?_) (fun h7 => ?_)
    · have e : j = n := ge_eq hj (by omega) h7
      subst e
      refine go_ret (r := none) dJ7_fill_53178_20 (Nat.le_of_ble_eq_true rfl) (Nat.le_of_ble_eq_true rfl) ?_
      exact ⟨rfl, rfl, rfl, rfl⟩
    · have hl : j < n := nge_lt hj (by omega) h7
      refine xi_aload_n dJ7_fill_53178_10 rfl rfl ?_
      refine xi_iload_n dJ7_fill_53178_11 rfl rfl ?_
      refine xi_iload_n dJ7_fill_53178_12 rfl rfl ?_
      refine is dJ7_fill_53178_13 hg hs rfl (by omega) (by omega) ?_
      refine xi_iinc (v := 1) dJ7_fill_53178_14 rfl (by decide) (Nat.le_of_ble_eq_true rfl) ?_
      refine xi_goto (tgt := 5) dJ7_fill_53178_17 rfl ?_
      refine xgo_pick [0, 1, 2, 3] rfl ?_
      rw [nI_1, filA_1]
      exact ih hl
    )
  have l0 := loop 0 (Nat.zero_le _)
  rw [filA_0] at l0
  refine xi_iconst (v := 0) dJ7_fill_53178_0 (by decide) ?_
  refine xi_istore_n dJ7_fill_53178_1 rfl (Nat.le_of_ble_eq_true rfl) ?_
  refine xi_aload_n dJ7_fill_53178_2 rfl rfl ?_
  refine xi_arraylength dJ7_fill_53178_3 (Or.inl hg) hs rfl ?_
  refine xi_istore_n dJ7_fill_53178_4 rfl (Nat.le_of_ble_eq_true rfl) ?_
  refine xgo_pick [0, 1, 2, 3] rfl ?_
  exact l0
theorem c_fillL {k n : Nat} {v : Int64} (hg : (xG0 k).1 = 2) (hs : (xG0 k).2.1 = n) (hn : n < 1000) {A : xA} {B : xB} {D : xD} : does0 mJ7_fill_d0a16 [.ref k, .long v] A B D (eqQ none A (filB B k n v) D) nx := by
  refine does_go (by decide) rfl (Nat.le_of_ble_eq_true rfl) rfl ?_
  have loop := up_ind (n := n) (P := fun j => go0 mJ7_fill_d0a16 (eqQ none A (filB B k n v) D) nx 0 0 6 [(0, .ref k), (1, .long v), (3, .int (nI j)), (4, .int (nI n))] [] A (filB B k j v) D) (fun j hj ih => by
    refine xi_iload_n dJ7_fill_d0a16_6 rfl rfl ?_
    refine xi_iload dJ7_fill_d0a16_7 rfl ?_
    refine xi_icmp_ge (tgt := 22) dJ7_fill_d0a16_9 rfl (fun h9 => ?_) (fun h9 => ?_)
    · have e : j = n := ge_eq hj (by omega) h9
      subst e
      refine go_ret (r := none) dJ7_fill_d0a16_22 (Nat.le_of_ble_eq_true rfl) (Nat.le_of_ble_eq_true rfl) ?_
      exact ⟨rfl, rfl, rfl, rfl⟩
    · have hl : j < n := nge_lt hj (by omega) h9
      refine xi_aload_n dJ7_fill_d0a16_12 rfl rfl ?_
      refine xi_iload_n dJ7_fill_d0a16_13 rfl rfl ?_
      refine xi_lload_n dJ7_fill_d0a16_14 rfl rfl ?_
      refine ls dJ7_fill_d0a16_15 hg hs rfl (by omega) (by omega) ?_
      refine xi_iinc (v := 1) dJ7_fill_d0a16_16 rfl (by decide) (Nat.le_of_ble_eq_true rfl) ?_
      refine xi_goto (tgt := 6) dJ7_fill_d0a16_19 rfl ?_
      refine xgo_pick [0, 1, 3, 4] rfl ?_
      rw [nI_1, filB_1]
      exact ih hl
    )
  have l0 := loop 0 (Nat.zero_le _)
  rw [filB_0] at l0
  refine xi_iconst (v := 0) dJ7_fill_d0a16_0 (by decide) ?_
  refine xi_istore_n dJ7_fill_d0a16_1 rfl (Nat.le_of_ble_eq_true rfl) ?_
  refine xi_aload_n dJ7_fill_d0a16_2 rfl rfl ?_
  refine xi_arraylength dJ7_fill_d0a16_3 (Or.inr (Or.inl hg)) hs rfl ?_
  refine xi_istore dJ7_fill_d0a16_4 (Nat.le_of_ble_eq_true rfl) ?_
  refine xgo_pick [0, 1, 3, 4] rfl ?_
  exact l0
abbrev ushI (x : Int32) (y : Int32) : Int32 := (x.toUInt32 >>> (y.toUInt32 &&& Int32.toUInt32 31)).toInt32
abbrev ushL (x : Int64) (y : Int32) : Int64 := (x.toUInt64 >>> (y.toInt64.toUInt64 &&& Int64.toUInt64 63)).toInt64
abbrev shlL (x : Int64) (y : Int32) : Int64 := x <<< (y.toInt64 &&& 63)
abbrev shrL (x : Int64) (y : Int32) : Int64 := x >>> (y.toInt64 &&& 63)
def bcI (a : Int32) : Int32 :=
  let b := a - (ushI a 1 &&& 1431655765)
  let c := (b &&& 858993459) + (ushI b 2 &&& 858993459)
  let d := (c + ushI c 4) &&& 252645135
  let e := d + ushI d 8
  let f := e + ushI e 16
  f &&& 63
def bcL (a : Int64) : Int32 :=
  let b := a - (ushL a 1 &&& 6148914691236517205)
  let c := (b &&& 3689348814741910323) + (ushL b 2 &&& 3689348814741910323)
  let d := (c + ushL c 4) &&& 1085102592571150095
  let e := d + ushL d 8
  let f := e + ushL e 16
  let g := f + ushL f 32
  g.toInt32 &&& 127
theorem c_bcI {x : Int32} {A : xA} {B : xB} {D : xD} : does0 mJ6_bitCount_0f7a4 [.int x] A B D (eqQ (some (.int (bcI x))) A B D) nx := by
  refine does_go (by decide) rfl (Nat.le_of_ble_eq_true rfl) rfl ?_
  refine xi_iload_n dJ6_bitCount_0f7a4_0 rfl rfl ?_
  refine xi_iload_n dJ6_bitCount_0f7a4_1 rfl rfl ?_
  refine xi_iconst (v := 1) dJ6_bitCount_0f7a4_2 (by decide) ?_
  refine xi_iushr dJ6_bitCount_0f7a4_3 ?_
  refine xi_ldc_w dJ6_bitCount_0f7a4_4 kJ6_265 ?_
  refine xi_iand dJ6_bitCount_0f7a4_7 ?_
  refine xi_isub dJ6_bitCount_0f7a4_8 ?_
  refine xi_istore_n dJ6_bitCount_0f7a4_9 rfl (Nat.le_of_ble_eq_true rfl) ?_
  refine xi_iload_n dJ6_bitCount_0f7a4_10 rfl rfl ?_
  refine xi_ldc_w dJ6_bitCount_0f7a4_11 kJ6_266 ?_
  refine xi_iand dJ6_bitCount_0f7a4_14 ?_
  refine xi_iload_n dJ6_bitCount_0f7a4_15 rfl rfl ?_
  refine xi_iconst (v := 2) dJ6_bitCount_0f7a4_16 (by decide) ?_
  refine xi_iushr dJ6_bitCount_0f7a4_17 ?_
  refine xi_ldc_w dJ6_bitCount_0f7a4_18 kJ6_266 ?_
  refine xi_iand dJ6_bitCount_0f7a4_21 ?_
  refine xi_iadd dJ6_bitCount_0f7a4_22 ?_
  refine xi_istore_n dJ6_bitCount_0f7a4_23 rfl (Nat.le_of_ble_eq_true rfl) ?_
  refine xi_iload_n dJ6_bitCount_0f7a4_24 rfl rfl ?_
  refine xi_iload_n dJ6_bitCount_0f7a4_25 rfl rfl ?_
  refine xi_iconst (v := 4) dJ6_bitCount_0f7a4_26 (by decide) ?_
  refine xi_iushr dJ6_bitCount_0f7a4_27 ?_
  refine xi_iadd dJ6_bitCount_0f7a4_28 ?_
  refine xi_ldc_w dJ6_bitCount_0f7a4_29 kJ6_267 ?_
  refine xi_iand dJ6_bitCount_0f7a4_32 ?_
  refine xi_istore_n dJ6_bitCount_0f7a4_33 rfl (Nat.le_of_ble_eq_true rfl) ?_
  refine xi_iload_n dJ6_bitCount_0f7a4_34 rfl rfl ?_
  refine xi_iload_n dJ6_bitCount_0f7a4_35 rfl rfl ?_
  refine xi_bipush (v := 8) dJ6_bitCount_0f7a4_36 (by decide) ?_
  refine xi_iushr dJ6_bitCount_0f7a4_38 ?_
  refine xi_iadd dJ6_bitCount_0f7a4_39 ?_
  refine xi_istore_n dJ6_bitCount_0f7a4_40 rfl (Nat.le_of_ble_eq_true rfl) ?_
  refine xi_iload_n dJ6_bitCount_0f7a4_41 rfl rfl ?_
  refine xi_iload_n dJ6_bitCount_0f7a4_42 rfl rfl ?_
  refine xi_bipush (v := 16) dJ6_bitCount_0f7a4_43 (by decide) ?_
  refine xi_iushr dJ6_bitCount_0f7a4_45 ?_
  refine xi_iadd dJ6_bitCount_0f7a4_46 ?_
  refine xi_istore_n dJ6_bitCount_0f7a4_47 rfl (Nat.le_of_ble_eq_true rfl) ?_
  refine xi_iload_n dJ6_bitCount_0f7a4_48 rfl rfl ?_
  refine xi_bipush (v := 63) dJ6_bitCount_0f7a4_49 (by decide) ?_
  refine xi_iand dJ6_bitCount_0f7a4_51 ?_
  refine go_ret (r := some (.int _)) dJ6_bitCount_0f7a4_52 (Nat.le_of_ble_eq_true rfl) (Nat.le_of_ble_eq_true rfl) ?_
  exact ⟨rfl, rfl, rfl, rfl⟩
theorem c_bcL {x : Int64} {A : xA} {B : xB} {D : xD} : does0 mJ13_bitCount_95d88 [.long x] A B D (eqQ (some (.int (bcL x))) A B D) nx := by
  refine does_go (by decide) rfl (Nat.le_of_ble_eq_true rfl) rfl ?_
  refine xi_lload_n dJ13_bitCount_95d88_0 rfl rfl ?_
  refine xi_lload_n dJ13_bitCount_95d88_1 rfl rfl ?_
  refine xi_iconst (v := 1) dJ13_bitCount_95d88_2 (by decide) ?_
  refine xi_lushr dJ13_bitCount_95d88_3 ?_
  refine xi_ldc2_w dJ13_bitCount_95d88_4 kJ13_314 ?_
  refine xi_land dJ13_bitCount_95d88_7 ?_
  refine xi_lsub dJ13_bitCount_95d88_8 ?_
  refine xi_lstore_n dJ13_bitCount_95d88_9 rfl (Nat.le_of_ble_eq_true rfl) ?_
  refine xi_lload_n dJ13_bitCount_95d88_10 rfl rfl ?_
  refine xi_ldc2_w dJ13_bitCount_95d88_11 kJ13_316 ?_
  refine xi_land dJ13_bitCount_95d88_14 ?_
  refine xi_lload_n dJ13_bitCount_95d88_15 rfl rfl ?_
  refine xi_iconst (v := 2) dJ13_bitCount_95d88_16 (by decide) ?_
  refine xi_lushr dJ13_bitCount_95d88_17 ?_
  refine xi_ldc2_w dJ13_bitCount_95d88_18 kJ13_316 ?_
  refine xi_land dJ13_bitCount_95d88_21 ?_
  refine xi_ladd dJ13_bitCount_95d88_22 ?_
  refine xi_lstore_n dJ13_bitCount_95d88_23 rfl (Nat.le_of_ble_eq_true rfl) ?_
  refine xi_lload_n dJ13_bitCount_95d88_24 rfl rfl ?_
  refine xi_lload_n dJ13_bitCount_95d88_25 rfl rfl ?_
  refine xi_iconst (v := 4) dJ13_bitCount_95d88_26 (by decide) ?_
  refine xi_lushr dJ13_bitCount_95d88_27 ?_
  refine xi_ladd dJ13_bitCount_95d88_28 ?_
  refine xi_ldc2_w dJ13_bitCount_95d88_29 kJ13_318 ?_
  refine xi_land dJ13_bitCount_95d88_32 ?_
  refine xi_lstore_n dJ13_bitCount_95d88_33 rfl (Nat.le_of_ble_eq_true rfl) ?_
  refine xi_lload_n dJ13_bitCount_95d88_34 rfl rfl ?_
  refine xi_lload_n dJ13_bitCount_95d88_35 rfl rfl ?_
  refine xi_bipush (v := 8) dJ13_bitCount_95d88_36 (by decide) ?_
  refine xi_lushr dJ13_bitCount_95d88_38 ?_
  refine xi_ladd dJ13_bitCount_95d88_39 ?_
  refine xi_lstore_n dJ13_bitCount_95d88_40 rfl (Nat.le_of_ble_eq_true rfl) ?_
  refine xi_lload_n dJ13_bitCount_95d88_41 rfl rfl ?_
  refine xi_lload_n dJ13_bitCount_95d88_42 rfl rfl ?_
  refine xi_bipush (v := 16) dJ13_bitCount_95d88_43 (by decide) ?_
  refine xi_lushr dJ13_bitCount_95d88_45 ?_
  refine xi_ladd dJ13_bitCount_95d88_46 ?_
  refine xi_lstore_n dJ13_bitCount_95d88_47 rfl (Nat.le_of_ble_eq_true rfl) ?_
  refine xi_lload_n dJ13_bitCount_95d88_48 rfl rfl ?_
  refine xi_lload_n dJ13_bitCount_95d88_49 rfl rfl ?_
  refine xi_bipush (v := 32) dJ13_bitCount_95d88_50 (by decide) ?_
  refine xi_lushr dJ13_bitCount_95d88_52 ?_
  refine xi_ladd dJ13_bitCount_95d88_53 ?_
  refine xi_lstore_n dJ13_bitCount_95d88_54 rfl (Nat.le_of_ble_eq_true rfl) ?_
  refine xi_lload_n dJ13_bitCount_95d88_55 rfl rfl ?_
  refine xi_l2i dJ13_bitCount_95d88_56 ?_
  refine xi_bipush (v := 127) dJ13_bitCount_95d88_57 (by decide) ?_
  refine xi_iand dJ13_bitCount_95d88_59 ?_
  refine go_ret (r := some (.int _)) dJ13_bitCount_95d88_60 (Nat.le_of_ble_eq_true rfl) (Nat.le_of_ble_eq_true rfl) ?_
  exact ⟨rfl, rfl, rfl, rfl⟩
theorem c_size {k : Nat} (hk : isPic k) {A : xA} {B : xB} {D : xD} : does0 mX6_size [.ref k] A B D (eqQ (some (.int (A k 0 * A k 1))) A B D) nx := by
  refine does_go (by decide) rfl (Nat.le_of_ble_eq_true rfl) rfl ?_
  refine xi_aload_n dX6_size_0 rfl rfl ?_
  refine xi_getfield0 dX6_size_1 fX6_9 hk.g ?_
  refine xi_aload_n dX6_size_4 rfl rfl ?_
  refine xi_getfield0 dX6_size_5 fX6_15 hk.g ?_
  refine xi_imul dX6_size_8 ?_
  refine go_ret (r := some (.int _)) dX6_size_9 (Nat.le_of_ble_eq_true rfl) (Nat.le_of_ble_eq_true rfl) ?_
  exact ⟨rfl, rfl, rfl, rfl⟩
/-- the sum of the first values -/
def isum (f : Nat → Int32) : Nat → Int32
  | 0 => 0
  | n + 1 => isum f n + f n
theorem c_sumOfLevels {k n : Nat} (hk : isPic k) {A : xA} {B : xB} {D : xD} (hn : A k 0 * A k 1 = nI n) (hb : n ≤ 64) : does0 mX6_sumOfLevels [.ref k] A B D (eqQ (some (.int (isum (A (k + 1)) n))) A B D) nx := by
  refine does_go (by decide) rfl (Nat.le_of_ble_eq_true rfl) rfl ?_
  have loop := up_ind (n := n) (P := fun j => go0 mX6_sumOfLevels (eqQ (some (.int (isum (A (k + 1)) n))) A B D) nx 0 0 4 [(0, .ref k), (1, .int (isum (A (k + 1)) j)), (2, .int (nI j))] [] A B D) (fun j hj ih => by
    refine xi_iload_n dX6_sumOfLevels_4 rfl rfl ?_
    refine xi_aload_n dX6_sumOfLevels_5 rfl rfl ?_
    refine cV1 (av := []) dX6_sumOfLevels_6 lX6_53 rfl ⟨rfl, rfl⟩ rfl ⟨(Nat.le_of_ble_eq_true rfl), (Nat.le_of_ble_eq_true rfl)⟩ ⟨(Nat.le_of_ble_eq_true rfl), (Nat.le_of_ble_eq_true rfl)⟩ (Nat.le_of_ble_eq_true rfl) hk.g rfl rfl (c_size hk) ?_
    rw [hn]
    refine xi_icmp_ge (tgt := 27) dX6_sumOfLevels_9 rfl (fun h9 => ?_) (fun h9 => ?_)
    · have e : j = n := ge_eq hj (by omega) h9
      subst e
      refine xi_iload_n dX6_sumOfLevels_27 rfl rfl ?_
      refine go_ret (r := some (.int _)) dX6_sumOfLevels_28 (Nat.le_of_ble_eq_true rfl) (Nat.le_of_ble_eq_true rfl) ?_
      exact ⟨rfl, rfl, rfl, rfl⟩
    · have hl : j < n := nge_lt hj (by omega) h9
      refine xi_iload_n dX6_sumOfLevels_12 rfl rfl ?_
      refine xi_aload_n dX6_sumOfLevels_13 rfl rfl ?_
      refine xi_getfield3 dX6_sumOfLevels_14 fX6_18 hk.g hk.r2 ?_
      refine xi_iload_n dX6_sumOfLevels_17 rfl rfl ?_
      refine ia dX6_sumOfLevels_18 hk.g1 hk.s1 rfl (by omega) (Nat.le_of_ble_eq_true rfl) ?_
      refine xi_iadd dX6_sumOfLevels_19 ?_
      refine xi_istore_n dX6_sumOfLevels_20 rfl (Nat.le_of_ble_eq_true rfl) ?_
      refine xi_iinc (v := 1) dX6_sumOfLevels_21 rfl (by decide) (Nat.le_of_ble_eq_true rfl) ?_
      refine xi_goto (tgt := 4) dX6_sumOfLevels_24 rfl ?_
      refine xgo_pick [0, 1, 2] rfl ?_
      rw [nI_1]
      exact ih hl
    )
  refine xi_iconst (v := 0) dX6_sumOfLevels_0 (by decide) ?_
  refine xi_istore_n dX6_sumOfLevels_1 rfl (Nat.le_of_ble_eq_true rfl) ?_
  refine xi_iconst (v := 0) dX6_sumOfLevels_2 (by decide) ?_
  refine xi_istore_n dX6_sumOfLevels_3 rfl (Nat.le_of_ble_eq_true rfl) ?_
  refine xgo_pick [0, 1, 2] rfl ?_
  exact loop 0 (Nat.zero_le _)
/-- which levels there are, as bits -/
def lvb (f : Nat → Int32) : Nat → Int32
  | 0 => 0
  | n + 1 => lvb f n ||| (1 <<< (f n &&& 31))
theorem c_differentLevels {k n : Nat} (hk : isPic k) {A : xA} {B : xB} {D : xD} (hn : A k 0 * A k 1 = nI n) (hb : n ≤ 64) : does0 mX6_differentLevels [.ref k] A B D (eqQ (some (.int (bcI (lvb (A (k + 1)) n)))) A B D) nx := by
  refine does_go (by decide) rfl (Nat.le_of_ble_eq_true rfl) rfl ?_
  have loop := up_ind (n := n) (P := fun j => go0 mX6_differentLevels (eqQ (some (.int (bcI (lvb (A (k + 1)) n)))) A B D) nx 0 0 4 [(0, .ref k), (1, .int (lvb (A (k + 1)) j)), (2, .int (nI j))] [] A B D) (fun j hj ih => by
    refine xi_iload_n dX6_differentLevels_4 rfl rfl ?_
    refine xi_aload_n dX6_differentLevels_5 rfl rfl ?_
    refine cV1 (av := []) dX6_differentLevels_6 lX6_53 rfl ⟨rfl, rfl⟩ rfl ⟨(Nat.le_of_ble_eq_true rfl), (Nat.le_of_ble_eq_true rfl)⟩ ⟨(Nat.le_of_ble_eq_true rfl), (Nat.le_of_ble_eq_true rfl)⟩ (Nat.le_of_ble_eq_true rfl) hk.g rfl rfl (c_size hk) ?_
    rw [hn]
    refine xi_icmp_ge (tgt := 29) dX6_differentLevels_9 rfl (fun h9 => ?_) (fun h9 => ?_)
    · have e : j = n := ge_eq hj (by omega) h9
      subst e
      refine xi_iload_n dX6_differentLevels_29 rfl rfl ?_
      refine cS1 (av := [_]) dX6_differentLevels_30 lX6_57 rfl ⟨rfl, rfl⟩ rfl ⟨(Nat.le_of_ble_eq_true rfl), (Nat.le_of_ble_eq_true rfl)⟩ ⟨(Nat.le_of_ble_eq_true rfl), (Nat.le_of_ble_eq_true rfl)⟩ (Nat.le_of_ble_eq_true rfl) (c_bcI) ?_
      refine go_ret (r := some (.int _)) dX6_differentLevels_33 (Nat.le_of_ble_eq_true rfl) (Nat.le_of_ble_eq_true rfl) ?_
      exact ⟨rfl, rfl, rfl, rfl⟩
    · have hl : j < n := nge_lt hj (by omega) h9
      refine xi_iload_n dX6_differentLevels_12 rfl rfl ?_
      refine xi_iconst (v := 1) dX6_differentLevels_13 (by decide) ?_
      refine xi_aload_n dX6_differentLevels_14 rfl rfl ?_
      refine xi_getfield3 dX6_differentLevels_15 fX6_18 hk.g hk.r2 ?_
      refine xi_iload_n dX6_differentLevels_18 rfl rfl ?_
      refine ia dX6_differentLevels_19 hk.g1 hk.s1 rfl (by omega) (Nat.le_of_ble_eq_true rfl) ?_
      refine xi_ishl dX6_differentLevels_20 ?_
      refine xi_ior dX6_differentLevels_21 ?_
      refine xi_istore_n dX6_differentLevels_22 rfl (Nat.le_of_ble_eq_true rfl) ?_
      refine xi_iinc (v := 1) dX6_differentLevels_23 rfl (by decide) (Nat.le_of_ble_eq_true rfl) ?_
      refine xi_goto (tgt := 4) dX6_differentLevels_26 rfl ?_
      refine xgo_pick [0, 1, 2] rfl ?_
      rw [nI_1]
      exact ih hl
    )
  refine xi_iconst (v := 0) dX6_differentLevels_0 (by decide) ?_
  refine xi_istore_n dX6_differentLevels_1 rfl (Nat.le_of_ble_eq_true rfl) ?_
  refine xi_iconst (v := 0) dX6_differentLevels_2 (by decide) ?_
  refine xi_istore_n dX6_differentLevels_3 rfl (Nat.le_of_ble_eq_true rfl) ?_
  refine xgo_pick [0, 1, 2] rfl ?_
  exact loop 0 (Nat.zero_le _)
def blankA (A : xA) (k : Nat) (c r : Int32) : xA := filA (filA (updA (updA A k 0 c) k 1 r) (k + 1) 64 0) (k + 2) 64 0
theorem c_blank {k : Nat} (hk : isPic k) {c r : Int32} {A : xA} {B : xB} {D : xD} : does0 mX6_blank [.ref k, .int c, .int r] A B D (eqQ none (blankA A k c r) B D) nx := by
  refine does_go (by decide) rfl (Nat.le_of_ble_eq_true rfl) rfl ?_
  refine xi_aload_n dX6_blank_0 rfl rfl ?_
  refine xi_iload_n dX6_blank_1 rfl rfl ?_
  refine xi_putfield0 dX6_blank_2 fX6_9 hk.g pX6_9 ?_
  refine xi_aload_n dX6_blank_5 rfl rfl ?_
  refine xi_iload_n dX6_blank_6 rfl rfl ?_
  refine xi_putfield0 dX6_blank_7 fX6_15 hk.g pX6_15 ?_
  refine xi_aload_n dX6_blank_10 rfl rfl ?_
  refine xi_getfield3 dX6_blank_11 fX6_18 hk.g hk.r2 ?_
  refine xi_iconst (v := 0) dX6_blank_14 (by decide) ?_
  refine cS1 (av := [_, _]) dX6_blank_15 lX6_25 rfl ⟨rfl, rfl⟩ rfl ⟨(Nat.le_of_ble_eq_true rfl), (Nat.le_of_ble_eq_true rfl)⟩ ⟨(Nat.le_of_ble_eq_true rfl), (Nat.le_of_ble_eq_true rfl)⟩ (Nat.le_of_ble_eq_true rfl) (c_fillI hk.g1 hk.s1 (by decide)) ?_
  refine xi_aload_n dX6_blank_18 rfl rfl ?_
  refine xi_getfield3 dX6_blank_19 fX6_22 hk.g hk.r3 ?_
  refine xi_iconst (v := 0) dX6_blank_22 (by decide) ?_
  refine cS1 (av := [_, _]) dX6_blank_23 lX6_25 rfl ⟨rfl, rfl⟩ rfl ⟨(Nat.le_of_ble_eq_true rfl), (Nat.le_of_ble_eq_true rfl)⟩ ⟨(Nat.le_of_ble_eq_true rfl), (Nat.le_of_ble_eq_true rfl)⟩ (Nat.le_of_ble_eq_true rfl) (c_fillI hk.g2 hk.s2 (by decide)) ?_
  refine go_ret (r := none) dX6_blank_26 (Nat.le_of_ble_eq_true rfl) (Nat.le_of_ble_eq_true rfl) ?_
  exact ⟨rfl, rfl, rfl, rfl⟩
def copyA (A : xA) (k k2 : Nat) : xA := cpA (cpA (updA (updA A k 0 (A k2 0)) k 1 (A k2 1)) (k2 + 1) (k + 1)) (k2 + 2) (k + 2)
theorem c_copyFrom {k k2 : Nat} (hk : isPic k) (hk2 : isPic k2) (hne : k2 ≠ k) {A : xA} {B : xB} {D : xD} : does0 mX6_copyFrom [.ref k, .ref k2] A B D (eqQ none (copyA A k k2) B D) nx := by
  refine does_go (by decide) rfl (Nat.le_of_ble_eq_true rfl) rfl ?_
  refine xi_aload_n dX6_copyFrom_0 rfl rfl ?_
  refine xi_aload_n dX6_copyFrom_1 rfl rfl ?_
  refine xi_getfield0 dX6_copyFrom_2 fX6_9 hk2.g ?_
  refine xi_putfield0 dX6_copyFrom_5 fX6_9 hk.g pX6_9 ?_
  refine xi_aload_n dX6_copyFrom_8 rfl rfl ?_
  refine xi_aload_n dX6_copyFrom_9 rfl rfl ?_
  refine xi_getfield0 dX6_copyFrom_10 fX6_15 hk2.g ?_
  rw [updA_n A _ _ hne]
  refine xi_putfield0 dX6_copyFrom_13 fX6_15 hk.g pX6_15 ?_
  refine xi_aload_n dX6_copyFrom_16 rfl rfl ?_
  refine xi_getfield3 dX6_copyFrom_17 fX6_18 hk2.g hk2.r2 ?_
  refine xi_iconst (v := 0) dX6_copyFrom_20 (by decide) ?_
  refine xi_aload_n dX6_copyFrom_21 rfl rfl ?_
  refine xi_getfield3 dX6_copyFrom_22 fX6_18 hk.g hk.r2 ?_
  refine xi_iconst (v := 0) dX6_copyFrom_25 (by decide) ?_
  refine xi_bipush (v := 64) dX6_copyFrom_26 (by decide) ?_
  refine xi_copy dX6_copyFrom_28 eX6_31 ⟨(Nat.le_of_ble_eq_true rfl), (Nat.le_of_ble_eq_true rfl)⟩ hk2.g1 hk2.s1 hk.g1 hk.s1 ?_
  refine xi_aload_n dX6_copyFrom_31 rfl rfl ?_
  refine xi_getfield3 dX6_copyFrom_32 fX6_22 hk2.g hk2.r3 ?_
  refine xi_iconst (v := 0) dX6_copyFrom_35 (by decide) ?_
  refine xi_aload_n dX6_copyFrom_36 rfl rfl ?_
  refine xi_getfield3 dX6_copyFrom_37 fX6_22 hk.g hk.r3 ?_
  refine xi_iconst (v := 0) dX6_copyFrom_40 (by decide) ?_
  refine xi_bipush (v := 64) dX6_copyFrom_41 (by decide) ?_
  refine xi_copy dX6_copyFrom_43 eX6_31 ⟨(Nat.le_of_ble_eq_true rfl), (Nat.le_of_ble_eq_true rfl)⟩ hk2.g2 hk2.s2 hk.g2 hk.s2 ?_
  refine go_ret (r := none) dX6_copyFrom_46 (Nat.le_of_ble_eq_true rfl) (Nat.le_of_ble_eq_true rfl) ?_
  exact ⟨rfl, rfl, rfl, rfl⟩
theorem c_rowOf {k : Nat} (hk : isPic k) {x : Int32} {A : xA} {B : xB} {D : xD} (hc : 1 ≤ A k 0) : does0 mX6_rowOf [.ref k, .int x] A B D (eqQ (some (.int (x / A k 0))) A B D) nx := by
  refine does_go (by decide) rfl (Nat.le_of_ble_eq_true rfl) rfl ?_
  refine xi_aload_n dX6_rowOf_0 rfl rfl ?_
  refine xi_getfield0 dX6_rowOf_1 fX6_9 hk.g ?_
  refine xi_iconst (v := 1) dX6_rowOf_4 (by decide) ?_
  refine xi_icmp_ge (tgt := 12) dX6_rowOf_5 rfl (fun h5 => ?_) (fun h5 => ?_)
  · refine xi_iload_n dX6_rowOf_12 rfl rfl ?_
    refine xi_aload_n dX6_rowOf_13 rfl rfl ?_
    refine xi_getfield0 dX6_rowOf_14 fX6_9 hk.g ?_
    refine xi_idiv dX6_rowOf_17 (fun q => by rw [q] at hc; exact absurd hc (by decide)) ?_
    refine go_ret (r := some (.int _)) dX6_rowOf_18 (Nat.le_of_ble_eq_true rfl) (Nat.le_of_ble_eq_true rfl) ?_
    exact ⟨rfl, rfl, rfl, rfl⟩
  · exact absurd hc h5
theorem c_columnOf {k : Nat} (hk : isPic k) {x : Int32} {A : xA} {B : xB} {D : xD} (hc : 1 ≤ A k 0) : does0 mX6_columnOf [.ref k, .int x] A B D (eqQ (some (.int (x - x / A k 0 * A k 0))) A B D) nx := by
  refine does_go (by decide) rfl (Nat.le_of_ble_eq_true rfl) rfl ?_
  refine xi_iload_n dX6_columnOf_0 rfl rfl ?_
  refine xi_aload_n dX6_columnOf_1 rfl rfl ?_
  refine xi_iload_n dX6_columnOf_2 rfl rfl ?_
  refine cV1 (av := [_]) dX6_columnOf_3 lX6_37 rfl ⟨rfl, rfl⟩ rfl ⟨(Nat.le_of_ble_eq_true rfl), (Nat.le_of_ble_eq_true rfl)⟩ ⟨(Nat.le_of_ble_eq_true rfl), (Nat.le_of_ble_eq_true rfl)⟩ (Nat.le_of_ble_eq_true rfl) hk.g rfl rfl (c_rowOf hk hc) ?_
  refine xi_aload_n dX6_columnOf_6 rfl rfl ?_
  refine xi_getfield0 dX6_columnOf_7 fX6_9 hk.g ?_
  refine xi_imul dX6_columnOf_10 ?_
  refine xi_isub dX6_columnOf_11 ?_
  refine go_ret (r := some (.int _)) dX6_columnOf_12 (Nat.le_of_ble_eq_true rfl) (Nat.le_of_ble_eq_true rfl) ?_
  exact ⟨rfl, rfl, rfl, rfl⟩

