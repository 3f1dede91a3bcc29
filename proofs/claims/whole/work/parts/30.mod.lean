/-! the model (cell 76): small methods, saving, images -/
theorem setA_get (A : xA) (k : Nat) (f : Nat → Int32) (k' j : Nat) : setA A k f k' j = if k' = k then f j else A k' j := by unfold setA; split <;> rfl
theorem setB_get (A : xB) (k : Nat) (f : Nat → Int64) (k' j : Nat) : setB A k f k' j = if k' = k then f j else A k' j := by unfold setB; split <;> rfl
theorem filA_get (A : xA) (k n : Nat) (v : Int32) (k' j : Nat) : filA A k n v k' j = if k' = k ∧ j < n then v else A k' j := by unfold filA; rw [setA_get]; by_cases h : k' = k <;> simp [h]
theorem m_thrown {A : xA} {B : xB} {D : xD} : does0 mX8_thrown [.ref 76] A B D (eqQ (some (.int (A 76 0))) A B D) nx := by
  refine does_go (by decide) rfl (Nat.le_of_ble_eq_true rfl) rfl ?_
  refine xi_aload_n dX8_thrown_0 rfl rfl ?_
  refine xi_getfield0 dX8_thrown_1 fX8_73 g76 ?_
  refine go_ret (r := some (.int _)) dX8_thrown_4 (Nat.le_of_ble_eq_true rfl) (Nat.le_of_ble_eq_true rfl) ?_
  exact ⟨rfl, rfl, rfl, rfl⟩
def wiV (v l h : Int32) : Int32 := if v < l then 0 else if h < v then 0 else 1
theorem wi_ne (v l h : Int32) : ¬ wiV v l h = 0 ↔ btw v l h := by
  unfold wiV btw
  by_cases h1 : v < l <;> by_cases h2 : h < v <;> simp [h1, h2]
theorem wi_eq (v l h : Int32) : wiV v l h = 0 ↔ ¬ btw v l h := by
  rw [← wi_ne]; exact Classical.not_not.symm
theorem wi01 (v l h : Int32) : wiV v l h = 0 ∨ wiV v l h = 1 := by
  unfold wiV
  by_cases h1 : v < l <;> by_cases h2 : h < v <;> simp [h1, h2]
theorem m_within {v l h : Int32} {A : xA} {B : xB} {D : xD} : does0 mX8_within [.int v, .int l, .int h] A B D (eqQ (some (.int (wiV v l h))) A B D) nx := by
  refine does_go (by decide) rfl (Nat.le_of_ble_eq_true rfl) rfl ?_
  refine xi_iload_n dX8_within_0 rfl rfl ?_
  refine xi_iload_n dX8_within_1 rfl rfl ?_
  refine xi_icmp_lt (tgt := 14) dX8_within_2 rfl (fun h2 => ?_) (fun h2 => ?_)
  · refine xi_iconst (v := 0) dX8_within_14 (by decide) ?_
    refine go_ret (r := some (.int _)) ⟨dX8_within_15, (by first | exact Or.inl rfl | exact Or.inr rfl)⟩ (Nat.le_of_ble_eq_true rfl) (Nat.le_of_ble_eq_true rfl) ?_
    exact ⟨by unfold wiV; simp only [*, if_true, if_false], rfl, rfl, rfl⟩
  · refine xi_iload_n dX8_within_5 rfl rfl ?_
    refine xi_iload_n dX8_within_6 rfl rfl ?_
    refine xi_icmp_gt (tgt := 14) dX8_within_7 rfl (fun h7 => ?_) (fun h7 => ?_)
    · refine xi_iconst (v := 0) dX8_within_14 (by decide) ?_
      refine go_ret (r := some (.int _)) ⟨dX8_within_15, (by first | exact Or.inl rfl | exact Or.inr rfl)⟩ (Nat.le_of_ble_eq_true rfl) (Nat.le_of_ble_eq_true rfl) ?_
      exact ⟨by unfold wiV; simp only [*, if_true, if_false], rfl, rfl, rfl⟩
    · refine xi_iconst (v := 1) dX8_within_10 (by decide) ?_
      refine xi_goto (tgt := 15) dX8_within_11 rfl ?_
      refine go_ret (r := some (.int _)) ⟨dX8_within_15, (by first | exact Or.inl rfl | exact Or.inr rfl)⟩ (Nat.le_of_ble_eq_true rfl) (Nat.le_of_ble_eq_true rfl) ?_
      exact ⟨by unfold wiV; simp only [*, if_true, if_false], rfl, rfl, rfl⟩
def apV (a b : Int32) : Int32 := if a ≤ b then b - a else a - b
theorem m_apart {a b : Int32} {A : xA} {B : xB} {D : xD} : does0 mX8_apart [.int a, .int b] A B D (eqQ (some (.int (apV a b))) A B D) nx := by
  refine does_go (by decide) rfl (Nat.le_of_ble_eq_true rfl) rfl ?_
  refine xi_iload_n dX8_apart_0 rfl rfl ?_
  refine xi_iload_n dX8_apart_1 rfl rfl ?_
  refine xi_icmp_le (tgt := 11) dX8_apart_2 rfl (fun h2 => ?_) (fun h2 => ?_)
  · refine xi_iload_n dX8_apart_11 rfl rfl ?_
    refine xi_iload_n dX8_apart_12 rfl rfl ?_
    refine xi_isub dX8_apart_13 ?_
    refine go_ret (r := some (.int _)) dX8_apart_14 (Nat.le_of_ble_eq_true rfl) (Nat.le_of_ble_eq_true rfl) ?_
    exact ⟨by unfold apV; simp only [*, if_true, if_false], rfl, rfl, rfl⟩
  · refine xi_iload_n dX8_apart_5 rfl rfl ?_
    refine xi_iload_n dX8_apart_6 rfl rfl ?_
    refine xi_isub dX8_apart_7 ?_
    refine xi_goto (tgt := 14) dX8_apart_8 rfl ?_
    refine go_ret (r := some (.int _)) dX8_apart_14 (Nat.le_of_ble_eq_true rfl) (Nat.le_of_ble_eq_true rfl) ?_
    exact ⟨by unfold apV; simp only [*, if_true, if_false], rfl, rfl, rfl⟩
def grV (a b : Int32) : Int32 := if a ≤ b then b else a
theorem m_greater {a b : Int32} {A : xA} {B : xB} {D : xD} : does0 mX8_greater [.int a, .int b] A B D (eqQ (some (.int (grV a b))) A B D) nx := by
  refine does_go (by decide) rfl (Nat.le_of_ble_eq_true rfl) rfl ?_
  refine xi_iload_n dX8_greater_0 rfl rfl ?_
  refine xi_iload_n dX8_greater_1 rfl rfl ?_
  refine xi_icmp_le (tgt := 9) dX8_greater_2 rfl (fun h2 => ?_) (fun h2 => ?_)
  · refine xi_iload_n dX8_greater_9 rfl rfl ?_
    refine go_ret (r := some (.int _)) dX8_greater_10 (Nat.le_of_ble_eq_true rfl) (Nat.le_of_ble_eq_true rfl) ?_
    exact ⟨by unfold grV; simp only [*, if_true, if_false], rfl, rfl, rfl⟩
  · refine xi_iload_n dX8_greater_5 rfl rfl ?_
    refine xi_goto (tgt := 10) dX8_greater_6 rfl ?_
    refine go_ret (r := some (.int _)) dX8_greater_10 (Nat.le_of_ble_eq_true rfl) (Nat.le_of_ble_eq_true rfl) ?_
    exact ⟨by unfold grV; simp only [*, if_true, if_false], rfl, rfl, rfl⟩
theorem m_pixels {A : xA} {B : xB} {D : xD} : does0 mX8_pixels [.ref 76] A B D (eqQ (some (.int (A 76 1 * A 76 2))) A B D) nx := by
  refine does_go (by decide) rfl (Nat.le_of_ble_eq_true rfl) rfl ?_
  refine xi_aload_n dX8_pixels_0 rfl rfl ?_
  refine xi_getfield0 dX8_pixels_1 fX8_7 g76 ?_
  refine xi_aload_n dX8_pixels_4 rfl rfl ?_
  refine xi_getfield0 dX8_pixels_5 fX8_13 g76 ?_
  refine xi_imul dX8_pixels_8 ?_
  refine go_ret (r := some (.int _)) dX8_pixels_9 (Nat.le_of_ble_eq_true rfl) (Nat.le_of_ble_eq_true rfl) ?_
  exact ⟨rfl, rfl, rfl, rfl⟩
theorem m_isPixel {i : Int32} {A : xA} {B : xB} {D : xD} : does0 mX8_isPixel [.ref 76, .int i] A B D (eqQ (some (.int (wiV i 0 (A 76 1 * A 76 2 - 1)))) A B D) nx := by
  refine does_go (by decide) rfl (Nat.le_of_ble_eq_true rfl) rfl ?_
  refine xi_iload_n dX8_isPixel_0 rfl rfl ?_
  refine xi_iconst (v := 0) dX8_isPixel_1 (by decide) ?_
  refine xi_aload_n dX8_isPixel_2 rfl rfl ?_
  refine cV1 (av := []) dX8_isPixel_3 lX8_76 rfl ⟨rfl, rfl⟩ rfl ⟨(Nat.le_of_ble_eq_true rfl), (Nat.le_of_ble_eq_true rfl)⟩ ⟨(Nat.le_of_ble_eq_true rfl), (Nat.le_of_ble_eq_true rfl)⟩ (Nat.le_of_ble_eq_true rfl) g76 rfl rfl (m_pixels) ?_
  refine xi_iconst (v := 1) dX8_isPixel_6 (by decide) ?_
  refine xi_isub dX8_isPixel_7 ?_
  refine cS1 (av := [_, _, _]) dX8_isPixel_8 lX8_80 rfl ⟨rfl, rfl⟩ rfl ⟨(Nat.le_of_ble_eq_true rfl), (Nat.le_of_ble_eq_true rfl)⟩ ⟨(Nat.le_of_ble_eq_true rfl), (Nat.le_of_ble_eq_true rfl)⟩ (Nat.le_of_ble_eq_true rfl) (m_within) ?_
  refine go_ret (r := some (.int _)) ⟨dX8_isPixel_11, (wi01 _ _ _)⟩ (Nat.le_of_ble_eq_true rfl) (Nat.le_of_ble_eq_true rfl) ?_
  exact ⟨rfl, rfl, rfl, rfl⟩
def hasM (s : Int64) (p : Int32) : Int32 := if (shrL s p &&& 1) = 1 then 1 else 0
theorem m_has {s : Int64} {p : Int32} {A : xA} {B : xB} {D : xD} : does0 mX8_has [.long s, .int p] A B D (eqQ (some (.int (hasM s p))) A B D) nx := by
  refine does_go (by decide) rfl (Nat.le_of_ble_eq_true rfl) rfl ?_
  refine xi_lload_n dX8_has_0 rfl rfl ?_
  refine xi_iload_n dX8_has_1 rfl rfl ?_
  refine xi_lshr dX8_has_2 ?_
  refine xi_lconst (v := 1) dX8_has_3 (by decide) ?_
  refine xi_land dX8_has_4 ?_
  refine xi_lconst (v := 1) dX8_has_5 (by decide) ?_
  refine xi_lcmpne (tgt := 14) dX8_has_6 dX8_has_7 rfl (fun h7 => ?_) (fun h7 => ?_)
  · refine xi_iconst (v := 0) dX8_has_14 (by decide) ?_
    refine go_ret (r := some (.int _)) ⟨dX8_has_15, (by first | exact Or.inl rfl | exact Or.inr rfl)⟩ (Nat.le_of_ble_eq_true rfl) (Nat.le_of_ble_eq_true rfl) ?_
    exact ⟨by unfold hasM; simp only [*, if_true, if_false], rfl, rfl, rfl⟩
  · refine xi_iconst (v := 1) dX8_has_10 (by decide) ?_
    refine xi_goto (tgt := 15) dX8_has_11 rfl ?_
    refine go_ret (r := some (.int _)) ⟨dX8_has_15, (by first | exact Or.inl rfl | exact Or.inr rfl)⟩ (Nat.le_of_ble_eq_true rfl) (Nat.le_of_ble_eq_true rfl) ?_
    exact ⟨by unfold hasM; simp only [*, if_true, if_false], rfl, rfl, rfl⟩
theorem m_rankOf {v : Int32} {A : xA} {B : xB} {D : xD} : does0 mX8_rankOf [.ref 76, .int v] A B D (eqQ (some (.int (trn v (A 76 5)))) A B D) nx := by
  refine does_go (by decide) rfl (Nat.le_of_ble_eq_true rfl) rfl ?_
  refine xi_aload_n dX8_rankOf_0 rfl rfl ?_
  refine xi_getfield1 dX8_rankOf_1 fX8_84 g76 ?_
  refine xi_if_eq (tgt := 14) dX8_rankOf_4 rfl (fun h4 => ?_) (fun h4 => ?_)
  · refine xi_iload_n dX8_rankOf_14 rfl rfl ?_
    refine go_ret (r := some (.int _)) dX8_rankOf_15 (Nat.le_of_ble_eq_true rfl) (Nat.le_of_ble_eq_true rfl) ?_
    exact ⟨by unfold trn; simp only [*, if_true, if_false], rfl, rfl, rfl⟩
  · refine xi_bipush (v := 15) dX8_rankOf_7 (by decide) ?_
    refine xi_iload_n dX8_rankOf_9 rfl rfl ?_
    refine xi_isub dX8_rankOf_10 ?_
    refine xi_goto (tgt := 15) dX8_rankOf_11 rfl ?_
    refine go_ret (r := some (.int _)) dX8_rankOf_15 (Nat.le_of_ble_eq_true rfl) (Nat.le_of_ble_eq_true rfl) ?_
    exact ⟨by unfold trn; simp only [*, if_true, if_false], rfl, rfl, rfl⟩
def allM (n : Int32) : Int64 := if n = 64 then -1 else shlL 1 n - 1
theorem m_all {A : xA} {B : xB} {D : xD} : does0 mX8_all [.ref 76] A B D (eqQ (some (.long (allM (A 76 1 * A 76 2)))) A B D) nx := by
  refine does_go (by decide) rfl (Nat.le_of_ble_eq_true rfl) rfl ?_
  refine xi_aload_n dX8_all_0 rfl rfl ?_
  refine cV1 (av := []) dX8_all_1 lX8_76 rfl ⟨rfl, rfl⟩ rfl ⟨(Nat.le_of_ble_eq_true rfl), (Nat.le_of_ble_eq_true rfl)⟩ ⟨(Nat.le_of_ble_eq_true rfl), (Nat.le_of_ble_eq_true rfl)⟩ (Nat.le_of_ble_eq_true rfl) g76 rfl rfl (m_pixels) ?_
  refine xi_bipush (v := 64) dX8_all_4 (by decide) ?_
  refine xi_icmpne (tgt := 15) dX8_all_6 rfl (fun h6 => ?_) (fun h6 => ?_)
  · refine xi_lconst (v := 1) dX8_all_15 (by decide) ?_
    refine xi_aload_n dX8_all_16 rfl rfl ?_
    refine cV1 (av := []) dX8_all_17 lX8_76 rfl ⟨rfl, rfl⟩ rfl ⟨(Nat.le_of_ble_eq_true rfl), (Nat.le_of_ble_eq_true rfl)⟩ ⟨(Nat.le_of_ble_eq_true rfl), (Nat.le_of_ble_eq_true rfl)⟩ (Nat.le_of_ble_eq_true rfl) g76 rfl rfl (m_pixels) ?_
    refine xi_lshl dX8_all_20 ?_
    refine xi_lconst (v := 1) dX8_all_21 (by decide) ?_
    refine xi_lsub dX8_all_22 ?_
    refine go_ret (r := some (.long _)) dX8_all_23 (Nat.le_of_ble_eq_true rfl) (Nat.le_of_ble_eq_true rfl) ?_
    exact ⟨by unfold allM; simp only [*, if_true, if_false], rfl, rfl, rfl⟩
  · refine xi_ldc2_w dX8_all_9 kX8_88 ?_
    refine xi_goto (tgt := 23) dX8_all_12 rfl ?_
    refine go_ret (r := some (.long _)) dX8_all_23 (Nat.le_of_ble_eq_true rfl) (Nat.le_of_ble_eq_true rfl) ?_
    exact ⟨by unfold allM; simp only [*, if_true, if_false], rfl, rfl, rfl⟩
def btM (v a b : Int32) : Int32 := if b ≤ a then wiV v b a else wiV v a b
theorem m_isBetween {v a b : Int32} {A : xA} {B : xB} {D : xD} : does0 mX8_isBetween [.int v, .int a, .int b] A B D (eqQ (some (.int (btM v a b))) A B D) nx := by
  refine does_go (by decide) rfl (Nat.le_of_ble_eq_true rfl) rfl ?_
  refine xi_iload_n dX8_isBetween_0 rfl rfl ?_
  refine xi_iload_n dX8_isBetween_1 rfl rfl ?_
  refine xi_icmp_ge (tgt := 14) dX8_isBetween_2 rfl (fun h2 => ?_) (fun h2 => ?_)
  · refine xi_iload_n dX8_isBetween_14 rfl rfl ?_
    refine xi_iload_n dX8_isBetween_15 rfl rfl ?_
    refine xi_iload_n dX8_isBetween_16 rfl rfl ?_
    refine cS1 (av := [_, _, _]) dX8_isBetween_17 lX8_80 rfl ⟨rfl, rfl⟩ rfl ⟨(Nat.le_of_ble_eq_true rfl), (Nat.le_of_ble_eq_true rfl)⟩ ⟨(Nat.le_of_ble_eq_true rfl), (Nat.le_of_ble_eq_true rfl)⟩ (Nat.le_of_ble_eq_true rfl) (m_within) ?_
    refine go_ret (r := some (.int _)) ⟨dX8_isBetween_20, (wi01 _ _ _)⟩ (Nat.le_of_ble_eq_true rfl) (Nat.le_of_ble_eq_true rfl) ?_
    exact ⟨by unfold btM; simp only [*, if_true, if_false], rfl, rfl, rfl⟩
  · refine xi_iload_n dX8_isBetween_5 rfl rfl ?_
    refine xi_iload_n dX8_isBetween_6 rfl rfl ?_
    refine xi_iload_n dX8_isBetween_7 rfl rfl ?_
    refine cS1 (av := [_, _, _]) dX8_isBetween_8 lX8_80 rfl ⟨rfl, rfl⟩ rfl ⟨(Nat.le_of_ble_eq_true rfl), (Nat.le_of_ble_eq_true rfl)⟩ ⟨(Nat.le_of_ble_eq_true rfl), (Nat.le_of_ble_eq_true rfl)⟩ (Nat.le_of_ble_eq_true rfl) (m_within) ?_
    refine xi_goto (tgt := 20) dX8_isBetween_11 rfl ?_
    refine go_ret (r := some (.int _)) ⟨dX8_isBetween_20, (wi01 _ _ _)⟩ (Nat.le_of_ble_eq_true rfl) (Nat.le_of_ble_eq_true rfl) ?_
    exact ⟨by unfold btM; simp only [*, if_true, if_false], rfl, rfl, rfl⟩
/-- the saved images moved down: the first k have come -/
def sh2 (f : Nat → Int32) (k j : Nat) : Int32 := if j < 2 * k then f (j + 2) else f j
def sh64 (f : Nat → Int32) (q j : Nat) : Int32 := if j < q then f (j + 64) else f j
def shA (A : xA) (k : Nat) : xA := setA (setA (setA A 79 (sh2 (A 79) k)) 80 (sh64 (A 80) (64 * k))) 81 (sh64 (A 81) (64 * k))
def shP (A : xA) (k p : Nat) : xA := setA (setA (setA A 79 (sh2 (A 79) (k + 1))) 80 (sh64 (A 80) (64 * k + p))) 81 (sh64 (A 81) (64 * k + p))
theorem cI2 (k : Nat) : (2 : Int32) * nI k = nI (2 * k) := pk_mul 2 k
theorem cI64 (k : Nat) : (64 : Int32) * nI k = nI (64 * k) := pk_mul 64 k
theorem m_copySaved {k : Nat} (hk : k < 7) {A : xA} {B : xB} {D : xD} : does0 mX8_copySaved [.ref 76, .int (nI k), .int (nI (k + 1))] (shA A k) B D (eqQ none (shA A (k + 1)) B D) nx := by
  refine does_go (by decide) rfl (Nat.le_of_ble_eq_true rfl) rfl ?_
  have loop := up_ind (n := 64) (P := fun j => go0 mX8_copySaved (eqQ none (shA A (k + 1)) B D) nx 0 0 38 [(0, .ref 76), (1, .int (nI k)), (2, .int (nI (k + 1))), (3, .int (nI j))] [] (shP A k j) B D) (fun j hj ih => by
    refine xi_iload_n dX8_copySaved_38 rfl rfl ?_
    refine xi_bipush (v := 64) dX8_copySaved_39 (by decide) ?_
    refine xi_icmp_ge (tgt := 94) dX8_copySaved_41 rfl (fun h41 => ?_) (fun h41 => ?_)
    · have e : j = 64 := ge_eq hj (by decide) h41
      subst e
      refine go_ret (r := none) dX8_copySaved_94 (Nat.le_of_ble_eq_true rfl) (Nat.le_of_ble_eq_true rfl) ?_
      exact ⟨rfl, rfl, rfl, rfl⟩
    · have hl : j < 64 := nge_lt hj (by decide) h41
      refine xi_aload_n dX8_copySaved_44 rfl rfl ?_
      refine xi_getfield3 dX8_copySaved_45 fX8_26 g76 r76_9 ?_
      refine xi_bipush (v := 64) dX8_copySaved_48 (by decide) ?_
      refine xi_iload_n dX8_copySaved_50 rfl rfl ?_
      refine xi_imul dX8_copySaved_51 ?_
      refine xi_iload_n dX8_copySaved_52 rfl rfl ?_
      refine xi_iadd dX8_copySaved_53 ?_
      rw [cI64, nI_add]
      refine xi_aload_n dX8_copySaved_54 rfl rfl ?_
      refine xi_getfield3 dX8_copySaved_55 fX8_26 g76 r76_9 ?_
      refine xi_bipush (v := 64) dX8_copySaved_58 (by decide) ?_
      refine xi_iload_n dX8_copySaved_60 rfl rfl ?_
      refine xi_imul dX8_copySaved_61 ?_
      refine xi_iload_n dX8_copySaved_62 rfl rfl ?_
      refine xi_iadd dX8_copySaved_63 ?_
      rw [cI64, nI_add]
      refine ia dX8_copySaved_64 g80 s80 rfl (by omega) (Nat.le_of_ble_eq_true rfl) ?_
      refine is dX8_copySaved_65 g80 s80 rfl (by omega) (Nat.le_of_ble_eq_true rfl) ?_
      refine xi_aload_n dX8_copySaved_66 rfl rfl ?_
      refine xi_getfield3 dX8_copySaved_67 fX8_29 g76 r76_10 ?_
      refine xi_bipush (v := 64) dX8_copySaved_70 (by decide) ?_
      refine xi_iload_n dX8_copySaved_72 rfl rfl ?_
      refine xi_imul dX8_copySaved_73 ?_
      refine xi_iload_n dX8_copySaved_74 rfl rfl ?_
      refine xi_iadd dX8_copySaved_75 ?_
      rw [cI64, nI_add]
      refine xi_aload_n dX8_copySaved_76 rfl rfl ?_
      refine xi_getfield3 dX8_copySaved_77 fX8_29 g76 r76_10 ?_
      refine xi_bipush (v := 64) dX8_copySaved_80 (by decide) ?_
      refine xi_iload_n dX8_copySaved_82 rfl rfl ?_
      refine xi_imul dX8_copySaved_83 ?_
      refine xi_iload_n dX8_copySaved_84 rfl rfl ?_
      refine xi_iadd dX8_copySaved_85 ?_
      rw [cI64, nI_add]
      refine ia dX8_copySaved_86 g81 s81 rfl (by omega) (Nat.le_of_ble_eq_true rfl) ?_
      refine is dX8_copySaved_87 g81 s81 rfl (by omega) (Nat.le_of_ble_eq_true rfl) ?_
      refine xi_iinc (v := 1) dX8_copySaved_88 rfl (by decide) (Nat.le_of_ble_eq_true rfl) ?_
      refine xi_goto (tgt := 38) dX8_copySaved_91 rfl ?_
      refine xgo_pick [0, 1, 2, 3] rfl ?_
      rw [nI_1]
      have q := ih hl
      rw [show shP A k (j + 1) = updA (updA (shP A k j) 80 (64 * k + j) (shP A k j 80 (64 * (k + 1) + j))) 81 (64 * k + j) (updA (shP A k j) 80 (64 * k + j) (shP A k j 80 (64 * (k + 1) + j)) 81 (64 * (k + 1) + j)) by clear ih; funext k' i; simp only [updA_get, shP, setA_get, sh64]; grind (splits := 40)] at q
      exact q
    )
  refine xi_aload_n dX8_copySaved_0 rfl rfl ?_
  refine xi_getfield3 dX8_copySaved_1 fX8_23 g76 r76_8 ?_
  refine xi_iconst (v := 2) dX8_copySaved_4 (by decide) ?_
  refine xi_iload_n dX8_copySaved_5 rfl rfl ?_
  refine xi_imul dX8_copySaved_6 ?_
  rw [cI2]
  refine xi_aload_n dX8_copySaved_7 rfl rfl ?_
  refine xi_getfield3 dX8_copySaved_8 fX8_23 g76 r76_8 ?_
  refine xi_iconst (v := 2) dX8_copySaved_11 (by decide) ?_
  refine xi_iload_n dX8_copySaved_12 rfl rfl ?_
  refine xi_imul dX8_copySaved_13 ?_
  rw [cI2]
  refine ia dX8_copySaved_14 g79 s79 rfl (by omega) (Nat.le_of_ble_eq_true rfl) ?_
  refine is dX8_copySaved_15 g79 s79 rfl (by omega) (Nat.le_of_ble_eq_true rfl) ?_
  refine xi_aload_n dX8_copySaved_16 rfl rfl ?_
  refine xi_getfield3 dX8_copySaved_17 fX8_23 g76 r76_8 ?_
  refine xi_iconst (v := 2) dX8_copySaved_20 (by decide) ?_
  refine xi_iload_n dX8_copySaved_21 rfl rfl ?_
  refine xi_imul dX8_copySaved_22 ?_
  rw [cI2]
  refine xi_iconst (v := 1) dX8_copySaved_23 (by decide) ?_
  refine xi_iadd dX8_copySaved_24 ?_
  rw [nI_1]
  refine xi_aload_n dX8_copySaved_25 rfl rfl ?_
  refine xi_getfield3 dX8_copySaved_26 fX8_23 g76 r76_8 ?_
  refine xi_iconst (v := 2) dX8_copySaved_29 (by decide) ?_
  refine xi_iload_n dX8_copySaved_30 rfl rfl ?_
  refine xi_imul dX8_copySaved_31 ?_
  rw [cI2]
  refine xi_iconst (v := 1) dX8_copySaved_32 (by decide) ?_
  refine xi_iadd dX8_copySaved_33 ?_
  rw [nI_1]
  refine ia dX8_copySaved_34 g79 s79 rfl (by omega) (Nat.le_of_ble_eq_true rfl) ?_
  refine is dX8_copySaved_35 g79 s79 rfl (by omega) (Nat.le_of_ble_eq_true rfl) ?_
  refine xi_iconst (v := 0) dX8_copySaved_36 (by decide) ?_
  refine xi_istore_n dX8_copySaved_37 rfl (Nat.le_of_ble_eq_true rfl) ?_
  refine xgo_pick [0, 1, 2, 3] rfl ?_
  have l0 := loop 0 (Nat.zero_le _)
  rw [show shP A k 0 = updA (updA (shA A k) 79 (2 * k) (shA A k 79 (2 * (k + 1)))) 79 (2 * k + 1) (updA (shA A k) 79 (2 * k) (shA A k 79 (2 * (k + 1))) 79 (2 * (k + 1) + 1)) by clear loop l0; funext k' i; simp only [updA_get, shP, shA, setA_get, sh2, sh64]; grind (splits := 40)] at l0
  exact l0
def sv2 (f : Nat → Int32) (sz : Nat) (c r : Int32) (j : Nat) : Int32 := if j = 2 * min sz 7 then c else if j = 2 * min sz 7 + 1 then r else if sz = 8 ∧ j < 14 then f (j + 2) else f j
def sv64 (f g : Nat → Int32) (sz p j : Nat) : Int32 := if 64 * min sz 7 ≤ j ∧ j < 64 * min sz 7 + p then g (j - 64 * min sz 7) else if sz = 8 ∧ j < 448 then f (j + 64) else f j
/-- save's heap, sz images being kept -/
def svP (A : xA) (sz p : Nat) : xA := setA (setA (setA (setA A 76 (upd (A 76) 7 (nI (min sz 7)))) 79 (sv2 (A 79) sz (A 76 1) (A 76 2))) 80 (sv64 (A 80) (A 77) sz p)) 81 (sv64 (A 81) (A 78) sz p)
def svA (A : xA) (sz : Nat) : xA := updA (updA (svP A sz 64) 76 7 (nI (min sz 7 + 1))) 76 18 0
theorem m_save {sz : Nat} {A : xA} {B : xB} {D : xD} (hz : A 76 7 = nI sz) (hz8 : sz ≤ 8) : does0 mX8_save [.ref 76] A B D (eqQ none (svA A sz) B D) nx := by
  refine does_go (by decide) rfl (Nat.le_of_ble_eq_true rfl) rfl ?_
  have e7 : ∀ p, svP A sz p 76 7 = nI (min sz 7) := fun p => rfl
  have loop2 := up_ind (n := 64) (P := fun j => go0 mX8_save (eqQ none (svA A sz) B D) nx 0 0 75 [(0, .ref 76), (1, .int (nI j))] [] (svP A sz j) B D) (fun j hj ih => by
    refine xi_iload_n dX8_save_75 rfl rfl ?_
    refine xi_bipush (v := 64) dX8_save_76 (by decide) ?_
    refine xi_icmp_ge (tgt := 127) dX8_save_78 rfl (fun h78 => ?_) (fun h78 => ?_)
    · have e : j = 64 := ge_eq hj (by decide) h78
      subst e
      refine xi_aload_n dX8_save_127 rfl rfl ?_
      refine xi_dup dX8_save_128 rfl ?_
      refine xi_getfield0 dX8_save_129 fX8_90 g76 ?_
      refine xi_iconst (v := 1) dX8_save_132 (by decide) ?_
      refine xi_iadd dX8_save_133 ?_
      rw [e7, nI_1]
      refine xi_putfield0 dX8_save_134 fX8_90 g76 pX8_90 ?_
      refine xi_aload_n dX8_save_137 rfl rfl ?_
      refine xi_iconst (v := 0) dX8_save_138 (by decide) ?_
      refine xi_putfield1 dX8_save_139 fX8_97 g76 pX8_97 (by first | exact Or.inl rfl | exact Or.inr rfl) ?_
      refine go_ret (r := none) dX8_save_142 (Nat.le_of_ble_eq_true rfl) (Nat.le_of_ble_eq_true rfl) ?_
      exact ⟨rfl, rfl, rfl, rfl⟩
    · have hl : j < 64 := nge_lt hj (by decide) h78
      refine xi_aload_n dX8_save_81 rfl rfl ?_
      refine xi_getfield3 dX8_save_82 fX8_26 g76 r76_9 ?_
      refine xi_bipush (v := 64) dX8_save_85 (by decide) ?_
      refine xi_aload_n dX8_save_87 rfl rfl ?_
      refine xi_getfield0 dX8_save_88 fX8_90 g76 ?_
      rw [e7]
      refine xi_imul dX8_save_91 ?_
      refine xi_iload_n dX8_save_92 rfl rfl ?_
      refine xi_iadd dX8_save_93 ?_
      rw [cI64, nI_add]
      refine xi_aload_n dX8_save_94 rfl rfl ?_
      refine xi_getfield3 dX8_save_95 fX8_16 g76 r76_3 ?_
      refine xi_iload_n dX8_save_98 rfl rfl ?_
      refine ia dX8_save_99 g77 s77 rfl (by omega) (Nat.le_of_ble_eq_true rfl) ?_
      refine is dX8_save_100 g80 s80 rfl (by omega) (Nat.le_of_ble_eq_true rfl) ?_
      refine xi_aload_n dX8_save_101 rfl rfl ?_
      refine xi_getfield3 dX8_save_102 fX8_29 g76 r76_10 ?_
      refine xi_bipush (v := 64) dX8_save_105 (by decide) ?_
      refine xi_aload_n dX8_save_107 rfl rfl ?_
      refine xi_getfield0 dX8_save_108 fX8_90 g76 ?_
      rw [show updA (svP A sz j) 80 (64 * min sz 7 + j) (svP A sz j 77 j) 76 7 = nI (min sz 7) from rfl]
      refine xi_imul dX8_save_111 ?_
      refine xi_iload_n dX8_save_112 rfl rfl ?_
      refine xi_iadd dX8_save_113 ?_
      rw [cI64, nI_add]
      refine xi_aload_n dX8_save_114 rfl rfl ?_
      refine xi_getfield3 dX8_save_115 fX8_20 g76 r76_4 ?_
      refine xi_iload_n dX8_save_118 rfl rfl ?_
      refine ia dX8_save_119 g78 s78 rfl (by omega) (Nat.le_of_ble_eq_true rfl) ?_
      refine is dX8_save_120 g81 s81 rfl (by omega) (Nat.le_of_ble_eq_true rfl) ?_
      refine xi_iinc (v := 1) dX8_save_121 rfl (by decide) (Nat.le_of_ble_eq_true rfl) ?_
      refine xi_goto (tgt := 75) dX8_save_124 rfl ?_
      refine xgo_pick [0, 1] rfl ?_
      rw [nI_1]
      have q := ih hl
      rw [show svP A sz (j + 1) = updA (updA (svP A sz j) 80 (64 * min sz 7 + j) (svP A sz j 77 j)) 81 (64 * min sz 7 + j) (updA (svP A sz j) 80 (64 * min sz 7 + j) (svP A sz j 77 j) 78 j) by clear ih; funext k' i; simp only [updA_get, svP, setA_get, sv64]; grind (splits := 40)] at q
      exact q
    )
  have fin : ∀ A0, (∀ k i, k ≠ 76 → k ≠ 79 → k ≠ 80 → k ≠ 81 → A0 k i = A k i) → (∀ i, A0 76 i = if i = 7 then nI (min sz 7) else A 76 i) → (∀ i, A0 79 i = if sz = 8 ∧ i < 14 then A 79 (i + 2) else A 79 i) → (∀ i, A0 80 i = if sz = 8 ∧ i < 448 then A 80 (i + 64) else A 80 i) → (∀ i, A0 81 i = if sz = 8 ∧ i < 448 then A 81 (i + 64) else A 81 i) → go0 mX8_save (eqQ none (svA A sz) B D) nx 0 0 41 [(0, .ref 76)] [] A0 B D := by
    intro A0 h0 h76 h79 h80 h81
    have e0 : A0 76 7 = nI (min sz 7) := h76 7
    have e1 : A0 76 1 = A 76 1 := h76 1
    have e2 : A0 76 2 = A 76 2 := h76 2
    refine xi_aload_n dX8_save_41 rfl rfl ?_
    refine xi_getfield3 dX8_save_42 fX8_23 g76 r76_8 ?_
    refine xi_iconst (v := 2) dX8_save_45 (by decide) ?_
    refine xi_aload_n dX8_save_46 rfl rfl ?_
    refine xi_getfield0 dX8_save_47 fX8_90 g76 ?_
    rw [e0]
    refine xi_imul dX8_save_50 ?_
    refine xi_aload_n dX8_save_51 rfl rfl ?_
    refine xi_getfield0 dX8_save_52 fX8_7 g76 ?_
    rw [cI2]
    refine is dX8_save_55 g79 s79 rfl (by omega) (Nat.le_of_ble_eq_true rfl) ?_
    refine xi_aload_n dX8_save_56 rfl rfl ?_
    refine xi_getfield3 dX8_save_57 fX8_23 g76 r76_8 ?_
    refine xi_iconst (v := 2) dX8_save_60 (by decide) ?_
    refine xi_aload_n dX8_save_61 rfl rfl ?_
    refine xi_getfield0 dX8_save_62 fX8_90 g76 ?_
    rw [show updA A0 79 (2 * min sz 7) (A0 76 1) 76 7 = nI (min sz 7) from e0]
    refine xi_imul dX8_save_65 ?_
    refine xi_iconst (v := 1) dX8_save_66 (by decide) ?_
    rw [cI2]
    refine xi_iadd dX8_save_67 ?_
    refine xi_aload_n dX8_save_68 rfl rfl ?_
    refine xi_getfield0 dX8_save_69 fX8_13 g76 ?_
    rw [nI_1]
    refine is dX8_save_72 g79 s79 rfl (by omega) (Nat.le_of_ble_eq_true rfl) ?_
    refine xi_iconst (v := 0) dX8_save_73 (by decide) ?_
    refine xi_istore_n dX8_save_74 rfl (Nat.le_of_ble_eq_true rfl) ?_
    refine xgo_pick [0, 1] rfl ?_
    have l0 := loop2 0 (Nat.zero_le _)
    rw [show svP A sz 0 = updA (updA A0 79 (2 * min sz 7) (A0 76 1)) 79 (2 * min sz 7 + 1) (updA A0 79 (2 * min sz 7) (A0 76 1) 76 2) by clear loop2 l0; funext k' i; simp only [updA_get, svP, setA_get, sv64, sv2, upd]; grind (splits := 40)] at l0
    exact l0
  have loop := up_ind (n := 7) (P := fun j => sz = 8 → go0 mX8_save (eqQ none (svA A sz) B D) nx 0 0 11 [(0, .ref 76), (1, .int (nI j))] [] (shA A j) B D) (fun j hj ih h8 => by
    refine xi_iload_n dX8_save_11 rfl rfl ?_
    refine xi_bipush (v := 7) dX8_save_12 (by decide) ?_
    refine xi_icmp_ge (tgt := 31) dX8_save_14 rfl (fun h14 => ?_) (fun h14 => ?_)
    · have e : j = 7 := ge_eq hj (by decide) h14
      subst e
      refine xi_aload_n dX8_save_31 rfl rfl ?_
      refine xi_dup dX8_save_32 rfl ?_
      refine xi_getfield0 dX8_save_33 fX8_90 g76 ?_
      rw [show shA A 7 76 7 = nI sz from hz]
      refine xi_iconst (v := 1) dX8_save_36 (by decide) ?_
      refine xi_isub dX8_save_37 ?_
      refine xi_putfield0 dX8_save_38 fX8_90 g76 pX8_90 ?_
      refine xgo_pick [0] rfl ?_
      subst h8
      rw [nI_pred]
      refine fin _ (fun k i h1 h2 h3 h4 => ?_) (fun i => ?_) (fun i => ?_) (fun i => ?_) (fun i => ?_)
      all_goals (clear ih fin loop2; simp only [updA_get, shA, setA_get, sh2, sh64]; grind (splits := 40))
    · have hl : j < 7 := nge_lt hj (by decide) h14
      refine xi_aload_n dX8_save_17 rfl rfl ?_
      refine xi_iload_n dX8_save_18 rfl rfl ?_
      refine xi_iload_n dX8_save_19 rfl rfl ?_
      refine xi_iconst (v := 1) dX8_save_20 (by decide) ?_
      refine xi_iadd dX8_save_21 ?_
      rw [nI_1]
      refine cV1 (av := [_, _]) dX8_save_22 lX8_93 rfl ⟨rfl, rfl⟩ rfl ⟨(Nat.le_of_ble_eq_true rfl), (Nat.le_of_ble_eq_true rfl)⟩ ⟨(Nat.le_of_ble_eq_true rfl), (Nat.le_of_ble_eq_true rfl)⟩ (Nat.le_of_ble_eq_true rfl) g76 rfl rfl (m_copySaved hl) ?_
      refine xi_iinc (v := 1) dX8_save_25 rfl (by decide) (Nat.le_of_ble_eq_true rfl) ?_
      refine xi_goto (tgt := 11) dX8_save_28 rfl ?_
      refine xgo_pick [0, 1] rfl ?_
      rw [nI_1]
      exact ih hl h8
    )
  refine xi_aload_n dX8_save_0 rfl rfl ?_
  refine xi_getfield0 dX8_save_1 fX8_90 g76 ?_
  refine xi_bipush (v := 8) dX8_save_4 (by decide) ?_
  rw [hz]
  refine xi_icmpne (tgt := 41) dX8_save_6 rfl (fun h6 => ?_) (fun h6 => ?_)
  · have h8 : ¬ sz = 8 := fun e => h6 (by rw [e]; rfl)
    refine xgo_pick [0] rfl ?_
    refine fin _ (fun k i h1 h2 h3 h4 => rfl) (fun i => ?_) (fun i => ?_) (fun i => ?_) (fun i => ?_)
    · by_cases e : i = 7
      · subst e; rw [if_pos rfl, hz, show min sz 7 = sz by omega]
      · rw [if_neg e]
    all_goals rw [if_neg (fun q => h8 q.1)]
  · have h8 : sz = 8 := (nI_eq (by omega) (by decide)).mp h6
    refine xi_iconst (v := 0) dX8_save_9 (by decide) ?_
    refine xi_istore_n dX8_save_10 rfl (Nat.le_of_ble_eq_true rfl) ?_
    refine xgo_pick [0, 1] rfl ?_
    have l0 := loop 0 (Nat.zero_le _) h8
    rw [show shA A 0 = A by clear loop loop2 fin l0; funext k' i; simp only [shA, setA_get, sh2, sh64]; grind (splits := 40)] at l0
    exact l0
def clA (A : xA) (c r : Int32) (p : Nat) : xA := filA (filA (updA (updA A 76 1 c) 76 2 r) 77 p 0) 78 p 0
theorem m_clear {c r : Int32} {A : xA} {B : xB} {D : xD} : does0 mX8_clear [.ref 76, .int c, .int r] A B D (eqQ none (clA A c r 64) B D) nx := by
  refine does_go (by decide) rfl (Nat.le_of_ble_eq_true rfl) rfl ?_
  have loop := up_ind (n := 64) (P := fun j => go0 mX8_clear (eqQ none (clA A c r 64) B D) nx 0 0 12 [(0, .ref 76), (3, .int (nI j))] [] (clA A c r j) B D) (fun j hj ih => by
    refine xi_iload_n dX8_clear_12 rfl rfl ?_
    refine xi_bipush (v := 64) dX8_clear_13 (by decide) ?_
    refine xi_icmp_ge (tgt := 38) dX8_clear_15 rfl (fun h15 => ?_) (fun h15 => ?_)
    · have e : j = 64 := ge_eq hj (by decide) h15
      subst e
      refine go_ret (r := none) dX8_clear_38 (Nat.le_of_ble_eq_true rfl) (Nat.le_of_ble_eq_true rfl) ?_
      exact ⟨rfl, rfl, rfl, rfl⟩
    · have hl : j < 64 := nge_lt hj (by decide) h15
      refine xi_aload_n dX8_clear_18 rfl rfl ?_
      refine xi_getfield3 dX8_clear_19 fX8_16 g76 r76_3 ?_
      refine xi_iload_n dX8_clear_22 rfl rfl ?_
      refine xi_iconst (v := 0) dX8_clear_23 (by decide) ?_
      refine is dX8_clear_24 g77 s77 rfl (by omega) (Nat.le_of_ble_eq_true rfl) ?_
      refine xi_aload_n dX8_clear_25 rfl rfl ?_
      refine xi_getfield3 dX8_clear_26 fX8_20 g76 r76_4 ?_
      refine xi_iload_n dX8_clear_29 rfl rfl ?_
      refine xi_iconst (v := 0) dX8_clear_30 (by decide) ?_
      refine is dX8_clear_31 g78 s78 rfl (by omega) (Nat.le_of_ble_eq_true rfl) ?_
      refine xi_iinc (v := 1) dX8_clear_32 rfl (by decide) (Nat.le_of_ble_eq_true rfl) ?_
      refine xi_goto (tgt := 12) dX8_clear_35 rfl ?_
      refine xgo_pick [0, 3] rfl ?_
      rw [nI_1]
      have q := ih hl
      rw [show clA A c r (j + 1) = updA (updA (clA A c r j) 77 j 0) 78 j 0 by clear ih; funext k' i; simp only [updA_get, clA, filA_get]; grind (splits := 40)] at q
      exact q
    )
  refine xi_aload_n dX8_clear_0 rfl rfl ?_
  refine xi_iload_n dX8_clear_1 rfl rfl ?_
  refine xi_putfield0 dX8_clear_2 fX8_7 g76 pX8_7 ?_
  refine xi_aload_n dX8_clear_5 rfl rfl ?_
  refine xi_iload_n dX8_clear_6 rfl rfl ?_
  refine xi_putfield0 dX8_clear_7 fX8_13 g76 pX8_13 ?_
  refine xi_iconst (v := 0) dX8_clear_10 (by decide) ?_
  refine xi_istore_n dX8_clear_11 rfl (Nat.le_of_ble_eq_true rfl) ?_
  refine xgo_pick [0, 3] rfl ?_
  have l0 := loop 0 (Nat.zero_le _)
  rw [show clA A c r 0 = updA (updA A 76 1 c) 76 2 r by unfold clA; rw [filA_0, filA_0]] at l0
  exact l0

