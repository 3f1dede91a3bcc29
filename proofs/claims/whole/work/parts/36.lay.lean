/-! the model: laying the tree: what a node is -/
theorem mG.o {A A' : xA} {c r n : Nat} (h : mG A c r n) (h1 : A' 76 1 = A 76 1) (h2 : A' 76 2 = A 76 2) : mG A' c r n := by
  obtain ⟨a, b, z⟩ := h
  exact ⟨h1.trans a, h2.trans b, z⟩
def ofO (rk : Nat → Int32) (t : Int32) (p : Nat) : Int64 := if rk p < t then 0 else shlL 1 (nI p)
def ofS (rk : Nat → Int32) (t : Int32) (p : Nat) (s : Int64) : Int64 := s ||| ofO rk t p
def ofV (rk : Nat → Int32) (t : Int32) (n : Nat) : Int64 := itr (ofS rk t) n 0
abbrev rkM (A : xA) (p : Nat) : Int32 := trn (A 77 p) (A 76 5)
theorem m_ofRank {n : Nat} {t : Int32} {A : xA} {B : xB} {D : xD} (hn : A 76 1 * A 76 2 = nI n) (hn64 : n ≤ 64) : does0 mX8_ofRank [.ref 76, .int t] A B D (eqQ (some (.long (ofV (rkM A) t n))) A B D) nx := by
  refine does_go (by decide) rfl (Nat.le_of_ble_eq_true rfl) rfl ?_
  have loop := up_ind (n := n) (P := fun j => ∀ q, q = itr (ofS (rkM A) t) j 0 → go0 mX8_ofRank (eqQ (some (.long (ofV (rkM A) t n))) A B D) nx 0 0 5 [(0, .ref 76), (1, .int t), (2, .long q), (4, .int (nI j))] [] A B D) (fun j hj ih q hq => by
    refine xi_iload dX8_ofRank_5 rfl ?_
    refine xi_aload_n dX8_ofRank_7 rfl rfl ?_
    refine cV1 (av := []) dX8_ofRank_8 lX8_76 rfl ⟨rfl, rfl⟩ rfl ⟨(Nat.le_of_ble_eq_true rfl), (Nat.le_of_ble_eq_true rfl)⟩ ⟨(Nat.le_of_ble_eq_true rfl), (Nat.le_of_ble_eq_true rfl)⟩ (Nat.le_of_ble_eq_true rfl) g76 rfl rfl (m_pixels) ?_
    rw [hn]
    refine xi_icmp_ge (tgt := 46) dX8_ofRank_11 rfl (fun h11 => ?_) (fun h11 => ?_)
    · have e : j = n := ge_eq hj (by omega) h11
      subst e
      refine xi_lload_n dX8_ofRank_46 rfl rfl ?_
      refine go_ret (r := some (.long _)) dX8_ofRank_47 (Nat.le_of_ble_eq_true rfl) (Nat.le_of_ble_eq_true rfl) ?_
      exact ⟨by rw [hq]; rfl, rfl, rfl, rfl⟩
    · have hl : j < n := nge_lt hj (by omega) h11
      refine xi_lload_n dX8_ofRank_14 rfl rfl ?_
      refine xi_aload_n dX8_ofRank_15 rfl rfl ?_
      refine xi_aload_n dX8_ofRank_16 rfl rfl ?_
      refine xi_getfield3 dX8_ofRank_17 fX8_16 g76 r76_3 ?_
      refine xi_iload dX8_ofRank_20 rfl ?_
      refine ia dX8_ofRank_22 g77 s77 rfl (by omega) (Nat.le_of_ble_eq_true rfl) ?_
      refine cV1 (av := [_]) dX8_ofRank_23 lX8_159 rfl ⟨rfl, rfl⟩ rfl ⟨(Nat.le_of_ble_eq_true rfl), (Nat.le_of_ble_eq_true rfl)⟩ ⟨(Nat.le_of_ble_eq_true rfl), (Nat.le_of_ble_eq_true rfl)⟩ (Nat.le_of_ble_eq_true rfl) g76 rfl rfl (m_rankOf) ?_
      refine xi_iload_n dX8_ofRank_26 rfl rfl ?_
      refine xi_icmp_lt (tgt := 37) dX8_ofRank_27 rfl (fun h27 => ?_) (fun h27 => ?_)
      · refine xi_lconst (v := 0) dX8_ofRank_37 (by decide) ?_
        refine xi_lor dX8_ofRank_38 ?_
        refine xi_lstore_n dX8_ofRank_39 rfl (Nat.le_of_ble_eq_true rfl) ?_
        refine xi_iinc (v := 1) dX8_ofRank_40 rfl (by decide) (Nat.le_of_ble_eq_true rfl) ?_
        refine xi_goto (tgt := 5) dX8_ofRank_43 rfl ?_
        refine xgo_pick [0, 1, 2, 4] rfl ?_
        rw [nI_1]
        exact ih hl _ (by rw [itr_s, ← hq]; unfold ofS ofO; rw [if_pos h27])
      · refine xi_lconst (v := 1) dX8_ofRank_30 (by decide) ?_
        refine xi_iload dX8_ofRank_31 rfl ?_
        refine xi_lshl dX8_ofRank_33 ?_
        refine xi_goto (tgt := 38) dX8_ofRank_34 rfl ?_
        refine xi_lor dX8_ofRank_38 ?_
        refine xi_lstore_n dX8_ofRank_39 rfl (Nat.le_of_ble_eq_true rfl) ?_
        refine xi_iinc (v := 1) dX8_ofRank_40 rfl (by decide) (Nat.le_of_ble_eq_true rfl) ?_
        refine xi_goto (tgt := 5) dX8_ofRank_43 rfl ?_
        refine xgo_pick [0, 1, 2, 4] rfl ?_
        rw [nI_1]
        exact ih hl _ (by rw [itr_s, ← hq]; unfold ofS ofO; rw [if_neg h27])
    )
  refine xi_lconst (v := 0) dX8_ofRank_0 (by decide) ?_
  refine xi_lstore_n dX8_ofRank_1 rfl (Nat.le_of_ble_eq_true rfl) ?_
  refine xi_iconst (v := 0) dX8_ofRank_2 (by decide) ?_
  refine xi_istore dX8_ofRank_3 (Nat.le_of_ble_eq_true rfl) ?_
  refine xgo_pick [0, 1, 2, 4] rfl ?_
  exact loop 0 (Nat.zero_le _) 0 rfl
def c1V (s : Int64) (k : Nat) : Int32 := isum (fun p => if hasM s (nI p) = 0 then 0 else 1) k
theorem m_count1 {s : Int64} {A : xA} {B : xB} {D : xD} : does0 mX8_count1 [.long s] A B D (eqQ (some (.int (c1V s 64))) A B D) nx := by
  refine does_go (by decide) rfl (Nat.le_of_ble_eq_true rfl) rfl ?_
  have loop := up_ind (n := 64) (P := fun j => go0 mX8_count1 (eqQ (some (.int (c1V s 64))) A B D) nx 0 0 4 [(0, .long s), (2, .int (c1V s j)), (3, .int (nI j))] [] A B D) (fun j hj ih => by
    refine xi_iload_n dX8_count1_4 rfl rfl ?_
    refine xi_bipush (v := 64) dX8_count1_5 (by decide) ?_
    refine xi_icmp_ge (tgt := 32) dX8_count1_7 rfl (fun h7 => ?_) (fun h7 => ?_)
    · have e : j = 64 := ge_eq hj (by decide) h7
      subst e
      refine xi_iload_n dX8_count1_32 rfl rfl ?_
      refine go_ret (r := some (.int _)) dX8_count1_33 (Nat.le_of_ble_eq_true rfl) (Nat.le_of_ble_eq_true rfl) ?_
      exact ⟨rfl, rfl, rfl, rfl⟩
    · have hl : j < 64 := nge_lt hj (by decide) h7
      refine xi_iload_n dX8_count1_10 rfl rfl ?_
      refine xi_lload_n dX8_count1_11 rfl rfl ?_
      refine xi_iload_n dX8_count1_12 rfl rfl ?_
      refine cS1 (av := [_, _]) dX8_count1_13 lX8_151 rfl ⟨rfl, rfl⟩ rfl ⟨(Nat.le_of_ble_eq_true rfl), (Nat.le_of_ble_eq_true rfl)⟩ ⟨(Nat.le_of_ble_eq_true rfl), (Nat.le_of_ble_eq_true rfl)⟩ (Nat.le_of_ble_eq_true rfl) (m_has) ?_
      refine xi_if_eq (tgt := 23) dX8_count1_16 rfl (fun h16 => ?_) (fun h16 => ?_)
      · refine xi_iconst (v := 0) dX8_count1_23 (by decide) ?_
        refine xi_iadd dX8_count1_24 ?_
        refine xi_istore_n dX8_count1_25 rfl (Nat.le_of_ble_eq_true rfl) ?_
        refine xi_iinc (v := 1) dX8_count1_26 rfl (by decide) (Nat.le_of_ble_eq_true rfl) ?_
        refine xi_goto (tgt := 4) dX8_count1_29 rfl ?_
        refine xgo_pick [0, 2, 3] rfl ?_
        rw [nI_1]
        have q := ih hl
        simp only [c1V, isum, h16, if_true, if_false] at q ⊢
        exact q
      · refine xi_iconst (v := 1) dX8_count1_19 (by decide) ?_
        refine xi_goto (tgt := 24) dX8_count1_20 rfl ?_
        refine xi_iadd dX8_count1_24 ?_
        refine xi_istore_n dX8_count1_25 rfl (Nat.le_of_ble_eq_true rfl) ?_
        refine xi_iinc (v := 1) dX8_count1_26 rfl (by decide) (Nat.le_of_ble_eq_true rfl) ?_
        refine xi_goto (tgt := 4) dX8_count1_29 rfl ?_
        refine xgo_pick [0, 2, 3] rfl ?_
        rw [nI_1]
        have q := ih hl
        simp only [c1V, isum, h16, if_true, if_false] at q ⊢
        exact q
    )
  refine xi_iconst (v := 0) dX8_count1_0 (by decide) ?_
  refine xi_istore_n dX8_count1_1 rfl (Nat.le_of_ble_eq_true rfl) ?_
  refine xi_iconst (v := 0) dX8_count1_2 (by decide) ?_
  refine xi_istore_n dX8_count1_3 rfl (Nat.le_of_ble_eq_true rfl) ?_
  refine xgo_pick [0, 2, 3] rfl ?_
  exact loop 0 (Nat.zero_le _)
def blV (se : Nat → Int64) (i j : Nat) : Int32 := if i = j then 0 else subV (se i) (se j)
theorem bl01 (se : Nat → Int64) (i j : Nat) : blV se i j = 0 ∨ blV se i j = 1 := by
  unfold blV; split
  · exact Or.inl rfl
  · exact subV01 _ _
theorem m_isBelow {i j : Nat} (hi : i < 64) (hj : j < 64) {A : xA} {B : xB} {D : xD} : does0 mX8_isBelow [.ref 76, .int (nI i), .int (nI j)] A B D (eqQ (some (.int (blV (B 84) i j))) A B D) nx := by
  refine does_go (by decide) rfl (Nat.le_of_ble_eq_true rfl) rfl ?_
  refine xi_iload_n dX8_isBelow_0 rfl rfl ?_
  refine xi_iload_n dX8_isBelow_1 rfl rfl ?_
  refine xi_icmp_eq (tgt := 31) dX8_isBelow_2 rfl (fun h2 => ?_) (fun h2 => ?_)
  · have e : i = j := (nI_eq (by omega) (by omega)).mp h2
    refine xi_iconst (v := 0) dX8_isBelow_31 (by decide) ?_
    refine go_ret (r := some (.int _)) ⟨dX8_isBelow_32, (by first | exact Or.inl rfl | exact Or.inr rfl)⟩ (Nat.le_of_ble_eq_true rfl) (Nat.le_of_ble_eq_true rfl) ?_
    exact ⟨by unfold blV; rw [if_pos e], rfl, rfl, rfl⟩
  · have e : ¬ i = j := fun z => h2 (by rw [z])
    refine xi_aload_n dX8_isBelow_5 rfl rfl ?_
    refine xi_getfield3 dX8_isBelow_6 fX8_38 g76 r76_20 ?_
    refine xi_iload_n dX8_isBelow_9 rfl rfl ?_
    refine la dX8_isBelow_10 g84 s84 rfl (by omega) (Nat.le_of_ble_eq_true rfl) ?_
    refine xi_aload_n dX8_isBelow_11 rfl rfl ?_
    refine xi_getfield3 dX8_isBelow_12 fX8_38 g76 r76_20 ?_
    refine xi_iload_n dX8_isBelow_15 rfl rfl ?_
    refine la dX8_isBelow_16 g84 s84 rfl (by omega) (Nat.le_of_ble_eq_true rfl) ?_
    refine xi_ldc2_w dX8_isBelow_17 kX8_88 ?_
    refine xi_lxor dX8_isBelow_20 ?_
    refine xi_land dX8_isBelow_21 ?_
    refine xi_lconst (v := 0) dX8_isBelow_22 (by decide) ?_
    refine xi_lcmpne (tgt := 31) dX8_isBelow_23 dX8_isBelow_24 rfl (fun h24 => ?_) (fun h24 => ?_)
    · refine xi_iconst (v := 0) dX8_isBelow_31 (by decide) ?_
      refine go_ret (r := some (.int _)) ⟨dX8_isBelow_32, (by first | exact Or.inl rfl | exact Or.inr rfl)⟩ (Nat.le_of_ble_eq_true rfl) (Nat.le_of_ble_eq_true rfl) ?_
      exact ⟨by unfold blV subV; rw [if_neg e, if_neg h24], rfl, rfl, rfl⟩
    · refine xi_iconst (v := 1) dX8_isBelow_27 (by decide) ?_
      refine xi_goto (tgt := 32) dX8_isBelow_28 rfl ?_
      refine go_ret (r := some (.int _)) ⟨dX8_isBelow_32, (by first | exact Or.inl rfl | exact Or.inr rfl)⟩ (Nat.le_of_ble_eq_true rfl) (Nat.le_of_ble_eq_true rfl) ?_
      exact ⟨by unfold blV subV; rw [if_neg e, if_pos h24], rfl, rfl, rfl⟩
def lfV (ch : Nat → Int32) (i : Nat) : Int32 := if ch i = 0 then 1 else 0
theorem m_isLeaf {i : Nat} (hi : i < 64) {A : xA} {B : xB} {D : xD} : does0 mX8_isLeaf [.ref 76, .int (nI i)] A B D (eqQ (some (.int (lfV (A 87) i))) A B D) nx := by
  refine does_go (by decide) rfl (Nat.le_of_ble_eq_true rfl) rfl ?_
  refine xi_aload_n dX8_isLeaf_0 rfl rfl ?_
  refine xi_getfield3 dX8_isLeaf_1 fX8_48 g76 r76_23 ?_
  refine xi_iload_n dX8_isLeaf_4 rfl rfl ?_
  refine ia dX8_isLeaf_5 g87 s87 rfl (by omega) (Nat.le_of_ble_eq_true rfl) ?_
  refine xi_ifne (tgt := 13) dX8_isLeaf_6 rfl (fun h6 => ?_) (fun h6 => ?_)
  · refine xi_iconst (v := 0) dX8_isLeaf_13 (by decide) ?_
    refine go_ret (r := some (.int _)) ⟨dX8_isLeaf_14, (by first | exact Or.inl rfl | exact Or.inr rfl)⟩ (Nat.le_of_ble_eq_true rfl) (Nat.le_of_ble_eq_true rfl) ?_
    exact ⟨by unfold lfV; simp only [h6, if_true, if_false], rfl, rfl, rfl⟩
  · refine xi_iconst (v := 1) dX8_isLeaf_9 (by decide) ?_
    refine xi_goto (tgt := 14) dX8_isLeaf_10 rfl ?_
    refine go_ret (r := some (.int _)) ⟨dX8_isLeaf_14, (by first | exact Or.inl rfl | exact Or.inr rfl)⟩ (Nat.le_of_ble_eq_true rfl) (Nat.le_of_ble_eq_true rfl) ?_
    exact ⟨by unfold lfV; simp only [h6, if_true, if_false], rfl, rfl, rfl⟩
def higV (rk : Nat → Int32) (i j : Nat) : Int32 := if rk j < rk i then 1 else if rk i = rk j then (if j ≤ i then 0 else 1) else 0
theorem m_isHigher {i j : Nat} (hi : i < 64) (hj : j < 64) {A : xA} {B : xB} {D : xD} : does0 mX8_isHigher [.ref 76, .int (nI i), .int (nI j)] A B D (eqQ (some (.int (higV (A 85) i j))) A B D) nx := by
  refine does_go (by decide) rfl (Nat.le_of_ble_eq_true rfl) rfl ?_
  refine xi_aload_n dX8_isHigher_0 rfl rfl ?_
  refine xi_getfield3 dX8_isHigher_1 fX8_42 g76 r76_21 ?_
  refine xi_iload_n dX8_isHigher_4 rfl rfl ?_
  refine ia dX8_isHigher_5 g85 s85 rfl (by omega) (Nat.le_of_ble_eq_true rfl) ?_
  refine xi_aload_n dX8_isHigher_6 rfl rfl ?_
  refine xi_getfield3 dX8_isHigher_7 fX8_42 g76 r76_21 ?_
  refine xi_iload_n dX8_isHigher_10 rfl rfl ?_
  refine ia dX8_isHigher_11 g85 s85 rfl (by omega) (Nat.le_of_ble_eq_true rfl) ?_
  refine xi_icmp_gt (tgt := 35) dX8_isHigher_12 rfl (fun h12 => ?_) (fun h12 => ?_)
  · refine xi_iconst (v := 1) dX8_isHigher_35 (by decide) ?_
    refine xi_goto (tgt := 40) dX8_isHigher_36 rfl ?_
    refine go_ret (r := some (.int _)) ⟨dX8_isHigher_40, (by first | exact Or.inl rfl | exact Or.inr rfl)⟩ (Nat.le_of_ble_eq_true rfl) (Nat.le_of_ble_eq_true rfl) ?_
    exact ⟨by unfold higV; rw [if_pos h12], rfl, rfl, rfl⟩
  · refine xi_aload_n dX8_isHigher_15 rfl rfl ?_
    refine xi_getfield3 dX8_isHigher_16 fX8_42 g76 r76_21 ?_
    refine xi_iload_n dX8_isHigher_19 rfl rfl ?_
    refine ia dX8_isHigher_20 g85 s85 rfl (by omega) (Nat.le_of_ble_eq_true rfl) ?_
    refine xi_aload_n dX8_isHigher_21 rfl rfl ?_
    refine xi_getfield3 dX8_isHigher_22 fX8_42 g76 r76_21 ?_
    refine xi_iload_n dX8_isHigher_25 rfl rfl ?_
    refine ia dX8_isHigher_26 g85 s85 rfl (by omega) (Nat.le_of_ble_eq_true rfl) ?_
    refine xi_icmpne (tgt := 39) dX8_isHigher_27 rfl (fun h27 => ?_) (fun h27 => ?_)
    · refine xi_iconst (v := 0) dX8_isHigher_39 (by decide) ?_
      refine go_ret (r := some (.int _)) ⟨dX8_isHigher_40, (by first | exact Or.inl rfl | exact Or.inr rfl)⟩ (Nat.le_of_ble_eq_true rfl) (Nat.le_of_ble_eq_true rfl) ?_
      exact ⟨by unfold higV; rw [if_neg h12, if_neg h27], rfl, rfl, rfl⟩
    · refine xi_iload_n dX8_isHigher_30 rfl rfl ?_
      refine xi_iload_n dX8_isHigher_31 rfl rfl ?_
      refine xi_icmp_ge (tgt := 39) dX8_isHigher_32 rfl (fun h32 => ?_) (fun h32 => ?_)
      · refine xi_iconst (v := 0) dX8_isHigher_39 (by decide) ?_
        refine go_ret (r := some (.int _)) ⟨dX8_isHigher_40, (by first | exact Or.inl rfl | exact Or.inr rfl)⟩ (Nat.le_of_ble_eq_true rfl) (Nat.le_of_ble_eq_true rfl) ?_
        exact ⟨by unfold higV; rw [if_neg h12, if_pos h27, if_pos ((nI_leI (by omega) (by omega)).mp h32)], rfl, rfl, rfl⟩
      · refine xi_iconst (v := 1) dX8_isHigher_35 (by decide) ?_
        refine xi_goto (tgt := 40) dX8_isHigher_36 rfl ?_
        refine go_ret (r := some (.int _)) ⟨dX8_isHigher_40, (by first | exact Or.inl rfl | exact Or.inr rfl)⟩ (Nat.le_of_ble_eq_true rfl) (Nat.le_of_ble_eq_true rfl) ?_
        exact ⟨by unfold higV; rw [if_neg h12, if_pos h27, if_neg (fun z => h32 ((nI_leI (by omega) (by omega)).mpr z))], rfl, rfl, rfl⟩
def hhS (rk ch : Nat → Int32) (se : Nat → Int64) (i lf : Nat) (k : Nat) (b : Int32) : Int32 := if b = 0 then (if lfV ch k = 0 then 0 else if blV se k i = 0 then 0 else if higV rk k lf = 0 then 0 else 1) else 1
def hhV (rk ch : Nat → Int32) (se : Nat → Int64) (m i lf : Nat) : Int32 := itr (hhS rk ch se i lf) m 0
theorem hh01 (rk ch : Nat → Int32) (se : Nat → Int64) (i lf : Nat) : ∀ m, itr (hhS rk ch se i lf) m 0 = 0 ∨ itr (hhS rk ch se i lf) m 0 = 1
  | 0 => Or.inl rfl
  | m + 1 => by rw [itr_s]; unfold hhS; (repeat' split) <;> first | exact Or.inl rfl | exact Or.inr rfl
theorem m_holdsHigher {i lf m : Nat} (hi : i < 64) (hlf : lf < 64) {A : xA} {B : xB} {D : xD} (hm : A 76 19 = nI m) (hm64 : m ≤ 64) : does0 mX8_holdsHigher [.ref 76, .int (nI i), .int (nI lf)] A B D (eqQ (some (.int (hhV (A 85) (A 87) (B 84) m i lf))) A B D) nx := by
  refine does_go (by decide) rfl (Nat.le_of_ble_eq_true rfl) rfl ?_
  have loop := up_ind (n := m) (P := fun j => ∀ q, q = itr (hhS (A 85) (A 87) (B 84) i lf) j 0 → go0 mX8_holdsHigher (eqQ (some (.int (hhV (A 85) (A 87) (B 84) m i lf))) A B D) nx 0 0 5 [(0, .ref 76), (1, .int (nI i)), (2, .int (nI lf)), (3, .int q), (4, .int (nI j))] [] A B D) (fun j hj ih q hq => by
    refine xi_iload dX8_holdsHigher_5 rfl ?_
    refine xi_aload_n dX8_holdsHigher_7 rfl rfl ?_
    refine xi_getfield0 dX8_holdsHigher_8 fX8_116 g76 ?_
    rw [hm]
    refine xi_icmp_ge (tgt := 59) dX8_holdsHigher_11 rfl (fun h11 => ?_) (fun h11 => ?_)
    · have e : j = m := ge_eq hj (by omega) h11
      subst e
      refine xi_iload_n dX8_holdsHigher_59 rfl rfl ?_
      refine go_ret (r := some (.int _)) ⟨dX8_holdsHigher_60, (by rw [hq]; exact hh01 _ _ _ _ _ _)⟩ (Nat.le_of_ble_eq_true rfl) (Nat.le_of_ble_eq_true rfl) ?_
      exact ⟨by rw [hq]; rfl, rfl, rfl, rfl⟩
    · have hl : j < m := nge_lt hj (by omega) h11
      refine xi_iload_n dX8_holdsHigher_14 rfl rfl ?_
      refine xi_ifne (tgt := 47) dX8_holdsHigher_15 rfl (fun h15 => ?_) (fun h15 => ?_)
      · refine xi_iconst (v := 1) dX8_holdsHigher_47 (by decide) ?_
        refine xi_goto (tgt := 52) dX8_holdsHigher_48 rfl ?_
        refine xi_istore_n dX8_holdsHigher_52 rfl (Nat.le_of_ble_eq_true rfl) ?_
        refine xi_iinc (v := 1) dX8_holdsHigher_53 rfl (by decide) (Nat.le_of_ble_eq_true rfl) ?_
        refine xi_goto (tgt := 5) dX8_holdsHigher_56 rfl ?_
        refine xgo_pick [0, 1, 2, 3, 4] rfl ?_
        rw [nI_1]
        exact ih hl _ (by rw [itr_s, ← hq]; unfold hhS; rw [if_neg h15])
      · refine xi_aload_n dX8_holdsHigher_18 rfl rfl ?_
        refine xi_iload dX8_holdsHigher_19 rfl ?_
        refine cV1 (av := [_]) dX8_holdsHigher_21 lX8_184 rfl ⟨rfl, rfl⟩ rfl ⟨(Nat.le_of_ble_eq_true rfl), (Nat.le_of_ble_eq_true rfl)⟩ ⟨(Nat.le_of_ble_eq_true rfl), (Nat.le_of_ble_eq_true rfl)⟩ (Nat.le_of_ble_eq_true rfl) g76 rfl rfl (m_isLeaf (by omega)) ?_
        refine xi_if_eq (tgt := 51) dX8_holdsHigher_24 rfl (fun h24 => ?_) (fun h24 => ?_)
        · refine xi_iconst (v := 0) dX8_holdsHigher_51 (by decide) ?_
          refine xi_istore_n dX8_holdsHigher_52 rfl (Nat.le_of_ble_eq_true rfl) ?_
          refine xi_iinc (v := 1) dX8_holdsHigher_53 rfl (by decide) (Nat.le_of_ble_eq_true rfl) ?_
          refine xi_goto (tgt := 5) dX8_holdsHigher_56 rfl ?_
          refine xgo_pick [0, 1, 2, 3, 4] rfl ?_
          rw [nI_1]
          exact ih hl _ (by rw [itr_s, ← hq]; unfold hhS; rw [if_pos h15, if_pos h24])
        · refine xi_aload_n dX8_holdsHigher_27 rfl rfl ?_
          refine xi_iload dX8_holdsHigher_28 rfl ?_
          refine xi_iload_n dX8_holdsHigher_30 rfl rfl ?_
          refine cV1 (av := [_, _]) dX8_holdsHigher_31 lX8_170 rfl ⟨rfl, rfl⟩ rfl ⟨(Nat.le_of_ble_eq_true rfl), (Nat.le_of_ble_eq_true rfl)⟩ ⟨(Nat.le_of_ble_eq_true rfl), (Nat.le_of_ble_eq_true rfl)⟩ (Nat.le_of_ble_eq_true rfl) g76 rfl rfl (m_isBelow (by omega) (by omega)) ?_
          refine xi_if_eq (tgt := 51) dX8_holdsHigher_34 rfl (fun h34 => ?_) (fun h34 => ?_)
          · refine xi_iconst (v := 0) dX8_holdsHigher_51 (by decide) ?_
            refine xi_istore_n dX8_holdsHigher_52 rfl (Nat.le_of_ble_eq_true rfl) ?_
            refine xi_iinc (v := 1) dX8_holdsHigher_53 rfl (by decide) (Nat.le_of_ble_eq_true rfl) ?_
            refine xi_goto (tgt := 5) dX8_holdsHigher_56 rfl ?_
            refine xgo_pick [0, 1, 2, 3, 4] rfl ?_
            rw [nI_1]
            exact ih hl _ (by rw [itr_s, ← hq]; unfold hhS; rw [if_pos h15, if_neg h24, if_pos h34])
          · refine xi_aload_n dX8_holdsHigher_37 rfl rfl ?_
            refine xi_iload dX8_holdsHigher_38 rfl ?_
            refine xi_iload_n dX8_holdsHigher_40 rfl rfl ?_
            refine cV1 (av := [_, _]) dX8_holdsHigher_41 lX8_187 rfl ⟨rfl, rfl⟩ rfl ⟨(Nat.le_of_ble_eq_true rfl), (Nat.le_of_ble_eq_true rfl)⟩ ⟨(Nat.le_of_ble_eq_true rfl), (Nat.le_of_ble_eq_true rfl)⟩ (Nat.le_of_ble_eq_true rfl) g76 rfl rfl (m_isHigher (by omega) (by omega)) ?_
            refine xi_if_eq (tgt := 51) dX8_holdsHigher_44 rfl (fun h44 => ?_) (fun h44 => ?_)
            · refine xi_iconst (v := 0) dX8_holdsHigher_51 (by decide) ?_
              refine xi_istore_n dX8_holdsHigher_52 rfl (Nat.le_of_ble_eq_true rfl) ?_
              refine xi_iinc (v := 1) dX8_holdsHigher_53 rfl (by decide) (Nat.le_of_ble_eq_true rfl) ?_
              refine xi_goto (tgt := 5) dX8_holdsHigher_56 rfl ?_
              refine xgo_pick [0, 1, 2, 3, 4] rfl ?_
              rw [nI_1]
              exact ih hl _ (by rw [itr_s, ← hq]; unfold hhS; rw [if_pos h15, if_neg h24, if_neg h34, if_pos h44])
            · refine xi_iconst (v := 1) dX8_holdsHigher_47 (by decide) ?_
              refine xi_goto (tgt := 52) dX8_holdsHigher_48 rfl ?_
              refine xi_istore_n dX8_holdsHigher_52 rfl (Nat.le_of_ble_eq_true rfl) ?_
              refine xi_iinc (v := 1) dX8_holdsHigher_53 rfl (by decide) (Nat.le_of_ble_eq_true rfl) ?_
              refine xi_goto (tgt := 5) dX8_holdsHigher_56 rfl ?_
              refine xgo_pick [0, 1, 2, 3, 4] rfl ?_
              rw [nI_1]
              exact ih hl _ (by rw [itr_s, ← hq]; unfold hhS; rw [if_pos h15, if_neg h24, if_neg h34, if_neg h44])
    )
  refine xi_iconst (v := 0) dX8_holdsHigher_0 (by decide) ?_
  refine xi_istore_n dX8_holdsHigher_1 rfl (Nat.le_of_ble_eq_true rfl) ?_
  refine xi_iconst (v := 0) dX8_holdsHigher_2 (by decide) ?_
  refine xi_istore dX8_holdsHigher_3 (Nat.le_of_ble_eq_true rfl) ?_
  refine xgo_pick [0, 1, 2, 3, 4] rfl ?_
  exact loop 0 (Nat.zero_le _) 0 rfl
/-- parents stand ahead of their children -/
def paOK (pa : Nat → Int32) (m : Nat) : Prop := ∀ v, v < m → ndOK (pa v) v
def dpV (pa : Nat → Int32) : Nat → Int32 → Int32
  | 0, _ => 0
  | d + 1, x => if x = -1 then 0 else dpV pa d (pa x.toNatClampNeg) + 1
theorem m_depthOf {i m : Nat} (hi : i < m) (hm64 : m ≤ 64) {A : xA} {B : xB} {D : xD} (hpa : paOK (A 86) m) : does0 mX8_depthOf [.ref 76, .int (nI i)] A B D (eqQ (some (.int (dpV (A 86) (i + 2) (nI i)))) A B D) nx := by
  refine does_go (by decide) rfl (Nat.le_of_ble_eq_true rfl) rfl ?_
  generalize hR : dpV (A 86) (i + 2) (nI i) = R
  have loop : ∀ d, ∀ x k : Int32, ndOK x d → d ≤ m → k + dpV (A 86) (d + 1) x = R → go0 mX8_depthOf (eqQ (some (.int R)) A B D) nx 0 0 4 [(0, .ref 76), (2, .int k), (3, .int x)] [] A B D := by
    intro d
    induction d with
    | zero =>
      intro x k hx hd hk
      have hx1 : x = -1 := hx.elim id (fun ⟨a, ha, _⟩ => by omega)
      subst hx1
      refine xi_iload_n dX8_depthOf_4 rfl rfl ?_
      refine xi_iconst (v := (-1)) dX8_depthOf_5 (by decide) ?_
      refine xi_icmp_eq (tgt := 22) dX8_depthOf_6 rfl (fun h6 => ?_) (fun h6 => ?_)
      · refine xi_iload_n dX8_depthOf_22 rfl rfl ?_
        refine go_ret (r := some (.int _)) dX8_depthOf_23 (Nat.le_of_ble_eq_true rfl) (Nat.le_of_ble_eq_true rfl) ?_
        exact ⟨by rw [← hk]; unfold dpV; rw [if_pos rfl, Int32.add_zero], rfl, rfl, rfl⟩
      · exact absurd rfl h6
    | succ d ih =>
      intro x k hx hd hk
      unfold dpV at hk
      refine xi_iload_n dX8_depthOf_4 rfl rfl ?_
      refine xi_iconst (v := (-1)) dX8_depthOf_5 (by decide) ?_
      refine xi_icmp_eq (tgt := 22) dX8_depthOf_6 rfl (fun h6 => ?_) (fun h6 => ?_)
      · refine xi_iload_n dX8_depthOf_22 rfl rfl ?_
        refine go_ret (r := some (.int _)) dX8_depthOf_23 (Nat.le_of_ble_eq_true rfl) (Nat.le_of_ble_eq_true rfl) ?_
        exact ⟨by rw [← hk, if_pos h6, Int32.add_zero], rfl, rfl, rfl⟩
      · obtain ⟨a, ha, rfl⟩ : ∃ a, a < d + 1 ∧ x = nI a := hx.elim (fun z => (h6 z).elim) id
        rw [if_neg h6, nI_clamp (by omega)] at hk
        refine xi_iinc (v := 1) dX8_depthOf_9 rfl (by decide) (Nat.le_of_ble_eq_true rfl) ?_
        refine xi_aload_n dX8_depthOf_12 rfl rfl ?_
        refine xi_getfield3 dX8_depthOf_13 fX8_45 g76 r76_22 ?_
        refine xi_iload_n dX8_depthOf_16 rfl rfl ?_
        refine ia dX8_depthOf_17 g86 s86 rfl (by omega) (Nat.le_of_ble_eq_true rfl) ?_
        refine xi_istore_n dX8_depthOf_18 rfl (Nat.le_of_ble_eq_true rfl) ?_
        refine xi_goto (tgt := 4) dX8_depthOf_19 rfl ?_
        refine xgo_pick [0, 2, 3] rfl ?_
        exact ih _ _ ((hpa a (by omega)).imp id (fun ⟨b, hb1, hb2⟩ => ⟨b, by omega, hb2⟩)) (by omega) (by rw [← hk, Int32.add_assoc, Int32.add_comm 1])
  refine xi_iconst (v := 0) dX8_depthOf_0 (by decide) ?_
  refine xi_istore_n dX8_depthOf_1 rfl (Nat.le_of_ble_eq_true rfl) ?_
  refine xi_iload_n dX8_depthOf_2 rfl rfl ?_
  refine xi_istore_n dX8_depthOf_3 rfl (Nat.le_of_ble_eq_true rfl) ?_
  refine xgo_pick [0, 2, 3] rfl ?_
  exact loop (i + 1) _ _ (Or.inr ⟨i, by omega, rfl⟩) (by omega) (by rw [Int32.zero_add]; exact hR)
def dpS (pa : Nat → Int32) (v : Nat) (x : Int32) : Int32 := grV x (dpV pa (v + 2) (nI v))
theorem m_deepest {m : Nat} {A : xA} {B : xB} {D : xD} (hm : A 76 19 = nI m) (hm64 : m ≤ 64) (hpa : paOK (A 86) m) : does0 mX8_deepest [.ref 76] A B D (eqQ (some (.int (itr (dpS (A 86)) m 0))) A B D) nx := by
  refine does_go (by decide) rfl (Nat.le_of_ble_eq_true rfl) rfl ?_
  have loop := up_ind (n := m) (P := fun j => ∀ q, q = itr (dpS (A 86)) j 0 → go0 mX8_deepest (eqQ (some (.int (itr (dpS (A 86)) m 0))) A B D) nx 0 0 4 [(0, .ref 76), (1, .int q), (2, .int (nI j))] [] A B D) (fun j hj ih q hq => by
    refine xi_iload_n dX8_deepest_4 rfl rfl ?_
    refine xi_aload_n dX8_deepest_5 rfl rfl ?_
    refine xi_getfield0 dX8_deepest_6 fX8_116 g76 ?_
    rw [hm]
    refine xi_icmp_ge (tgt := 28) dX8_deepest_9 rfl (fun h9 => ?_) (fun h9 => ?_)
    · have e : j = m := ge_eq hj (by omega) h9
      subst e
      refine xi_iload_n dX8_deepest_28 rfl rfl ?_
      refine go_ret (r := some (.int _)) dX8_deepest_29 (Nat.le_of_ble_eq_true rfl) (Nat.le_of_ble_eq_true rfl) ?_
      exact ⟨by rw [hq], rfl, rfl, rfl⟩
    · have hl : j < m := nge_lt hj (by omega) h9
      refine xi_iload_n dX8_deepest_12 rfl rfl ?_
      refine xi_aload_n dX8_deepest_13 rfl rfl ?_
      refine xi_iload_n dX8_deepest_14 rfl rfl ?_
      refine cV1 (av := [_]) dX8_deepest_15 lX8_196 rfl ⟨rfl, rfl⟩ rfl ⟨(Nat.le_of_ble_eq_true rfl), (Nat.le_of_ble_eq_true rfl)⟩ ⟨(Nat.le_of_ble_eq_true rfl), (Nat.le_of_ble_eq_true rfl)⟩ (Nat.le_of_ble_eq_true rfl) g76 rfl rfl (m_depthOf hl hm64 hpa) ?_
      refine cS1 (av := [_, _]) dX8_deepest_18 lX8_199 rfl ⟨rfl, rfl⟩ rfl ⟨(Nat.le_of_ble_eq_true rfl), (Nat.le_of_ble_eq_true rfl)⟩ ⟨(Nat.le_of_ble_eq_true rfl), (Nat.le_of_ble_eq_true rfl)⟩ (Nat.le_of_ble_eq_true rfl) (m_greater) ?_
      refine xi_istore_n dX8_deepest_21 rfl (Nat.le_of_ble_eq_true rfl) ?_
      refine xi_iinc (v := 1) dX8_deepest_22 rfl (by decide) (Nat.le_of_ble_eq_true rfl) ?_
      refine xi_goto (tgt := 4) dX8_deepest_25 rfl ?_
      refine xgo_pick [0, 1, 2] rfl ?_
      rw [nI_1]
      exact ih hl _ (by rw [itr_s, ← hq]; rfl)
    )
  refine xi_iconst (v := 0) dX8_deepest_0 (by decide) ?_
  refine xi_istore_n dX8_deepest_1 rfl (Nat.le_of_ble_eq_true rfl) ?_
  refine xi_iconst (v := 0) dX8_deepest_2 (by decide) ?_
  refine xi_istore_n dX8_deepest_3 rfl (Nat.le_of_ble_eq_true rfl) ?_
  refine xgo_pick [0, 1, 2] rfl ?_
  exact loop 0 (Nat.zero_le _) 0 rfl
theorem m_differentLevels {n : Nat} {A : xA} {B : xB} {D : xD} (hn : A 76 1 * A 76 2 = nI n) (hn64 : n ≤ 64) : does0 mX8_differentLevels [.ref 76] A B D (eqQ (some (.int (c1V (lvb (A 77) n).toInt64 64))) A B D) nx := by
  refine does_go (by decide) rfl (Nat.le_of_ble_eq_true rfl) rfl ?_
  have loop := up_ind (n := n) (P := fun j => go0 mX8_differentLevels (eqQ (some (.int (c1V (lvb (A 77) n).toInt64 64))) A B D) nx 0 0 4 [(0, .ref 76), (1, .int (lvb (A 77) j)), (2, .int (nI j))] [] A B D) (fun j hj ih => by
    refine xi_iload_n dX8_differentLevels_4 rfl rfl ?_
    refine xi_aload_n dX8_differentLevels_5 rfl rfl ?_
    refine cV1 (av := []) dX8_differentLevels_6 lX8_76 rfl ⟨rfl, rfl⟩ rfl ⟨(Nat.le_of_ble_eq_true rfl), (Nat.le_of_ble_eq_true rfl)⟩ ⟨(Nat.le_of_ble_eq_true rfl), (Nat.le_of_ble_eq_true rfl)⟩ (Nat.le_of_ble_eq_true rfl) g76 rfl rfl (m_pixels) ?_
    rw [hn]
    refine xi_icmp_ge (tgt := 29) dX8_differentLevels_9 rfl (fun h9 => ?_) (fun h9 => ?_)
    · have e : j = n := ge_eq hj (by omega) h9
      subst e
      refine xi_iload_n dX8_differentLevels_29 rfl rfl ?_
      refine xi_i2l dX8_differentLevels_30 ?_
      refine cS1 (av := [_]) dX8_differentLevels_31 lX8_202 rfl ⟨rfl, rfl⟩ rfl ⟨(Nat.le_of_ble_eq_true rfl), (Nat.le_of_ble_eq_true rfl)⟩ ⟨(Nat.le_of_ble_eq_true rfl), (Nat.le_of_ble_eq_true rfl)⟩ (Nat.le_of_ble_eq_true rfl) (m_count1) ?_
      refine go_ret (r := some (.int _)) dX8_differentLevels_34 (Nat.le_of_ble_eq_true rfl) (Nat.le_of_ble_eq_true rfl) ?_
      exact ⟨rfl, rfl, rfl, rfl⟩
    · have hl : j < n := nge_lt hj (by omega) h9
      refine xi_iload_n dX8_differentLevels_12 rfl rfl ?_
      refine xi_iconst (v := 1) dX8_differentLevels_13 (by decide) ?_
      refine xi_aload_n dX8_differentLevels_14 rfl rfl ?_
      refine xi_getfield3 dX8_differentLevels_15 fX8_16 g76 r76_3 ?_
      refine xi_iload_n dX8_differentLevels_18 rfl rfl ?_
      refine ia dX8_differentLevels_19 g77 s77 rfl (by omega) (Nat.le_of_ble_eq_true rfl) ?_
      refine xi_ishl dX8_differentLevels_20 ?_
      refine xi_ior dX8_differentLevels_21 ?_
      refine xi_istore_n dX8_differentLevels_22 rfl (Nat.le_of_ble_eq_true rfl) ?_
      refine xi_iinc (v := 1) dX8_differentLevels_23 rfl (by decide) (Nat.le_of_ble_eq_true rfl) ?_
      refine xi_goto (tgt := 4) dX8_differentLevels_26 rfl ?_
      refine xgo_pick [0, 1, 2] rfl ?_
      rw [nI_1]
      exact ih hl
    )
  refine xi_iconst (v := 0) dX8_differentLevels_0 (by decide) ?_
  refine xi_istore_n dX8_differentLevels_1 rfl (Nat.le_of_ble_eq_true rfl) ?_
  refine xi_iconst (v := 0) dX8_differentLevels_2 (by decide) ?_
  refine xi_istore_n dX8_differentLevels_3 rfl (Nat.le_of_ble_eq_true rfl) ?_
  refine xgo_pick [0, 1, 2] rfl ?_
  exact loop 0 (Nat.zero_le _)
theorem m_sumOfLevels {n : Nat} {A : xA} {B : xB} {D : xD} (hn : A 76 1 * A 76 2 = nI n) (hn64 : n ≤ 64) : does0 mX8_sumOfLevels [.ref 76] A B D (eqQ (some (.int (isum (A 77) n))) A B D) nx := by
  refine does_go (by decide) rfl (Nat.le_of_ble_eq_true rfl) rfl ?_
  have loop := up_ind (n := n) (P := fun j => go0 mX8_sumOfLevels (eqQ (some (.int (isum (A 77) n))) A B D) nx 0 0 4 [(0, .ref 76), (1, .int (isum (A 77) j)), (2, .int (nI j))] [] A B D) (fun j hj ih => by
    refine xi_iload_n dX8_sumOfLevels_4 rfl rfl ?_
    refine xi_aload_n dX8_sumOfLevels_5 rfl rfl ?_
    refine cV1 (av := []) dX8_sumOfLevels_6 lX8_76 rfl ⟨rfl, rfl⟩ rfl ⟨(Nat.le_of_ble_eq_true rfl), (Nat.le_of_ble_eq_true rfl)⟩ ⟨(Nat.le_of_ble_eq_true rfl), (Nat.le_of_ble_eq_true rfl)⟩ (Nat.le_of_ble_eq_true rfl) g76 rfl rfl (m_pixels) ?_
    rw [hn]
    refine xi_icmp_ge (tgt := 27) dX8_sumOfLevels_9 rfl (fun h9 => ?_) (fun h9 => ?_)
    · have e : j = n := ge_eq hj (by omega) h9
      subst e
      refine xi_iload_n dX8_sumOfLevels_27 rfl rfl ?_
      refine go_ret (r := some (.int _)) dX8_sumOfLevels_28 (Nat.le_of_ble_eq_true rfl) (Nat.le_of_ble_eq_true rfl) ?_
      exact ⟨rfl, rfl, rfl, rfl⟩
    · have hl : j < n := nge_lt hj (by omega) h9
      refine xi_iload_n dX8_sumOfLevels_12 rfl rfl ?_
      refine xi_aload_n dX8_sumOfLevels_13 rfl rfl ?_
      refine xi_getfield3 dX8_sumOfLevels_14 fX8_16 g76 r76_3 ?_
      refine xi_iload_n dX8_sumOfLevels_17 rfl rfl ?_
      refine ia dX8_sumOfLevels_18 g77 s77 rfl (by omega) (Nat.le_of_ble_eq_true rfl) ?_
      refine xi_iadd dX8_sumOfLevels_19 ?_
      refine xi_istore_n dX8_sumOfLevels_20 rfl (Nat.le_of_ble_eq_true rfl) ?_
      refine xi_iinc (v := 1) dX8_sumOfLevels_21 rfl (by decide) (Nat.le_of_ble_eq_true rfl) ?_
      refine xi_goto (tgt := 4) dX8_sumOfLevels_24 rfl ?_
      refine xgo_pick [0, 1, 2] rfl ?_
      rw [nI_1]
      exact ih hl
    )
  refine xi_iconst (v := 0) dX8_sumOfLevels_0 (by decide) ?_
  refine xi_istore_n dX8_sumOfLevels_1 rfl (Nat.le_of_ble_eq_true rfl) ?_
  refine xi_iconst (v := 0) dX8_sumOfLevels_2 (by decide) ?_
  refine xi_istore_n dX8_sumOfLevels_3 rfl (Nat.le_of_ble_eq_true rfl) ?_
  refine xgo_pick [0, 1, 2] rfl ?_
  exact loop 0 (Nat.zero_le _)

