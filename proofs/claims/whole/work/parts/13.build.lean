/-! Nodes.build -/
/-- the pixels of rank t among the first n -/
def wrV (rk : Nat → Nat) (t : Nat) : Nat → Int64
  | 0 => 0
  | j + 1 => if rk j = t then wrV rk t j ||| shlL 1 (nI j) else wrV rk t j
def wrB (B : xB) (k : Nat) (rk : Nat → Nat) (n : Nat) : xB := setB B k (fun t => if t < 16 then wrV rk t n else B k t)
theorem wrB_0 (B : xB) (k : Nat) (rk : Nat → Nat) : filB B k 16 0 = wrB B k rk 0 := by
  unfold filB wrB
  congr 1
theorem wrB_1 (B : xB) (k : Nat) (rk : Nat → Nat) (j : Nat) (h : rk j < 16) : updB (wrB B k rk j) k (rk j) (wrB B k rk j k (rk j) ||| shlL 1 (nI j)) = wrB B k rk (j + 1) := by
  funext k' t
  rw [updB_get]
  unfold wrB
  by_cases hk : k' = k
  · subst hk
    rw [setB_s, setB_s]
    by_cases ht : t = rk j
    · subst ht
      rw [if_pos ⟨rfl, rfl⟩, if_pos h, if_pos h]
      exact (if_pos (c := rk j = rk j) rfl).symm
    · rw [if_neg (fun q => ht q.2)]
      by_cases h16 : t < 16
      · rw [if_pos h16, if_pos h16]
        exact (if_neg (c := rk j = t) (fun q => ht q.symm)).symm
      · rw [if_neg h16, if_neg h16]
  · rw [setB_n _ _ hk, setB_n _ _ hk, if_neg (fun q => hk q.1)]
theorem c_sortPixels {k p n : Nat} {rk : Nat → Nat} {dk : Int32} (hk : isNod k) (hp : isPic p) {A : xA} {B : xB} {D : xD} (hn : A (k + 1) 2 = nI n) (hb : n ≤ 64) (hr : ∀ j, j < n → rk j < 16 ∧ trn (A (p + 1) j) dk = nI (rk j)) : does0 mX5_sortPixels [.ref k, .ref p, .int dk] A B D (eqQ none A (wrB B (k + 9) rk n) D) nx := by
  refine does_go (by decide) rfl (Nat.le_of_ble_eq_true rfl) rfl ?_
  have loop := up_ind (n := n) (P := fun j => go0 mX5_sortPixels (eqQ none A (wrB B (k + 9) rk n) D) nx 0 0 10 [(0, .ref k), (1, .ref p), (2, .int dk), (3, .int (nI j))] [] A (wrB B (k + 9) rk j) D) (fun j hj ih => by
    refine xi_iload_n dX5_sortPixels_10 rfl rfl ?_
    refine xi_aload_n dX5_sortPixels_11 rfl rfl ?_
    refine xi_getfield3 dX5_sortPixels_12 fX5_12 hk.g hk.r0 ?_
    refine xi_getfield0 dX5_sortPixels_15 fX5_96 hk.g1 ?_
    rw [hn]
    refine xi_icmp_ge (tgt := 48) dX5_sortPixels_18 rfl (fun h18 => ?_) (fun h18 => ?_)
    · have e : j = n := ge_eq hj (by omega) h18
      subst e
      refine go_ret (r := none) dX5_sortPixels_48 (Nat.le_of_ble_eq_true rfl) (Nat.le_of_ble_eq_true rfl) ?_
      exact ⟨rfl, rfl, rfl, rfl⟩
    · have hl : j < n := nge_lt hj (by omega) h18
      refine xi_aload_n dX5_sortPixels_21 rfl rfl ?_
      refine xi_getfield3 dX5_sortPixels_22 fX5_55 hk.g hk.r12 ?_
      refine xi_aload_n dX5_sortPixels_25 rfl rfl ?_
      refine xi_getfield3 dX5_sortPixels_26 fX5_99 hp.g hp.r2 ?_
      refine xi_iload_n dX5_sortPixels_29 rfl rfl ?_
      refine ia dX5_sortPixels_30 hp.g1 hp.s1 rfl (by omega) (Nat.le_of_ble_eq_true rfl) ?_
      refine xi_iload_n dX5_sortPixels_31 rfl rfl ?_
      refine cN1 (av := [_, _]) dX5_sortPixels_32 nX5_102 rfl ⟨rfl, rfl⟩ rfl ⟨(Nat.le_of_ble_eq_true rfl), (Nat.le_of_ble_eq_true rfl)⟩ ⟨(Nat.le_of_ble_eq_true rfl), (Nat.le_of_ble_eq_true rfl)⟩ (Nat.le_of_ble_eq_true rfl) (c_turned) ?_
      refine xi_dup2 dX5_sortPixels_35 rfl rfl ?_
      refine la dX5_sortPixels_36 hk.g9 hk.s9 (hr j hl).2 (hr j hl).1 (Nat.le_of_ble_eq_true rfl) ?_
      refine xi_lconst (v := 1) dX5_sortPixels_37 (by decide) ?_
      refine xi_iload_n dX5_sortPixels_38 rfl rfl ?_
      refine xi_lshl dX5_sortPixels_39 ?_
      refine xi_lor dX5_sortPixels_40 ?_
      refine ls dX5_sortPixels_41 hk.g9 hk.s9 (hr j hl).2 (hr j hl).1 (Nat.le_of_ble_eq_true rfl) ?_
      refine xi_iinc (v := 1) dX5_sortPixels_42 rfl (by decide) (Nat.le_of_ble_eq_true rfl) ?_
      refine xi_goto (tgt := 10) dX5_sortPixels_45 rfl ?_
      refine xgo_pick [0, 1, 2, 3] rfl ?_
      rw [nI_1]
      have q := ih hl
      rw [← wrB_1 B (k + 9) rk j (hr j hl).1] at q
      exact q
    )
  refine xi_aload_n dX5_sortPixels_0 rfl rfl ?_
  refine xi_getfield3 dX5_sortPixels_1 fX5_55 hk.g hk.r12 ?_
  refine xi_lconst (v := 0) dX5_sortPixels_4 (by decide) ?_
  refine cS1 (av := [_, _]) dX5_sortPixels_5 lX5_93 rfl ⟨rfl, rfl⟩ rfl ⟨(Nat.le_of_ble_eq_true rfl), (Nat.le_of_ble_eq_true rfl)⟩ ⟨(Nat.le_of_ble_eq_true rfl), (Nat.le_of_ble_eq_true rfl)⟩ (Nat.le_of_ble_eq_true rfl) (c_fillL hk.g9 hk.s9 (by decide)) ?_
  rw [wrB_0 B (k + 9) rk]
  refine xi_iconst (v := 0) dX5_sortPixels_8 (by decide) ?_
  refine xi_istore_n dX5_sortPixels_9 rfl (Nat.le_of_ble_eq_true rfl) ?_
  refine xgo_pick [0, 1, 2, 3] rfl ?_
  exact loop 0 (Nat.zero_le _)
/-- addNode's heap: the new node m of rank t, its set f, its lowest pixel lo (n pixels, w: the pixels of its rank) -/
def adA (A : xA) (k m lo n : Nat) (t : Int32) (f w : Int64) : xA := fun k' j =>
  if k' = k then (if j = 2 then A k 2 + 1 else if j = 4 then imax (A k 4) (if A (k + 7) lo = -1 then 1 else A (k + 8) (A (k + 7) lo).toNatClampNeg + 1) else A k j)
  else if k' = k + 3 then (if j = m then t else A (k + 3) j)
  else if k' = k + 4 then (if j = m then bcL (f &&& w) else A (k + 4) j)
  else if k' = k + 5 then (if j = m then A (k + 7) lo else A (k + 5) j)
  else if k' = k + 6 then (if j = m then 0 else if A (k + 7) lo ≠ -1 ∧ j = (A (k + 7) lo).toNatClampNeg then A (k + 6) j + 1 else A (k + 6) j)
  else if k' = k + 7 then (if lo ≤ j ∧ j < n ∧ hasV f j ≠ 0 then nI m else A (k + 7) j)
  else if k' = k + 8 then (if j = m then (if A (k + 7) lo = -1 then 1 else A (k + 8) (A (k + 7) lo).toNatClampNeg + 1) else A (k + 8) j)
  else A k' j
/-- which node a pixel has: none, or one of the first m -/
def ndOK (x : Int32) (m : Nat) : Prop := x = -1 ∨ ∃ a, a < m ∧ x = nI a
theorem c_addNode {k m tn lo n : Nat} {f : Int64} (hk : isNod k) {A : xA} {B : xB} {D : xD} (hm : A k 2 = nI m) (hm2 : m < 64) (ht : tn < 16) (hlo : lo < n) (hn : A (k + 1) 2 = nI n) (hb : n ≤ 64) (hok : ndOK (A (k + 7) lo) m) : does0 mX5_addNode [.ref k, .int (nI tn), .long f, .int (nI lo)] A B D (eqQ none (adA A k m lo n (nI tn) f (B (k + 9) tn)) (updB B (k + 2) m f) D) nx := by
  refine does_go (by decide) rfl (Nat.le_of_ble_eq_true rfl) rfl ?_
  generalize hAe : adA A k m lo n (nI tn) f (B (k + 9) tn) = AE
  have loop := up_ind (n := n) (P := fun j => lo ≤ j → ∀ A1, (∀ k' i, k' ≠ k + 7 → A1 k' i = AE k' i) → (∀ i, A1 (k + 7) i = if lo ≤ i ∧ i < j ∧ hasV f i ≠ 0 then nI m else A (k + 7) i) → go0 mX5_addNode (eqQ none AE (updB B (k + 2) m f) D) nx 0 0 139 [(0, .ref k), (5, .int (nI m)), (7, .int (nI j))] [] A1 (updB B (k + 2) m f) D) (fun j hj ih hlj A1 h1 h2 => by
    have hsz : A1 (k + 1) 2 = nI n := by
      rw [h1 _ _ (by omega), ← hAe]
      simp [adA, hn]
    refine xi_iload dX5_addNode_139 rfl ?_
    refine xi_aload_n dX5_addNode_141 rfl rfl ?_
    refine xi_getfield3 dX5_addNode_142 fX5_12 hk.g hk.r0 ?_
    refine xi_getfield0 dX5_addNode_145 fX5_96 hk.g1 ?_
    rw [hsz]
    refine xi_icmp_ge (tgt := 177) dX5_addNode_148 rfl (fun h148 => ?_) (fun h148 => ?_)
    · have e : j = n := ge_eq hj (by omega) h148
      subst e
      refine go_ret (r := none) dX5_addNode_177 (Nat.le_of_ble_eq_true rfl) (Nat.le_of_ble_eq_true rfl) ?_
      exact ⟨rfl, by
        funext k' i
        by_cases hk7 : k' = k + 7
        · subst hk7
          rw [h2, ← hAe]
          simp [adA]
        · exact h1 k' i hk7, rfl, rfl⟩
    · have hl : j < n := nge_lt hj (by omega) h148
      refine xi_aload_n dX5_addNode_151 rfl rfl ?_
      refine xi_iload dX5_addNode_152 rfl ?_
      refine xi_iload dX5_addNode_154 rfl ?_
      refine cV1 (av := [_, _]) dX5_addNode_156 lX5_126 rfl ⟨rfl, rfl⟩ rfl ⟨(Nat.le_of_ble_eq_true rfl), (Nat.le_of_ble_eq_true rfl)⟩ ⟨(Nat.le_of_ble_eq_true rfl), (Nat.le_of_ble_eq_true rfl)⟩ (Nat.le_of_ble_eq_true rfl) hk.g rfl rfl (c_holds hk (by omega)) ?_
      rw [updB_ss]
      refine xi_if_eq (tgt := 171) dX5_addNode_159 rfl (fun h159 => ?_) (fun h159 => ?_)
      · refine xi_iinc (v := 1) dX5_addNode_171 rfl (by decide) (Nat.le_of_ble_eq_true rfl) ?_
        refine xi_goto (tgt := 139) dX5_addNode_174 rfl ?_
        refine xgo_pick [0, 5, 7] rfl ?_
        rw [nI_1]
        first
          | (refine ih hl (by omega) _ h1 (fun i => ?_)
             rw [h2]
             by_cases hi : i = j
             · subst hi; simp [h159]
             · simp only [show (i < j + 1) = (i < j) by simp; omega])
          | (refine ih hl (by omega) _ (fun k' i hk' => ?_) (fun i => ?_)
             · rw [updA_n _ _ _ hk']; exact h1 k' i hk'
             · rw [updA_get, h2]
               by_cases hi : i = j
               · subst hi; simp [h159, hlj]
               · simp only [show (i < j + 1) = (i < j) by simp; omega, hi, and_false, if_false])
      · refine xi_aload_n dX5_addNode_162 rfl rfl ?_
        refine xi_getfield3 dX5_addNode_163 fX5_49 hk.g hk.r10 ?_
        refine xi_iload dX5_addNode_166 rfl ?_
        refine xi_iload dX5_addNode_168 rfl ?_
        refine is dX5_addNode_170 hk.g7 hk.s7 rfl (by omega) (Nat.le_of_ble_eq_true rfl) ?_
        refine xi_iinc (v := 1) dX5_addNode_171 rfl (by decide) (Nat.le_of_ble_eq_true rfl) ?_
        refine xi_goto (tgt := 139) dX5_addNode_174 rfl ?_
        refine xgo_pick [0, 5, 7] rfl ?_
        rw [nI_1]
        first
          | (refine ih hl (by omega) _ h1 (fun i => ?_)
             rw [h2]
             by_cases hi : i = j
             · subst hi; simp [h159]
             · simp only [show (i < j + 1) = (i < j) by simp; omega])
          | (refine ih hl (by omega) _ (fun k' i hk' => ?_) (fun i => ?_)
             · rw [updA_n _ _ _ hk']; exact h1 k' i hk'
             · rw [updA_get, h2]
               by_cases hi : i = j
               · subst hi; simp [h159, hlj]
               · simp only [show (i < j + 1) = (i < j) by simp; omega, hi, and_false, if_false])
    )
  have h1 : updA A k 2 (A k 2 + 1) (k + 7) lo = A (k + 7) lo := by rw [updA_n _ _ _ (by omega)]
  refine xi_aload_n dX5_addNode_0 rfl rfl ?_
  refine xi_getfield0 dX5_addNode_1 fX5_22 hk.g ?_
  refine xi_istore dX5_addNode_4 (Nat.le_of_ble_eq_true rfl) ?_
  rw [hm]
  refine xi_aload_n dX5_addNode_6 rfl rfl ?_
  refine xi_dup dX5_addNode_7 rfl ?_
  refine xi_getfield0 dX5_addNode_8 fX5_22 hk.g ?_
  refine xi_iconst (v := 1) dX5_addNode_11 (by decide) ?_
  refine xi_iadd dX5_addNode_12 ?_
  refine xi_putfield0 dX5_addNode_13 fX5_22 hk.g pX5_22 ?_
  refine xi_aload_n dX5_addNode_16 rfl rfl ?_
  refine xi_getfield3 dX5_addNode_17 fX5_49 hk.g hk.r10 ?_
  refine xi_iload dX5_addNode_20 rfl ?_
  refine ia dX5_addNode_22 hk.g7 hk.s7 rfl (by omega) (Nat.le_of_ble_eq_true rfl) ?_
  refine xi_istore dX5_addNode_23 (Nat.le_of_ble_eq_true rfl) ?_
  rw [h1]
  refine xi_aload_n dX5_addNode_25 rfl rfl ?_
  refine xi_getfield3 dX5_addNode_26 fX5_32 hk.g hk.r5 ?_
  refine xi_iload dX5_addNode_29 rfl ?_
  refine xi_lload_n dX5_addNode_31 rfl rfl ?_
  refine ls dX5_addNode_32 hk.g2 hk.s2 rfl (by omega) (Nat.le_of_ble_eq_true rfl) ?_
  refine xi_aload_n dX5_addNode_33 rfl rfl ?_
  refine xi_getfield3 dX5_addNode_34 fX5_36 hk.g hk.r6 ?_
  refine xi_iload dX5_addNode_37 rfl ?_
  refine xi_iload_n dX5_addNode_39 rfl rfl ?_
  refine is dX5_addNode_40 hk.g3 hk.s3 rfl (by omega) (Nat.le_of_ble_eq_true rfl) ?_
  refine xi_aload_n dX5_addNode_41 rfl rfl ?_
  refine xi_getfield3 dX5_addNode_42 fX5_40 hk.g hk.r7 ?_
  refine xi_iload dX5_addNode_45 rfl ?_
  refine xi_lload_n dX5_addNode_47 rfl rfl ?_
  refine xi_aload_n dX5_addNode_48 rfl rfl ?_
  refine xi_getfield3 dX5_addNode_49 fX5_55 hk.g hk.r12 ?_
  refine xi_iload_n dX5_addNode_52 rfl rfl ?_
  refine la dX5_addNode_53 hk.g9 hk.s9 rfl (by omega) (Nat.le_of_ble_eq_true rfl) ?_
  rw [updB_n _ _ _ (by omega)]
  refine xi_land dX5_addNode_54 ?_
  refine cS1 (av := [_]) dX5_addNode_55 lX5_114 rfl ⟨rfl, rfl⟩ rfl ⟨(Nat.le_of_ble_eq_true rfl), (Nat.le_of_ble_eq_true rfl)⟩ ⟨(Nat.le_of_ble_eq_true rfl), (Nat.le_of_ble_eq_true rfl)⟩ (Nat.le_of_ble_eq_true rfl) (c_bcL) ?_
  refine is dX5_addNode_58 hk.g4 hk.s4 rfl (by omega) (Nat.le_of_ble_eq_true rfl) ?_
  refine xi_aload_n dX5_addNode_59 rfl rfl ?_
  refine xi_getfield3 dX5_addNode_60 fX5_43 hk.g hk.r8 ?_
  refine xi_iload dX5_addNode_63 rfl ?_
  refine xi_iload dX5_addNode_65 rfl ?_
  refine is dX5_addNode_67 hk.g5 hk.s5 rfl (by omega) (Nat.le_of_ble_eq_true rfl) ?_
  refine xi_aload_n dX5_addNode_68 rfl rfl ?_
  refine xi_getfield3 dX5_addNode_69 fX5_46 hk.g hk.r9 ?_
  refine xi_iload dX5_addNode_72 rfl ?_
  refine xi_iconst (v := 0) dX5_addNode_74 (by decide) ?_
  refine is dX5_addNode_75 hk.g6 hk.s6 rfl (by omega) (Nat.le_of_ble_eq_true rfl) ?_
  refine xi_aload_n dX5_addNode_76 rfl rfl ?_
  refine xi_getfield3 dX5_addNode_77 fX5_52 hk.g hk.r11 ?_
  refine xi_iload dX5_addNode_80 rfl ?_
  refine xi_iconst (v := 1) dX5_addNode_82 (by decide) ?_
  refine is dX5_addNode_83 hk.g8 hk.s8 rfl (by omega) (Nat.le_of_ble_eq_true rfl) ?_
  refine xi_iload dX5_addNode_84 rfl ?_
  refine xi_iconst (v := (-1)) dX5_addNode_86 (by decide) ?_
  refine xi_icmp_eq (tgt := 117) dX5_addNode_87 rfl (fun h87 => ?_) (fun h87 => ?_)
  · have h87 : A (k + 7) lo = -1 := h87
    refine xi_aload_n dX5_addNode_117 rfl rfl ?_
    refine xi_aload_n dX5_addNode_118 rfl rfl ?_
    refine xi_getfield0 dX5_addNode_119 fX5_29 hk.g ?_
    refine xi_aload_n dX5_addNode_122 rfl rfl ?_
    refine xi_getfield3 dX5_addNode_123 fX5_52 hk.g hk.r11 ?_
    refine xi_iload dX5_addNode_126 rfl ?_
    refine ia dX5_addNode_128 hk.g8 hk.s8 rfl (by omega) (Nat.le_of_ble_eq_true rfl) ?_
    refine xi_mmax dX5_addNode_129 eX5_120 ⟨(Nat.le_of_ble_eq_true rfl), (Nat.le_of_ble_eq_true rfl)⟩ ⟨(Nat.le_of_ble_eq_true rfl), (Nat.le_of_ble_eq_true rfl)⟩ ?_
    refine xi_putfield0 dX5_addNode_132 fX5_29 hk.g pX5_29 ?_
    refine xi_iload dX5_addNode_135 rfl ?_
    refine xi_istore dX5_addNode_137 (Nat.le_of_ble_eq_true rfl) ?_
    refine xgo_pick [0, 5, 7] rfl ?_
    refine loop lo (by omega) (Nat.le_refl _) _ (fun k' i hk' => ?_) (fun i => ?_)
    · rw [← hAe]
      clear loop hAe
      unfold adA
      simp only [updA_get]
      first
        | (have hcl : (A (k + 7) lo).toNatClampNeg = a := by rw [hab]; exact nI_clamp (show a < 2 ^ 31 by omega)
           grind (splits := 40))
        | grind (splits := 40)
    · clear loop hAe
      simp only [updA_get]
      grind (splits := 40)
  · obtain ⟨a, ha, hab⟩ : ∃ a, a < m ∧ A (k + 7) lo = nI a := hok.resolve_left h87
    refine xi_aload_n dX5_addNode_90 rfl rfl ?_
    refine xi_getfield3 dX5_addNode_91 fX5_46 hk.g hk.r9 ?_
    refine xi_iload dX5_addNode_94 rfl ?_
    refine xi_dup2 dX5_addNode_96 rfl rfl ?_
    refine ia dX5_addNode_97 hk.g6 hk.s6 hab (by omega) (Nat.le_of_ble_eq_true rfl) ?_
    refine xi_iconst (v := 1) dX5_addNode_98 (by decide) ?_
    refine xi_iadd dX5_addNode_99 ?_
    refine is dX5_addNode_100 hk.g6 hk.s6 hab (by omega) (Nat.le_of_ble_eq_true rfl) ?_
    refine xi_aload_n dX5_addNode_101 rfl rfl ?_
    refine xi_getfield3 dX5_addNode_102 fX5_52 hk.g hk.r11 ?_
    refine xi_iload dX5_addNode_105 rfl ?_
    refine xi_aload_n dX5_addNode_107 rfl rfl ?_
    refine xi_getfield3 dX5_addNode_108 fX5_52 hk.g hk.r11 ?_
    refine xi_iload dX5_addNode_111 rfl ?_
    refine ia dX5_addNode_113 hk.g8 hk.s8 hab (by omega) (Nat.le_of_ble_eq_true rfl) ?_
    refine xi_iconst (v := 1) dX5_addNode_114 (by decide) ?_
    refine xi_iadd dX5_addNode_115 ?_
    refine is dX5_addNode_116 hk.g8 hk.s8 rfl (by omega) (Nat.le_of_ble_eq_true rfl) ?_
    refine xi_aload_n dX5_addNode_117 rfl rfl ?_
    refine xi_aload_n dX5_addNode_118 rfl rfl ?_
    refine xi_getfield0 dX5_addNode_119 fX5_29 hk.g ?_
    refine xi_aload_n dX5_addNode_122 rfl rfl ?_
    refine xi_getfield3 dX5_addNode_123 fX5_52 hk.g hk.r11 ?_
    refine xi_iload dX5_addNode_126 rfl ?_
    refine ia dX5_addNode_128 hk.g8 hk.s8 rfl (by omega) (Nat.le_of_ble_eq_true rfl) ?_
    refine xi_mmax dX5_addNode_129 eX5_120 ⟨(Nat.le_of_ble_eq_true rfl), (Nat.le_of_ble_eq_true rfl)⟩ ⟨(Nat.le_of_ble_eq_true rfl), (Nat.le_of_ble_eq_true rfl)⟩ ?_
    refine xi_putfield0 dX5_addNode_132 fX5_29 hk.g pX5_29 ?_
    refine xi_iload dX5_addNode_135 rfl ?_
    refine xi_istore dX5_addNode_137 (Nat.le_of_ble_eq_true rfl) ?_
    refine xgo_pick [0, 5, 7] rfl ?_
    refine loop lo (by omega) (Nat.le_refl _) _ (fun k' i hk' => ?_) (fun i => ?_)
    · rw [← hAe]
      clear loop hAe
      unfold adA
      simp only [updA_get]
      first
        | (have hcl : (A (k + 7) lo).toNatClampNeg = a := by rw [hab]; exact nI_clamp (show a < 2 ^ 31 by omega)
           grind (splits := 40))
        | grind (splits := 40)
    · clear loop hAe
      simp only [updA_get]
      grind (splits := 40)
/-- what holds of the nodes' arrays while they grow -/
def nodI (A : xA) (k n m : Nat) : Prop := A k 2 = nI m ∧ m ≤ 64 ∧ A (k + 1) 2 = nI n ∧ ∀ p, p < n → ndOK (A (k + 7) p) m
theorem nodI_ad {A : xA} {k m lo n : Nat} {t : Int32} {f w : Int64} (h : nodI A k n m) (hm : m < 64) : nodI (adA A k m lo n t f w) k n (m + 1) := by
  obtain ⟨h1, h2, h3, h4⟩ := h
  refine ⟨by simp [adA, h1, nI_1], by omega, by simp [adA, h3], fun p hp => ?_⟩
  have e : adA A k m lo n t f w (k + 7) p = if lo ≤ p ∧ p < n ∧ hasV f p ≠ 0 then nI m else A (k + 7) p := by simp [adA]
  rw [e]
  by_cases c : lo ≤ p ∧ p < n ∧ hasV f p ≠ 0
  · rw [if_pos c]; exact Or.inr ⟨m, by omega, rfl⟩
  · rw [if_neg c]
    rcases h4 p hp with h | ⟨a, ha, h⟩
    · exact Or.inl h
    · exact Or.inr ⟨a, by omega, h⟩
theorem adA_o {A : xA} {k m lo n : Nat} {t : Int32} {f w : Int64} {k' j : Nat} (h : k' < k ∨ k + 8 < k' ∨ k' = k + 1 ∨ k' = k + 2) : adA A k m lo n t f w k' j = A k' j := by
  unfold adA
  grind
/-- the connected set of a pixel as the class finds it -/
def cnV (A : xA) (B : xB) (k j : Nat) (r : Int64) : Int64 := connV (A (k + 1) 0) (B (k + 1) 4) (B (k + 1) 5) r (A k 1) 64 (shlL 1 (nI j))
/-- addNodes, one pixel -/
def addS (k n : Nat) (t : Nat) (j : Nat) (q : xA × xB × Int64) : xA × xB × Int64 :=
  if 64 ≤ q.1 k 2 then q else if (q.2.2 &&& shlL 1 (nI j)) = 0 then q else
  if (cnV q.1 q.2.1 k j q.2.2 &&& q.2.1 (k + 9) t) = 0 then (q.1, q.2.1, q.2.2 &&& (cnV q.1 q.2.1 k j q.2.2 ^^^ -1)) else
  (adA q.1 k (q.1 k 2).toNatClampNeg j n (nI t) (cnV q.1 q.2.1 k j q.2.2) (q.2.1 (k + 9) t), updB q.2.1 (k + 2) (q.1 k 2).toNatClampNeg (cnV q.1 q.2.1 k j q.2.2), q.2.2 &&& (cnV q.1 q.2.1 k j q.2.2 ^^^ -1))
theorem addS0 {k n t j : Nat} {q : xA × xB × Int64} (h : 64 ≤ q.1 k 2) : addS k n t j q = q := if_pos h
theorem addS1 {k n t j : Nat} {q : xA × xB × Int64} (h : (q.2.2 &&& shlL 1 (nI j)) = 0) : addS k n t j q = q := by
  unfold addS
  by_cases c : 64 ≤ q.1 k 2
  · rw [if_pos c]
  · rw [if_neg c, if_pos h]
theorem addS2 {k n t j : Nat} {q : xA × xB × Int64} (h : ¬ 64 ≤ q.1 k 2) (h1 : ¬ (q.2.2 &&& shlL 1 (nI j)) = 0) (h2 : (cnV q.1 q.2.1 k j q.2.2 &&& q.2.1 (k + 9) t) = 0) : addS k n t j q = (q.1, q.2.1, q.2.2 &&& (cnV q.1 q.2.1 k j q.2.2 ^^^ -1)) := by
  unfold addS
  rw [if_neg h, if_neg h1, if_pos h2]
theorem addS3 {k n t j m : Nat} {q : xA × xB × Int64} (h : ¬ 64 ≤ q.1 k 2) (h1 : ¬ (q.2.2 &&& shlL 1 (nI j)) = 0) (h2 : ¬ (cnV q.1 q.2.1 k j q.2.2 &&& q.2.1 (k + 9) t) = 0) (hm : q.1 k 2 = nI m) (hm2 : m ≤ 64) : addS k n t j q = (adA q.1 k m j n (nI t) (cnV q.1 q.2.1 k j q.2.2) (q.2.1 (k + 9) t), updB q.2.1 (k + 2) m (cnV q.1 q.2.1 k j q.2.2), q.2.2 &&& (cnV q.1 q.2.1 k j q.2.2 ^^^ -1)) := by
  unfold addS
  rw [if_neg h, if_neg h1, if_neg h2, hm, nI_clamp (by omega)]
theorem addS_stop {k n t j : Nat} {q : xA × xB × Int64} {s0 : xA × xB × Int64} (hq : q = itr (addS k n t) j s0) (h : 64 ≤ q.1 k 2) : ∀ d, itr (addS k n t) (j + d) s0 = q
  | 0 => hq.symm
  | d + 1 => by
    show addS k n t (j + d) (itr (addS k n t) (j + d) s0) = _
    rw [addS_stop hq h d]
    exact addS0 h
theorem nI64 {m : Nat} (hm : m ≤ 64) (h : ¬ 64 ≤ nI m) : m < 64 := by
  rcases Nat.lt_or_ge m 64 with q | q
  · exact q
  · exact absurd ((nI_leI (a := 64) (b := m) (by decide) (by omega)).mpr q) h
/-- .. with what must hold of it -/
theorem addS_I {k n t j m : Nat} {q : xA × xB × Int64} (h : nodI q.1 k n m) : ∃ m', nodI (addS k n t j q).1 k n m' := by
  by_cases c : 64 ≤ q.1 k 2
  · rw [addS0 c]; exact ⟨m, h⟩
  · by_cases c1 : (q.2.2 &&& shlL 1 (nI j)) = 0
    · rw [addS1 c1]; exact ⟨m, h⟩
    · by_cases c2 : (cnV q.1 q.2.1 k j q.2.2 &&& q.2.1 (k + 9) t) = 0
      · rw [addS2 c c1 c2]; exact ⟨m, h⟩
      · rw [addS3 c c1 c2 h.1 h.2.1]
        refine ⟨m + 1, nodI_ad h (nI64 h.2.1 ?_)⟩
        rw [← h.1]; exact c
theorem addI_I {k n t m : Nat} {s0 : xA × xB × Int64} (h : nodI s0.1 k n m) : ∀ j, ∃ m', nodI (itr (addS k n t) j s0).1 k n m'
  | 0 => ⟨m, h⟩
  | j + 1 => by
    obtain ⟨m', h'⟩ := addI_I h j
    exact addS_I h'
theorem isNod.gr {k : Nat} (h : isNod k) : isGrd (k + 1) := by rcases h with rfl | rfl; exact Or.inl rfl; exact Or.inr rfl
theorem c_addNodes {k n t m0 : Nat} {nl : Int64} (hk : isNod k) {A : xA} {B : xB} {D : xD} (ht : t < 16) (hb : n ≤ 64) (hI : nodI A k n m0) : does0 mX5_addNodes [.ref k, .int (nI t), .long nl] A B D (eqQ none (itr (addS k n t) n (A, B, nl)).1 (itr (addS k n t) n (A, B, nl)).2.1 D) nx := by
  refine does_go (by decide) rfl (Nat.le_of_ble_eq_true rfl) rfl ?_
  generalize hR : itr (addS k n t) n (A, B, nl) = R
  have loop := up_ind (n := n) (P := fun j => ∀ q, q = itr (addS k n t) j (A, B, nl) → go0 mX5_addNodes (eqQ none R.1 R.2.1 D) nx 0 0 6 [(0, .ref k), (1, .int (nI t)), (4, .long q.2.2), (6, .int (nI j))] [] q.1 q.2.1 D) (fun j hj ih q hq => by
    obtain ⟨m, hm⟩ := addI_I (t := t) (s0 := (A, B, nl)) hI j
    rw [← hq] at hm
    refine xi_iload dX5_addNodes_6 rfl ?_
    refine xi_aload_n dX5_addNodes_8 rfl rfl ?_
    refine xi_getfield3 dX5_addNodes_9 fX5_12 hk.g hk.r0 ?_
    refine xi_getfield0 dX5_addNodes_12 fX5_96 hk.g1 ?_
    rw [hm.2.2.1]
    refine xi_icmp_ge (tgt := 100) dX5_addNodes_15 rfl (fun h15 => ?_) (fun h15 => ?_)
    · have e : j = n := ge_eq hj (by omega) h15
      subst e
      refine go_ret (r := none) dX5_addNodes_100 (Nat.le_of_ble_eq_true rfl) (Nat.le_of_ble_eq_true rfl) ?_
      exact ⟨rfl, by rw [← hR] <;> rw [← hq], by rw [← hR] <;> rw [← hq], rfl⟩
    · have hl : j < n := nge_lt hj (by omega) h15
      refine xi_aload_n dX5_addNodes_18 rfl rfl ?_
      refine xi_getfield0 dX5_addNodes_19 fX5_22 hk.g ?_
      refine xi_bipush (v := 64) dX5_addNodes_22 (by decide) ?_
      refine xi_icmp_ge (tgt := 100) dX5_addNodes_24 rfl (fun h24 => ?_) (fun h24 => ?_)
      · have e := addS_stop hq h24 (n - j)
        rw [show j + (n - j) = n by omega, hR] at e
        subst e
        refine go_ret (r := none) dX5_addNodes_100 (Nat.le_of_ble_eq_true rfl) (Nat.le_of_ble_eq_true rfl) ?_
        exact ⟨rfl, by rw [← hR] <;> rw [← hq], by rw [← hR] <;> rw [← hq], rfl⟩
      · refine xi_lconst (v := 1) dX5_addNodes_27 (by decide) ?_
        refine xi_iload dX5_addNodes_28 rfl ?_
        refine xi_lshl dX5_addNodes_30 ?_
        refine xi_lstore dX5_addNodes_31 (Nat.le_of_ble_eq_true rfl) ?_
        refine xi_lload dX5_addNodes_33 rfl ?_
        refine xi_lload dX5_addNodes_35 rfl ?_
        refine xi_land dX5_addNodes_37 ?_
        refine xi_lconst (v := 0) dX5_addNodes_38 (by decide) ?_
        refine xi_lcmpeq (tgt := 94) dX5_addNodes_39 dX5_addNodes_40 rfl (fun h40 => ?_) (fun h40 => ?_)
        · refine xi_iinc (v := 1) dX5_addNodes_94 rfl (by decide) (Nat.le_of_ble_eq_true rfl) ?_
          refine xi_goto (tgt := 6) dX5_addNodes_97 rfl ?_
          refine xgo_pick [0, 1, 4, 6] rfl ?_
          rw [nI_1]
          exact ih hl q (by rw [itr_s, ← hq, addS1 h40])
        · refine xi_aload_n dX5_addNodes_43 rfl rfl ?_
          refine xi_getfield3 dX5_addNodes_44 fX5_12 hk.g hk.r0 ?_
          refine xi_lload dX5_addNodes_47 rfl ?_
          refine xi_lload dX5_addNodes_49 rfl ?_
          refine xi_aload_n dX5_addNodes_51 rfl rfl ?_
          refine xi_getfield1 dX5_addNodes_52 fX5_18 hk.g ?_
          refine cV1 (av := [_, _, _]) dX5_addNodes_55 lX5_106 rfl ⟨rfl, rfl⟩ rfl ⟨(Nat.le_of_ble_eq_true rfl), (Nat.le_of_ble_eq_true rfl)⟩ ⟨(Nat.le_of_ble_eq_true rfl), (Nat.le_of_ble_eq_true rfl)⟩ (Nat.le_of_ble_eq_true rfl) hk.g1 rfl rfl (c_connected hk.gr) ?_
          refine xi_lstore dX5_addNodes_58 (Nat.le_of_ble_eq_true rfl) ?_
          refine xi_lload dX5_addNodes_60 rfl ?_
          refine xi_lload dX5_addNodes_62 rfl ?_
          refine xi_ldc2_w dX5_addNodes_64 kX5_88 ?_
          refine xi_lxor dX5_addNodes_67 ?_
          refine xi_land dX5_addNodes_68 ?_
          refine xi_lstore dX5_addNodes_69 (Nat.le_of_ble_eq_true rfl) ?_
          refine xi_lload dX5_addNodes_71 rfl ?_
          refine xi_aload_n dX5_addNodes_73 rfl rfl ?_
          refine xi_getfield3 dX5_addNodes_74 fX5_55 hk.g hk.r12 ?_
          refine xi_iload_n dX5_addNodes_77 rfl rfl ?_
          refine la dX5_addNodes_78 hk.g9 hk.s9 rfl (by omega) (Nat.le_of_ble_eq_true rfl) ?_
          refine xi_land dX5_addNodes_79 ?_
          refine xi_lconst (v := 0) dX5_addNodes_80 (by decide) ?_
          refine xi_lcmpeq (tgt := 94) dX5_addNodes_81 dX5_addNodes_82 rfl (fun h82 => ?_) (fun h82 => ?_)
          · refine xi_iinc (v := 1) dX5_addNodes_94 rfl (by decide) (Nat.le_of_ble_eq_true rfl) ?_
            refine xi_goto (tgt := 6) dX5_addNodes_97 rfl ?_
            refine xgo_pick [0, 1, 4, 6] rfl ?_
            rw [nI_1]
            exact ih hl (q.1, q.2.1, _) (by rw [itr_s, ← hq, addS2 h24 h40 h82]; rfl)
          · refine xi_aload_n dX5_addNodes_85 rfl rfl ?_
            refine xi_iload_n dX5_addNodes_86 rfl rfl ?_
            refine xi_lload dX5_addNodes_87 rfl ?_
            refine xi_iload dX5_addNodes_89 rfl ?_
            refine cV1 (av := [_, _, _]) dX5_addNodes_91 lX5_110 rfl ⟨rfl, rfl⟩ rfl ⟨(Nat.le_of_ble_eq_true rfl), (Nat.le_of_ble_eq_true rfl)⟩ ⟨(Nat.le_of_ble_eq_true rfl), (Nat.le_of_ble_eq_true rfl)⟩ (Nat.le_of_ble_eq_true rfl) hk.g rfl rfl (c_addNode hk hm.1 (nI64 hm.2.1 (by rw [← hm.1]; exact h24)) ht hl hm.2.2.1 hb (hm.2.2.2 j hl)) ?_
            refine xi_iinc (v := 1) dX5_addNodes_94 rfl (by decide) (Nat.le_of_ble_eq_true rfl) ?_
            refine xi_goto (tgt := 6) dX5_addNodes_97 rfl ?_
            refine xgo_pick [0, 1, 4, 6] rfl ?_
            rw [nI_1]
            exact ih hl (_, _, _) (by rw [itr_s, ← hq, addS3 h24 h40 h82 hm.1 hm.2.1]; rfl)
    )
  refine xi_lload_n dX5_addNodes_0 rfl rfl ?_
  refine xi_lstore dX5_addNodes_1 (Nat.le_of_ble_eq_true rfl) ?_
  refine xi_iconst (v := 0) dX5_addNodes_3 (by decide) ?_
  refine xi_istore dX5_addNodes_4 (Nat.le_of_ble_eq_true rfl) ?_
  refine xgo_pick [0, 1, 4, 6] rfl ?_
  exact loop 0 (Nat.zero_le _) (_, _, _) rfl
/-- build, one rank -/
def bldS (k n : Nat) (t : Nat) (q : xA × xB × Int64) : xA × xB × Int64 :=
  if q.2.1 (k + 9) t = 0 then (q.1, q.2.1, q.2.2 &&& (q.2.1 (k + 9) t ^^^ -1)) else
  ((itr (addS k n t) n q).1, (itr (addS k n t) n q).2.1, q.2.2 &&& ((itr (addS k n t) n q).2.1 (k + 9) t ^^^ -1))
theorem bldS1 {k n t : Nat} {q : xA × xB × Int64} (h : q.2.1 (k + 9) t = 0) : bldS k n t q = (q.1, q.2.1, q.2.2 &&& (q.2.1 (k + 9) t ^^^ -1)) := if_pos h
theorem bldS2 {k n t : Nat} {q : xA × xB × Int64} (h : ¬ q.2.1 (k + 9) t = 0) : bldS k n t q = ((itr (addS k n t) n q).1, (itr (addS k n t) n q).2.1, q.2.2 &&& ((itr (addS k n t) n q).2.1 (k + 9) t ^^^ -1)) := if_neg h
theorem bldI_I {k n m : Nat} {s0 : xA × xB × Int64} (h : nodI s0.1 k n m) : ∀ t, ∃ m', nodI (itr (bldS k n) t s0).1 k n m'
  | 0 => ⟨m, h⟩
  | t + 1 => by
    obtain ⟨m', h'⟩ := bldI_I h t
    rw [itr_s]
    by_cases c : (itr (bldS k n) t s0).2.1 (k + 9) t = 0
    · rw [bldS1 c]; exact ⟨m', h'⟩
    · rw [bldS2 c]; exact addI_I h' n
/-- the heap ahead of the ranks -/
def bldA0 (A : xA) (k : Nat) (c r ei : Int32) : xA := filA (updA (updA (updA (shapeA A (k + 1) c r) k 1 ei) k 2 0) k 4 0) (k + 7) 64 (-1)
def bldB0 (B : xB) (k : Nat) (c : Int32) (r : Nat) (rk : Nat → Nat) (n : Nat) : xB := wrB (shapeB B (k + 1) c r) (k + 9) rk n
def bldR (A : xA) (B : xB) (k n c r : Nat) (ei : Int32) (rk : Nat → Nat) : xA × xB × Int64 := itr (bldS k n) 16 (bldA0 A k (nI c) (nI r) ei, bldB0 B k (nI c) r rk n, ushL (-1) (64 - nI c * nI r))
def bldA (A : xA) (B : xB) (k n c r : Nat) (ei : Int32) (rk : Nat → Nat) : xA := updA (bldR A B k n c r ei rk).1 k 3 (leafV ((bldR A B k n c r ei rk).1 (k + 6)) ((bldR A B k n c r ei rk).1 k 2).toNatClampNeg)
def bldB (A : xA) (B : xB) (k n c r : Nat) (ei : Int32) (rk : Nat → Nat) : xB := (bldR A B k n c r ei rk).2.1
theorem bldA0_I {A : xA} {k n c r : Nat} {ei : Int32} (hn : c * r = n) (hb : n ≤ 64) : nodI (bldA0 A k (nI c) (nI r) ei) k n 0 := by
  refine ⟨?_, by omega, ?_, fun p hp => Or.inl ?_⟩
  · unfold bldA0 filA; rw [setA_n _ _ (by omega)]; simp [updA_get]; rfl
  · unfold bldA0 filA shapeA; rw [setA_n _ _ (by omega)]; simp [updA_get, pk_mul, hn]
  · unfold bldA0 filA; rw [setA_s, if_pos (by omega)]
theorem bldA0_o {A : xA} {k : Nat} {c r ei : Int32} {k' : Nat} (h0 : k' ≠ k) (h1 : k' ≠ k + 1) (h7 : k' ≠ k + 7) : bldA0 A k c r ei k' = A k' := by
  unfold bldA0 filA shapeA
  rw [setA_n _ _ h7, updA_n _ _ _ h0, updA_n _ _ _ h0, updA_n _ _ _ h0, updA_n _ _ _ h1, updA_n _ _ _ h1, updA_n _ _ _ h1]
theorem bldB0_3 {B : xB} {k : Nat} {c : Int32} {r : Nat} {rk : Nat → Nat} {n : Nat} : bldB0 B k c r rk n (k + 1) 3 = ushL (-1) (64 - c * nI r) := by
  unfold bldB0 wrB shapeB
  rw [setB_n _ _ (by omega)]
  simp [updB_get]
theorem c_build {k p n c r : Nat} {rk : Nat → Nat} {dk ei : Int32} (hk : isNod k) (hp : isPic p) {A : xA} {B : xB} {D : xD} (hc : A p 0 = nI c) (hr : A p 1 = nI r) (hr8 : r ≤ 8) (hn : c * r = n) (hb : n ≤ 64) (hei : ei = 0 ∨ ei = 1) (hrk : ∀ j, j < n → rk j < 16 ∧ trn (A (p + 1) j) dk = nI (rk j)) (hne : ∀ i, i < 10 → p ≠ k + i ∧ p + 1 ≠ k + i) : does0 mX5_build [.ref k, .ref p, .int dk, .int ei] A B D (eqQ none (bldA A B k n c r ei rk) (bldB A B k n c r ei rk) D) nx := by
  refine does_go (by decide) rfl (Nat.le_of_ble_eq_true rfl) rfl ?_
  have hI0 := bldA0_I (A := A) (k := k) (ei := ei) hn hb
  have loop := up_ind (n := 16) (P := fun j => ∀ q, q = itr (bldS k n) j (bldA0 A k (nI c) (nI r) ei, bldB0 B k (nI c) r rk n, ushL (-1) (64 - nI c * nI r)) → go0 mX5_build (eqQ none (bldA A B k n c r ei rk) (bldB A B k n c r ei rk) D) nx 0 0 56 [(0, .ref k), (4, .long q.2.2), (6, .int (nI j))] [] q.1 q.2.1 D) (fun j hj ih q hq => by
    obtain ⟨m, hm⟩ := bldI_I (s0 := (bldA0 A k (nI c) (nI r) ei, bldB0 B k (nI c) r rk n, ushL (-1) (64 - nI c * nI r))) hI0 j
    rw [← hq] at hm
    refine xi_iload dX5_build_56 rfl ?_
    refine xi_bipush (v := 16) dX5_build_58 (by decide) ?_
    refine xi_icmp_ge (tgt := 105) dX5_build_60 rfl (fun h60 => ?_) (fun h60 => ?_)
    · have e : j = 16 := ge_eq hj (by decide) h60
      subst e
      refine xi_aload_n dX5_build_105 rfl rfl ?_
      refine cV1 (av := []) dX5_build_106 lX5_90 rfl ⟨rfl, rfl⟩ rfl ⟨(Nat.le_of_ble_eq_true rfl), (Nat.le_of_ble_eq_true rfl)⟩ ⟨(Nat.le_of_ble_eq_true rfl), (Nat.le_of_ble_eq_true rfl)⟩ (Nat.le_of_ble_eq_true rfl) hk.g rfl rfl (c_countLeaves hk hm.1 hm.2.1) ?_
      refine go_ret (r := none) dX5_build_109 (Nat.le_of_ble_eq_true rfl) (Nat.le_of_ble_eq_true rfl) ?_
      have e2 : q = bldR A B k n c r ei rk := hq
      exact ⟨rfl, by unfold bldA; rw [← e2, hm.1, nI_clamp (by have := hm.2.1; omega)], by unfold bldB; rw [← e2], rfl⟩
    · have hl : j < 16 := nge_lt hj (by decide) h60
      refine xi_aload_n dX5_build_63 rfl rfl ?_
      refine xi_getfield3 dX5_build_64 fX5_55 hk.g hk.r12 ?_
      refine xi_iload dX5_build_67 rfl ?_
      refine la dX5_build_69 hk.g9 hk.s9 rfl (by omega) (Nat.le_of_ble_eq_true rfl) ?_
      refine xi_lconst (v := 0) dX5_build_70 (by decide) ?_
      refine xi_lcmpeq (tgt := 83) dX5_build_71 dX5_build_72 rfl (fun h72 => ?_) (fun h72 => ?_)
      · refine xi_lload dX5_build_83 rfl ?_
        refine xi_aload_n dX5_build_85 rfl rfl ?_
        refine xi_getfield3 dX5_build_86 fX5_55 hk.g hk.r12 ?_
        refine xi_iload dX5_build_89 rfl ?_
        refine la dX5_build_91 hk.g9 hk.s9 rfl (by omega) (Nat.le_of_ble_eq_true rfl) ?_
        refine xi_ldc2_w dX5_build_92 kX5_88 ?_
        refine xi_lxor dX5_build_95 ?_
        refine xi_land dX5_build_96 ?_
        refine xi_lstore dX5_build_97 (Nat.le_of_ble_eq_true rfl) ?_
        refine xi_iinc (v := 1) dX5_build_99 rfl (by decide) (Nat.le_of_ble_eq_true rfl) ?_
        refine xi_goto (tgt := 56) dX5_build_102 rfl ?_
        refine xgo_pick [0, 4, 6] rfl ?_
        rw [nI_1]
        exact ih hl (q.1, q.2.1, _) (by rw [itr_s, ← hq, bldS1 h72])
      · refine xi_aload_n dX5_build_75 rfl rfl ?_
        refine xi_iload dX5_build_76 rfl ?_
        refine xi_lload dX5_build_78 rfl ?_
        refine cV1 (av := [_, _]) dX5_build_80 lX5_84 rfl ⟨rfl, rfl⟩ rfl ⟨(Nat.le_of_ble_eq_true rfl), (Nat.le_of_ble_eq_true rfl)⟩ ⟨(Nat.le_of_ble_eq_true rfl), (Nat.le_of_ble_eq_true rfl)⟩ (Nat.le_of_ble_eq_true rfl) hk.g rfl rfl (c_addNodes hk hl hb hm) ?_
        refine xi_lload dX5_build_83 rfl ?_
        refine xi_aload_n dX5_build_85 rfl rfl ?_
        refine xi_getfield3 dX5_build_86 fX5_55 hk.g hk.r12 ?_
        refine xi_iload dX5_build_89 rfl ?_
        refine la dX5_build_91 hk.g9 hk.s9 rfl (by omega) (Nat.le_of_ble_eq_true rfl) ?_
        refine xi_ldc2_w dX5_build_92 kX5_88 ?_
        refine xi_lxor dX5_build_95 ?_
        refine xi_land dX5_build_96 ?_
        refine xi_lstore dX5_build_97 (Nat.le_of_ble_eq_true rfl) ?_
        refine xi_iinc (v := 1) dX5_build_99 rfl (by decide) (Nat.le_of_ble_eq_true rfl) ?_
        refine xi_goto (tgt := 56) dX5_build_102 rfl ?_
        refine xgo_pick [0, 4, 6] rfl ?_
        rw [nI_1]
        exact ih hl (_, _, _) (by rw [itr_s, ← hq, bldS2 h72])
    )
  refine xi_aload_n dX5_build_0 rfl rfl ?_
  refine xi_getfield3 dX5_build_1 fX5_12 hk.g hk.r0 ?_
  refine xi_aload_n dX5_build_4 rfl rfl ?_
  refine xi_getfield0 dX5_build_5 fX5_58 hp.g ?_
  rw [hc]
  refine xi_aload_n dX5_build_8 rfl rfl ?_
  refine xi_getfield0 dX5_build_9 fX5_63 hp.g ?_
  rw [hr]
  refine cV1 (av := [_, _]) dX5_build_12 lX5_66 rfl ⟨rfl, rfl⟩ rfl ⟨(Nat.le_of_ble_eq_true rfl), (Nat.le_of_ble_eq_true rfl)⟩ ⟨(Nat.le_of_ble_eq_true rfl), (Nat.le_of_ble_eq_true rfl)⟩ (Nat.le_of_ble_eq_true rfl) hk.g1 rfl rfl (c_shape hk.gr hr8) ?_
  refine xi_aload_n dX5_build_15 rfl rfl ?_
  refine xi_iload_n dX5_build_16 rfl rfl ?_
  refine xi_putfield1 dX5_build_17 fX5_18 hk.g pX5_18 hei ?_
  refine xi_aload_n dX5_build_20 rfl rfl ?_
  refine xi_iconst (v := 0) dX5_build_21 (by decide) ?_
  refine xi_putfield0 dX5_build_22 fX5_22 hk.g pX5_22 ?_
  refine xi_aload_n dX5_build_25 rfl rfl ?_
  refine xi_iconst (v := 0) dX5_build_26 (by decide) ?_
  refine xi_putfield0 dX5_build_27 fX5_29 hk.g pX5_29 ?_
  refine xi_aload_n dX5_build_30 rfl rfl ?_
  refine xi_getfield3 dX5_build_31 fX5_49 hk.g hk.r10 ?_
  refine xi_iconst (v := (-1)) dX5_build_34 (by decide) ?_
  refine cS1 (av := [_, _]) dX5_build_35 lX5_70 rfl ⟨rfl, rfl⟩ rfl ⟨(Nat.le_of_ble_eq_true rfl), (Nat.le_of_ble_eq_true rfl)⟩ ⟨(Nat.le_of_ble_eq_true rfl), (Nat.le_of_ble_eq_true rfl)⟩ (Nat.le_of_ble_eq_true rfl) (c_fillI hk.g7 hk.s7 (by decide)) ?_
  refine xi_aload_n dX5_build_38 rfl rfl ?_
  refine xi_aload_n dX5_build_39 rfl rfl ?_
  refine xi_iload_n dX5_build_40 rfl rfl ?_
  refine cV1 (av := [_, _]) dX5_build_41 lX5_76 rfl ⟨rfl, rfl⟩ rfl ⟨(Nat.le_of_ble_eq_true rfl), (Nat.le_of_ble_eq_true rfl)⟩ ⟨(Nat.le_of_ble_eq_true rfl), (Nat.le_of_ble_eq_true rfl)⟩ (Nat.le_of_ble_eq_true rfl) hk.g rfl rfl (c_sortPixels hk hp hI0.2.2.1 hb (rk := rk) (fun j hj => by show _ ∧ trn (bldA0 A k (nI c) (nI r) ei (p + 1) j) dk = _; rw [bldA0_o (by have := (hne 0 (by omega)).2; omega) (by have := (hne 1 (by omega)).2; omega) (by have := (hne 7 (by omega)).2; omega)]; exact hrk j hj)) ?_
  refine xi_aload_n dX5_build_44 rfl rfl ?_
  refine xi_getfield3 dX5_build_45 fX5_12 hk.g hk.r0 ?_
  refine xi_getfield2 dX5_build_48 fX5_80 hk.g1 ?_
  rw [show wrB (shapeB B (k + 1) (nI c) r) (k + 9) rk n = bldB0 B k (nI c) r rk n from rfl, bldB0_3]
  refine xi_lstore dX5_build_51 (Nat.le_of_ble_eq_true rfl) ?_
  refine xi_iconst (v := 0) dX5_build_53 (by decide) ?_
  refine xi_istore dX5_build_54 (Nat.le_of_ble_eq_true rfl) ?_
  refine xgo_pick [0, 4, 6] rfl ?_
  exact loop 0 (Nat.zero_le _) (_, _, _) rfl

