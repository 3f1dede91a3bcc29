/-! Nodes.build -/
/-- the pixels of rank t among the first n -/
def wrV (rk : Nat → Nat) (t : Nat) : Nat → Int64
  | 0 => 0
  | j + 1 => if rk j = t then wrV rk t j ||| shlL 1 (nI j) else wrV rk t j
def wrB (B : xB) (k : Nat) (rk : Nat → Nat) (n : Nat) : xB := setB B k (fun t => if t < 16 then wrV rk t n else B k t)
theorem wrB_0 (B : xB) (k : Nat) (rk : Nat → Nat) : filB B k 16 0 = wrB B k rk 0 := by
  unfold filB wrB
  congr 1
theorem wrB_1 (B : xB) (k : Nat) (rk : Nat → Nat) (j : Nat) (h : rk j < 16) : updB (wrB B k rk j) k (rk j) (wrB B k rk j k (rk j) ||| shlL 1 (nI j)) = wrB B k rk (j + 1) := by
  funext k' t
  rw [updB_get]
  unfold wrB
  by_cases hk : k' = k
  · subst hk
    rw [setB_s, setB_s]
    by_cases ht : t = rk j
    · subst ht
      rw [if_pos ⟨rfl, rfl⟩, if_pos h, if_pos h]
      exact (if_pos (c := rk j = rk j) rfl).symm
    · rw [if_neg (fun q => ht q.2)]
      by_cases h16 : t < 16
      · rw [if_pos h16, if_pos h16]
        exact (if_neg (c := rk j = t) (fun q => ht q.symm)).symm
      · rw [if_neg h16, if_neg h16]
  · rw [setB_n _ _ hk, setB_n _ _ hk, if_neg (fun q => hk q.1)]
theorem c_sortPixels {k p n : Nat} {rk : Nat → Nat} {dk : Int32} (hk : isNod k) (hp : isPic p) {A : xA} {B : xB} {D : xD} (hn : A (k + 1) 2 = nI n) (hb : n ≤ 64) (hr : ∀ j, j < n → rk j < 16 ∧ trn (A (p + 1) j) dk = nI (rk j)) : does0 mX5_sortPixels [.ref k, .ref p, .int dk] A B D (eqQ none A (wrB B (k + 9) rk n) D) nx := by
  refine does_go (by decide) rfl (Nat.le_of_ble_eq_true rfl) rfl ?_
  have loop := up_ind (n := n) (P := fun j => go0 mX5_sortPixels (eqQ none A (wrB B (k + 9) rk n) D) nx 0 0 10 [(0, .ref k), (1, .ref p), (2, .int dk), (3, .int (nI j))] [] A (wrB B (k + 9) rk j) D) (fun j hj ih => by
    refine xi_iload_n dX5_sortPixels_10 rfl rfl ?_
    refine xi_aload_n dX5_sortPixels_11 rfl rfl ?_
    refine xi_getfield3 dX5_sortPixels_12 fX5_12 hk.g hk.r0 ?_
    refine xi_getfield0 dX5_sortPixels_15 fX5_96 hk.g1 ?_
    rw [hn]
    refine xi_icmp_ge (tgt := 48) dX5_sortPixels_18 rfl (fun h18 => ?_) (fun h18 => ?_)
    · have e : j = n := ge_eq hj (by omega) h18
      subst e
      refine go_ret (r := none) dX5_sortPixels_48 (Nat.le_of_ble_eq_true rfl) (Nat.le_of_ble_eq_true rfl) ?_
      exact ⟨rfl, rfl, rfl, rfl⟩
    · have hl : j < n := nge_lt hj (by omega) h18
      refine xi_aload_n dX5_sortPixels_21 rfl rfl ?_
      refine xi_getfield3 dX5_sortPixels_22 fX5_55 hk.g hk.r12 ?_
      refine xi_aload_n dX5_sortPixels_25 rfl rfl ?_
      refine xi_getfield3 dX5_sortPixels_26 fX5_99 hp.g hp.r2 ?_
      refine xi_iload_n dX5_sortPixels_29 rfl rfl ?_
      refine ia dX5_sortPixels_30 hp.g1 hp.s1 rfl (by omega) (Nat.le_of_ble_eq_true rfl) ?_
      refine xi_iload_n dX5_sortPixels_31 rfl rfl ?_
      refine cN1 (av := [_, _]) dX5_sortPixels_32 nX5_102 rfl ⟨rfl, rfl⟩ rfl ⟨(Nat.le_of_ble_eq_true rfl), (Nat.le_of_ble_eq_true rfl)⟩ ⟨(Nat.le_of_ble_eq_true rfl), (Nat.le_of_ble_eq_true rfl)⟩ (Nat.le_of_ble_eq_true rfl) (c_turned) ?_
      refine xi_dup2 dX5_sortPixels_35 rfl rfl ?_
      refine la dX5_sortPixels_36 hk.g9 hk.s9 (hr j hl).2 (hr j hl).1 (Nat.le_of_ble_eq_true rfl) ?_
      refine xi_lconst (v := 1) dX5_sortPixels_37 (by decide) ?_
      refine xi_iload_n dX5_sortPixels_38 rfl rfl ?_
      refine xi_lshl dX5_sortPixels_39 ?_
      refine xi_lor dX5_sortPixels_40 ?_
      refine ls dX5_sortPixels_41 hk.g9 hk.s9 (hr j hl).2 (hr j hl).1 (Nat.le_of_ble_eq_true rfl) ?_
      refine xi_iinc (v := 1) dX5_sortPixels_42 rfl (by decide) (Nat.le_of_ble_eq_true rfl) ?_
      refine xi_goto (tgt := 10) dX5_sortPixels_45 rfl ?_
      refine xgo_pick [0, 1, 2, 3] rfl ?_
      rw [nI_1]
      have q := ih hl
      rw [← wrB_1 B (k + 9) rk j (hr j hl).1] at q
      exact q
    )
  refine xi_aload_n dX5_sortPixels_0 rfl rfl ?_
  refine xi_getfield3 dX5_sortPixels_1 fX5_55 hk.g hk.r12 ?_
  refine xi_lconst (v := 0) dX5_sortPixels_4 (by decide) ?_
  refine cS1 (av := [_, _]) dX5_sortPixels_5 lX5_93 rfl ⟨rfl, rfl⟩ rfl ⟨(Nat.le_of_ble_eq_true rfl), (Nat.le_of_ble_eq_true rfl)⟩ ⟨(Nat.le_of_ble_eq_true rfl), (Nat.le_of_ble_eq_true rfl)⟩ (Nat.le_of_ble_eq_true rfl) (c_fillL hk.g9 hk.s9 (by decide)) ?_
  rw [wrB_0 B (k + 9) rk]
  refine xi_iconst (v := 0) dX5_sortPixels_8 (by decide) ?_
  refine xi_istore_n dX5_sortPixels_9 rfl (Nat.le_of_ble_eq_true rfl) ?_
  refine xgo_pick [0, 1, 2, 3] rfl ?_
  exact loop 0 (Nat.zero_le _)
/-- addNode's heap: the new node m of rank t, its set f, its lowest pixel lo (n pixels, w: the pixels of its rank) -/
def adA (A : xA) (k m lo n : Nat) (t : Int32) (f w : Int64) : xA := fun k' j =>
  if k' = k then (if j = 2 then A k 2 + 1 else if j = 4 then imax (A k 4) (if A (k + 7) lo = -1 then 1 else A (k + 8) (A (k + 7) lo).toNatClampNeg + 1) else A k j)
  else if k' = k + 3 then (if j = m then t else A (k + 3) j)
  else if k' = k + 4 then (if j = m then bcL (f &&& w) else A (k + 4) j)
  else if k' = k + 5 then (if j = m then A (k + 7) lo else A (k + 5) j)
  else if k' = k + 6 then (if j = m then 0 else if A (k + 7) lo ≠ -1 ∧ j = (A (k + 7) lo).toNatClampNeg then A (k + 6) j + 1 else A (k + 6) j)
  else if k' = k + 7 then (if lo ≤ j ∧ j < n ∧ hasV f j ≠ 0 then nI m else A (k + 7) j)
  else if k' = k + 8 then (if j = m then (if A (k + 7) lo = -1 then 1 else A (k + 8) (A (k + 7) lo).toNatClampNeg + 1) else A (k + 8) j)
  else A k' j
/-- which node a pixel has: none, or one of the first m -/
def ndOK (x : Int32) (m : Nat) : Prop := x = -1 ∨ ∃ a, a < m ∧ x = nI a
theorem c_addNode {k m tn lo n : Nat} {f : Int64} (hk : isNod k) {A : xA} {B : xB} {D : xD} (hm : A k 2 = nI m) (hm2 : m < 64) (ht : tn < 16) (hlo : lo < n) (hn : A (k + 1) 2 = nI n) (hb : n ≤ 64) (hok : ndOK (A (k + 7) lo) m) : does0 mX5_addNode [.ref k, .int (nI tn), .long f, .int (nI lo)] A B D (eqQ none (adA A k m lo n (nI tn) f (B (k + 9) tn)) (updB B (k + 2) m f) D) nx := by
  refine does_go (by decide) rfl (Nat.le_of_ble_eq_true rfl) rfl ?_
  generalize hAe : adA A k m lo n (nI tn) f (B (k + 9) tn) = AE
  have loop := up_ind (n := n) (P := fun j => lo ≤ j → ∀ A1, (∀ k' i, k' ≠ k + 7 → A1 k' i = AE k' i) → (∀ i, A1 (k + 7) i = if lo ≤ i ∧ i < j ∧ hasV f i ≠ 0 then nI m else A (k + 7) i) → go0 mX5_addNode (eqQ none AE (updB B (k + 2) m f) D) nx 0 0 139 [(0, .ref k), (5, .int (nI m)), (7, .int (nI j))] [] A1 (updB B (k + 2) m f) D) (fun j hj ih hlj A1 h1 h2 => by
    have hsz : A1 (k + 1) 2 = nI n := by
      rw [h1 _ _ (by omega), ← hAe]
      simp [adA, hn]
    refine xi_iload dX5_addNode_139 rfl ?_
    refine xi_aload_n dX5_addNode_141 rfl rfl ?_
    refine xi_getfield3 dX5_addNode_142 fX5_12 hk.g hk.r0 ?_
    refine xi_getfield0 dX5_addNode_145 fX5_96 hk.g1 ?_
    rw [hsz]
    refine xi_icmp_ge (tgt := 177) dX5_addNode_148 rfl (fun h148 => ?_) (fun h148 => ?_)
    · have e : j = n := ge_eq hj (by omega) h148
      subst e
      refine go_ret (r := none) dX5_addNode_177 (Nat.le_of_ble_eq_true rfl) (Nat.le_of_ble_eq_true rfl) ?_
      exact ⟨rfl, by
        funext k' i
        by_cases hk7 : k' = k + 7
        · subst hk7
          rw [h2, ← hAe]
          simp [adA]
        · exact h1 k' i hk7, rfl, rfl⟩
    · have hl : j < n := nge_lt hj (by omega) h148
      refine xi_aload_n dX5_addNode_151 rfl rfl ?_
      refine xi_iload dX5_addNode_152 rfl ?_
      refine xi_iload dX5_addNode_154 rfl ?_
      refine cV1 (av := [_, _]) dX5_addNode_156 lX5_126 rfl ⟨rfl, rfl⟩ rfl ⟨(Nat.le_of_ble_eq_true rfl), (Nat.le_of_ble_eq_true rfl)⟩ ⟨(Nat.le_of_ble_eq_true rfl), (Nat.le_of_ble_eq_true rfl)⟩ (Nat.le_of_ble_eq_true rfl) hk.g rfl rfl (c_holds hk (by omega)) ?_
      rw [updB_ss]
      refine xi_if_eq (tgt := 171) dX5_addNode_159 rfl (fun h159 => ?_) (fun h159 => ?_)
      · refine xi_iinc (v := 1) dX5_addNode_171 rfl (by decide) (Nat.le_of_ble_eq_true rfl) ?_
        refine xi_goto (tgt := 139) dX5_addNode_174 rfl ?_
        refine xgo_pick [0, 5, 7] rfl ?_
        rw [nI_1]
        first
          | (refine ih hl (by omega) _ h1 (fun i => ?_)
             rw [h2]
             by_cases hi : i = j
             · subst hi; simp [h159]
             · simp only [show (i < j + 1) = (i < j) by simp; omega])
          | (refine ih hl (by omega) _ (fun k' i hk' => ?_) (fun i => ?_)
             · rw [updA_n _ _ _ hk']; exact h1 k' i hk'
             · rw [updA_get, h2]
               by_cases hi : i = j
               · subst hi; simp [h159, hlj]
               · simp only [show (i < j + 1) = (i < j) by simp; omega, hi, and_false, if_false])
      · refine xi_aload_n dX5_addNode_162 rfl rfl ?_
        refine xi_getfield3 dX5_addNode_163 fX5_49 hk.g hk.r10 ?_
        refine xi_iload dX5_addNode_166 rfl ?_
        refine xi_iload dX5_addNode_168 rfl ?_
        refine is dX5_addNode_170 hk.g7 hk.s7 rfl (by omega) (Nat.le_of_ble_eq_true rfl) ?_
        refine xi_iinc (v := 1) dX5_addNode_171 rfl (by decide) (Nat.le_of_ble_eq_true rfl) ?_
        refine xi_goto (tgt := 139) dX5_addNode_174 rfl ?_
        refine xgo_pick [0, 5, 7] rfl ?_
        rw [nI_1]
        first
          | (refine ih hl (by omega) _ h1 (fun i => ?_)
             rw [h2]
             by_cases hi : i = j
             · subst hi; simp [h159]
             · simp only [show (i < j + 1) = (i < j) by simp; omega])
          | (refine ih hl (by omega) _ (fun k' i hk' => ?_) (fun i => ?_)
             · rw [updA_n _ _ _ hk']; exact h1 k' i hk'
             · rw [updA_get, h2]
               by_cases hi : i = j
               · subst hi; simp [h159, hlj]
               · simp only [show (i < j + 1) = (i < j) by simp; omega, hi, and_false, if_false])
    )
  have h1 : updA A k 2 (A k 2 + 1) (k + 7) lo = A (k + 7) lo := by rw [updA_n _ _ _ (by omega)]
  refine xi_aload_n dX5_addNode_0 rfl rfl ?_
  refine xi_getfield0 dX5_addNode_1 fX5_22 hk.g ?_
  refine xi_istore dX5_addNode_4 (Nat.le_of_ble_eq_true rfl) ?_
  rw [hm]
  refine xi_aload_n dX5_addNode_6 rfl rfl ?_
  refine xi_dup dX5_addNode_7 rfl ?_
  refine xi_getfield0 dX5_addNode_8 fX5_22 hk.g ?_
  refine xi_iconst (v := 1) dX5_addNode_11 (by decide) ?_
  refine xi_iadd dX5_addNode_12 ?_
  refine xi_putfield0 dX5_addNode_13 fX5_22 hk.g pX5_22 ?_
  refine xi_aload_n dX5_addNode_16 rfl rfl ?_
  refine xi_getfield3 dX5_addNode_17 fX5_49 hk.g hk.r10 ?_
  refine xi_iload dX5_addNode_20 rfl ?_
  refine ia dX5_addNode_22 hk.g7 hk.s7 rfl (by omega) (Nat.le_of_ble_eq_true rfl) ?_
  refine xi_istore dX5_addNode_23 (Nat.le_of_ble_eq_true rfl) ?_
  rw [h1]
  refine xi_aload_n dX5_addNode_25 rfl rfl ?_
  refine xi_getfield3 dX5_addNode_26 fX5_32 hk.g hk.r5 ?_
  refine xi_iload dX5_addNode_29 rfl ?_
  refine xi_lload_n dX5_addNode_31 rfl rfl ?_
  refine ls dX5_addNode_32 hk.g2 hk.s2 rfl (by omega) (Nat.le_of_ble_eq_true rfl) ?_
  refine xi_aload_n dX5_addNode_33 rfl rfl ?_
  refine xi_getfield3 dX5_addNode_34 fX5_36 hk.g hk.r6 ?_
  refine xi_iload dX5_addNode_37 rfl ?_
  refine xi_iload_n dX5_addNode_39 rfl rfl ?_
  refine is dX5_addNode_40 hk.g3 hk.s3 rfl (by omega) (Nat.le_of_ble_eq_true rfl) ?_
  refine xi_aload_n dX5_addNode_41 rfl rfl ?_
  refine xi_getfield3 dX5_addNode_42 fX5_40 hk.g hk.r7 ?_
  refine xi_iload dX5_addNode_45 rfl ?_
  refine xi_lload_n dX5_addNode_47 rfl rfl ?_
  refine xi_aload_n dX5_addNode_48 rfl rfl ?_
  refine xi_getfield3 dX5_addNode_49 fX5_55 hk.g hk.r12 ?_
  refine xi_iload_n dX5_addNode_52 rfl rfl ?_
  refine la dX5_addNode_53 hk.g9 hk.s9 rfl (by omega) (Nat.le_of_ble_eq_true rfl) ?_
  rw [updB_n _ _ _ (by omega)]
  refine xi_land dX5_addNode_54 ?_
  refine cS1 (av := [_]) dX5_addNode_55 lX5_114 rfl ⟨rfl, rfl⟩ rfl ⟨(Nat.le_of_ble_eq_true rfl), (Nat.le_of_ble_eq_true rfl)⟩ ⟨(Nat.le_of_ble_eq_true rfl), (Nat.le_of_ble_eq_true rfl)⟩ (Nat.le_of_ble_eq_true rfl) (c_bcL) ?_
  refine is dX5_addNode_58 hk.g4 hk.s4 rfl (by omega) (Nat.le_of_ble_eq_true rfl) ?_
  refine xi_aload_n dX5_addNode_59 rfl rfl ?_
  refine xi_getfield3 dX5_addNode_60 fX5_43 hk.g hk.r8 ?_
  refine xi_iload dX5_addNode_63 rfl ?_
  refine xi_iload dX5_addNode_65 rfl ?_
  refine is dX5_addNode_67 hk.g5 hk.s5 rfl (by omega) (Nat.le_of_ble_eq_true rfl) ?_
  refine xi_aload_n dX5_addNode_68 rfl rfl ?_
  refine xi_getfield3 dX5_addNode_69 fX5_46 hk.g hk.r9 ?_
  refine xi_iload dX5_addNode_72 rfl ?_
  refine xi_iconst (v := 0) dX5_addNode_74 (by decide) ?_
  refine is dX5_addNode_75 hk.g6 hk.s6 rfl (by omega) (Nat.le_of_ble_eq_true rfl) ?_
  refine xi_aload_n dX5_addNode_76 rfl rfl ?_
  refine xi_getfield3 dX5_addNode_77 fX5_52 hk.g hk.r11 ?_
  refine xi_iload dX5_addNode_80 rfl ?_
  refine xi_iconst (v := 1) dX5_addNode_82 (by decide) ?_
  refine is dX5_addNode_83 hk.g8 hk.s8 rfl (by omega) (Nat.le_of_ble_eq_true rfl) ?_
  refine xi_iload dX5_addNode_84 rfl ?_
  refine xi_iconst (v := (-1)) dX5_addNode_86 (by decide) ?_
  refine xi_icmp_eq (tgt := 117) dX5_addNode_87 rfl (fun h87 => ?_) (fun h87 => ?_)
  · have h87 : A (k + 7) lo = -1 := h87
    refine xi_aload_n dX5_addNode_117 rfl rfl ?_
    refine xi_aload_n dX5_addNode_118 rfl rfl ?_
    refine xi_getfield0 dX5_addNode_119 fX5_29 hk.g ?_
    refine xi_aload_n dX5_addNode_122 rfl rfl ?_
    refine xi_getfield3 dX5_addNode_123 fX5_52 hk.g hk.r11 ?_
    refine xi_iload dX5_addNode_126 rfl ?_
    refine ia dX5_addNode_128 hk.g8 hk.s8 rfl (by omega) (Nat.le_of_ble_eq_true rfl) ?_
    refine xi_mmax dX5_addNode_129 eX5_120 ⟨(Nat.le_of_ble_eq_true rfl), (Nat.le_of_ble_eq_true rfl)⟩ ⟨(Nat.le_of_ble_eq_true rfl), (Nat.le_of_ble_eq_true rfl)⟩ ?_
    refine xi_putfield0 dX5_addNode_132 fX5_29 hk.g pX5_29 ?_
    refine xi_iload dX5_addNode_135 rfl ?_
    refine xi_istore dX5_addNode_137 (Nat.le_of_ble_eq_true rfl) ?_
    refine xgo_pick [0, 5, 7] rfl ?_
    refine loop lo (by omega) (Nat.le_refl _) _ (fun k' i hk' => ?_) (fun i => ?_)
    · rw [← hAe]
      clear loop hAe
      unfold adA
      simp only [updA_get]
      first
        | (have hcl : (A (k + 7) lo).toNatClampNeg = a := by rw [hab]; exact nI_clamp (show a < 2 ^ 31 by omega)
           grind (splits := 40))
        | grind (splits := 40)
    · clear loop hAe
      simp only [updA_get]
      grind (splits := 40)
  · obtain ⟨a, ha, hab⟩ : ∃ a, a < m ∧ A (k + 7) lo = nI a := hok.resolve_left h87
    refine xi_aload_n dX5_addNode_90 rfl rfl ?_
    refine xi_getfield3 dX5_addNode_91 fX5_46 hk.g hk.r9 ?_
    refine xi_iload dX5_addNode_94 rfl ?_
    refine xi_dup2 dX5_addNode_96 rfl rfl ?_
    refine ia dX5_addNode_97 hk.g6 hk.s6 hab (by omega) (Nat.le_of_ble_eq_true rfl) ?_
    refine xi_iconst (v := 1) dX5_addNode_98 (by decide) ?_
    refine xi_iadd dX5_addNode_99 ?_
    refine is dX5_addNode_100 hk.g6 hk.s6 hab (by omega) (Nat.le_of_ble_eq_true rfl) ?_
    refine xi_aload_n dX5_addNode_101 rfl rfl ?_
    refine xi_getfield3 dX5_addNode_102 fX5_52 hk.g hk.r11 ?_
    refine xi_iload dX5_addNode_105 rfl ?_
    refine xi_aload_n dX5_addNode_107 rfl rfl ?_
    refine xi_getfield3 dX5_addNode_108 fX5_52 hk.g hk.r11 ?_
    refine xi_iload dX5_addNode_111 rfl ?_
    refine ia dX5_addNode_113 hk.g8 hk.s8 hab (by omega) (Nat.le_of_ble_eq_true rfl) ?_
    refine xi_iconst (v := 1) dX5_addNode_114 (by decide) ?_
    refine xi_iadd dX5_addNode_115 ?_
    refine is dX5_addNode_116 hk.g8 hk.s8 rfl (by omega) (Nat.le_of_ble_eq_true rfl) ?_
    refine xi_aload_n dX5_addNode_117 rfl rfl ?_
    refine xi_aload_n dX5_addNode_118 rfl rfl ?_
    refine xi_getfield0 dX5_addNode_119 fX5_29 hk.g ?_
    refine xi_aload_n dX5_addNode_122 rfl rfl ?_
    refine xi_getfield3 dX5_addNode_123 fX5_52 hk.g hk.r11 ?_
    refine xi_iload dX5_addNode_126 rfl ?_
    refine ia dX5_addNode_128 hk.g8 hk.s8 rfl (by omega) (Nat.le_of_ble_eq_true rfl) ?_
    refine xi_mmax dX5_addNode_129 eX5_120 ⟨(Nat.le_of_ble_eq_true rfl), (Nat.le_of_ble_eq_true rfl)⟩ ⟨(Nat.le_of_ble_eq_true rfl), (Nat.le_of_ble_eq_true rfl)⟩ ?_
    refine xi_putfield0 dX5_addNode_132 fX5_29 hk.g pX5_29 ?_
    refine xi_iload dX5_addNode_135 rfl ?_
    refine xi_istore dX5_addNode_137 (Nat.le_of_ble_eq_true rfl) ?_
    refine xgo_pick [0, 5, 7] rfl ?_
    refine loop lo (by omega) (Nat.le_refl _) _ (fun k' i hk' => ?_) (fun i => ?_)
    · rw [← hAe]
      clear loop hAe
      unfold adA
      simp only [updA_get]
      first
        | (have hcl : (A (k + 7) lo).toNatClampNeg = a := by rw [hab]; exact nI_clamp (show a < 2 ^ 31 by omega)
           grind (splits := 40))
        | grind (splits := 40)
    · clear loop hAe
      simp only [updA_get]
      grind (splits := 40)

