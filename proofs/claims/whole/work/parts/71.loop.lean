/-! the law's loop (printed by laws.py) -/
theorem gt_i {a L : Nat} (ha : a ≤ 3000) (hL : L ≤ 2560) : nI L - 5 < nI a ↔ L < a + 5 := by
  by_cases h : L < 5
  · refine ⟨fun _ => by omega, fun _ => ?_⟩
    have h1 : nI L - nI 5 < 0 := pk_sneg (by omega) h
    rcases Nat.eq_zero_or_pos a with z | z
    · rw [z]; exact h1
    · exact Int32.lt_trans h1 (nI_lt (a := 0) z (by omega))
  · have e : nI L - 5 = nI (L - 5) := pk_sub (b := 5) (by omega)
    rw [e]
    constructor
    · intro q
      rcases Nat.lt_or_ge (L - 5) a with z | z
      · omega
      · exact absurd q (fun q => by
          rcases Nat.lt_or_eq_of_le z with y | y
          · exact absurd (Int32.lt_trans q (nI_lt y (by omega))) (Int32.lt_irrefl)
          · rw [y] at q; exact absurd q (Int32.lt_irrefl))
    · intro q
      exact nI_lt (by omega) (by omega)
theorem nI_add' (a b : Nat) : nI a + nI b = nI (a + b) := (Int32.ofNat_add a b).symm
theorem law_loop {nm : String} {hh : List (Nat × Nat × Nat × Nat)} {L : Nat} {xs : Nat → Int32} (hL : L ≤ 2560) : ∀ (d j cs sl : Nat) (S : abs) (A : xA) (B : xB) (D : xD), L < 5 * (j + d) + 5 → 5 * j ≤ 2600 → cs + 4 * d ≤ (mO (mLaw nm hh)).cells → sl + 24 * d ≤ (mO (mLaw nm hh)).slots → S.ok → cRel S A B → mRel S A B → gl0 (eLW L xs) (mLaw nm hh) (fun r _ _ _ => r = some (.int 1)) nx cs sl 28 (lvL (nI (5 * j))) [] A B D := by
  intro d
  induction d with
  | zero =>
    intro j cs sl S A B D hd hj hcs hsl hS h1 h2
    refine yi_iload dL_law_28 rfl ?_
    refine yi_aload_n dL_law_30 rfl rfl ?_
    refine yi_slen dL_law_31 (by decide) ?_
    refine yi_iconst dL_law_32 (v := 5) rfl ?_
    refine yi_isub dL_law_33 ?_
    refine yi_icmp_gt (tgt := 2248) dL_law_34 rfl (fun _ => ?_) (fun h => absurd ((gt_i (by omega) hL).mpr (by omega)) h)
    refine yi_iconst dL_law_2248 (v := 1) rfl ?_
    exact ygo_ret (r := some (.int 1)) ⟨dL_law_2249, Or.inr rfl⟩ hcs hsl rfl
  | succ d ih =>
    intro j cs sl S A B D hd hj hcs hsl hS h1 h2
    refine yi_iload dL_law_28 rfl ?_
    refine yi_aload_n dL_law_30 rfl rfl ?_
    refine yi_slen dL_law_31 (by decide) ?_
    refine yi_iconst dL_law_32 (v := 5) rfl ?_
    refine yi_isub dL_law_33 ?_
    refine yi_icmp_gt (tgt := 2248) dL_law_34 rfl (fun _ => ?_) (fun h => ?_)
    · refine yi_iconst dL_law_2248 (v := 1) rfl ?_
      exact ygo_ret (r := some (.int 1)) ⟨dL_law_2249, Or.inr rfl⟩ (by omega) (by omega) rfl
    have hjL : 5 * j + 5 ≤ L := Nat.le_of_not_lt fun q => h ((gt_i (by omega) hL).mpr q)
    have hi : vp_in (nI (5 * j) + 1) L ∧ vp_in (nI (5 * j) + 2) L ∧ vp_in (nI (5 * j) + 3) L ∧ vp_in (nI (5 * j) + 4) L :=
      ⟨by rw [show nI (5 * j) + 1 = nI (5 * j + 1) from nI_add' _ 1]; exact vp_in_nI (by omega) (by omega), by rw [show nI (5 * j) + 2 = nI (5 * j + 2) from nI_add' _ 2]; exact vp_in_nI (by omega) (by omega), by rw [show nI (5 * j) + 3 = nI (5 * j + 3) from nI_add' _ 3]; exact vp_in_nI (by omega) (by omega), by rw [show nI (5 * j) + 4 = nI (5 * j + 4) from nI_add' _ 4]; exact vp_in_nI (by omega) (by omega)⟩
    have hc4 : cs + 4 ≤ (mO (mLaw nm hh)).cells ∧ sl + 24 ≤ (mO (mLaw nm hh)).slots := ⟨by omega, by omega⟩
    have K : ∀ (S2 : abs) A2 B2 D2, S2.ok → cRel S2 A2 B2 → mRel S2 A2 B2 → gl0 (eLW L xs) (mLaw nm hh) (fun r _ _ _ => r = some (.int 1)) nx (cs + 4) (sl + 24) 2242 (lvL (nI (5 * j))) [] A2 B2 D2 := fun S2 A2 B2 D2 q1 q2 q3 => by
      refine yi_iinc dL_law_2242 (x := nI (5 * j)) (v := 5) rfl rfl (Nat.le_of_ble_eq_true rfl) ?_
      refine yi_goto (tgt := 28) dL_law_2245 rfl ?_
      have := ih (j + 1) (cs + 4) (sl + 24) S2 A2 B2 D2 (by omega) (by omega) (by omega) (by omega) q1 q2 q3
      rw [show nI (5 * (j + 1)) = nI (5 * j) + 5 from (nI_add' (5 * j) 5).symm] at this
      exact ygo_pick [0, 1, 2, 3, 4, 5] rfl this
    refine yi_aload_n dL_law_37 rfl rfl ?_
    refine yi_iload dL_law_38 rfl ?_
    refine yi_sld dL_law_40 (by decide) (vp_in_nI (by omega) (by omega)) ?_
    refine yi_bipush dL_law_41 (v := 63) rfl ?_
    refine yi_iand dL_law_43 ?_
    generalize xs (nI (5 * j)).toNatClampNeg &&& 63 = y
    by_cases hr : y.toInt < 0 ∨ 36 < y.toInt
    · exact yi_tableOut (tgt := 2242) dL_law_44 hr rfl (ygo_room (Nat.le_add_right _ _) (Nat.le_add_right _ _) (K S A B D hS h1 h2))
    · have hr1 : ¬ y.toInt < 0 := fun q => hr (Or.inl q)
      have hr2 : ¬ 36 < y.toInt := fun q => hr (Or.inr q)
      obtain ⟨k, hk, hk2⟩ : ∃ k : Nat, y.toInt = (k : Int) ∧ k < 37 := ⟨y.toInt.toNat, by omega, by omega⟩
      match k, hk, hk2 with
      | 0, hk, _ => exact yi_tableIn (tgt := 208) dL_law_44 hr1 hr2 (by rw [hk]; rfl) rfl (lc_begin hi hc4 hS h1 h2 K)
      | 1, hk, _ => exact yi_tableIn (tgt := 276) dL_law_44 hr1 hr2 (by rw [hk]; rfl) rfl (lc_setLevel hi hc4 hS h1 h2 K)
      | 2, hk, _ => exact yi_tableIn (tgt := 344) dL_law_44 hr1 hr2 (by rw [hk]; rfl) rfl (lc_fill hi hc4 hS h1 h2 K)
      | 3, hk, _ => exact yi_tableIn (tgt := 424) dL_law_44 hr1 hr2 (by rw [hk]; rfl) rfl (lc_complement hi hc4 hS h1 h2 K)
      | 4, hk, _ => exact yi_tableIn (tgt := 437) dL_law_44 hr1 hr2 (by rw [hk]; rfl) rfl (lc_setMarker hi hc4 hS h1 h2 K)
      | 5, hk, _ => exact yi_tableIn (tgt := 505) dL_law_44 hr1 hr2 (by rw [hk]; rfl) rfl (lc_markAll hi hc4 hS h1 h2 K)
      | 6, hk, _ => exact yi_tableIn (tgt := 518) dL_law_44 hr1 hr2 (by rw [hk]; rfl) rfl (lc_level hi hc4 hS h1 h2 K)
      | 7, hk, _ => exact yi_tableIn (tgt := 574) dL_law_44 hr1 hr2 (by rw [hk]; rfl) rfl (lc_marker hi hc4 hS h1 h2 K)
      | 8, hk, _ => exact yi_tableIn (tgt := 630) dL_law_44 hr1 hr2 (by rw [hk]; rfl) rfl (lc_difference hi hc4 hS h1 h2 K)
      | 9, hk, _ => exact yi_tableIn (tgt := 643) dL_law_44 hr1 hr2 (by rw [hk]; rfl) rfl (lc_setDark hi hc4 hS h1 h2 K)
      | 10, hk, _ => exact yi_tableIn (tgt := 684) dL_law_44 hr1 hr2 (by rw [hk]; rfl) rfl (lc_setEight hi hc4 hS h1 h2 K)
      | 11, hk, _ => exact yi_tableIn (tgt := 725) dL_law_44 hr1 hr2 (by rw [hk]; rfl) rfl (lc_undo hi hc4 hS h1 h2 K)
      | 12, hk, _ => exact yi_tableIn (tgt := 769) dL_law_44 hr1 hr2 (by rw [hk]; rfl) rfl (lc_append hi hc4 hS h1 h2 K)
      | 13, hk, _ => exact yi_tableIn (tgt := 825) dL_law_44 hr1 hr2 (by rw [hk]; rfl) rfl (lc_clearInput hi hc4 hS h1 h2 K)
      | 14, hk, _ => exact yi_tableIn (tgt := 838) dL_law_44 hr1 hr2 (by rw [hk]; rfl) rfl (lc_firstError hi hc4 hS h1 h2 K)
      | 15, hk, _ => exact yi_tableIn (tgt := 851) dL_law_44 hr1 hr2 (by rw [hk]; rfl) rfl (lc_load hi hc4 hS h1 h2 K)
      | 16, hk, _ => exact yi_tableIn (tgt := 895) dL_law_44 hr1 hr2 (by rw [hk]; rfl) rfl (lc_count hi hc4 hS h1 h2 K)
      | 17, hk, _ => exact yi_tableIn (tgt := 951) dL_law_44 hr1 hr2 (by rw [hk]; rfl) rfl (lc_nodeOf hi hc4 hS h1 h2 K)
      | 18, hk, _ => exact yi_tableIn (tgt := 1007) dL_law_44 hr1 hr2 (by rw [hk]; rfl) rfl (lc_attribute hi hc4 hS h1 h2 K)
      | 19, hk, _ => exact yi_tableIn (tgt := 1075) dL_law_44 hr1 hr2 (by rw [hk]; rfl) rfl (lc_meanRank hi hc4 hS h1 h2 K)
      | 20, hk, _ => exact yi_tableIn (tgt := 1152) dL_law_44 hr1 hr2 (by rw [hk]; rfl) rfl (lc_contains hi hc4 hS h1 h2 K)
      | 21, hk, _ => exact yi_tableIn (tgt := 1227) dL_law_44 hr1 hr2 (by rw [hk]; rfl) rfl (lc_child hi hc4 hS h1 h2 K)
      | 22, hk, _ => exact yi_tableIn (tgt := 1295) dL_law_44 hr1 hr2 (by rw [hk]; rfl) rfl (lc_leaf hi hc4 hS h1 h2 K)
      | 23, hk, _ => exact yi_tableIn (tgt := 1351) dL_law_44 hr1 hr2 (by rw [hk]; rfl) rfl (lc_prominence hi hc4 hS h1 h2 K)
      | 24, hk, _ => exact yi_tableIn (tgt := 1407) dL_law_44 hr1 hr2 (by rw [hk]; rfl) rfl (lc_component hi hc4 hS h1 h2 K)
      | 25, hk, _ => exact yi_tableIn (tgt := 1475) dL_law_44 hr1 hr2 (by rw [hk]; rfl) rfl (lc_meet hi hc4 hS h1 h2 K)
      | 26, hk, _ => exact yi_tableIn (tgt := 1543) dL_law_44 hr1 hr2 (by rw [hk]; rfl) rfl (lc_distance hi hc4 hS h1 h2 K)
      | 27, hk, _ => exact yi_tableIn (tgt := 1611) dL_law_44 hr1 hr2 (by rw [hk]; rfl) rfl (lc_verdict hi hc4 hS h1 h2 K)
      | 28, hk, _ => exact yi_tableIn (tgt := 1703) dL_law_44 hr1 hr2 (by rw [hk]; rfl) rfl (lc_filtered hi hc4 hS h1 h2 K)
      | 29, hk, _ => exact yi_tableIn (tgt := 1795) dL_law_44 hr1 hr2 (by rw [hk]; rfl) rfl (lc_loss hi hc4 hS h1 h2 K)
      | 30, hk, _ => exact yi_tableIn (tgt := 1875) dL_law_44 hr1 hr2 (by rw [hk]; rfl) rfl (lc_filter hi hc4 hS h1 h2 K)
      | 31, hk, _ => exact yi_tableIn (tgt := 1955) dL_law_44 hr1 hr2 (by rw [hk]; rfl) rfl (lc_threshold hi hc4 hS h1 h2 K)
      | 32, hk, _ => exact yi_tableIn (tgt := 2023) dL_law_44 hr1 hr2 (by rw [hk]; rfl) rfl (lc_reconstruct hi hc4 hS h1 h2 K)
      | 33, hk, _ => exact yi_tableIn (tgt := 2036) dL_law_44 hr1 hr2 (by rw [hk]; rfl) rfl (lc_suppress hi hc4 hS h1 h2 K)
      | 34, hk, _ => exact yi_tableIn (tgt := 2092) dL_law_44 hr1 hr2 (by rw [hk]; rfl) rfl (lc_keepPeaks hi hc4 hS h1 h2 K)
      | 35, hk, _ => exact yi_tableIn (tgt := 2148) dL_law_44 hr1 hr2 (by rw [hk]; rfl) rfl (lc_ifLevel hi hc4 hS h1 h2 K)
      | 36, hk, _ => exact yi_tableIn (tgt := 2228) dL_law_44 hr1 hr2 (by rw [hk]; rfl) rfl (lc_digest hi hc4 hS h1 h2 K)
      | k + 37, _, h => exact absurd h (by omega)

