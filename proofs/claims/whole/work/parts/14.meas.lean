/-! Measures: its object 55, values 56 (rows 57 to 68), leaves 69, summit 70, sum 71; over the nodes 35 -/
/-- the tree's arrays are usable: m nodes, parents pa -/
def trOK (A : xA) (m : Nat) (pa : Nat → Nat) : Prop := A 35 2 = nI m ∧ 0 < m ∧ m ≤ 64 ∧ A 40 0 = -1 ∧ (∀ v, 0 < v → v < m → A 40 v = nI (pa v) ∧ pa v < v) ∧ ∀ v, v < m → A 41 v ≠ 0 → ∃ u, v < u ∧ u < m ∧ pa u = v
def hiV (rk : Nat → Int32) (x y : Nat) : Int32 := if 0 < rk x - rk y then 1 else if rk x - rk y = 0 ∧ nI x < nI y then 1 else 0
theorem c_isHigher {x y : Nat} (hx : x < 64) (hy : y < 64) {A : xA} {B : xB} {D : xD} : does0 mX4_isHigher [.ref 35, .int (nI x), .int (nI y)] A B D (eqQ (some (.int (hiV (A 38) x y))) A B D) nx := by
  refine does_go (by decide) rfl (Nat.le_of_ble_eq_true rfl) rfl ?_
  refine xi_aload_n dX4_isHigher_0 rfl rfl ?_
  refine xi_getfield3 dX4_isHigher_1 fX4_63 g35 r35_6 ?_
  refine xi_iload_n dX4_isHigher_4 rfl rfl ?_
  refine ia dX4_isHigher_5 g38 s38 rfl (by omega) (Nat.le_of_ble_eq_true rfl) ?_
  refine xi_aload_n dX4_isHigher_6 rfl rfl ?_
  refine xi_getfield3 dX4_isHigher_7 fX4_63 g35 r35_6 ?_
  refine xi_iload_n dX4_isHigher_10 rfl rfl ?_
  refine ia dX4_isHigher_11 g38 s38 rfl (by omega) (Nat.le_of_ble_eq_true rfl) ?_
  refine xi_isub dX4_isHigher_12 ?_
  refine xi_istore_n dX4_isHigher_13 rfl (Nat.le_of_ble_eq_true rfl) ?_
  refine xi_iload_n dX4_isHigher_14 rfl rfl ?_
  refine xi_if_gt (tgt := 27) dX4_isHigher_15 rfl (fun h15 => ?_) (fun h15 => ?_)
  · refine xi_iconst (v := 1) dX4_isHigher_27 (by decide) ?_
    refine xi_goto (tgt := 32) dX4_isHigher_28 rfl ?_
    refine go_ret (r := some (.int _)) ⟨dX4_isHigher_32, (by first | exact Or.inl rfl | exact Or.inr rfl)⟩ (Nat.le_of_ble_eq_true rfl) (Nat.le_of_ble_eq_true rfl) ?_
    exact ⟨by unfold hiV; grind, rfl, rfl, rfl⟩
  · refine xi_iload_n dX4_isHigher_18 rfl rfl ?_
    refine xi_ifne (tgt := 31) dX4_isHigher_19 rfl (fun h19 => ?_) (fun h19 => ?_)
    · refine xi_iconst (v := 0) dX4_isHigher_31 (by decide) ?_
      refine go_ret (r := some (.int _)) ⟨dX4_isHigher_32, (by first | exact Or.inl rfl | exact Or.inr rfl)⟩ (Nat.le_of_ble_eq_true rfl) (Nat.le_of_ble_eq_true rfl) ?_
      exact ⟨by unfold hiV; grind, rfl, rfl, rfl⟩
    · refine xi_iload_n dX4_isHigher_22 rfl rfl ?_
      refine xi_iload_n dX4_isHigher_23 rfl rfl ?_
      refine xi_icmp_ge (tgt := 31) dX4_isHigher_24 rfl (fun h24 => ?_) (fun h24 => ?_)
      · refine xi_iconst (v := 0) dX4_isHigher_31 (by decide) ?_
        refine go_ret (r := some (.int _)) ⟨dX4_isHigher_32, (by first | exact Or.inl rfl | exact Or.inr rfl)⟩ (Nat.le_of_ble_eq_true rfl) (Nat.le_of_ble_eq_true rfl) ?_
        exact ⟨by unfold hiV; grind, rfl, rfl, rfl⟩
      · refine xi_iconst (v := 1) dX4_isHigher_27 (by decide) ?_
        refine xi_goto (tgt := 32) dX4_isHigher_28 rfl ?_
        refine go_ret (r := some (.int _)) ⟨dX4_isHigher_32, (by first | exact Or.inl rfl | exact Or.inr rfl)⟩ (Nat.le_of_ble_eq_true rfl) (Nat.le_of_ble_eq_true rfl) ?_
        exact ⟨by unfold hiV; grind, rfl, rfl, rfl⟩
/-- summits ahead of the climb: a leaf has itself -/
def su0 (ch old : Nat → Int32) (j i : Nat) : Int32 := if i < j then (if ch i = 0 then nI i else -1) else old i
/-- one node hands its summit to its parent -/
def sumS (rk : Nat → Int32) (pa : Nat → Nat) (v : Nat) (s : Nat → Int32) : Nat → Int32 := if s (pa v) = -1 then upd s (pa v) (s v) else if hiV rk (s v).toNatClampNeg (s (pa v)).toNatClampNeg = 0 then s else upd s (pa v) (s v)
/-- summits are nodes; -1 only where a node above v is still to come -/
def suOK (pa : Nat → Nat) (m v : Nat) (s : Nat → Int32) : Prop := ∀ i, i < m → (s i = -1 ∧ ∃ u, i < u ∧ u ≤ v ∧ pa u = i) ∨ ∃ a, a < m ∧ s i = nI a
theorem suOK_0 {A : xA} {m : Nat} {pa : Nat → Nat} (h : trOK A m pa) (old : Nat → Int32) : suOK pa m (m - 1) (su0 (A 41) old m) := by
  intro i hi
  unfold su0
  rw [if_pos hi]
  by_cases c : A 41 i = 0
  · rw [if_pos c]; exact Or.inr ⟨i, hi, rfl⟩
  · rw [if_neg c]
    obtain ⟨u, h1, h2, h3⟩ := h.2.2.2.2.2 i hi c
    exact Or.inl ⟨rfl, u, h1, by omega, h3⟩
theorem suOK_top {pa : Nat → Nat} {m v : Nat} {s : Nat → Int32} (h : suOK pa m v s) (hv : v < m) : ∃ a, a < m ∧ s v = nI a := by
  rcases h v hv with ⟨-, u, h1, h2, -⟩ | h
  · omega
  · exact h
theorem suOK_s {rk : Nat → Int32} {pa : Nat → Nat} {m v : Nat} {s : Nat → Int32} (h : suOK pa m (v + 1) s) (hv : v + 1 < m) (hp : pa (v + 1) < v + 1) : suOK pa m v (sumS rk pa (v + 1) s) := by
  obtain ⟨a, ha, hs⟩ := suOK_top h hv
  have key : ∀ i, i < m → i ≠ pa (v + 1) → (s i = -1 ∧ ∃ u, i < u ∧ u ≤ v ∧ pa u = i) ∨ ∃ a, a < m ∧ s i = nI a := by
    intro i hi hne
    rcases h i hi with ⟨h1, u, h2, h3, h4⟩ | h1
    · refine Or.inl ⟨h1, u, h2, ?_, h4⟩
      rcases Nat.lt_or_ge u (v + 1) with q | q
      · omega
      · have : u = v + 1 := by omega
        subst this
        exact absurd h4.symm hne
    · exact Or.inr h1
  have up : suOK pa m v (upd s (pa (v + 1)) (s (v + 1))) := by
    intro i hi
    by_cases e : i = pa (v + 1)
    · subst e; rw [up_s]; exact Or.inr ⟨a, ha, hs⟩
    · rw [up_n _ _ e]; exact key i hi e
  unfold sumS
  by_cases c : s (pa (v + 1)) = -1
  · rw [if_pos c]; exact up
  · rw [if_neg c]
    by_cases c2 : hiV rk (s (v + 1)).toNatClampNeg (s (pa (v + 1))).toNatClampNeg = 0
    · rw [if_pos c2]
      intro i hi
      by_cases e : i = pa (v + 1)
      · subst e
        rcases h _ hi with ⟨h1, -⟩ | h1
        · exact absurd h1 c
        · exact Or.inr h1
      · exact key i hi e
    · rw [if_neg c2]; exact up
def summV (ch rk : Nat → Int32) (pa : Nat → Nat) (m : Nat) (old : Nat → Int32) : Nat → Int32 := dit (sumS rk pa) (m - 1) (su0 ch old m)
theorem m1_ne (a : Nat) (h : a < 2 ^ 31) : ¬ nI a = -1 := by
  intro q
  have := congrArg Int32.toInt q
  rw [nI_toInt h] at this
  have h2 : (-1 : Int32).toInt = -1 := by decide
  omega
theorem c_findSummits {m : Nat} {pa : Nat → Nat} {A : xA} {B : xB} {D : xD} (h : trOK A m pa) : does0 mX4_findSummits [.ref 55, .ref 35] A B D (eqQ none (setA A 70 (summV (A 41) (A 38) pa m (A 70))) B D) nx := by
  refine does_go (by decide) rfl (Nat.le_of_ble_eq_true rfl) rfl ?_
  obtain ⟨hm, hm0, hm64, hp0, hpa, hch⟩ := id h
  generalize hR : summV (A 41) (A 38) pa m (A 70) = R
  have loop2 := dn_ind (P := fun j => j < m → ∀ s, suOK pa m j s → dit (sumS (A 38) pa) j s = R → go0 mX4_findSummits (eqQ none (setA A 70 R) B D) nx 0 0 43 [(0, .ref 55), (1, .ref 35), (2, .int (nI j))] [] (setA A 70 s) B D) (fun j ih hj s hs hx => by
    refine xi_iload_n dX4_findSummits_43 rfl rfl ?_
    refine xi_if_le (tgt := 101) dX4_findSummits_44 rfl (fun h44 => ?_) (fun h44 => ?_)
    · have e : j = 0 := nI_le0 (by omega) h44
      subst e
      refine go_ret (r := none) dX4_findSummits_101 (Nat.le_of_ble_eq_true rfl) (Nat.le_of_ble_eq_true rfl) ?_
      exact ⟨rfl, by rw [← hx]; rfl, rfl, rfl⟩
    · obtain ⟨u, rfl⟩ := nI_gt0 h44
      obtain ⟨hq, hq2⟩ := hpa (u + 1) (by omega) hj
      obtain ⟨a, ha, hsa⟩ := suOK_top hs hj
      have hs2 := suOK_s (rk := A 38) hs hj hq2
      rw [show dit (sumS (A 38) pa) (u + 1) s = dit (sumS (A 38) pa) u (sumS (A 38) pa (u + 1) s) from rfl] at hx
      refine xi_aload_n dX4_findSummits_47 rfl rfl ?_
      refine xi_getfield3 dX4_findSummits_48 fX4_56 g35 r35_8 ?_
      refine xi_iload_n dX4_findSummits_51 rfl rfl ?_
      refine ia dX4_findSummits_52 g40 s40 rfl (by omega) (Nat.le_of_ble_eq_true rfl) ?_
      rw [show setA A 70 s 40 (u + 1) = nI (pa (u + 1)) from hq]
      refine xi_istore_n dX4_findSummits_53 rfl (Nat.le_of_ble_eq_true rfl) ?_
      refine xi_aload_n dX4_findSummits_54 rfl rfl ?_
      refine xi_getfield3 dX4_findSummits_55 fX4_20 g55 r55_2 ?_
      refine xi_iload_n dX4_findSummits_58 rfl rfl ?_
      refine ia dX4_findSummits_59 g70 s70 rfl (by omega) (Nat.le_of_ble_eq_true rfl) ?_
      rw [setA_s]
      refine xi_iconst (v := (-1)) dX4_findSummits_60 (by decide) ?_
      refine xi_icmp_eq (tgt := 83) dX4_findSummits_61 rfl (fun h61 => ?_) (fun h61 => ?_)
      · refine xi_aload_n dX4_findSummits_83 rfl rfl ?_
        refine xi_getfield3 dX4_findSummits_84 fX4_20 g55 r55_2 ?_
        refine xi_iload_n dX4_findSummits_87 rfl rfl ?_
        refine xi_aload_n dX4_findSummits_88 rfl rfl ?_
        refine xi_getfield3 dX4_findSummits_89 fX4_20 g55 r55_2 ?_
        refine xi_iload_n dX4_findSummits_92 rfl rfl ?_
        refine ia dX4_findSummits_93 g70 s70 rfl (by omega) (Nat.le_of_ble_eq_true rfl) ?_
        rw [setA_s]
        refine is dX4_findSummits_94 g70 s70 rfl (by omega) (Nat.le_of_ble_eq_true rfl) ?_
        refine xi_iinc (v := (-1)) dX4_findSummits_95 rfl (by decide) (Nat.le_of_ble_eq_true rfl) ?_
        refine xi_goto (tgt := 43) dX4_findSummits_98 rfl ?_
        refine xgo_pick [0, 1, 2] rfl ?_
        rw [pk_m1, setA_u]
        rw [show sumS (A 38) pa (u + 1) s = upd s (pa (u + 1)) (s (u + 1)) from if_pos h61] at hs2 hx
        exact ih u rfl (by omega) _ hs2 hx
      · obtain ⟨b, hb, hsb⟩ : ∃ b, b < m ∧ s (pa (u + 1)) = nI b := (hs _ (by omega)).resolve_left (fun z => h61 z.1)
        refine xi_aload_n dX4_findSummits_64 rfl rfl ?_
        refine xi_aload_n dX4_findSummits_65 rfl rfl ?_
        refine xi_getfield3 dX4_findSummits_66 fX4_20 g55 r55_2 ?_
        refine xi_iload_n dX4_findSummits_69 rfl rfl ?_
        refine ia dX4_findSummits_70 g70 s70 rfl (by omega) (Nat.le_of_ble_eq_true rfl) ?_
        refine xi_aload_n dX4_findSummits_71 rfl rfl ?_
        refine xi_getfield3 dX4_findSummits_72 fX4_20 g55 r55_2 ?_
        refine xi_iload_n dX4_findSummits_75 rfl rfl ?_
        refine ia dX4_findSummits_76 g70 s70 rfl (by omega) (Nat.le_of_ble_eq_true rfl) ?_
        rw [setA_s, hsa, hsb]
        refine cS1 (av := [_, _, _]) dX4_findSummits_77 lX4_59 rfl ⟨rfl, rfl⟩ rfl ⟨(Nat.le_of_ble_eq_true rfl), (Nat.le_of_ble_eq_true rfl)⟩ ⟨(Nat.le_of_ble_eq_true rfl), (Nat.le_of_ble_eq_true rfl)⟩ (Nat.le_of_ble_eq_true rfl) (c_isHigher (by omega) (by omega)) ?_
        refine xi_if_eq (tgt := 95) dX4_findSummits_80 rfl (fun h80 => ?_) (fun h80 => ?_)
        · refine xi_iinc (v := (-1)) dX4_findSummits_95 rfl (by decide) (Nat.le_of_ble_eq_true rfl) ?_
          refine xi_goto (tgt := 43) dX4_findSummits_98 rfl ?_
          refine xgo_pick [0, 1, 2] rfl ?_
          rw [pk_m1]
          rw [show sumS (A 38) pa (u + 1) s = s by unfold sumS; rw [if_neg h61, hsa, hsb, nI_clamp (by omega), nI_clamp (by omega)]; exact if_pos h80] at hs2 hx
          exact ih u rfl (by omega) _ hs2 hx
        · refine xi_aload_n dX4_findSummits_83 rfl rfl ?_
          refine xi_getfield3 dX4_findSummits_84 fX4_20 g55 r55_2 ?_
          refine xi_iload_n dX4_findSummits_87 rfl rfl ?_
          refine xi_aload_n dX4_findSummits_88 rfl rfl ?_
          refine xi_getfield3 dX4_findSummits_89 fX4_20 g55 r55_2 ?_
          refine xi_iload_n dX4_findSummits_92 rfl rfl ?_
          refine ia dX4_findSummits_93 g70 s70 rfl (by omega) (Nat.le_of_ble_eq_true rfl) ?_
          rw [setA_s]
          refine is dX4_findSummits_94 g70 s70 rfl (by omega) (Nat.le_of_ble_eq_true rfl) ?_
          refine xi_iinc (v := (-1)) dX4_findSummits_95 rfl (by decide) (Nat.le_of_ble_eq_true rfl) ?_
          refine xi_goto (tgt := 43) dX4_findSummits_98 rfl ?_
          refine xgo_pick [0, 1, 2] rfl ?_
          rw [pk_m1, setA_u]
          rw [show sumS (A 38) pa (u + 1) s = upd s (pa (u + 1)) (s (u + 1)) by unfold sumS; rw [if_neg h61, if_neg (by rw [hsa, hsb, nI_clamp (by omega), nI_clamp (by omega)]; exact h80)]] at hs2 hx
          exact ih u rfl (by omega) _ hs2 hx
    )
  have loop := up_ind (n := m) (P := fun j => go0 mX4_findSummits (eqQ none (setA A 70 R) B D) nx 0 0 2 [(0, .ref 55), (1, .ref 35), (2, .int (nI j))] [] (setA A 70 (su0 (A 41) (A 70) j)) B D) (fun j hj ih => by
    refine xi_iload_n dX4_findSummits_2 rfl rfl ?_
    refine xi_aload_n dX4_findSummits_3 rfl rfl ?_
    refine xi_getfield0 dX4_findSummits_4 fX4_33 g35 ?_
    rw [show setA A 70 (su0 (A 41) (A 70) j) 35 2 = nI m from hm]
    refine xi_icmp_ge (tgt := 36) dX4_findSummits_7 rfl (fun h7 => ?_) (fun h7 => ?_)
    · have e : j = m := ge_eq hj (by omega) h7
      subst e
      refine xi_aload_n dX4_findSummits_36 rfl rfl ?_
      refine xi_getfield0 dX4_findSummits_37 fX4_33 g35 ?_
      rw [show setA A 70 (su0 (A 41) (A 70) j) 35 2 = nI j from hm]
      refine xi_iconst (v := 1) dX4_findSummits_40 (by decide) ?_
      refine xi_isub dX4_findSummits_41 ?_
      refine xi_istore_n dX4_findSummits_42 rfl (Nat.le_of_ble_eq_true rfl) ?_
      refine xgo_pick [0, 1, 2] rfl ?_
      obtain ⟨u, rfl⟩ : ∃ u, j = u + 1 := ⟨j - 1, by omega⟩
      rw [nI_pred]
      exact loop2 u (by omega) _ (suOK_0 h (A 70)) hR
    · have hl : j < m := nge_lt hj (by omega) h7
      refine xi_aload_n dX4_findSummits_10 rfl rfl ?_
      refine xi_getfield3 dX4_findSummits_11 fX4_20 g55 r55_2 ?_
      refine xi_iload_n dX4_findSummits_14 rfl rfl ?_
      refine xi_aload_n dX4_findSummits_15 rfl rfl ?_
      refine xi_getfield3 dX4_findSummits_16 fX4_53 g35 r35_9 ?_
      refine xi_iload_n dX4_findSummits_19 rfl rfl ?_
      refine ia dX4_findSummits_20 g41 s41 rfl (by omega) (Nat.le_of_ble_eq_true rfl) ?_
      refine xi_ifne (tgt := 28) dX4_findSummits_21 rfl (fun h21 => ?_) (fun h21 => ?_)
      · refine xi_iconst (v := (-1)) dX4_findSummits_28 (by decide) ?_
        refine is dX4_findSummits_29 g70 s70 rfl (by omega) (Nat.le_of_ble_eq_true rfl) ?_
        refine xi_iinc (v := 1) dX4_findSummits_30 rfl (by decide) (Nat.le_of_ble_eq_true rfl) ?_
        refine xi_goto (tgt := 2) dX4_findSummits_33 rfl ?_
        refine xgo_pick [0, 1, 2] rfl ?_
        rw [nI_1, setA_u]
        have q := ih hl
        rw [show su0 (A 41) (A 70) (j + 1) = upd (su0 (A 41) (A 70) j) j (if A 41 j = 0 then nI j else -1) by funext i; unfold su0 upd; grind] at q
        first | rw [if_pos (show A 41 j = 0 from h21)] at q | rw [if_neg (show ¬ A 41 j = 0 from h21)] at q
        exact q
      · refine xi_iload_n dX4_findSummits_24 rfl rfl ?_
        refine xi_goto (tgt := 29) dX4_findSummits_25 rfl ?_
        refine is dX4_findSummits_29 g70 s70 rfl (by omega) (Nat.le_of_ble_eq_true rfl) ?_
        refine xi_iinc (v := 1) dX4_findSummits_30 rfl (by decide) (Nat.le_of_ble_eq_true rfl) ?_
        refine xi_goto (tgt := 2) dX4_findSummits_33 rfl ?_
        refine xgo_pick [0, 1, 2] rfl ?_
        rw [nI_1, setA_u]
        have q := ih hl
        rw [show su0 (A 41) (A 70) (j + 1) = upd (su0 (A 41) (A 70) j) j (if A 41 j = 0 then nI j else -1) by funext i; unfold su0 upd; grind] at q
        first | rw [if_pos (show A 41 j = 0 from h21)] at q | rw [if_neg (show ¬ A 41 j = 0 from h21)] at q
        exact q
    )
  have l0 := loop 0 (Nat.zero_le _)
  rw [show su0 (A 41) (A 70) 0 = A 70 by funext i; simp [su0], setA_self] at l0
  refine xi_iconst (v := 0) dX4_findSummits_0 (by decide) ?_
  refine xi_istore_n dX4_findSummits_1 rfl (Nat.le_of_ble_eq_true rfl) ?_
  refine xgo_pick [0, 1, 2] rfl ?_
  exact l0
def sm0 (ow rk old : Nat → Int32) (j i : Nat) : Int32 := if i < j then ow i * rk i else old i
def smS (pa : Nat → Nat) (v : Nat) (s : Nat → Int32) : Nat → Int32 := upd s (pa v) (s (pa v) + s v)
def rsumV (ow rk : Nat → Int32) (pa : Nat → Nat) (m : Nat) (old : Nat → Int32) : Nat → Int32 := dit (smS pa) (m - 1) (sm0 ow rk old m)
theorem c_addRanks {m : Nat} {pa : Nat → Nat} {A : xA} {B : xB} {D : xD} (h : trOK A m pa) : does0 mX4_addRanks [.ref 55, .ref 35] A B D (eqQ none (setA A 71 (rsumV (A 39) (A 38) pa m (A 71))) B D) nx := by
  refine does_go (by decide) rfl (Nat.le_of_ble_eq_true rfl) rfl ?_
  obtain ⟨hm, hm0, hm64, hp0, hpa, hch⟩ := id h
  generalize hR : rsumV (A 39) (A 38) pa m (A 71) = R
  have loop2 := dn_ind (P := fun j => j < m → ∀ s, dit (smS pa) j s = R → go0 mX4_addRanks (eqQ none (setA A 71 R) B D) nx 0 0 42 [(0, .ref 55), (1, .ref 35), (2, .int (nI j))] [] (setA A 71 s) B D) (fun j ih hj s hx => by
    refine xi_iload_n dX4_addRanks_42 rfl rfl ?_
    refine xi_if_le (tgt := 72) dX4_addRanks_43 rfl (fun h43 => ?_) (fun h43 => ?_)
    · have e : j = 0 := nI_le0 (by omega) h43
      subst e
      refine go_ret (r := none) dX4_addRanks_72 (Nat.le_of_ble_eq_true rfl) (Nat.le_of_ble_eq_true rfl) ?_
      exact ⟨rfl, by rw [← hx]; rfl, rfl, rfl⟩
    · obtain ⟨u, rfl⟩ := nI_gt0 h43
      obtain ⟨hq, hq2⟩ := hpa (u + 1) (by omega) hj
      rw [show dit (smS pa) (u + 1) s = dit (smS pa) u (smS pa (u + 1) s) from rfl] at hx
      refine xi_aload_n dX4_addRanks_46 rfl rfl ?_
      refine xi_getfield3 dX4_addRanks_47 fX4_23 g55 r55_3 ?_
      refine xi_aload_n dX4_addRanks_50 rfl rfl ?_
      refine xi_getfield3 dX4_addRanks_51 fX4_56 g35 r35_8 ?_
      refine xi_iload_n dX4_addRanks_54 rfl rfl ?_
      refine ia dX4_addRanks_55 g40 s40 rfl (by omega) (Nat.le_of_ble_eq_true rfl) ?_
      refine xi_dup2 dX4_addRanks_56 rfl rfl ?_
      refine ia dX4_addRanks_57 g71 s71 hq (by omega) (Nat.le_of_ble_eq_true rfl) ?_
      refine xi_aload_n dX4_addRanks_58 rfl rfl ?_
      refine xi_getfield3 dX4_addRanks_59 fX4_23 g55 r55_3 ?_
      refine xi_iload_n dX4_addRanks_62 rfl rfl ?_
      refine ia dX4_addRanks_63 g71 s71 rfl (by omega) (Nat.le_of_ble_eq_true rfl) ?_
      refine xi_iadd dX4_addRanks_64 ?_
      refine is dX4_addRanks_65 g71 s71 hq (by omega) (Nat.le_of_ble_eq_true rfl) ?_
      refine xi_iinc (v := (-1)) dX4_addRanks_66 rfl (by decide) (Nat.le_of_ble_eq_true rfl) ?_
      refine xi_goto (tgt := 42) dX4_addRanks_69 rfl ?_
      refine xgo_pick [0, 1, 2] rfl ?_
      rw [pk_m1, setA_u, setA_s]
      exact ih u rfl (by omega) _ hx
    )
  have loop := up_ind (n := m) (P := fun j => go0 mX4_addRanks (eqQ none (setA A 71 R) B D) nx 0 0 2 [(0, .ref 55), (1, .ref 35), (2, .int (nI j))] [] (setA A 71 (sm0 (A 39) (A 38) (A 71) j)) B D) (fun j hj ih => by
    refine xi_iload_n dX4_addRanks_2 rfl rfl ?_
    refine xi_aload_n dX4_addRanks_3 rfl rfl ?_
    refine xi_getfield0 dX4_addRanks_4 fX4_33 g35 ?_
    rw [show setA A 71 (sm0 (A 39) (A 38) (A 71) j) 35 2 = nI m from hm]
    refine xi_icmp_ge (tgt := 35) dX4_addRanks_7 rfl (fun h7 => ?_) (fun h7 => ?_)
    · have e : j = m := ge_eq hj (by omega) h7
      subst e
      refine xi_aload_n dX4_addRanks_35 rfl rfl ?_
      refine xi_getfield0 dX4_addRanks_36 fX4_33 g35 ?_
      rw [show setA A 71 (sm0 (A 39) (A 38) (A 71) j) 35 2 = nI j from hm]
      refine xi_iconst (v := 1) dX4_addRanks_39 (by decide) ?_
      refine xi_isub dX4_addRanks_40 ?_
      refine xi_istore_n dX4_addRanks_41 rfl (Nat.le_of_ble_eq_true rfl) ?_
      refine xgo_pick [0, 1, 2] rfl ?_
      obtain ⟨u, rfl⟩ : ∃ u, j = u + 1 := ⟨j - 1, by omega⟩
      rw [nI_pred]
      exact loop2 u (by omega) _ hR
    · have hl : j < m := nge_lt hj (by omega) h7
      refine xi_aload_n dX4_addRanks_10 rfl rfl ?_
      refine xi_getfield3 dX4_addRanks_11 fX4_23 g55 r55_3 ?_
      refine xi_iload_n dX4_addRanks_14 rfl rfl ?_
      refine xi_aload_n dX4_addRanks_15 rfl rfl ?_
      refine xi_getfield3 dX4_addRanks_16 fX4_66 g35 r35_7 ?_
      refine xi_iload_n dX4_addRanks_19 rfl rfl ?_
      refine ia dX4_addRanks_20 g39 s39 rfl (by omega) (Nat.le_of_ble_eq_true rfl) ?_
      refine xi_aload_n dX4_addRanks_21 rfl rfl ?_
      refine xi_getfield3 dX4_addRanks_22 fX4_63 g35 r35_6 ?_
      refine xi_iload_n dX4_addRanks_25 rfl rfl ?_
      refine ia dX4_addRanks_26 g38 s38 rfl (by omega) (Nat.le_of_ble_eq_true rfl) ?_
      refine xi_imul dX4_addRanks_27 ?_
      refine is dX4_addRanks_28 g71 s71 rfl (by omega) (Nat.le_of_ble_eq_true rfl) ?_
      refine xi_iinc (v := 1) dX4_addRanks_29 rfl (by decide) (Nat.le_of_ble_eq_true rfl) ?_
      refine xi_goto (tgt := 2) dX4_addRanks_32 rfl ?_
      refine xgo_pick [0, 1, 2] rfl ?_
      rw [nI_1, setA_u]
      have q := ih hl
      rw [show sm0 (A 39) (A 38) (A 71) (j + 1) = upd (sm0 (A 39) (A 38) (A 71) j) j (A 39 j * A 38 j) by funext i; unfold sm0 upd; grind] at q
      exact q
    )
  have l0 := loop 0 (Nat.zero_le _)
  rw [show sm0 (A 39) (A 38) (A 71) 0 = A 71 by funext i; simp [sm0], setA_self] at l0
  refine xi_iconst (v := 0) dX4_addRanks_0 (by decide) ?_
  refine xi_istore_n dX4_addRanks_1 rfl (Nat.le_of_ble_eq_true rfl) ?_
  refine xgo_pick [0, 1, 2] rfl ?_
  exact l0
def mtA (A : xA) (B : xB) (v : Nat) : xA := updA (updA (updA (updA (updA (updA (updA A 57 v (A 38 v)) 58 v (bcL (B 37 v))) 59 v (A 39 v)) 60 v (A 40 v)) 61 v (A 41 v)) 62 v (A 38 (A 70 v).toNatClampNeg - A 38 v)) 63 v (A 71 v - A 38 v * bcL (B 37 v))
theorem c_measureTree {v a : Nat} (hv : v < 64) {A : xA} {B : xB} {D : xD} (hs : A 70 v = nI a) (ha : a < 64) : does0 mX4_measureTree [.ref 55, .ref 35, .int (nI v)] A B D (eqQ none (mtA A B v) B D) nx := by
  refine does_go (by decide) rfl (Nat.le_of_ble_eq_true rfl) rfl ?_
  refine xi_aload_n dX4_measureTree_0 rfl rfl ?_
  refine xi_getfield3 dX4_measureTree_1 fX4_69 g35 r35_5 ?_
  refine xi_iload_n dX4_measureTree_4 rfl rfl ?_
  refine la dX4_measureTree_5 g37 s37 rfl (by omega) (Nat.le_of_ble_eq_true rfl) ?_
  refine cS1 (av := [_]) dX4_measureTree_6 lX4_73 rfl ⟨rfl, rfl⟩ rfl ⟨(Nat.le_of_ble_eq_true rfl), (Nat.le_of_ble_eq_true rfl)⟩ ⟨(Nat.le_of_ble_eq_true rfl), (Nat.le_of_ble_eq_true rfl)⟩ (Nat.le_of_ble_eq_true rfl) (c_bcL) ?_
  refine xi_istore_n dX4_measureTree_9 rfl (Nat.le_of_ble_eq_true rfl) ?_
  refine xi_aload_n dX4_measureTree_10 rfl rfl ?_
  refine xi_getfield3 dX4_measureTree_11 fX4_11 g55 r55_0 ?_
  refine xi_iconst (v := 0) dX4_measureTree_14 (by decide) ?_
  refine xi_aaload5 (r := 57) dX4_measureTree_15 g56 s56 (show ¬ _ by decide) rfl ?_
  refine xi_iload_n dX4_measureTree_16 rfl rfl ?_
  refine xi_aload_n dX4_measureTree_17 rfl rfl ?_
  refine xi_getfield3 dX4_measureTree_18 fX4_63 g35 r35_6 ?_
  refine xi_iload_n dX4_measureTree_21 rfl rfl ?_
  refine ia dX4_measureTree_22 g38 s38 rfl (by omega) (Nat.le_of_ble_eq_true rfl) ?_
  refine is dX4_measureTree_23 g57 s57 rfl (by omega) (Nat.le_of_ble_eq_true rfl) ?_
  refine xi_aload_n dX4_measureTree_24 rfl rfl ?_
  refine xi_getfield3 dX4_measureTree_25 fX4_11 g55 r55_0 ?_
  refine xi_iconst (v := 1) dX4_measureTree_28 (by decide) ?_
  refine xi_aaload5 (r := 58) dX4_measureTree_29 g56 s56 (show ¬ _ by decide) rfl ?_
  refine xi_iload_n dX4_measureTree_30 rfl rfl ?_
  refine xi_iload_n dX4_measureTree_31 rfl rfl ?_
  refine is dX4_measureTree_32 g58 s58 rfl (by omega) (Nat.le_of_ble_eq_true rfl) ?_
  refine xi_aload_n dX4_measureTree_33 rfl rfl ?_
  refine xi_getfield3 dX4_measureTree_34 fX4_11 g55 r55_0 ?_
  refine xi_iconst (v := 2) dX4_measureTree_37 (by decide) ?_
  refine xi_aaload5 (r := 59) dX4_measureTree_38 g56 s56 (show ¬ _ by decide) rfl ?_
  refine xi_iload_n dX4_measureTree_39 rfl rfl ?_
  refine xi_aload_n dX4_measureTree_40 rfl rfl ?_
  refine xi_getfield3 dX4_measureTree_41 fX4_66 g35 r35_7 ?_
  refine xi_iload_n dX4_measureTree_44 rfl rfl ?_
  refine ia dX4_measureTree_45 g39 s39 rfl (by omega) (Nat.le_of_ble_eq_true rfl) ?_
  refine is dX4_measureTree_46 g59 s59 rfl (by omega) (Nat.le_of_ble_eq_true rfl) ?_
  refine xi_aload_n dX4_measureTree_47 rfl rfl ?_
  refine xi_getfield3 dX4_measureTree_48 fX4_11 g55 r55_0 ?_
  refine xi_iconst (v := 3) dX4_measureTree_51 (by decide) ?_
  refine xi_aaload5 (r := 60) dX4_measureTree_52 g56 s56 (show ¬ _ by decide) rfl ?_
  refine xi_iload_n dX4_measureTree_53 rfl rfl ?_
  refine xi_aload_n dX4_measureTree_54 rfl rfl ?_
  refine xi_getfield3 dX4_measureTree_55 fX4_56 g35 r35_8 ?_
  refine xi_iload_n dX4_measureTree_58 rfl rfl ?_
  refine ia dX4_measureTree_59 g40 s40 rfl (by omega) (Nat.le_of_ble_eq_true rfl) ?_
  refine is dX4_measureTree_60 g60 s60 rfl (by omega) (Nat.le_of_ble_eq_true rfl) ?_
  refine xi_aload_n dX4_measureTree_61 rfl rfl ?_
  refine xi_getfield3 dX4_measureTree_62 fX4_11 g55 r55_0 ?_
  refine xi_iconst (v := 4) dX4_measureTree_65 (by decide) ?_
  refine xi_aaload5 (r := 61) dX4_measureTree_66 g56 s56 (show ¬ _ by decide) rfl ?_
  refine xi_iload_n dX4_measureTree_67 rfl rfl ?_
  refine xi_aload_n dX4_measureTree_68 rfl rfl ?_
  refine xi_getfield3 dX4_measureTree_69 fX4_53 g35 r35_9 ?_
  refine xi_iload_n dX4_measureTree_72 rfl rfl ?_
  refine ia dX4_measureTree_73 g41 s41 rfl (by omega) (Nat.le_of_ble_eq_true rfl) ?_
  refine is dX4_measureTree_74 g61 s61 rfl (by omega) (Nat.le_of_ble_eq_true rfl) ?_
  refine xi_aload_n dX4_measureTree_75 rfl rfl ?_
  refine xi_getfield3 dX4_measureTree_76 fX4_11 g55 r55_0 ?_
  refine xi_iconst (v := 5) dX4_measureTree_79 (by decide) ?_
  refine xi_aaload5 (r := 62) dX4_measureTree_80 g56 s56 (show ¬ _ by decide) rfl ?_
  refine xi_iload_n dX4_measureTree_81 rfl rfl ?_
  refine xi_aload_n dX4_measureTree_82 rfl rfl ?_
  refine xi_getfield3 dX4_measureTree_83 fX4_63 g35 r35_6 ?_
  refine xi_aload_n dX4_measureTree_86 rfl rfl ?_
  refine xi_getfield3 dX4_measureTree_87 fX4_20 g55 r55_2 ?_
  refine xi_iload_n dX4_measureTree_90 rfl rfl ?_
  refine ia dX4_measureTree_91 g70 s70 rfl (by omega) (Nat.le_of_ble_eq_true rfl) ?_
  refine ia dX4_measureTree_92 g38 s38 hs ha (Nat.le_of_ble_eq_true rfl) ?_
  refine xi_aload_n dX4_measureTree_93 rfl rfl ?_
  refine xi_getfield3 dX4_measureTree_94 fX4_63 g35 r35_6 ?_
  refine xi_iload_n dX4_measureTree_97 rfl rfl ?_
  refine ia dX4_measureTree_98 g38 s38 rfl (by omega) (Nat.le_of_ble_eq_true rfl) ?_
  refine xi_isub dX4_measureTree_99 ?_
  refine is dX4_measureTree_100 g62 s62 rfl (by omega) (Nat.le_of_ble_eq_true rfl) ?_
  refine xi_aload_n dX4_measureTree_101 rfl rfl ?_
  refine xi_getfield3 dX4_measureTree_102 fX4_11 g55 r55_0 ?_
  refine xi_bipush (v := 6) dX4_measureTree_105 (by decide) ?_
  refine xi_aaload5 (r := 63) dX4_measureTree_107 g56 s56 (show ¬ _ by decide) rfl ?_
  refine xi_iload_n dX4_measureTree_108 rfl rfl ?_
  refine xi_aload_n dX4_measureTree_109 rfl rfl ?_
  refine xi_getfield3 dX4_measureTree_110 fX4_23 g55 r55_3 ?_
  refine xi_iload_n dX4_measureTree_113 rfl rfl ?_
  refine ia dX4_measureTree_114 g71 s71 rfl (by omega) (Nat.le_of_ble_eq_true rfl) ?_
  refine xi_aload_n dX4_measureTree_115 rfl rfl ?_
  refine xi_getfield3 dX4_measureTree_116 fX4_63 g35 r35_6 ?_
  refine xi_iload_n dX4_measureTree_119 rfl rfl ?_
  refine ia dX4_measureTree_120 g38 s38 rfl (by omega) (Nat.le_of_ble_eq_true rfl) ?_
  refine xi_iload_n dX4_measureTree_121 rfl rfl ?_
  refine xi_imul dX4_measureTree_122 ?_
  refine xi_isub dX4_measureTree_123 ?_
  refine is dX4_measureTree_124 g63 s63 rfl (by omega) (Nat.le_of_ble_eq_true rfl) ?_
  refine go_ret (r := none) dX4_measureTree_125 (Nat.le_of_ble_eq_true rfl) (Nat.le_of_ble_eq_true rfl) ?_
  exact ⟨rfl, by unfold mtA; rw [hs, nI_clamp (by omega)]; rfl, rfl, rfl⟩
def msA (A : xA) (B : xB) (v c r n : Nat) : xA := updA (updA (updA (updA A 64 v (widthV (B 36 4) (B 37 v) c)) 65 v (tallV (A 36 0) (B 37 v) r)) 66 v (perimV (A 36 0) (B 36 5) (B 37 v))) 67 v (holV (A 36 0) (B 36 4) (B 36 5) (B 36 3) (B 36 6) (B 37 v) (A 35 1) n)
theorem c_measureShape {v c r n : Nat} (hv : v < 64) {A : xA} {B : xB} {D : xD} (hc : A 36 0 = nI c) (hr : A 36 1 = nI r) (hn : A 36 2 = nI n) (hc8 : c ≤ 8) (hr8 : r ≤ 8) (hn64 : n ≤ 64) : does0 mX4_measureShape [.ref 55, .ref 35, .int (nI v)] A B D (eqQ none (msA A B v c r n) B D) nx := by
  refine does_go (by decide) rfl (Nat.le_of_ble_eq_true rfl) rfl ?_
  refine xi_aload_n dX4_measureShape_0 rfl rfl ?_
  refine xi_getfield3 dX4_measureShape_1 fX4_69 g35 r35_5 ?_
  refine xi_iload_n dX4_measureShape_4 rfl rfl ?_
  refine la dX4_measureShape_5 g37 s37 rfl (by omega) (Nat.le_of_ble_eq_true rfl) ?_
  refine xi_lstore_n dX4_measureShape_6 rfl (Nat.le_of_ble_eq_true rfl) ?_
  refine xi_aload_n dX4_measureShape_7 rfl rfl ?_
  refine xi_getfield3 dX4_measureShape_8 fX4_11 g55 r55_0 ?_
  refine xi_bipush (v := 7) dX4_measureShape_11 (by decide) ?_
  refine xi_aaload5 (r := 64) dX4_measureShape_13 g56 s56 (show ¬ _ by decide) rfl ?_
  refine xi_iload_n dX4_measureShape_14 rfl rfl ?_
  refine xi_aload_n dX4_measureShape_15 rfl rfl ?_
  refine xi_getfield3 dX4_measureShape_16 fX4_79 g35 r35_0 ?_
  refine xi_lload_n dX4_measureShape_19 rfl rfl ?_
  refine cV1 (av := [_]) dX4_measureShape_20 lX4_83 rfl ⟨rfl, rfl⟩ rfl ⟨(Nat.le_of_ble_eq_true rfl), (Nat.le_of_ble_eq_true rfl)⟩ ⟨(Nat.le_of_ble_eq_true rfl), (Nat.le_of_ble_eq_true rfl)⟩ (Nat.le_of_ble_eq_true rfl) g36 rfl rfl (c_widthOf (Or.inl rfl) hc hc8) ?_
  refine is dX4_measureShape_23 g64 s64 rfl (by omega) (Nat.le_of_ble_eq_true rfl) ?_
  refine xi_aload_n dX4_measureShape_24 rfl rfl ?_
  refine xi_getfield3 dX4_measureShape_25 fX4_11 g55 r55_0 ?_
  refine xi_bipush (v := 8) dX4_measureShape_28 (by decide) ?_
  refine xi_aaload5 (r := 65) dX4_measureShape_30 g56 s56 (show ¬ _ by decide) rfl ?_
  refine xi_iload_n dX4_measureShape_31 rfl rfl ?_
  refine xi_aload_n dX4_measureShape_32 rfl rfl ?_
  refine xi_getfield3 dX4_measureShape_33 fX4_79 g35 r35_0 ?_
  refine xi_lload_n dX4_measureShape_36 rfl rfl ?_
  refine cV1 (av := [_]) dX4_measureShape_37 lX4_88 rfl ⟨rfl, rfl⟩ rfl ⟨(Nat.le_of_ble_eq_true rfl), (Nat.le_of_ble_eq_true rfl)⟩ ⟨(Nat.le_of_ble_eq_true rfl), (Nat.le_of_ble_eq_true rfl)⟩ (Nat.le_of_ble_eq_true rfl) g36 rfl rfl (c_tallnessOf (Or.inl rfl) hr hr8) ?_
  refine is dX4_measureShape_40 g65 s65 rfl (by omega) (Nat.le_of_ble_eq_true rfl) ?_
  refine xi_aload_n dX4_measureShape_41 rfl rfl ?_
  refine xi_getfield3 dX4_measureShape_42 fX4_11 g55 r55_0 ?_
  refine xi_bipush (v := 9) dX4_measureShape_45 (by decide) ?_
  refine xi_aaload5 (r := 66) dX4_measureShape_47 g56 s56 (show ¬ _ by decide) rfl ?_
  refine xi_iload_n dX4_measureShape_48 rfl rfl ?_
  refine xi_aload_n dX4_measureShape_49 rfl rfl ?_
  refine xi_getfield3 dX4_measureShape_50 fX4_79 g35 r35_0 ?_
  refine xi_lload_n dX4_measureShape_53 rfl rfl ?_
  refine cV1 (av := [_]) dX4_measureShape_54 lX4_91 rfl ⟨rfl, rfl⟩ rfl ⟨(Nat.le_of_ble_eq_true rfl), (Nat.le_of_ble_eq_true rfl)⟩ ⟨(Nat.le_of_ble_eq_true rfl), (Nat.le_of_ble_eq_true rfl)⟩ (Nat.le_of_ble_eq_true rfl) g36 rfl rfl (c_perimeterOf (Or.inl rfl)) ?_
  refine is dX4_measureShape_57 g66 s66 rfl (by omega) (Nat.le_of_ble_eq_true rfl) ?_
  refine xi_aload_n dX4_measureShape_58 rfl rfl ?_
  refine xi_getfield3 dX4_measureShape_59 fX4_11 g55 r55_0 ?_
  refine xi_bipush (v := 10) dX4_measureShape_62 (by decide) ?_
  refine xi_aaload5 (r := 67) dX4_measureShape_64 g56 s56 (show ¬ _ by decide) rfl ?_
  refine xi_iload_n dX4_measureShape_65 rfl rfl ?_
  refine xi_aload_n dX4_measureShape_66 rfl rfl ?_
  refine xi_getfield3 dX4_measureShape_67 fX4_79 g35 r35_0 ?_
  refine xi_lload_n dX4_measureShape_70 rfl rfl ?_
  refine xi_aload_n dX4_measureShape_71 rfl rfl ?_
  refine xi_getfield1 dX4_measureShape_72 fX4_94 g35 ?_
  refine cV1 (av := [_, _]) dX4_measureShape_75 lX4_98 rfl ⟨rfl, rfl⟩ rfl ⟨(Nat.le_of_ble_eq_true rfl), (Nat.le_of_ble_eq_true rfl)⟩ ⟨(Nat.le_of_ble_eq_true rfl), (Nat.le_of_ble_eq_true rfl)⟩ (Nat.le_of_ble_eq_true rfl) g36 rfl rfl (c_holesOf (Or.inl rfl) hn hn64) ?_
  refine is dX4_measureShape_78 g67 s67 rfl (by omega) (Nat.le_of_ble_eq_true rfl) ?_
  refine go_ret (r := none) dX4_measureShape_79 (Nat.le_of_ble_eq_true rfl) (Nat.le_of_ble_eq_true rfl) ?_
  exact ⟨rfl, rfl, rfl, rfl⟩
def proV (A : xA) (v : Nat) : Int32 := if A 40 v = -1 then A 38 (A 70 v).toNatClampNeg + 1 else if A 70 (A 40 v).toNatClampNeg = A 70 v then A 68 (A 40 v).toNatClampNeg else A 38 (A 70 v).toNatClampNeg - A 38 (A 40 v).toNatClampNeg
theorem c_prominenceIn {v a : Nat} (hv : v < 64) {A : xA} {B : xB} {D : xD} (hs : A 70 v = nI a) (ha : a < 64) (hp : A 40 v = -1 ∨ ∃ q, q < 64 ∧ A 40 v = nI q) : does0 mX4_prominenceIn [.ref 55, .ref 35, .int (nI v)] A B D (eqQ (some (.int (proV A v))) A B D) nx := by
  refine does_go (by decide) rfl (Nat.le_of_ble_eq_true rfl) rfl ?_
  refine xi_aload_n dX4_prominenceIn_0 rfl rfl ?_
  refine xi_getfield3 dX4_prominenceIn_1 fX4_56 g35 r35_8 ?_
  refine xi_iload_n dX4_prominenceIn_4 rfl rfl ?_
  refine ia dX4_prominenceIn_5 g40 s40 rfl (by omega) (Nat.le_of_ble_eq_true rfl) ?_
  refine xi_istore_n dX4_prominenceIn_6 rfl (Nat.le_of_ble_eq_true rfl) ?_
  refine xi_iload_n dX4_prominenceIn_7 rfl rfl ?_
  refine xi_iconst (v := (-1)) dX4_prominenceIn_8 (by decide) ?_
  refine xi_icmpne (tgt := 26) dX4_prominenceIn_9 rfl (fun h9 => ?_) (fun h9 => ?_)
  · obtain ⟨q, hq, hq2⟩ := hp.resolve_left h9
    refine xi_aload_n dX4_prominenceIn_26 rfl rfl ?_
    refine xi_getfield3 dX4_prominenceIn_27 fX4_20 g55 r55_2 ?_
    refine xi_iload_n dX4_prominenceIn_30 rfl rfl ?_
    refine ia dX4_prominenceIn_31 g70 s70 hq2 hq (Nat.le_of_ble_eq_true rfl) ?_
    refine xi_aload_n dX4_prominenceIn_32 rfl rfl ?_
    refine xi_getfield3 dX4_prominenceIn_33 fX4_20 g55 r55_2 ?_
    refine xi_iload_n dX4_prominenceIn_36 rfl rfl ?_
    refine ia dX4_prominenceIn_37 g70 s70 rfl (by omega) (Nat.le_of_ble_eq_true rfl) ?_
    refine xi_icmpne (tgt := 51) dX4_prominenceIn_38 rfl (fun h38 => ?_) (fun h38 => ?_)
    · refine xi_aload_n dX4_prominenceIn_51 rfl rfl ?_
      refine xi_getfield3 dX4_prominenceIn_52 fX4_63 g35 r35_6 ?_
      refine xi_aload_n dX4_prominenceIn_55 rfl rfl ?_
      refine xi_getfield3 dX4_prominenceIn_56 fX4_20 g55 r55_2 ?_
      refine xi_iload_n dX4_prominenceIn_59 rfl rfl ?_
      refine ia dX4_prominenceIn_60 g70 s70 rfl (by omega) (Nat.le_of_ble_eq_true rfl) ?_
      refine ia dX4_prominenceIn_61 g38 s38 hs ha (Nat.le_of_ble_eq_true rfl) ?_
      refine xi_aload_n dX4_prominenceIn_62 rfl rfl ?_
      refine xi_getfield3 dX4_prominenceIn_63 fX4_63 g35 r35_6 ?_
      refine xi_iload_n dX4_prominenceIn_66 rfl rfl ?_
      refine ia dX4_prominenceIn_67 g38 s38 hq2 hq (Nat.le_of_ble_eq_true rfl) ?_
      refine xi_isub dX4_prominenceIn_68 ?_
      refine go_ret (r := some (.int _)) dX4_prominenceIn_69 (Nat.le_of_ble_eq_true rfl) (Nat.le_of_ble_eq_true rfl) ?_
      exact ⟨by unfold proV; rw [if_neg h9, hq2, nI_clamp (by omega), if_neg h38, hs, nI_clamp (by omega)], rfl, rfl, rfl⟩
    · refine xi_aload_n dX4_prominenceIn_41 rfl rfl ?_
      refine xi_getfield3 dX4_prominenceIn_42 fX4_11 g55 r55_0 ?_
      refine xi_bipush (v := 11) dX4_prominenceIn_45 (by decide) ?_
      refine xi_aaload5 (r := 68) dX4_prominenceIn_47 g56 s56 (show ¬ _ by decide) rfl ?_
      refine xi_iload_n dX4_prominenceIn_48 rfl rfl ?_
      refine ia dX4_prominenceIn_49 g68 s68 hq2 hq (Nat.le_of_ble_eq_true rfl) ?_
      refine go_ret (r := some (.int _)) dX4_prominenceIn_50 (Nat.le_of_ble_eq_true rfl) (Nat.le_of_ble_eq_true rfl) ?_
      exact ⟨by unfold proV; rw [if_neg h9, hq2, nI_clamp (by omega), if_pos h38], rfl, rfl, rfl⟩
  · refine xi_aload_n dX4_prominenceIn_12 rfl rfl ?_
    refine xi_getfield3 dX4_prominenceIn_13 fX4_63 g35 r35_6 ?_
    refine xi_aload_n dX4_prominenceIn_16 rfl rfl ?_
    refine xi_getfield3 dX4_prominenceIn_17 fX4_20 g55 r55_2 ?_
    refine xi_iload_n dX4_prominenceIn_20 rfl rfl ?_
    refine ia dX4_prominenceIn_21 g70 s70 rfl (by omega) (Nat.le_of_ble_eq_true rfl) ?_
    refine ia dX4_prominenceIn_22 g38 s38 hs ha (Nat.le_of_ble_eq_true rfl) ?_
    refine xi_iconst (v := 1) dX4_prominenceIn_23 (by decide) ?_
    refine xi_iadd dX4_prominenceIn_24 ?_
    refine go_ret (r := some (.int _)) dX4_prominenceIn_25 (Nat.le_of_ble_eq_true rfl) (Nat.le_of_ble_eq_true rfl) ?_
    exact ⟨by unfold proV; rw [if_pos h9, hs, nI_clamp (by omega)], rfl, rfl, rfl⟩
def meS (B : xB) (c r n v : Nat) (A : xA) : xA := updA (msA (mtA A B v) B v c r n) 68 v (proV (msA (mtA A B v) B v c r n) v)
theorem mtA_o {A : xA} {B : xB} {v k' : Nat} (h : k' < 57 ∨ 63 < k') : mtA A B v k' = A k' := by
  unfold mtA
  rw [updA_n _ _ _ (by omega), updA_n _ _ _ (by omega), updA_n _ _ _ (by omega), updA_n _ _ _ (by omega), updA_n _ _ _ (by omega), updA_n _ _ _ (by omega), updA_n _ _ _ (by omega)]
theorem msA_o {A : xA} {B : xB} {v c r n k' : Nat} (h : k' < 64 ∨ 67 < k') : msA A B v c r n k' = A k' := by
  unfold msA
  rw [updA_n _ _ _ (by omega), updA_n _ _ _ (by omega), updA_n _ _ _ (by omega), updA_n _ _ _ (by omega)]
theorem meS_o {A : xA} {B : xB} {v c r n k' : Nat} (h : k' < 57 ∨ 68 < k') : meS B c r n v A k' = A k' := by
  unfold meS
  rw [updA_n _ _ _ (by omega), msA_o (by omega), mtA_o (by omega)]
theorem meI_o {A : xA} {B : xB} {c r n k' : Nat} (h : k' < 57 ∨ 68 < k') : ∀ j, itr (meS B c r n) j A k' = A k'
  | 0 => rfl
  | j + 1 => by rw [itr_s, meS_o h, meI_o h j]
/-- the leaves' order: where the new one goes -/
def shf (pr : Nat → Int32) (x : Int32) : Nat → (Nat → Int32) → (Nat → Int32) × Nat
  | 0, lv => (lv, 0)
  | p + 1, lv => if pr (lv p).toNatClampNeg < x then shf pr x p (upd lv (p + 1) (lv p)) else (lv, p + 1)
def ordS (pr ch : Nat → Int32) (v : Nat) (q : (Nat → Int32) × Nat) : (Nat → Int32) × Nat :=
  if ch v = 0 then (upd (shf pr (pr v) q.2 q.1).1 (shf pr (pr v) q.2 q.1).2 (nI v), q.2 + 1) else q
def lvOK (lv : Nat → Int32) (p0 p : Nat) : Prop := p ≤ p0 ∧ ∀ i, i ≤ p0 → i ≠ p → ∃ a, a < 64 ∧ lv i = nI a
theorem shf_ok {pr : Nat → Int32} {x : Int32} {p0 : Nat} : ∀ (p : Nat) (lv : Nat → Int32), lvOK lv p0 p → lvOK (shf pr x p lv).1 p0 (shf pr x p lv).2
  | 0, lv, h => h
  | p + 1, lv, h => by
    unfold shf
    by_cases c : pr (lv p).toNatClampNeg < x
    · rw [if_pos c]
      refine shf_ok p _ ⟨by have := h.1; omega, fun i hi hne => ?_⟩
      by_cases e : i = p + 1
      · subst e; rw [up_s]; exact h.2 p (by omega) (by omega)
      · rw [up_n _ _ e]; exact h.2 i hi e
    · rw [if_neg c]; exact h
theorem ordI_ok {pr ch : Nat → Int32} {old : Nat → Int32} : ∀ (v : Nat), v ≤ 64 → (itr (ordS pr ch) v (old, 0)).2 ≤ v ∧ ∀ i, i < (itr (ordS pr ch) v (old, 0)).2 → ∃ a, a < 64 ∧ (itr (ordS pr ch) v (old, 0)).1 i = nI a
  | 0, _ => ⟨Nat.le_refl _, fun i hi => absurd hi (Nat.not_lt_zero _)⟩
  | v + 1, hv => by
    obtain ⟨h1, h2⟩ := ordI_ok (pr := pr) (ch := ch) (old := old) v (by omega)
    rw [itr_s]
    generalize itr (ordS pr ch) v (old, 0) = q at h1 h2 ⊢
    unfold ordS
    by_cases c : ch v = 0
    · rw [if_pos c]
      have hk := shf_ok (pr := pr) (x := pr v) (p0 := q.2) q.2 q.1 ⟨Nat.le_refl _, fun i hi hne => h2 i (by omega)⟩
      refine ⟨by show q.2 + 1 ≤ v + 1; omega, fun i hi => ?_⟩
      have hi' : i < q.2 + 1 := hi
      by_cases e : i = (shf pr (pr v) q.2 q.1).2
      · exact ⟨v, by omega, by rw [e]; exact up_s _ _ _⟩
      · obtain ⟨a, ha, hb⟩ := hk.2 i (by omega) e
        exact ⟨a, ha, (up_n _ _ e).trans hb⟩
    · rw [if_neg c]
      exact ⟨by omega, h2⟩
def ordV (pr ch old : Nat → Int32) (m : Nat) : Nat → Int32 := (itr (ordS pr ch) m (old, 0)).1
theorem i_orderLeaves {Q : Option Value → xA → xB → xD → Prop} {j pl : Nat} {A : xA} {B : xB} {D : xD} {R2 : (Nat → Int32) × Nat} (hj : j < 64) (hpl : pl < 64) (K : go0 mX4_orderLeaves Q nx 0 0 80 [(0, .ref 55), (1, .ref 35), (2, .ref 68), (3, .int (nI pl)), (4, .int (nI j)), (5, .int (nI R2.2))] [] (setA A 69 R2.1) B D) :
    ∀ p, ∀ lv, lvOK lv pl p → shf (A 68) (A 68 j) p lv = R2 → go0 mX4_orderLeaves Q nx 0 0 35 [(0, .ref 55), (1, .ref 35), (2, .ref 68), (3, .int (nI pl)), (4, .int (nI j)), (5, .int (nI p))] [] (setA A 69 lv) B D :=
  dn_ind (fun p ih lv hlv hx => by
    have hp := hlv.1
    refine xi_iload dX4_orderLeaves_35 rfl ?_
    refine xi_if_le (tgt := 80) dX4_orderLeaves_37 rfl (fun h37 => ?_) (fun h37 => ?_)
    · have e : p = 0 := nI_le0 (by omega) h37
      subst e
      rw [← hx] at K
      exact K
    · obtain ⟨u, rfl⟩ := nI_gt0 h37
      obtain ⟨a, ha, hla⟩ := hlv.2 u (by omega) (by omega)
      unfold shf at hx
      refine xi_aload_n dX4_orderLeaves_40 rfl rfl ?_
      refine xi_aload_n dX4_orderLeaves_41 rfl rfl ?_
      refine xi_getfield3 dX4_orderLeaves_42 fX4_16 g55 r55_1 ?_
      refine xi_iload dX4_orderLeaves_45 rfl ?_
      refine xi_iconst (v := 1) dX4_orderLeaves_47 (by decide) ?_
      refine xi_isub dX4_orderLeaves_48 ?_
      refine ia dX4_orderLeaves_49 g69 s69 (nI_pred u) (by omega) (Nat.le_of_ble_eq_true rfl) ?_
      rw [setA_s]
      refine ia dX4_orderLeaves_50 g68 s68 hla ha (Nat.le_of_ble_eq_true rfl) ?_
      refine xi_aload_n dX4_orderLeaves_51 rfl rfl ?_
      refine xi_iload dX4_orderLeaves_52 rfl ?_
      refine ia dX4_orderLeaves_54 g68 s68 rfl (by omega) (Nat.le_of_ble_eq_true rfl) ?_
      refine xi_icmp_ge (tgt := 80) dX4_orderLeaves_55 rfl (fun h55 => ?_) (fun h55 => ?_)
      · rw [if_neg (fun q => absurd (show A 68 j ≤ A 68 a from h55) (by rw [hla, nI_clamp (by omega)] at q; exact Int32.not_le.mpr q))] at hx
        rw [← hx] at K
        exact K
      · refine xi_aload_n dX4_orderLeaves_58 rfl rfl ?_
        refine xi_getfield3 dX4_orderLeaves_59 fX4_16 g55 r55_1 ?_
        refine xi_iload dX4_orderLeaves_62 rfl ?_
        refine xi_aload_n dX4_orderLeaves_64 rfl rfl ?_
        refine xi_getfield3 dX4_orderLeaves_65 fX4_16 g55 r55_1 ?_
        refine xi_iload dX4_orderLeaves_68 rfl ?_
        refine xi_iconst (v := 1) dX4_orderLeaves_70 (by decide) ?_
        refine xi_isub dX4_orderLeaves_71 ?_
        refine ia dX4_orderLeaves_72 g69 s69 (nI_pred u) (by omega) (Nat.le_of_ble_eq_true rfl) ?_
        rw [setA_s]
        refine is dX4_orderLeaves_73 g69 s69 rfl (by omega) (Nat.le_of_ble_eq_true rfl) ?_
        refine xi_iinc (v := (-1)) dX4_orderLeaves_74 rfl (by decide) (Nat.le_of_ble_eq_true rfl) ?_
        refine xi_goto (tgt := 35) dX4_orderLeaves_77 rfl ?_
        refine xgo_pick [0, 1, 2, 3, 4, 5] rfl ?_
        rw [pk_m1, setA_u]
        rw [if_pos (by rw [hla, nI_clamp (by omega)]; exact Int32.not_le.mp h55)] at hx
        refine ih u rfl _ ⟨by omega, fun i hi hne => ?_⟩ hx
        by_cases e : i = u + 1
        · subst e; rw [up_s]; exact ⟨a, ha, hla⟩
        · rw [up_n _ _ e]; exact hlv.2 i hi e
    )
theorem c_orderLeaves {m : Nat} {A : xA} {B : xB} {D : xD} (hm : A 35 2 = nI m) (hm64 : m ≤ 64) : does0 mX4_orderLeaves [.ref 55, .ref 35] A B D (eqQ none (setA A 69 (ordV (A 68) (A 41) (A 69) m)) B D) nx := by
  refine does_go (by decide) rfl (Nat.le_of_ble_eq_true rfl) rfl ?_
  generalize hR : ordV (A 68) (A 41) (A 69) m = R
  have loop := up_ind (n := m) (P := fun j => ∀ q, q = itr (ordS (A 68) (A 41)) j (A 69, 0) → go0 mX4_orderLeaves (eqQ none (setA A 69 R) B D) nx 0 0 13 [(0, .ref 55), (1, .ref 35), (2, .ref 68), (3, .int (nI q.2)), (4, .int (nI j))] [] (setA A 69 q.1) B D) (fun j hj ih q hq => by
    have hok := ordI_ok (pr := A 68) (ch := A 41) (old := A 69) j (by omega)
    rw [← hq] at hok
    refine xi_iload dX4_orderLeaves_13 rfl ?_
    refine xi_aload_n dX4_orderLeaves_15 rfl rfl ?_
    refine xi_getfield0 dX4_orderLeaves_16 fX4_33 g35 ?_
    rw [show setA A 69 q.1 35 2 = nI m from hm]
    refine xi_icmp_ge (tgt := 98) dX4_orderLeaves_19 rfl (fun h19 => ?_) (fun h19 => ?_)
    · have e : j = m := ge_eq hj (by omega) h19
      subst e
      refine go_ret (r := none) dX4_orderLeaves_98 (Nat.le_of_ble_eq_true rfl) (Nat.le_of_ble_eq_true rfl) ?_
      exact ⟨rfl, by rw [← hR, hq]; rfl, rfl, rfl⟩
    · have hl : j < m := nge_lt hj (by omega) h19
      refine xi_aload_n dX4_orderLeaves_22 rfl rfl ?_
      refine xi_getfield3 dX4_orderLeaves_23 fX4_53 g35 r35_9 ?_
      refine xi_iload dX4_orderLeaves_26 rfl ?_
      refine ia dX4_orderLeaves_28 g41 s41 rfl (by omega) (Nat.le_of_ble_eq_true rfl) ?_
      refine xi_ifne (tgt := 92) dX4_orderLeaves_29 rfl (fun h29 => ?_) (fun h29 => ?_)
      · refine xi_iinc (v := 1) dX4_orderLeaves_92 rfl (by decide) (Nat.le_of_ble_eq_true rfl) ?_
        refine xi_goto (tgt := 13) dX4_orderLeaves_95 rfl ?_
        refine xgo_pick [0, 1, 2, 3, 4] rfl ?_
        rw [nI_1]
        exact ih hl q (by rw [itr_s, ← hq]; exact (if_neg (show ¬ A 41 j = 0 from h29)).symm)
      · have fin := ih hl (upd (shf (A 68) (A 68 j) q.2 q.1).1 (shf (A 68) (A 68 j) q.2 q.1).2 (nI j), q.2 + 1) (by rw [itr_s, ← hq]; exact (if_pos (show A 41 j = 0 from h29)).symm)
        have hs2 := (shf_ok (pr := A 68) (x := A 68 j) (p0 := q.2) q.2 q.1 ⟨Nat.le_refl _, fun i hi hne => hok.2 i (by omega)⟩).1
        generalize hR2 : shf (A 68) (A 68 j) q.2 q.1 = R2 at fin hs2
        refine xi_iload_n dX4_orderLeaves_32 rfl rfl ?_
        refine xi_istore dX4_orderLeaves_33 (Nat.le_of_ble_eq_true rfl) ?_
        refine xgo_pick [0, 1, 2, 3, 4, 5] rfl ?_
        refine i_orderLeaves (by omega) (by omega) ?_ q.2 q.1 ⟨Nat.le_refl _, fun i hi hne => hok.2 i (by omega)⟩ hR2
        refine xi_aload_n dX4_orderLeaves_80 rfl rfl ?_
        refine xi_getfield3 dX4_orderLeaves_81 fX4_16 g55 r55_1 ?_
        refine xi_iload dX4_orderLeaves_84 rfl ?_
        refine xi_iload dX4_orderLeaves_86 rfl ?_
        refine is dX4_orderLeaves_88 g69 s69 rfl (by omega) (Nat.le_of_ble_eq_true rfl) ?_
        refine xi_iinc (v := 1) dX4_orderLeaves_89 rfl (by decide) (Nat.le_of_ble_eq_true rfl) ?_
        refine xi_iinc (v := 1) dX4_orderLeaves_92 rfl (by decide) (Nat.le_of_ble_eq_true rfl) ?_
        refine xi_goto (tgt := 13) dX4_orderLeaves_95 rfl ?_
        refine xgo_pick [0, 1, 2, 3, 4] rfl ?_
        rw [nI_1, nI_1, setA_u]
        exact fin
    )
  refine xi_aload_n dX4_orderLeaves_0 rfl rfl ?_
  refine xi_getfield3 dX4_orderLeaves_1 fX4_11 g55 r55_0 ?_
  refine xi_bipush (v := 11) dX4_orderLeaves_4 (by decide) ?_
  refine xi_aaload5 (r := 68) dX4_orderLeaves_6 g56 s56 (show ¬ _ by decide) rfl ?_
  refine xi_astore_n dX4_orderLeaves_7 rfl (Nat.le_of_ble_eq_true rfl) ?_
  refine xi_iconst (v := 0) dX4_orderLeaves_8 (by decide) ?_
  refine xi_istore_n dX4_orderLeaves_9 rfl (Nat.le_of_ble_eq_true rfl) ?_
  refine xi_iconst (v := 0) dX4_orderLeaves_10 (by decide) ?_
  refine xi_istore dX4_orderLeaves_11 (Nat.le_of_ble_eq_true rfl) ?_
  refine xgo_pick [0, 1, 2, 3, 4] rfl ?_
  have l0 := loop 0 (Nat.zero_le _) (A 69, 0) rfl
  rw [setA_self] at l0
  exact l0
def suV (A : xA) (pa : Nat → Nat) (m : Nat) : Nat → Int32 := summV (A 41) (A 38) pa m (A 70)
/-- the heap behind findSummits and addRanks -/
def meA0 (A : xA) (pa : Nat → Nat) (m : Nat) : xA := setA (setA A 70 (suV A pa m)) 71 (rsumV (A 39) (A 38) pa m (A 71))
def meA1 (A : xA) (B : xB) (pa : Nat → Nat) (m c r n : Nat) : xA := itr (meS B c r n) m (meA0 A pa m)
def measA (A : xA) (B : xB) (pa : Nat → Nat) (m c r n : Nat) : xA := setA (meA1 A B pa m c r n) 69 (ordV (meA1 A B pa m c r n 68) (A 41) (A 69) m)
theorem suOK_dit {rk : Nat → Int32} {pa : Nat → Nat} {m : Nat} (hp : ∀ v, 0 < v → v < m → pa v < v) : ∀ (v : Nat) (s : Nat → Int32), v < m → suOK pa m v s → suOK pa m 0 (dit (sumS rk pa) v s)
  | 0, _, _, h => h
  | v + 1, s, hv, h => suOK_dit hp v _ (by omega) (suOK_s h hv (hp (v + 1) (by omega) hv))
theorem su_ok {A : xA} {m : Nat} {pa : Nat → Nat} (h : trOK A m pa) {v : Nat} (hv : v < m) : ∃ a, a < m ∧ suV A pa m v = nI a := by
  have h0 := suOK_dit (rk := A 38) (fun v h1 h2 => (h.2.2.2.2.1 v h1 h2).2) (m - 1) _ (by have := h.2.1; omega) (suOK_0 h (A 70))
  rcases h0 v hv with ⟨-, u, h1, h2, -⟩ | h1
  · omega
  · exact h1
theorem c_measure {m c r n : Nat} {pa : Nat → Nat} {A : xA} {B : xB} {D : xD} (h : trOK A m pa) (hc : A 36 0 = nI c) (hr : A 36 1 = nI r) (hn : A 36 2 = nI n) (hc8 : c ≤ 8) (hr8 : r ≤ 8) (hn64 : n ≤ 64) : does0 mX4_measure [.ref 55, .ref 35] A B D (eqQ none (measA A B pa m c r n) B D) nx := by
  refine does_go (by decide) rfl (Nat.le_of_ble_eq_true rfl) rfl ?_
  obtain ⟨hm, hm0, hm64, hp0, hpa, hch⟩ := id h
  have loop := up_ind (n := m) (P := fun j => ∀ A1, A1 = itr (meS B c r n) j (meA0 A pa m) → go0 mX4_measure (eqQ none (measA A B pa m c r n) B D) nx 0 0 12 [(0, .ref 55), (1, .ref 35), (2, .int (nI j))] [] A1 B D) (fun j hj ih A1 hA1 => by
    have ho : ∀ k', k' < 57 ∨ 71 < k' → A1 k' = A k' := fun k' hk' => by
      rw [hA1, meI_o (by omega)]
      unfold meA0
      rw [setA_n _ _ (by omega), setA_n _ _ (by omega)]
    have h70 : A1 70 = suV A pa m := by
      rw [hA1, meI_o (by omega)]
      unfold meA0
      rw [setA_n _ _ (by omega), setA_s]
    have h69 : A1 69 = A 69 := by
      rw [hA1, meI_o (by omega)]
      unfold meA0
      rw [setA_n _ _ (by omega), setA_n _ _ (by omega)]
    refine xi_iload_n dX4_measure_12 rfl rfl ?_
    refine xi_aload_n dX4_measure_13 rfl rfl ?_
    refine xi_getfield0 dX4_measure_14 fX4_33 g35 ?_
    rw [ho 35 (by omega), hm]
    refine xi_icmp_ge (tgt := 53) dX4_measure_17 rfl (fun h17 => ?_) (fun h17 => ?_)
    · have e : j = m := ge_eq hj (by omega) h17
      subst e
      refine xi_aload_n dX4_measure_53 rfl rfl ?_
      refine xi_aload_n dX4_measure_54 rfl rfl ?_
      refine cV1 (av := [_]) dX4_measure_55 lX4_50 rfl ⟨rfl, rfl⟩ rfl ⟨(Nat.le_of_ble_eq_true rfl), (Nat.le_of_ble_eq_true rfl)⟩ ⟨(Nat.le_of_ble_eq_true rfl), (Nat.le_of_ble_eq_true rfl)⟩ (Nat.le_of_ble_eq_true rfl) g55 rfl rfl (c_orderLeaves (by rw [ho 35 (by omega)]; exact hm) hm64) ?_
      refine go_ret (r := none) dX4_measure_58 (Nat.le_of_ble_eq_true rfl) (Nat.le_of_ble_eq_true rfl) ?_
      exact ⟨rfl, by unfold measA; rw [show meA1 A B pa j c r n = A1 from hA1.symm, ho 41 (by omega), h69], rfl, rfl⟩
    · have hl : j < m := nge_lt hj (by omega) h17
      obtain ⟨a, ha, hsa⟩ := su_ok h hl
      have hs : A1 70 j = nI a := by rw [h70]; exact hsa
      refine xi_aload_n dX4_measure_20 rfl rfl ?_
      refine xi_aload_n dX4_measure_21 rfl rfl ?_
      refine xi_iload_n dX4_measure_22 rfl rfl ?_
      refine cV1 (av := [_, _]) dX4_measure_23 lX4_39 rfl ⟨rfl, rfl⟩ rfl ⟨(Nat.le_of_ble_eq_true rfl), (Nat.le_of_ble_eq_true rfl)⟩ ⟨(Nat.le_of_ble_eq_true rfl), (Nat.le_of_ble_eq_true rfl)⟩ (Nat.le_of_ble_eq_true rfl) g55 rfl rfl (c_measureTree (by omega) hs (by omega)) ?_
      refine xi_aload_n dX4_measure_26 rfl rfl ?_
      refine xi_aload_n dX4_measure_27 rfl rfl ?_
      refine xi_iload_n dX4_measure_28 rfl rfl ?_
      refine cV1 (av := [_, _]) dX4_measure_29 lX4_43 rfl ⟨rfl, rfl⟩ rfl ⟨(Nat.le_of_ble_eq_true rfl), (Nat.le_of_ble_eq_true rfl)⟩ ⟨(Nat.le_of_ble_eq_true rfl), (Nat.le_of_ble_eq_true rfl)⟩ (Nat.le_of_ble_eq_true rfl) g55 rfl rfl (c_measureShape (by omega) (by rw [mtA_o (by omega), ho 36 (by omega)]; exact hc) (by rw [mtA_o (by omega), ho 36 (by omega)]; exact hr) (by rw [mtA_o (by omega), ho 36 (by omega)]; exact hn) hc8 hr8 hn64) ?_
      refine xi_aload_n dX4_measure_32 rfl rfl ?_
      refine xi_getfield3 dX4_measure_33 fX4_11 g55 r55_0 ?_
      refine xi_bipush (v := 11) dX4_measure_36 (by decide) ?_
      refine xi_aaload5 (r := 68) dX4_measure_38 g56 s56 (show ¬ _ by decide) rfl ?_
      refine xi_iload_n dX4_measure_39 rfl rfl ?_
      refine xi_aload_n dX4_measure_40 rfl rfl ?_
      refine xi_aload_n dX4_measure_41 rfl rfl ?_
      refine xi_iload_n dX4_measure_42 rfl rfl ?_
      refine cV1 (av := [_, _]) dX4_measure_43 lX4_46 rfl ⟨rfl, rfl⟩ rfl ⟨(Nat.le_of_ble_eq_true rfl), (Nat.le_of_ble_eq_true rfl)⟩ ⟨(Nat.le_of_ble_eq_true rfl), (Nat.le_of_ble_eq_true rfl)⟩ (Nat.le_of_ble_eq_true rfl) g55 rfl rfl (c_prominenceIn (by omega) (by rw [msA_o (by omega), mtA_o (by omega)]; exact hs) (by omega) (by rw [msA_o (by omega), mtA_o (by omega), ho 40 (by omega)]; rcases Nat.eq_zero_or_pos j with e | e; subst e; exact Or.inl hp0; exact Or.inr ⟨pa j, by have := (hpa j e hl).2; omega, (hpa j e hl).1⟩)) ?_
      refine is dX4_measure_46 g68 s68 rfl (by omega) (Nat.le_of_ble_eq_true rfl) ?_
      refine xi_iinc (v := 1) dX4_measure_47 rfl (by decide) (Nat.le_of_ble_eq_true rfl) ?_
      refine xi_goto (tgt := 12) dX4_measure_50 rfl ?_
      refine xgo_pick [0, 1, 2] rfl ?_
      rw [nI_1]
      exact ih hl _ (by rw [itr_s, ← hA1]; rfl)
    )
  refine xi_aload_n dX4_measure_0 rfl rfl ?_
  refine xi_aload_n dX4_measure_1 rfl rfl ?_
  refine cV1 (av := [_]) dX4_measure_2 lX4_26 rfl ⟨rfl, rfl⟩ rfl ⟨(Nat.le_of_ble_eq_true rfl), (Nat.le_of_ble_eq_true rfl)⟩ ⟨(Nat.le_of_ble_eq_true rfl), (Nat.le_of_ble_eq_true rfl)⟩ (Nat.le_of_ble_eq_true rfl) g55 rfl rfl (c_findSummits h) ?_
  refine xi_aload_n dX4_measure_5 rfl rfl ?_
  refine xi_aload_n dX4_measure_6 rfl rfl ?_
  refine cV1 (av := [_]) dX4_measure_7 lX4_30 rfl ⟨rfl, rfl⟩ rfl ⟨(Nat.le_of_ble_eq_true rfl), (Nat.le_of_ble_eq_true rfl)⟩ ⟨(Nat.le_of_ble_eq_true rfl), (Nat.le_of_ble_eq_true rfl)⟩ (Nat.le_of_ble_eq_true rfl) g55 rfl rfl (c_addRanks (m := m) (pa := pa) ⟨hm, hm0, hm64, hp0, hpa, hch⟩) ?_
  refine xi_iconst (v := 0) dX4_measure_10 (by decide) ?_
  refine xi_istore_n dX4_measure_11 rfl (Nat.le_of_ble_eq_true rfl) ?_
  refine xgo_pick [0, 1, 2] rfl ?_
  exact loop 0 (Nat.zero_le _) _ rfl

