/-! the law's head -/
theorem xfk_le (c : Nat) : (xfk c).length ≤ 33 := by
  unfold xfk
  split <;> decide
theorem xfl_r {ad : Nat → Nat} {a : Nat → Int32} {b : Nat → Int64} {r r' : Nat → Option Nat} {c : Nat} (h : ∀ j, j < 33 → r j = r' j) : xfl ad a b r c = xfl ad a b r' c := by
  unfold xfl
  apply List.ext_getElem?
  intro j
  rw [List.getElem?_mapIdx, List.getElem?_mapIdx]
  cases hj : (xfk c)[j]? with
  | none => rfl
  | some t =>
    have := (List.getElem?_eq_some_iff.mp hj).1
    have := xfk_le c
    simp only [Option.map_some]
    unfold xfv
    rw [h j (by omega)]
theorem xent_g {ad : Nat → Nat} {cT : Nat → ClassId} {g g' : xGC} {a : Nat → Int32} {b : Nat → Int64} {d : Nat → UInt64} (h1 : g.1 = g'.1) (h2 : g.2.1 = g'.2.1) (h3 : g.2.2 = g'.2.2 ∨ ((g.1 < 5 ∨ 7 ≤ g.1) ∧ ∀ j, j < 33 → g.2.2 j = g'.2.2 j)) : xent ad cT g a b d = xent ad cT g' a b d := by
  obtain ⟨g1, g2, g3⟩ := g
  obtain ⟨g1', g2', g3'⟩ := g'
  simp only at h1 h2 h3
  subst h1; subst h2
  rcases h3 with h3 | ⟨h4, h3⟩
  · subst h3; rfl
  · unfold xent
    simp only
    split
    · rfl
    · rfl
    · rfl
    · rfl
    · omega
    · omega
    · rw [xfl_r h3]
theorem xG0_lt (k : Nat) (h : (xG0 k).1 ≠ 0) : k < 97 := by
  refine Nat.lt_of_not_le fun q => h ?_
  unfold xG0
  rw [List.getD_eq_getElem?_getD, List.getElem?_eq_none (by exact Nat.le_trans (Nat.le_of_ble_eq_true (by decide +kernel)) q)]
  rfl
section HD
variable {EX EX' : State → (Nat → Prop) → (Nat → Nat) → Prop} {M : xMI} {N0 : Nat} {Q Q' : xQ} {QX QX' : xQX} {cs sl pc : Nat} {lv : xLV} {st : List Value} {N : Nat} {G G' : xG} {A : xA} {B : xB} {D : xD}
theorem ygo_cong (hw : ∀ ad cT k, k < N → xent ad cT (G k) (A k) (B k) (D k) = xent ad cT (G' k) (A k) (B k) (D k)) (hG : ∀ k, (G' k).1 ≠ 0 → k < N) (h : ygo EX M N0 Q QX cs sl pc lv st N G' A B D) : ygo EX M N0 Q QX cs sl pc lv st N G A B D := by
  intro p l e s m args below meth c Dg cT As ad0 ad H locs ls Z hE0 hS hV hr he
  obtain ⟨v1, v2, v3, v4, v5, v6⟩ := hV
  have e1 : xwl ad cT N G A B D = xwl ad cT N G' A B D := List.map_congr_left fun k hk => by rw [hw ad cT k (List.mem_range.mp hk)]
  rw [e1] at v2
  exact h p l e s m args below meth c Dg cT As ad0 ad H locs ls Z hE0 hS ⟨v1, v2, v3, hG, v5, v6⟩ hr he
/-- from here on, the addresses as they are now -/
theorem ygo_base (hQ : ∀ r N G A B D, Q' r N G A B D → Q r N G A B D) (hX : ∀ r N G A B D, QX' r N G A B D → QX r N G A B D) (hE : ∀ s As ad0 ad, (∀ k, N ≤ k → ad k = ad0 k) → EX s As ad0 → EX' s As ad) (h : ygo EX' M N Q' QX' cs sl pc lv st N G A B D) : ygo EX M N0 Q QX cs sl pc lv st N G A B D := by
  intro p l e s m args below meth c Dg cT As ad0 ad H locs ls Z hE0 hS hV hr he
  obtain ⟨v1, v2, v3, v4, v5, v6⟩ := hV
  refine h p l e s m args below meth c Dg cT As ad ad H locs ls Z (hE s As ad0 ad (fun k hk => v5.2 k (Or.inr hk)) hE0) hS ⟨v1, v2, v3, v4, ⟨Nat.le_refl _, fun _ _ => rfl⟩, v6⟩ ?_ ?_
  · intro r N1 G1 A1 B1 D1 ad2 H2 locs2 ls2 pc2 cs2 sl2 hQ1 hV2 hc hs hret
    obtain ⟨u1, u2, u3, u4, u5, u6⟩ := hV2
    refine hr r N1 G1 A1 B1 D1 ad2 H2 locs2 ls2 pc2 cs2 sl2 (hQ _ _ _ _ _ _ hQ1) ⟨u1, u2, u3, u4, ⟨Nat.le_trans v5.1 u5.1, fun k hk => ?_⟩, u6⟩ hc hs hret
    rcases hk with hk | hk
    · rw [u5.2 k (Or.inl (Nat.lt_of_lt_of_le hk v5.1)), v5.2 k (Or.inl hk)]
    · rw [u5.2 k (Or.inr hk), v5.2 k (Or.inr (Nat.le_trans u5.1 hk))]
  · intro E ce q N1 G1 A1 B1 D1 ad2 H2 locs2 ls2 st2 pc2 cs2 sl2 hQ1 hV2 hc hs hcov hcell hv hcl
    obtain ⟨u1, u2, u3, u4, u5, u6⟩ := hV2
    refine he E ce q N1 G1 A1 B1 D1 ad2 H2 locs2 ls2 st2 pc2 cs2 sl2 (hX _ _ _ _ _ _ hQ1) ⟨u1, u2, u3, u4, ⟨Nat.le_trans v5.1 u5.1, fun k hk => ?_⟩, u6⟩ hc hs hcov hcell hv hcl
    rcases hk with hk | hk
    · rw [u5.2 k (Or.inl (Nat.lt_of_lt_of_le hk v5.1)), v5.2 k (Or.inl hk)]
    · rw [u5.2 k (Or.inr hk), v5.2 k (Or.inr (Nat.le_trans u5.1 hk))]
end HD
def wF : List xc := ((postX7_init 0 ++ postX8_init 76) ++ [ac 2 1]) ++ [ac 4 1]
theorem wF_len : wF.length = 97 := rfl
def wFb (k : Nat) : Bool := (gG wF k).1 == (xG0 k).1 && (gG wF k).2.1 == (xG0 k).2.1 && (k == 8 || k == 56 || ((decide ((gG wF k).1 < 5) || decide (7 ≤ (gG wF k).1)) && (List.range 33).all fun j => (gG wF k).2.2 j == (xG0 k).2.2 j))
set_option maxRecDepth 20000 in
theorem wF_all : (List.range 97).all wFb = true := by decide +kernel
theorem wF_8 : (gG wF 8).2.2 = (xG0 8).2.2 := pf2_8 7
theorem wF_56 : (gG wF 56).2.2 = (xG0 56).2.2 := rfl
theorem wF_g (ad : Nat → Nat) (cT : Nat → ClassId) (k : Nat) (hk : k < 97) : xent ad cT (gG wF k) (gA wF k) (gB wF k) (gD wF k) = xent ad cT (xG0 k) (gA wF k) (gB wF k) (gD wF k) := by
  have h := List.all_eq_true.mp wF_all k (List.mem_range.mpr hk)
  unfold wFb at h
  rw [Bool.and_eq_true, Bool.and_eq_true] at h
  obtain ⟨⟨h1, h2⟩, h3⟩ := h
  refine xent_g (eq_of_beq h1) (eq_of_beq h2) ?_
  rw [Bool.or_eq_true, Bool.or_eq_true] at h3
  rcases h3 with (h3 | h3) | h3
  · rw [eq_of_beq h3]; exact Or.inl wF_8
  · rw [eq_of_beq h3]; exact Or.inl wF_56
  · rw [Bool.and_eq_true, Bool.or_eq_true] at h3
    refine Or.inr ⟨h3.1.imp of_decide_eq_true of_decide_eq_true, fun j hj => ?_⟩
    exact eq_of_beq (List.all_eq_true.mp h3.2 j (List.mem_range.mpr hj))
def S0 : abs := abs.of 1 1 1 0 0 0 0 (fun _ => 0) (fun _ => 0) (fun _ => 0) (fun _ => 0) (fun _ => 0) (fun _ _ => 0) (fun _ _ => 0)
theorem S0_ok : S0.ok := abs.ok.mk' (g := by show gOK 1 1 1; unfold gOK; decide) (sz := Nat.zero_le _) (len := Nat.zero_le _) (lv := fun _ _ => ⟨0, by decide, rfl⟩) (mr := fun _ _ => ⟨0, by decide, rfl⟩) (dk := Or.inl rfl) (ei := Or.inl rfl) (h := fun i hi => absurd hi (Nat.not_lt_zero i))
theorem S0_c : cRel S0 (gA wF) (gB wF) := cRel.mk' (c := rfl) (r := rfl) (lv := fun _ _ => rfl) (mr := fun _ _ => rfl) (dk := rfl) (ei := rfl) (st := fun h => absurd h (by decide +kernel)) (hx := ⟨0, by decide, rfl, fun i hi => absurd hi (Nat.not_lt_zero i)⟩) (sz := rfl) (len := rfl) (co := fun i hi => absurd hi (Nat.not_lt_zero i))
theorem S0_m : mRel S0 (gA wF) (gB wF) := mRel.mk' (c := rfl) (r := rfl) (lv := fun _ _ => rfl) (mr := fun _ _ => rfl) (dk := rfl) (ei := rfl) (st := fun h => absurd (by decide +kernel) h) (hx := fun i hi => absurd hi (Nat.not_lt_zero i)) (sz := rfl) (len := rfl) (co := fun i hi => absurd hi (Nat.not_lt_zero i))
def eHD (L : Nat) (xs : Nat → Int32) : State → (Nat → Prop) → (Nat → Nat) → Prop := fun s As ad0 => eLW L xs s As ad0 ∧ xAO s
theorem lkA_z {l : List Int32} (h : ∀ x ∈ l, x = 0) : lkA l = fun _ => 0 := by
  funext j
  unfold lkA
  rw [List.getD_eq_getElem?_getD]
  cases hj : l[j]? with
  | none => rfl
  | some x => exact h x (List.mem_of_getElem? hj)
theorem lkB_z {l : List Int64} (h : ∀ x ∈ l, x = 0) : lkB l = fun _ => 0 := by
  funext j
  unfold lkB
  rw [List.getD_eq_getElem?_getD]
  cases hj : l[j]? with
  | none => rfl
  | some x => exact h x (List.mem_of_getElem? hj)
theorem lkR_z {l : List (Option Nat)} (h : ∀ x ∈ l, x = none) : lkR l = fun _ => none := by
  funext j
  unfold lkR
  rw [List.getD_eq_getElem?_getD]
  cases hj : l[j]? with
  | none => rfl
  | some x => exact h x (List.mem_of_getElem? hj)
theorem oc8_z (ad : Nat → Nat) (cT : Nat → ClassId) : xwc ad cT (oc 8 [none, none, none, none, none, none, none, none, none, none, none, none, none, none, none, none, none, none, none, none, none, none, none, none, none, none, none, none, none, none, none, none, none] [0, 0, 0, 0, 0, 0, 0, 0, 0, 0, 0, 0, 0, 0, 0, 0, 0, 0, 0, 0, 0, 0, 0, 0, 0, 0, 0, 0, 0, 0, 0, 0, 0] [0, 0, 0, 0, 0, 0, 0, 0, 0, 0, 0, 0, 0, 0, 0, 0, 0, 0, 0, 0, 0, 0, 0, 0, 0, 0, 0, 0, 0, 0, 0, 0, 0]) = .inr (8, xfl ad (fun _ => 0) (fun _ => 0) (fun _ => none) 8) := by
  rw [xwc_oc, lkA_z (by decide +kernel), lkB_z (by decide +kernel), lkR_z (by decide +kernel)]
theorem hw7 : Cond.classLink RL 8 RX7 ∈ xT ∧ Cond.instantiable RX7 12 ∈ xT ∧ Cond.initialized RX7 ∈ xT := ⟨xT_mem (List.mem_of_getElem? (i := 95) (by decide +kernel)) rfl, xT_mem (List.mem_of_getElem? (i := 96) (by decide +kernel)) rfl, xT_mem (List.mem_of_getElem? (i := 75) (by decide +kernel)) rfl⟩
theorem hw8 : Cond.classLink RL 107 RX8 ∈ xT ∧ Cond.instantiable RX8 33 ∈ xT ∧ Cond.initialized RX8 ∈ xT := ⟨xT_mem (List.mem_of_getElem? (i := 1009) (by decide +kernel)) rfl, xT_mem (List.mem_of_getElem? (i := 1010) (by decide +kernel)) rfl, xT_mem (List.mem_of_getElem? (i := 83) (by decide +kernel)) rfl⟩
theorem hk7 : Cond.methodLink RL 106 (mY mX7_init) ∈ xT ∧ Cond.instanceMethod (mY mX7_init) ∈ xT ∧ Cond.initialized (mY mX7_init).cls ∈ xT ∧ Cond.code (mY mX7_init) (mC mX7_init) (mL mX7_init) none ∈ xT ∧ xdsc (mY mX7_init) 0 ∧ (mY mX7_init).name = "<init>" := ⟨xT_mem (List.mem_of_getElem? (i := 97) (by decide +kernel)) rfl, xT_mem (List.mem_of_getElem? (i := 98) (by decide +kernel)) rfl, xT_mem (List.mem_of_getElem? (i := 75) (by decide +kernel)) rfl, xT_mem (List.mem_of_getElem? (i := 99) (by decide +kernel)) rfl, ⟨by decide +kernel, by decide +kernel, by decide +kernel⟩, rfl⟩
theorem hk8 : Cond.methodLink RL 109 (mY mX8_init) ∈ xT ∧ Cond.instanceMethod (mY mX8_init) ∈ xT ∧ Cond.initialized (mY mX8_init).cls ∈ xT ∧ Cond.code (mY mX8_init) (mC mX8_init) (mL mX8_init) none ∈ xT ∧ xdsc (mY mX8_init) 0 ∧ (mY mX8_init).name = "<init>" := ⟨xT_mem (List.mem_of_getElem? (i := 1011) (by decide +kernel)) rfl, xT_mem (List.mem_of_getElem? (i := 1012) (by decide +kernel)) rfl, xT_mem (List.mem_of_getElem? (i := 83) (by decide +kernel)) rfl, xT_mem (List.mem_of_getElem? (i := 1013) (by decide +kernel)) rfl, ⟨by decide +kernel, by decide +kernel, by decide +kernel⟩, rfl⟩
theorem law_head {nm : String} {hh : List (Nat × Nat × Nat × Nat)} {L : Nat} {xs : Nat → Int32} (hL : L ≤ 2560) : yw (eHD L xs) (mLaw nm hh) 0 (fun r _ _ _ _ _ => r = some (.int 1)) xN 0 0 0 [(0, .ref 1000)] [] [] := by
  refine yw_new' (w := []) (m := 0) (ci := 7) (n := 12) (c := (oc 7 [none, none, none, none, none, none, none, none, none, none, none, none] [0, 0, 0, 0, 0, 0, 0, 0, 0, 0, 0, 0] [0, 0, 0, 0, 0, 0, 0, 0, 0, 0, 0, 0])) rfl dL_law_0 rfl hw7 tyX7_ok (wcl_n 0) (fun _ _ => xwc_oc) dfX7 ⟨Nat.le_of_ble_eq_true rfl, Nat.le_of_ble_eq_true rfl⟩ (by decide) (by decide) ?_
  refine yi_dup dL_law_3 rfl ?_
  refine yw_ctor' (w' := [] ++ postX7_init 0) (m1 := 1) (m2 := 76) (M2 := mX7_init) rfl rfl dL_law_4 hk7 ⟨rfl, rfl⟩ ⟨Nat.le_of_ble_eq_true rfl, Nat.le_of_ble_eq_true rfl, Nat.le_of_ble_eq_true rfl, Nat.le_of_ble_eq_true rfl⟩ (fun _ _ _ h => h.2) (by decide) (by decide) (by decide) (by decide) (k_X7_init (w0 := []) (n := 0) rfl (wcl_n 0)) ?_
  refine yi_astore_n dL_law_7 rfl (Nat.le_of_ble_eq_true rfl) ?_
  refine yw_new' (m := 76) (ci := 8) (n := 33) (c := (oc 8 [none, none, none, none, none, none, none, none, none, none, none, none, none, none, none, none, none, none, none, none, none, none, none, none, none, none, none, none, none, none, none, none, none] [0, 0, 0, 0, 0, 0, 0, 0, 0, 0, 0, 0, 0, 0, 0, 0, 0, 0, 0, 0, 0, 0, 0, 0, 0, 0, 0, 0, 0, 0, 0, 0, 0] [0, 0, 0, 0, 0, 0, 0, 0, 0, 0, 0, 0, 0, 0, 0, 0, 0, 0, 0, 0, 0, 0, 0, 0, 0, 0, 0, 0, 0, 0, 0, 0, 0])) rfl dL_law_8 rfl hw8 tyX8_ok (cl_X7_init 0 76 (by decide)) oc8_z dfX8 ⟨Nat.le_of_ble_eq_true rfl, Nat.le_of_ble_eq_true rfl⟩ (by decide) (by decide) ?_
  refine yi_dup dL_law_11 rfl ?_
  refine yw_ctor' (w' := ([] ++ postX7_init 0) ++ postX8_init 76) (m1 := 77) (m2 := 95) (M2 := mX8_init) rfl rfl dL_law_12 hk8 ⟨rfl, rfl⟩ ⟨Nat.le_of_ble_eq_true rfl, Nat.le_of_ble_eq_true rfl, Nat.le_of_ble_eq_true rfl, Nat.le_of_ble_eq_true rfl⟩ (fun _ _ _ h => h.2) (by decide) (by decide) (by decide) (by decide) (k_X8_init (n := 76) rfl (cl_X7_init 0 76 (by decide))) ?_
  refine yi_astore_n dL_law_15 rfl (Nat.le_of_ble_eq_true rfl) ?_
  refine yi_iconst dL_law_16 (v := 1) rfl ?_
  refine yw_newJ (n := 1) (m := 95) rfl dL_law_17 (wcl_ap (wcl_mo (cl_X7_init 0 76 (by decide)) (by decide)) (cl_X8_init 76 95 (by decide))) (by decide) (by decide) (by decide) ⟨Nat.le_of_ble_eq_true rfl, Nat.le_of_ble_eq_true rfl⟩ (by decide) (by decide) ?_
  refine yi_astore_n dL_law_19 rfl (Nat.le_of_ble_eq_true rfl) ?_
  refine yi_iconst dL_law_20 (v := 1) rfl ?_
  refine yw_newD (n := 1) (m := 96) rfl dL_law_21 (wcl_ap (wcl_ap (wcl_mo (cl_X7_init 0 76 (by decide)) (by decide)) (cl_X8_init 76 96 (by decide))) (wcl_c ok_ac (wcl_n _))) (by decide) (by decide) (by decide) ⟨Nat.le_of_ble_eq_true rfl, Nat.le_of_ble_eq_true rfl⟩ (by decide) (by decide) ?_
  refine yi_astore dL_law_23 (Nat.le_of_ble_eq_true rfl) ?_
  refine yi_iconst dL_law_25 (v := 0) rfl ?_
  refine yi_istore dL_law_26 (Nat.le_of_ble_eq_true rfl) ?_
  refine ygo_pick [0, 1, 2, 3, 4, 5] rfl ?_
  refine ygo_base (N := 97) (EX' := eLW L xs) (Q' := q0 (fun r _ _ _ => r = some (.int 1))) (QX' := x0 nx) (fun r N G A B D h => h.2.2) (fun r N G A B D h => h.2.2.elim) (fun s As ad0 ad hk h => ?_) ?_
  · obtain ⟨h1, h2, h3, h4⟩ := h.1
    have e := hk 1000 (by decide)
    refine ⟨h1, ?_, ?_, ?_⟩
    · rw [e]; exact h2
    · rw [e]; exact h3
    · rw [e]; exact h4
  · refine ygo_cong (G' := xG0) (N := 97) wF_g xG0_lt ?_
    exact law_loop hL 600 0 _ _ S0 (gA wF) (gB wF) (gD wF) (by omega) (by decide) (Nat.le_of_ble_eq_true rfl) (Nat.le_of_ble_eq_true rfl) S0_ok S0_c S0_m

