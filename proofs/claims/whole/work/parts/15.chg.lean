/-! Change: its object 72, remains 73, ranks 74; over the nodes 35 -/
theorem vge {i M : Nat} (hi : i ≤ M) (hM : M < 1000) (h : nI (M + 1) ≤ nI (i + 1)) : i = M := by
  have := ge_eq (j := i + 1) (n := M + 1) (by omega) (by omega) h
  omega
theorem vnge {i M : Nat} (hi : i ≤ M) (hM : M < 1000) (h : ¬ nI (M + 1) ≤ nI (i + 1)) : i < M := by
  have := nge_lt (j := i + 1) (n := M + 1) (by omega) (by omega) h
  omega
def drS (pa : Nat → Nat) (i : Nat) (s : Nat → Int32) : Nat → Int32 := upd s (i + 1) (if s (i + 1) = 0 then 0 else if s (pa (i + 1)) = 0 then 0 else 1)
def drV (pa : Nat → Nat) (m : Nat) (s : Nat → Int32) : Nat → Int32 := itr (drS pa) (m - 1) s
theorem c_dropBelowDropped {m : Nat} {pa : Nat → Nat} {A : xA} {B : xB} {D : xD} (h : trOK A m pa) : does0 mX0_dropBelowDropped [.ref 72, .ref 35] A B D (eqQ none (setA A 73 (drV pa m (A 73))) B D) nx := by
  refine does_go (by decide) rfl (Nat.le_of_ble_eq_true rfl) rfl ?_
  obtain ⟨hm, hm0, hm64, hp0, hpa, hch⟩ := id h
  obtain ⟨M, rfl⟩ : ∃ M, m = M + 1 := ⟨m - 1, by omega⟩
  have loop := up_ind (n := M) (P := fun i => ∀ s, s = itr (drS pa) i (A 73) → go0 mX0_dropBelowDropped (eqQ none (setA A 73 (drV pa (M + 1) (A 73))) B D) nx 0 0 2 [(0, .ref 72), (1, .ref 35), (2, .int (nI (i + 1)))] [] (setA A 73 s) B D) (fun i hi ih s hs => by
    refine xi_iload_n dX0_dropBelowDropped_2 rfl rfl ?_
    refine xi_aload_n dX0_dropBelowDropped_3 rfl rfl ?_
    refine xi_getfield0 dX0_dropBelowDropped_4 fX0_19 g35 ?_
    rw [show setA A 73 s 35 2 = nI (M + 1) from hm]
    refine xi_icmp_ge (tgt := 50) dX0_dropBelowDropped_7 rfl (fun h7 => ?_) (fun h7 => ?_)
    · have e : i = M := vge hi (by omega) h7
      subst e
      refine go_ret (r := none) dX0_dropBelowDropped_50 (Nat.le_of_ble_eq_true rfl) (Nat.le_of_ble_eq_true rfl) ?_
      exact ⟨rfl, by rw [hs]; rfl, rfl, rfl⟩
    · have hl : i < M := vnge hi (by omega) h7
      obtain ⟨hq, hq2⟩ := hpa (i + 1) (by omega) (by omega)
      have q := ih hl
      rw [itr_s, ← hs] at q
      unfold drS at q
      refine xi_aload_n dX0_dropBelowDropped_10 rfl rfl ?_
      refine xi_getfield3 dX0_dropBelowDropped_11 fX0_9 g72 r72_0 ?_
      refine xi_iload_n dX0_dropBelowDropped_14 rfl rfl ?_
      refine xi_aload_n dX0_dropBelowDropped_15 rfl rfl ?_
      refine xi_getfield3 dX0_dropBelowDropped_16 fX0_9 g72 r72_0 ?_
      refine xi_iload_n dX0_dropBelowDropped_19 rfl rfl ?_
      refine za dX0_dropBelowDropped_20 g73 s73 rfl (by omega) (Nat.le_of_ble_eq_true rfl) ?_
      rw [setA_s]
      refine xi_if_eq (tgt := 42) dX0_dropBelowDropped_21 rfl (fun h21 => ?_) (fun h21 => ?_)
      · refine xi_iconst (v := 0) dX0_dropBelowDropped_42 (by decide) ?_
        refine zs dX0_dropBelowDropped_43 g73 s73 rfl (by omega) (Nat.le_of_ble_eq_true rfl) (by first | exact Or.inl rfl | exact Or.inr rfl) ?_
        refine xi_iinc (v := 1) dX0_dropBelowDropped_44 rfl (by decide) (Nat.le_of_ble_eq_true rfl) ?_
        refine xi_goto (tgt := 2) dX0_dropBelowDropped_47 rfl ?_
        refine xgo_pick [0, 1, 2] rfl ?_
        rw [nI_1, setA_u]
        exact q _ (by rw [if_pos h21])
      · refine xi_aload_n dX0_dropBelowDropped_24 rfl rfl ?_
        refine xi_getfield3 dX0_dropBelowDropped_25 fX0_9 g72 r72_0 ?_
        refine xi_aload_n dX0_dropBelowDropped_28 rfl rfl ?_
        refine xi_getfield3 dX0_dropBelowDropped_29 fX0_38 g35 r35_8 ?_
        refine xi_iload_n dX0_dropBelowDropped_32 rfl rfl ?_
        refine ia dX0_dropBelowDropped_33 g40 s40 rfl (by omega) (Nat.le_of_ble_eq_true rfl) ?_
        refine za dX0_dropBelowDropped_34 g73 s73 hq (by omega) (Nat.le_of_ble_eq_true rfl) ?_
        rw [setA_s]
        refine xi_if_eq (tgt := 42) dX0_dropBelowDropped_35 rfl (fun h35 => ?_) (fun h35 => ?_)
        · refine xi_iconst (v := 0) dX0_dropBelowDropped_42 (by decide) ?_
          refine zs dX0_dropBelowDropped_43 g73 s73 rfl (by omega) (Nat.le_of_ble_eq_true rfl) (by first | exact Or.inl rfl | exact Or.inr rfl) ?_
          refine xi_iinc (v := 1) dX0_dropBelowDropped_44 rfl (by decide) (Nat.le_of_ble_eq_true rfl) ?_
          refine xi_goto (tgt := 2) dX0_dropBelowDropped_47 rfl ?_
          refine xgo_pick [0, 1, 2] rfl ?_
          rw [nI_1, setA_u]
          exact q _ (by rw [if_neg h21, if_pos h35])
        · refine xi_iconst (v := 1) dX0_dropBelowDropped_38 (by decide) ?_
          refine xi_goto (tgt := 43) dX0_dropBelowDropped_39 rfl ?_
          refine zs dX0_dropBelowDropped_43 g73 s73 rfl (by omega) (Nat.le_of_ble_eq_true rfl) (by first | exact Or.inl rfl | exact Or.inr rfl) ?_
          refine xi_iinc (v := 1) dX0_dropBelowDropped_44 rfl (by decide) (Nat.le_of_ble_eq_true rfl) ?_
          refine xi_goto (tgt := 2) dX0_dropBelowDropped_47 rfl ?_
          refine xgo_pick [0, 1, 2] rfl ?_
          rw [nI_1, setA_u]
          exact q _ (by rw [if_neg h21, if_neg h35])
    )
  refine xi_iconst (v := 1) dX0_dropBelowDropped_0 (by decide) ?_
  refine xi_istore_n dX0_dropBelowDropped_1 rfl (Nat.le_of_ble_eq_true rfl) ?_
  refine xgo_pick [0, 1, 2] rfl ?_
  have l0 := loop 0 (Nat.zero_le _) _ rfl
  rw [show itr (drS pa) 0 (A 73) = A 73 from rfl, setA_self] at l0
  exact l0
def kaS (pa : Nat → Nat) (v : Nat) (s : Nat → Int32) : Nat → Int32 := if s v = 0 then s else upd s (pa v) 1
def kaV (pa : Nat → Nat) (m : Nat) (s : Nat → Int32) : Nat → Int32 := dit (kaS pa) (m - 1) s
theorem c_keepAboveKept {m : Nat} {pa : Nat → Nat} {A : xA} {B : xB} {D : xD} (h : trOK A m pa) : does0 mX0_keepAboveKept [.ref 72, .ref 35] A B D (eqQ none (setA A 73 (kaV pa m (A 73))) B D) nx := by
  refine does_go (by decide) rfl (Nat.le_of_ble_eq_true rfl) rfl ?_
  obtain ⟨hm, hm0, hm64, hp0, hpa, hch⟩ := id h
  obtain ⟨M, rfl⟩ : ∃ M, m = M + 1 := ⟨m - 1, by omega⟩
  generalize hR : kaV pa (M + 1) (A 73) = R
  have loop := dn_ind (P := fun j => j < M + 1 → ∀ s, dit (kaS pa) j s = R → go0 mX0_keepAboveKept (eqQ none (setA A 73 R) B D) nx 0 0 7 [(0, .ref 72), (1, .ref 35), (2, .int (nI j))] [] (setA A 73 s) B D) (fun j ih hj s hx => by
    refine xi_iload_n dX0_keepAboveKept_7 rfl rfl ?_
    refine xi_if_le (tgt := 38) dX0_keepAboveKept_8 rfl (fun h8 => ?_) (fun h8 => ?_)
    · have e : j = 0 := nI_le0 (by omega) h8
      subst e
      refine go_ret (r := none) dX0_keepAboveKept_38 (Nat.le_of_ble_eq_true rfl) (Nat.le_of_ble_eq_true rfl) ?_
      exact ⟨rfl, by rw [← hx]; rfl, rfl, rfl⟩
    · obtain ⟨u, rfl⟩ := nI_gt0 h8
      obtain ⟨hq, hq2⟩ := hpa (u + 1) (by omega) hj
      rw [show dit (kaS pa) (u + 1) s = dit (kaS pa) u (kaS pa (u + 1) s) from rfl] at hx
      unfold kaS at hx
      refine xi_aload_n dX0_keepAboveKept_11 rfl rfl ?_
      refine xi_getfield3 dX0_keepAboveKept_12 fX0_9 g72 r72_0 ?_
      refine xi_iload_n dX0_keepAboveKept_15 rfl rfl ?_
      refine za dX0_keepAboveKept_16 g73 s73 rfl (by omega) (Nat.le_of_ble_eq_true rfl) ?_
      rw [setA_s]
      refine xi_if_eq (tgt := 32) dX0_keepAboveKept_17 rfl (fun h17 => ?_) (fun h17 => ?_)
      · refine xi_iinc (v := (-1)) dX0_keepAboveKept_32 rfl (by decide) (Nat.le_of_ble_eq_true rfl) ?_
        refine xi_goto (tgt := 7) dX0_keepAboveKept_35 rfl ?_
        refine xgo_pick [0, 1, 2] rfl ?_
        rw [pk_m1]
        rw [if_pos h17] at hx
        exact ih u rfl (by omega) _ hx
      · refine xi_aload_n dX0_keepAboveKept_20 rfl rfl ?_
        refine xi_getfield3 dX0_keepAboveKept_21 fX0_9 g72 r72_0 ?_
        refine xi_aload_n dX0_keepAboveKept_24 rfl rfl ?_
        refine xi_getfield3 dX0_keepAboveKept_25 fX0_38 g35 r35_8 ?_
        refine xi_iload_n dX0_keepAboveKept_28 rfl rfl ?_
        refine ia dX0_keepAboveKept_29 g40 s40 rfl (by omega) (Nat.le_of_ble_eq_true rfl) ?_
        refine xi_iconst (v := 1) dX0_keepAboveKept_30 (by decide) ?_
        refine zs dX0_keepAboveKept_31 g73 s73 hq (by omega) (Nat.le_of_ble_eq_true rfl) (by first | exact Or.inl rfl | exact Or.inr rfl) ?_
        refine xi_iinc (v := (-1)) dX0_keepAboveKept_32 rfl (by decide) (Nat.le_of_ble_eq_true rfl) ?_
        refine xi_goto (tgt := 7) dX0_keepAboveKept_35 rfl ?_
        refine xgo_pick [0, 1, 2] rfl ?_
        rw [pk_m1, setA_u]
        rw [if_neg h17] at hx
        exact ih u rfl (by omega) _ hx
    )
  have l0 := loop M (by omega) (A 73) hR
  rw [setA_self] at l0
  refine xi_aload_n dX0_keepAboveKept_0 rfl rfl ?_
  refine xi_getfield0 dX0_keepAboveKept_1 fX0_19 g35 ?_
  rw [hm]
  refine xi_iconst (v := 1) dX0_keepAboveKept_4 (by decide) ?_
  refine xi_isub dX0_keepAboveKept_5 ?_
  refine xi_istore_n dX0_keepAboveKept_6 rfl (Nat.le_of_ble_eq_true rfl) ?_
  refine xgo_pick [0, 1, 2] rfl ?_
  rw [nI_pred]
  exact l0
def siS (rk rem : Nat → Int32) (pa : Nat → Nat) (i : Nat) (s : Nat → Int32) : Nat → Int32 := upd s (i + 1) (if rem (i + 1) = 0 then s (pa (i + 1)) else rk (i + 1))
def siV (rk rem : Nat → Int32) (pa : Nat → Nat) (m : Nat) (s : Nat → Int32) : Nat → Int32 := itr (siS rk rem pa) (m - 1) (upd s 0 (rk 0))
theorem c_sinkToRemaining {m : Nat} {pa : Nat → Nat} {A : xA} {B : xB} {D : xD} (h : trOK A m pa) : does0 mX0_sinkToRemaining [.ref 72, .ref 35] A B D (eqQ none (setA A 74 (siV (A 38) (A 73) pa m (A 74))) B D) nx := by
  refine does_go (by decide) rfl (Nat.le_of_ble_eq_true rfl) rfl ?_
  obtain ⟨hm, hm0, hm64, hp0, hpa, hch⟩ := id h
  obtain ⟨M, rfl⟩ : ∃ M, m = M + 1 := ⟨m - 1, by omega⟩
  have loop := up_ind (n := M) (P := fun i => ∀ s, s = itr (siS (A 38) (A 73) pa) i (upd (A 74) 0 (A 38 0)) → go0 mX0_sinkToRemaining (eqQ none (setA A 74 (siV (A 38) (A 73) pa (M + 1) (A 74))) B D) nx 0 0 14 [(0, .ref 72), (1, .ref 35), (2, .int (nI (i + 1)))] [] (setA A 74 s) B D) (fun i hi ih s hs => by
    refine xi_iload_n dX0_sinkToRemaining_14 rfl rfl ?_
    refine xi_aload_n dX0_sinkToRemaining_15 rfl rfl ?_
    refine xi_getfield0 dX0_sinkToRemaining_16 fX0_19 g35 ?_
    rw [show setA A 74 s 35 2 = nI (M + 1) from hm]
    refine xi_icmp_ge (tgt := 63) dX0_sinkToRemaining_19 rfl (fun h19 => ?_) (fun h19 => ?_)
    · have e : i = M := vge hi (by omega) h19
      subst e
      refine go_ret (r := none) dX0_sinkToRemaining_63 (Nat.le_of_ble_eq_true rfl) (Nat.le_of_ble_eq_true rfl) ?_
      exact ⟨rfl, by rw [hs]; rfl, rfl, rfl⟩
    · have hl : i < M := vnge hi (by omega) h19
      obtain ⟨hq, hq2⟩ := hpa (i + 1) (by omega) (by omega)
      have q := ih hl
      rw [itr_s, ← hs] at q
      unfold siS at q
      refine xi_aload_n dX0_sinkToRemaining_22 rfl rfl ?_
      refine xi_getfield3 dX0_sinkToRemaining_23 fX0_15 g72 r72_1 ?_
      refine xi_iload_n dX0_sinkToRemaining_26 rfl rfl ?_
      refine xi_aload_n dX0_sinkToRemaining_27 rfl rfl ?_
      refine xi_getfield3 dX0_sinkToRemaining_28 fX0_9 g72 r72_0 ?_
      refine xi_iload_n dX0_sinkToRemaining_31 rfl rfl ?_
      refine za dX0_sinkToRemaining_32 g73 s73 rfl (by omega) (Nat.le_of_ble_eq_true rfl) ?_
      refine xi_if_eq (tgt := 45) dX0_sinkToRemaining_33 rfl (fun h33 => ?_) (fun h33 => ?_)
      · refine xi_aload_n dX0_sinkToRemaining_45 rfl rfl ?_
        refine xi_getfield3 dX0_sinkToRemaining_46 fX0_15 g72 r72_1 ?_
        refine xi_aload_n dX0_sinkToRemaining_49 rfl rfl ?_
        refine xi_getfield3 dX0_sinkToRemaining_50 fX0_38 g35 r35_8 ?_
        refine xi_iload_n dX0_sinkToRemaining_53 rfl rfl ?_
        refine ia dX0_sinkToRemaining_54 g40 s40 rfl (by omega) (Nat.le_of_ble_eq_true rfl) ?_
        refine ia dX0_sinkToRemaining_55 g74 s74 hq (by omega) (Nat.le_of_ble_eq_true rfl) ?_
        first | rw [setA_s] | skip
        refine is dX0_sinkToRemaining_56 g74 s74 rfl (by omega) (Nat.le_of_ble_eq_true rfl) ?_
        refine xi_iinc (v := 1) dX0_sinkToRemaining_57 rfl (by decide) (Nat.le_of_ble_eq_true rfl) ?_
        refine xi_goto (tgt := 14) dX0_sinkToRemaining_60 rfl ?_
        refine xgo_pick [0, 1, 2] rfl ?_
        rw [nI_1, setA_u]
        exact q _ (by rw [if_pos (show A 73 (i + 1) = 0 from h33)])
      · refine xi_aload_n dX0_sinkToRemaining_36 rfl rfl ?_
        refine xi_getfield3 dX0_sinkToRemaining_37 fX0_41 g35 r35_6 ?_
        refine xi_iload_n dX0_sinkToRemaining_40 rfl rfl ?_
        refine ia dX0_sinkToRemaining_41 g38 s38 rfl (by omega) (Nat.le_of_ble_eq_true rfl) ?_
        refine xi_goto (tgt := 56) dX0_sinkToRemaining_42 rfl ?_
        first | rw [setA_s] | skip
        refine is dX0_sinkToRemaining_56 g74 s74 rfl (by omega) (Nat.le_of_ble_eq_true rfl) ?_
        refine xi_iinc (v := 1) dX0_sinkToRemaining_57 rfl (by decide) (Nat.le_of_ble_eq_true rfl) ?_
        refine xi_goto (tgt := 14) dX0_sinkToRemaining_60 rfl ?_
        refine xgo_pick [0, 1, 2] rfl ?_
        rw [nI_1, setA_u]
        exact q _ (by rw [if_neg (show ¬ A 73 (i + 1) = 0 from h33)]; rfl)
    )
  refine xi_aload_n dX0_sinkToRemaining_0 rfl rfl ?_
  refine xi_getfield3 dX0_sinkToRemaining_1 fX0_15 g72 r72_1 ?_
  refine xi_iconst (v := 0) dX0_sinkToRemaining_4 (by decide) ?_
  refine xi_aload_n dX0_sinkToRemaining_5 rfl rfl ?_
  refine xi_getfield3 dX0_sinkToRemaining_6 fX0_41 g35 r35_6 ?_
  refine xi_iconst (v := 0) dX0_sinkToRemaining_9 (by decide) ?_
  refine ia dX0_sinkToRemaining_10 g38 s38 (j := 0) rfl (by omega) (Nat.le_of_ble_eq_true rfl) ?_
  refine is dX0_sinkToRemaining_11 g74 s74 (j := 0) rfl (by omega) (Nat.le_of_ble_eq_true rfl) ?_
  refine xi_iconst (v := 1) dX0_sinkToRemaining_12 (by decide) ?_
  refine xi_istore_n dX0_sinkToRemaining_13 rfl (Nat.le_of_ble_eq_true rfl) ?_
  refine xgo_pick [0, 1, 2] rfl ?_
  exact loop 0 (Nat.zero_le _) _ rfl
def asS (rk rem : Nat → Int32) (pa : Nat → Nat) (i : Nat) (s : Nat → Int32) : Nat → Int32 := upd s (i + 1) (s (pa (i + 1)) + (if rem (i + 1) = 0 then 0 else rk (i + 1) - rk (pa (i + 1))))
def asV (rk rem : Nat → Int32) (pa : Nat → Nat) (m : Nat) (s : Nat → Int32) : Nat → Int32 := itr (asS rk rem pa) (m - 1) (upd s 0 (rk 0))
theorem c_addSteps {m : Nat} {pa : Nat → Nat} {A : xA} {B : xB} {D : xD} (h : trOK A m pa) : does0 mX0_addSteps [.ref 72, .ref 35] A B D (eqQ none (setA A 74 (asV (A 38) (A 73) pa m (A 74))) B D) nx := by
  refine does_go (by decide) rfl (Nat.le_of_ble_eq_true rfl) rfl ?_
  obtain ⟨hm, hm0, hm64, hp0, hpa, hch⟩ := id h
  obtain ⟨M, rfl⟩ : ∃ M, m = M + 1 := ⟨m - 1, by omega⟩
  have loop := up_ind (n := M) (P := fun i => ∀ s, s = itr (asS (A 38) (A 73) pa) i (upd (A 74) 0 (A 38 0)) → go0 mX0_addSteps (eqQ none (setA A 74 (asV (A 38) (A 73) pa (M + 1) (A 74))) B D) nx 0 0 14 [(0, .ref 72), (1, .ref 35), (2, .int (nI (i + 1)))] [] (setA A 74 s) B D) (fun i hi ih s hs => by
    refine xi_iload_n dX0_addSteps_14 rfl rfl ?_
    refine xi_aload_n dX0_addSteps_15 rfl rfl ?_
    refine xi_getfield0 dX0_addSteps_16 fX0_19 g35 ?_
    rw [show setA A 74 s 35 2 = nI (M + 1) from hm]
    refine xi_icmp_ge (tgt := 78) dX0_addSteps_19 rfl (fun h19 => ?_) (fun h19 => ?_)
    · have e : i = M := vge hi (by omega) h19
      subst e
      refine go_ret (r := none) dX0_addSteps_78 (Nat.le_of_ble_eq_true rfl) (Nat.le_of_ble_eq_true rfl) ?_
      exact ⟨rfl, by rw [hs]; rfl, rfl, rfl⟩
    · have hl : i < M := vnge hi (by omega) h19
      obtain ⟨hq, hq2⟩ := hpa (i + 1) (by omega) (by omega)
      have q := ih hl
      rw [itr_s, ← hs] at q
      unfold asS at q
      refine xi_aload_n dX0_addSteps_22 rfl rfl ?_
      refine xi_getfield3 dX0_addSteps_23 fX0_38 g35 r35_8 ?_
      refine xi_iload_n dX0_addSteps_26 rfl rfl ?_
      refine ia dX0_addSteps_27 g40 s40 rfl (by omega) (Nat.le_of_ble_eq_true rfl) ?_
      refine xi_istore_n dX0_addSteps_28 rfl (Nat.le_of_ble_eq_true rfl) ?_
      refine xi_aload_n dX0_addSteps_29 rfl rfl ?_
      refine xi_getfield3 dX0_addSteps_30 fX0_9 g72 r72_0 ?_
      refine xi_iload_n dX0_addSteps_33 rfl rfl ?_
      refine za dX0_addSteps_34 g73 s73 rfl (by omega) (Nat.le_of_ble_eq_true rfl) ?_
      refine xi_if_eq (tgt := 54) dX0_addSteps_35 rfl (fun h35 => ?_) (fun h35 => ?_)
      · refine xi_iconst (v := 0) dX0_addSteps_54 (by decide) ?_
        refine xi_istore dX0_addSteps_55 (Nat.le_of_ble_eq_true rfl) ?_
        refine xi_aload_n dX0_addSteps_57 rfl rfl ?_
        refine xi_getfield3 dX0_addSteps_58 fX0_15 g72 r72_1 ?_
        refine xi_iload_n dX0_addSteps_61 rfl rfl ?_
        refine xi_aload_n dX0_addSteps_62 rfl rfl ?_
        refine xi_getfield3 dX0_addSteps_63 fX0_15 g72 r72_1 ?_
        refine xi_iload_n dX0_addSteps_66 rfl rfl ?_
        refine ia dX0_addSteps_67 g74 s74 hq (by omega) (Nat.le_of_ble_eq_true rfl) ?_
        refine xi_iload dX0_addSteps_68 rfl ?_
        refine xi_iadd dX0_addSteps_70 ?_
        rw [setA_s]
        refine is dX0_addSteps_71 g74 s74 rfl (by omega) (Nat.le_of_ble_eq_true rfl) ?_
        refine xi_iinc (v := 1) dX0_addSteps_72 rfl (by decide) (Nat.le_of_ble_eq_true rfl) ?_
        refine xi_goto (tgt := 14) dX0_addSteps_75 rfl ?_
        refine xgo_pick [0, 1, 2] rfl ?_
        rw [nI_1, setA_u]
        exact q _ (by rw [if_pos (show A 73 (i + 1) = 0 from h35)])
      · refine xi_aload_n dX0_addSteps_38 rfl rfl ?_
        refine xi_getfield3 dX0_addSteps_39 fX0_41 g35 r35_6 ?_
        refine xi_iload_n dX0_addSteps_42 rfl rfl ?_
        refine ia dX0_addSteps_43 g38 s38 rfl (by omega) (Nat.le_of_ble_eq_true rfl) ?_
        refine xi_aload_n dX0_addSteps_44 rfl rfl ?_
        refine xi_getfield3 dX0_addSteps_45 fX0_41 g35 r35_6 ?_
        refine xi_iload_n dX0_addSteps_48 rfl rfl ?_
        refine ia dX0_addSteps_49 g38 s38 hq (by omega) (Nat.le_of_ble_eq_true rfl) ?_
        refine xi_isub dX0_addSteps_50 ?_
        refine xi_goto (tgt := 55) dX0_addSteps_51 rfl ?_
        refine xi_istore dX0_addSteps_55 (Nat.le_of_ble_eq_true rfl) ?_
        refine xi_aload_n dX0_addSteps_57 rfl rfl ?_
        refine xi_getfield3 dX0_addSteps_58 fX0_15 g72 r72_1 ?_
        refine xi_iload_n dX0_addSteps_61 rfl rfl ?_
        refine xi_aload_n dX0_addSteps_62 rfl rfl ?_
        refine xi_getfield3 dX0_addSteps_63 fX0_15 g72 r72_1 ?_
        refine xi_iload_n dX0_addSteps_66 rfl rfl ?_
        refine ia dX0_addSteps_67 g74 s74 hq (by omega) (Nat.le_of_ble_eq_true rfl) ?_
        refine xi_iload dX0_addSteps_68 rfl ?_
        refine xi_iadd dX0_addSteps_70 ?_
        rw [setA_s]
        refine is dX0_addSteps_71 g74 s74 rfl (by omega) (Nat.le_of_ble_eq_true rfl) ?_
        refine xi_iinc (v := 1) dX0_addSteps_72 rfl (by decide) (Nat.le_of_ble_eq_true rfl) ?_
        refine xi_goto (tgt := 14) dX0_addSteps_75 rfl ?_
        refine xgo_pick [0, 1, 2] rfl ?_
        rw [nI_1, setA_u]
        exact q _ (by rw [if_neg (show ¬ A 73 (i + 1) = 0 from h35)]; rfl)
    )
  refine xi_aload_n dX0_addSteps_0 rfl rfl ?_
  refine xi_getfield3 dX0_addSteps_1 fX0_15 g72 r72_1 ?_
  refine xi_iconst (v := 0) dX0_addSteps_4 (by decide) ?_
  refine xi_aload_n dX0_addSteps_5 rfl rfl ?_
  refine xi_getfield3 dX0_addSteps_6 fX0_41 g35 r35_6 ?_
  refine xi_iconst (v := 0) dX0_addSteps_9 (by decide) ?_
  refine ia dX0_addSteps_10 g38 s38 (j := 0) rfl (by omega) (Nat.le_of_ble_eq_true rfl) ?_
  refine is dX0_addSteps_11 g74 s74 (j := 0) rfl (by omega) (Nat.le_of_ble_eq_true rfl) ?_
  refine xi_iconst (v := 1) dX0_addSteps_12 (by decide) ?_
  refine xi_istore_n dX0_addSteps_13 rfl (Nat.le_of_ble_eq_true rfl) ?_
  refine xgo_pick [0, 1, 2] rfl ?_
  exact loop 0 (Nat.zero_le _) _ rfl
def lossV (ow rk nr : Nat → Int32) (m : Nat) : Int32 := isum (fun v => ow v * iabs (rk v - nr v)) m
theorem c_lossIn {m : Nat} {A : xA} {B : xB} {D : xD} (hm : A 35 2 = nI m) (hm64 : m ≤ 64) : does0 mX0_lossIn [.ref 72, .ref 35] A B D (eqQ (some (.int (lossV (A 39) (A 38) (A 74) m))) A B D) nx := by
  refine does_go (by decide) rfl (Nat.le_of_ble_eq_true rfl) rfl ?_
  have loop := up_ind (n := m) (P := fun j => go0 mX0_lossIn (eqQ (some (.int (lossV (A 39) (A 38) (A 74) m))) A B D) nx 0 0 4 [(0, .ref 72), (1, .ref 35), (2, .int (lossV (A 39) (A 38) (A 74) j)), (3, .int (nI j))] [] A B D) (fun j hj ih => by
    refine xi_iload_n dX0_lossIn_4 rfl rfl ?_
    refine xi_aload_n dX0_lossIn_5 rfl rfl ?_
    refine xi_getfield0 dX0_lossIn_6 fX0_19 g35 ?_
    rw [hm]
    refine xi_icmp_ge (tgt := 44) dX0_lossIn_9 rfl (fun h9 => ?_) (fun h9 => ?_)
    · have e : j = m := ge_eq hj (by omega) h9
      subst e
      refine xi_iload_n dX0_lossIn_44 rfl rfl ?_
      refine go_ret (r := some (.int _)) dX0_lossIn_45 (Nat.le_of_ble_eq_true rfl) (Nat.le_of_ble_eq_true rfl) ?_
      exact ⟨rfl, rfl, rfl, rfl⟩
    · have hl : j < m := nge_lt hj (by omega) h9
      refine xi_iload_n dX0_lossIn_12 rfl rfl ?_
      refine xi_aload_n dX0_lossIn_13 rfl rfl ?_
      refine xi_getfield3 dX0_lossIn_14 fX0_71 g35 r35_7 ?_
      refine xi_iload_n dX0_lossIn_17 rfl rfl ?_
      refine ia dX0_lossIn_18 g39 s39 rfl (by omega) (Nat.le_of_ble_eq_true rfl) ?_
      refine xi_aload_n dX0_lossIn_19 rfl rfl ?_
      refine xi_getfield3 dX0_lossIn_20 fX0_41 g35 r35_6 ?_
      refine xi_iload_n dX0_lossIn_23 rfl rfl ?_
      refine ia dX0_lossIn_24 g38 s38 rfl (by omega) (Nat.le_of_ble_eq_true rfl) ?_
      refine xi_aload_n dX0_lossIn_25 rfl rfl ?_
      refine xi_getfield3 dX0_lossIn_26 fX0_15 g72 r72_1 ?_
      refine xi_iload_n dX0_lossIn_29 rfl rfl ?_
      refine ia dX0_lossIn_30 g74 s74 rfl (by omega) (Nat.le_of_ble_eq_true rfl) ?_
      refine xi_isub dX0_lossIn_31 ?_
      refine xi_mabs dX0_lossIn_32 eX0_74 ⟨(Nat.le_of_ble_eq_true rfl), (Nat.le_of_ble_eq_true rfl)⟩ ⟨(Nat.le_of_ble_eq_true rfl), (Nat.le_of_ble_eq_true rfl)⟩ ?_
      refine xi_imul dX0_lossIn_35 ?_
      refine xi_iadd dX0_lossIn_36 ?_
      refine xi_istore_n dX0_lossIn_37 rfl (Nat.le_of_ble_eq_true rfl) ?_
      refine xi_iinc (v := 1) dX0_lossIn_38 rfl (by decide) (Nat.le_of_ble_eq_true rfl) ?_
      refine xi_goto (tgt := 4) dX0_lossIn_41 rfl ?_
      refine xgo_pick [0, 1, 2, 3] rfl ?_
      rw [nI_1]
      exact ih hl
    )
  refine xi_iconst (v := 0) dX0_lossIn_0 (by decide) ?_
  refine xi_istore_n dX0_lossIn_1 rfl (Nat.le_of_ble_eq_true rfl) ?_
  refine xi_iconst (v := 0) dX0_lossIn_2 (by decide) ?_
  refine xi_istore_n dX0_lossIn_3 rfl (Nat.le_of_ble_eq_true rfl) ?_
  refine xgo_pick [0, 1, 2, 3] rfl ?_
  exact loop 0 (Nat.zero_le _)
def chgV (ow rk nr : Nat → Int32) (m : Nat) : Int32 := isum (fun v => if rk v = nr v then 0 else ow v) m
theorem c_changedIn {m : Nat} {A : xA} {B : xB} {D : xD} (hm : A 35 2 = nI m) (hm64 : m ≤ 64) : does0 mX0_changedIn [.ref 72, .ref 35] A B D (eqQ (some (.int (chgV (A 39) (A 38) (A 74) m))) A B D) nx := by
  refine does_go (by decide) rfl (Nat.le_of_ble_eq_true rfl) rfl ?_
  have loop := up_ind (n := m) (P := fun j => go0 mX0_changedIn (eqQ (some (.int (chgV (A 39) (A 38) (A 74) m))) A B D) nx 0 0 4 [(0, .ref 72), (1, .ref 35), (2, .int (chgV (A 39) (A 38) (A 74) j)), (3, .int (nI j))] [] A B D) (fun j hj ih => by
    refine xi_iload_n dX0_changedIn_4 rfl rfl ?_
    refine xi_aload_n dX0_changedIn_5 rfl rfl ?_
    refine xi_getfield0 dX0_changedIn_6 fX0_19 g35 ?_
    rw [hm]
    refine xi_icmp_ge (tgt := 46) dX0_changedIn_9 rfl (fun h9 => ?_) (fun h9 => ?_)
    · have e : j = m := ge_eq hj (by omega) h9
      subst e
      refine xi_iload_n dX0_changedIn_46 rfl rfl ?_
      refine go_ret (r := some (.int _)) dX0_changedIn_47 (Nat.le_of_ble_eq_true rfl) (Nat.le_of_ble_eq_true rfl) ?_
      exact ⟨rfl, rfl, rfl, rfl⟩
    · have hl : j < m := nge_lt hj (by omega) h9
      refine xi_iload_n dX0_changedIn_12 rfl rfl ?_
      refine xi_aload_n dX0_changedIn_13 rfl rfl ?_
      refine xi_getfield3 dX0_changedIn_14 fX0_41 g35 r35_6 ?_
      refine xi_iload_n dX0_changedIn_17 rfl rfl ?_
      refine ia dX0_changedIn_18 g38 s38 rfl (by omega) (Nat.le_of_ble_eq_true rfl) ?_
      refine xi_aload_n dX0_changedIn_19 rfl rfl ?_
      refine xi_getfield3 dX0_changedIn_20 fX0_15 g72 r72_1 ?_
      refine xi_iload_n dX0_changedIn_23 rfl rfl ?_
      refine ia dX0_changedIn_24 g74 s74 rfl (by omega) (Nat.le_of_ble_eq_true rfl) ?_
      refine xi_icmpne (tgt := 32) dX0_changedIn_25 rfl (fun h25 => ?_) (fun h25 => ?_)
      · refine xi_aload_n dX0_changedIn_32 rfl rfl ?_
        refine xi_getfield3 dX0_changedIn_33 fX0_71 g35 r35_7 ?_
        refine xi_iload_n dX0_changedIn_36 rfl rfl ?_
        refine ia dX0_changedIn_37 g39 s39 rfl (by omega) (Nat.le_of_ble_eq_true rfl) ?_
        refine xi_iadd dX0_changedIn_38 ?_
        refine xi_istore_n dX0_changedIn_39 rfl (Nat.le_of_ble_eq_true rfl) ?_
        refine xi_iinc (v := 1) dX0_changedIn_40 rfl (by decide) (Nat.le_of_ble_eq_true rfl) ?_
        refine xi_goto (tgt := 4) dX0_changedIn_43 rfl ?_
        refine xgo_pick [0, 1, 2, 3] rfl ?_
        rw [nI_1]
        have q := ih hl
        simp only [chgV, isum, h25, if_true, if_false] at q ⊢
        exact q
      · refine xi_iconst (v := 0) dX0_changedIn_28 (by decide) ?_
        refine xi_goto (tgt := 38) dX0_changedIn_29 rfl ?_
        refine xi_iadd dX0_changedIn_38 ?_
        refine xi_istore_n dX0_changedIn_39 rfl (Nat.le_of_ble_eq_true rfl) ?_
        refine xi_iinc (v := 1) dX0_changedIn_40 rfl (by decide) (Nat.le_of_ble_eq_true rfl) ?_
        refine xi_goto (tgt := 4) dX0_changedIn_43 rfl ?_
        refine xgo_pick [0, 1, 2, 3] rfl ?_
        rw [nI_1]
        have q := ih hl
        simp only [chgV, isum, h25, if_true, if_false] at q ⊢
        exact q
    )
  refine xi_iconst (v := 0) dX0_changedIn_0 (by decide) ?_
  refine xi_istore_n dX0_changedIn_1 rfl (Nat.le_of_ble_eq_true rfl) ?_
  refine xi_iconst (v := 0) dX0_changedIn_2 (by decide) ?_
  refine xi_istore_n dX0_changedIn_3 rfl (Nat.le_of_ble_eq_true rfl) ?_
  refine xgo_pick [0, 1, 2, 3] rfl ?_
  exact loop 0 (Nat.zero_le _)
def re0 (va old : Nat → Int32) (th : Int32) (j i : Nat) : Int32 := if i < j then (if i = 0 then 1 else if va i < th then 0 else 1) else old i
def remV (va old : Nat → Int32) (th rule : Int32) (pa : Nat → Nat) (m : Nat) : Nat → Int32 := if rule = 1 then drV pa m (re0 va old th m) else if rule = 2 then kaV pa m (re0 va old th m) else re0 va old th m
def prnA (A : xA) (kv : Nat) (th rule : Int32) (pa : Nat → Nat) (m : Nat) : xA := setA (setA A 73 (remV (A kv) (A 73) th rule pa m)) 74 (if rule = 3 then asV (A 38) (remV (A kv) (A 73) th rule pa m) pa m (A 74) else siV (A 38) (remV (A kv) (A 73) th rule pa m) pa m (A 74))
theorem c_prune {m kv : Nat} {pa : Nat → Nat} {th rule : Int32} {A : xA} {B : xB} {D : xD} (h : trOK A m pa) (hg : (xG0 kv).1 = 1) (hs : (xG0 kv).2.1 = 64) (hkv : kv < 73) : does0 mX0_prune [.ref 72, .ref 35, .ref kv, .int th, .int rule] A B D (eqQ none (prnA A kv th rule pa m) B D) nx := by
  refine does_go (by decide) rfl (Nat.le_of_ble_eq_true rfl) rfl ?_
  obtain ⟨hm, hm0, hm64, hp0, hpa, hch⟩ := id h
  have hT : ∀ f, trOK (setA A 73 f) m pa := fun f => h
  have loop := up_ind (n := m) (P := fun j => go0 mX0_prune (eqQ none (prnA A kv th rule pa m) B D) nx 0 0 3 [(0, .ref 72), (1, .ref 35), (2, .ref kv), (3, .int th), (4, .int rule), (5, .int (nI j))] [] (setA A 73 (re0 (A kv) (A 73) th j)) B D) (fun j hj ih => by
    refine xi_iload dX0_prune_3 rfl ?_
    refine xi_aload_n dX0_prune_5 rfl rfl ?_
    refine xi_getfield0 dX0_prune_6 fX0_19 g35 ?_
    rw [show setA A 73 (re0 (A kv) (A 73) th j) 35 2 = nI m from hm]
    refine xi_icmp_ge (tgt := 43) dX0_prune_9 rfl (fun h9 => ?_) (fun h9 => ?_)
    · have e : j = m := ge_eq hj (by omega) h9
      subst e
      refine xi_iload dX0_prune_43 rfl ?_
      refine xi_iconst (v := 1) dX0_prune_45 (by decide) ?_
      refine xi_icmpne (tgt := 54) dX0_prune_46 rfl (fun h46 => ?_) (fun h46 => ?_)
      · refine xi_iload dX0_prune_54 rfl ?_
        refine xi_iconst (v := 2) dX0_prune_56 (by decide) ?_
        refine xi_icmpne (tgt := 65) dX0_prune_57 rfl (fun h57 => ?_) (fun h57 => ?_)
        · refine xi_iload dX0_prune_65 rfl ?_
          refine xi_iconst (v := 3) dX0_prune_67 (by decide) ?_
          refine xi_icmpne (tgt := 79) dX0_prune_68 rfl (fun h68 => ?_) (fun h68 => ?_)
          · refine xi_aload_n dX0_prune_79 rfl rfl ?_
            refine xi_aload_n dX0_prune_80 rfl rfl ?_
            refine cV1 (av := [_]) dX0_prune_81 lX0_35 rfl ⟨rfl, rfl⟩ rfl ⟨(Nat.le_of_ble_eq_true rfl), (Nat.le_of_ble_eq_true rfl)⟩ ⟨(Nat.le_of_ble_eq_true rfl), (Nat.le_of_ble_eq_true rfl)⟩ (Nat.le_of_ble_eq_true rfl) g72 rfl rfl (c_sinkToRemaining (hT _)) ?_
            refine go_ret (r := none) dX0_prune_84 (Nat.le_of_ble_eq_true rfl) (Nat.le_of_ble_eq_true rfl) ?_
            exact ⟨rfl, by unfold prnA remV; simp only [h46, h57, h68, if_true, if_false] <;> first | rfl | simp_all [setA_s, setA_setA], rfl, rfl⟩
          · refine xi_aload_n dX0_prune_71 rfl rfl ?_
            refine xi_aload_n dX0_prune_72 rfl rfl ?_
            refine cV1 (av := [_]) dX0_prune_73 lX0_32 rfl ⟨rfl, rfl⟩ rfl ⟨(Nat.le_of_ble_eq_true rfl), (Nat.le_of_ble_eq_true rfl)⟩ ⟨(Nat.le_of_ble_eq_true rfl), (Nat.le_of_ble_eq_true rfl)⟩ (Nat.le_of_ble_eq_true rfl) g72 rfl rfl (c_addSteps (hT _)) ?_
            refine xi_goto (tgt := 84) dX0_prune_76 rfl ?_
            refine go_ret (r := none) dX0_prune_84 (Nat.le_of_ble_eq_true rfl) (Nat.le_of_ble_eq_true rfl) ?_
            exact ⟨rfl, by unfold prnA remV; simp only [h46, h57, h68, if_true, if_false] <;> first | rfl | simp_all [setA_s, setA_setA], rfl, rfl⟩
        · refine xi_aload_n dX0_prune_60 rfl rfl ?_
          refine xi_aload_n dX0_prune_61 rfl rfl ?_
          refine cV1 (av := [_]) dX0_prune_62 lX0_29 rfl ⟨rfl, rfl⟩ rfl ⟨(Nat.le_of_ble_eq_true rfl), (Nat.le_of_ble_eq_true rfl)⟩ ⟨(Nat.le_of_ble_eq_true rfl), (Nat.le_of_ble_eq_true rfl)⟩ (Nat.le_of_ble_eq_true rfl) g72 rfl rfl (c_keepAboveKept (hT _)) ?_
          rw [setA_setA, setA_s]
          refine xi_iload dX0_prune_65 rfl ?_
          refine xi_iconst (v := 3) dX0_prune_67 (by decide) ?_
          refine xi_icmpne (tgt := 79) dX0_prune_68 rfl (fun h68 => ?_) (fun h68 => ?_)
          · refine xi_aload_n dX0_prune_79 rfl rfl ?_
            refine xi_aload_n dX0_prune_80 rfl rfl ?_
            refine cV1 (av := [_]) dX0_prune_81 lX0_35 rfl ⟨rfl, rfl⟩ rfl ⟨(Nat.le_of_ble_eq_true rfl), (Nat.le_of_ble_eq_true rfl)⟩ ⟨(Nat.le_of_ble_eq_true rfl), (Nat.le_of_ble_eq_true rfl)⟩ (Nat.le_of_ble_eq_true rfl) g72 rfl rfl (c_sinkToRemaining (hT _)) ?_
            refine go_ret (r := none) dX0_prune_84 (Nat.le_of_ble_eq_true rfl) (Nat.le_of_ble_eq_true rfl) ?_
            exact ⟨rfl, by unfold prnA remV; simp only [h46, h57, h68, if_true, if_false] <;> first | rfl | simp_all [setA_s, setA_setA], rfl, rfl⟩
          · refine xi_aload_n dX0_prune_71 rfl rfl ?_
            refine xi_aload_n dX0_prune_72 rfl rfl ?_
            refine cV1 (av := [_]) dX0_prune_73 lX0_32 rfl ⟨rfl, rfl⟩ rfl ⟨(Nat.le_of_ble_eq_true rfl), (Nat.le_of_ble_eq_true rfl)⟩ ⟨(Nat.le_of_ble_eq_true rfl), (Nat.le_of_ble_eq_true rfl)⟩ (Nat.le_of_ble_eq_true rfl) g72 rfl rfl (c_addSteps (hT _)) ?_
            refine xi_goto (tgt := 84) dX0_prune_76 rfl ?_
            refine go_ret (r := none) dX0_prune_84 (Nat.le_of_ble_eq_true rfl) (Nat.le_of_ble_eq_true rfl) ?_
            exact ⟨rfl, by unfold prnA remV; simp only [h46, h57, h68, if_true, if_false] <;> first | rfl | simp_all [setA_s, setA_setA], rfl, rfl⟩
      · refine xi_aload_n dX0_prune_49 rfl rfl ?_
        refine xi_aload_n dX0_prune_50 rfl rfl ?_
        refine cV1 (av := [_]) dX0_prune_51 lX0_25 rfl ⟨rfl, rfl⟩ rfl ⟨(Nat.le_of_ble_eq_true rfl), (Nat.le_of_ble_eq_true rfl)⟩ ⟨(Nat.le_of_ble_eq_true rfl), (Nat.le_of_ble_eq_true rfl)⟩ (Nat.le_of_ble_eq_true rfl) g72 rfl rfl (c_dropBelowDropped (hT _)) ?_
        rw [setA_setA, setA_s]
        refine xi_iload dX0_prune_54 rfl ?_
        refine xi_iconst (v := 2) dX0_prune_56 (by decide) ?_
        refine xi_icmpne (tgt := 65) dX0_prune_57 rfl (fun h57 => ?_) (fun h57 => ?_)
        · refine xi_iload dX0_prune_65 rfl ?_
          refine xi_iconst (v := 3) dX0_prune_67 (by decide) ?_
          refine xi_icmpne (tgt := 79) dX0_prune_68 rfl (fun h68 => ?_) (fun h68 => ?_)
          · refine xi_aload_n dX0_prune_79 rfl rfl ?_
            refine xi_aload_n dX0_prune_80 rfl rfl ?_
            refine cV1 (av := [_]) dX0_prune_81 lX0_35 rfl ⟨rfl, rfl⟩ rfl ⟨(Nat.le_of_ble_eq_true rfl), (Nat.le_of_ble_eq_true rfl)⟩ ⟨(Nat.le_of_ble_eq_true rfl), (Nat.le_of_ble_eq_true rfl)⟩ (Nat.le_of_ble_eq_true rfl) g72 rfl rfl (c_sinkToRemaining (hT _)) ?_
            refine go_ret (r := none) dX0_prune_84 (Nat.le_of_ble_eq_true rfl) (Nat.le_of_ble_eq_true rfl) ?_
            exact ⟨rfl, by unfold prnA remV; simp only [h46, h57, h68, if_true, if_false] <;> first | rfl | simp_all [setA_s, setA_setA], rfl, rfl⟩
          · refine xi_aload_n dX0_prune_71 rfl rfl ?_
            refine xi_aload_n dX0_prune_72 rfl rfl ?_
            refine cV1 (av := [_]) dX0_prune_73 lX0_32 rfl ⟨rfl, rfl⟩ rfl ⟨(Nat.le_of_ble_eq_true rfl), (Nat.le_of_ble_eq_true rfl)⟩ ⟨(Nat.le_of_ble_eq_true rfl), (Nat.le_of_ble_eq_true rfl)⟩ (Nat.le_of_ble_eq_true rfl) g72 rfl rfl (c_addSteps (hT _)) ?_
            refine xi_goto (tgt := 84) dX0_prune_76 rfl ?_
            refine go_ret (r := none) dX0_prune_84 (Nat.le_of_ble_eq_true rfl) (Nat.le_of_ble_eq_true rfl) ?_
            exact ⟨rfl, by unfold prnA remV; simp only [h46, h57, h68, if_true, if_false] <;> first | rfl | simp_all [setA_s, setA_setA], rfl, rfl⟩
        · refine xi_aload_n dX0_prune_60 rfl rfl ?_
          refine xi_aload_n dX0_prune_61 rfl rfl ?_
          refine cV1 (av := [_]) dX0_prune_62 lX0_29 rfl ⟨rfl, rfl⟩ rfl ⟨(Nat.le_of_ble_eq_true rfl), (Nat.le_of_ble_eq_true rfl)⟩ ⟨(Nat.le_of_ble_eq_true rfl), (Nat.le_of_ble_eq_true rfl)⟩ (Nat.le_of_ble_eq_true rfl) g72 rfl rfl (c_keepAboveKept (hT _)) ?_
          rw [setA_setA, setA_s]
          refine xi_iload dX0_prune_65 rfl ?_
          refine xi_iconst (v := 3) dX0_prune_67 (by decide) ?_
          refine xi_icmpne (tgt := 79) dX0_prune_68 rfl (fun h68 => ?_) (fun h68 => ?_)
          · refine xi_aload_n dX0_prune_79 rfl rfl ?_
            refine xi_aload_n dX0_prune_80 rfl rfl ?_
            refine cV1 (av := [_]) dX0_prune_81 lX0_35 rfl ⟨rfl, rfl⟩ rfl ⟨(Nat.le_of_ble_eq_true rfl), (Nat.le_of_ble_eq_true rfl)⟩ ⟨(Nat.le_of_ble_eq_true rfl), (Nat.le_of_ble_eq_true rfl)⟩ (Nat.le_of_ble_eq_true rfl) g72 rfl rfl (c_sinkToRemaining (hT _)) ?_
            refine go_ret (r := none) dX0_prune_84 (Nat.le_of_ble_eq_true rfl) (Nat.le_of_ble_eq_true rfl) ?_
            exact ⟨rfl, by unfold prnA remV; simp only [h46, h57, h68, if_true, if_false] <;> first | rfl | simp_all [setA_s, setA_setA], rfl, rfl⟩
          · refine xi_aload_n dX0_prune_71 rfl rfl ?_
            refine xi_aload_n dX0_prune_72 rfl rfl ?_
            refine cV1 (av := [_]) dX0_prune_73 lX0_32 rfl ⟨rfl, rfl⟩ rfl ⟨(Nat.le_of_ble_eq_true rfl), (Nat.le_of_ble_eq_true rfl)⟩ ⟨(Nat.le_of_ble_eq_true rfl), (Nat.le_of_ble_eq_true rfl)⟩ (Nat.le_of_ble_eq_true rfl) g72 rfl rfl (c_addSteps (hT _)) ?_
            refine xi_goto (tgt := 84) dX0_prune_76 rfl ?_
            refine go_ret (r := none) dX0_prune_84 (Nat.le_of_ble_eq_true rfl) (Nat.le_of_ble_eq_true rfl) ?_
            exact ⟨rfl, by unfold prnA remV; simp only [h46, h57, h68, if_true, if_false] <;> first | rfl | simp_all [setA_s, setA_setA], rfl, rfl⟩
    · have hl : j < m := nge_lt hj (by omega) h9
      have q := ih hl
      rw [show re0 (A kv) (A 73) th (j + 1) = upd (re0 (A kv) (A 73) th j) j (if j = 0 then 1 else if A kv j < th then 0 else 1) by funext i; unfold re0 upd; grind] at q
      refine xi_aload_n dX0_prune_12 rfl rfl ?_
      refine xi_getfield3 dX0_prune_13 fX0_9 g72 r72_0 ?_
      refine xi_iload dX0_prune_16 rfl ?_
      refine xi_iload dX0_prune_18 rfl ?_
      refine xi_if_eq (tgt := 31) dX0_prune_20 rfl (fun h20 => ?_) (fun h20 => ?_)
      · have e0 : j = 0 := nI_le0 (by omega) (by rw [h20]; decide)
        refine xi_iconst (v := 1) dX0_prune_31 (by decide) ?_
        refine xi_goto (tgt := 36) dX0_prune_32 rfl ?_
        refine zs dX0_prune_36 g73 s73 rfl (by omega) (Nat.le_of_ble_eq_true rfl) (by first | exact Or.inl rfl | exact Or.inr rfl) ?_
        refine xi_iinc (v := 1) dX0_prune_37 rfl (by decide) (Nat.le_of_ble_eq_true rfl) ?_
        refine xi_goto (tgt := 3) dX0_prune_40 rfl ?_
        refine xgo_pick [0, 1, 2, 3, 4, 5] rfl ?_
        rw [nI_1, setA_u]
        rw [if_pos e0] at q
        exact q
      · have e0 : j ≠ 0 := fun e => h20 (by rw [e]; rfl)
        refine xi_aload_n dX0_prune_23 rfl rfl ?_
        refine xi_iload dX0_prune_24 rfl ?_
        refine ia dX0_prune_26 hg hs rfl (by omega) (by omega) ?_
        refine xi_iload_n dX0_prune_27 rfl rfl ?_
        rw [setA_n _ _ (by omega)]
        refine xi_icmp_lt (tgt := 35) dX0_prune_28 rfl (fun h28 => ?_) (fun h28 => ?_)
        · refine xi_iconst (v := 0) dX0_prune_35 (by decide) ?_
          refine zs dX0_prune_36 g73 s73 rfl (by omega) (Nat.le_of_ble_eq_true rfl) (by first | exact Or.inl rfl | exact Or.inr rfl) ?_
          refine xi_iinc (v := 1) dX0_prune_37 rfl (by decide) (Nat.le_of_ble_eq_true rfl) ?_
          refine xi_goto (tgt := 3) dX0_prune_40 rfl ?_
          refine xgo_pick [0, 1, 2, 3, 4, 5] rfl ?_
          rw [nI_1, setA_u]
          rw [if_neg e0, if_pos h28] at q
          exact q
        · refine xi_iconst (v := 1) dX0_prune_31 (by decide) ?_
          refine xi_goto (tgt := 36) dX0_prune_32 rfl ?_
          refine zs dX0_prune_36 g73 s73 rfl (by omega) (Nat.le_of_ble_eq_true rfl) (by first | exact Or.inl rfl | exact Or.inr rfl) ?_
          refine xi_iinc (v := 1) dX0_prune_37 rfl (by decide) (Nat.le_of_ble_eq_true rfl) ?_
          refine xi_goto (tgt := 3) dX0_prune_40 rfl ?_
          refine xgo_pick [0, 1, 2, 3, 4, 5] rfl ?_
          rw [nI_1, setA_u]
          rw [if_neg e0, if_neg h28] at q
          exact q
    )
  have l0 := loop 0 (Nat.zero_le _)
  rw [show re0 (A kv) (A 73) th 0 = A 73 by funext i; simp [re0], setA_self] at l0
  refine xi_iconst (v := 0) dX0_prune_0 (by decide) ?_
  refine xi_istore dX0_prune_1 (Nat.le_of_ble_eq_true rfl) ?_
  refine xgo_pick [0, 1, 2, 3, 4, 5] rfl ?_
  exact l0

