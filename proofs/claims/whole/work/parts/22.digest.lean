/-! ComponentTree.digest -/
def dgN (A : xA) (n w : Nat) (h : Int64) : Int64 := mixV h (cntV A n w)
def dg0 (A : xA) (n : Nat) : Int64 := itr (dgN A n) 8 (mixV (mixV 1879 (if A 0 9 = 0 then 0 else 1)) (if A 0 10 = 0 then 0 else 1))
def dg2 (A : xA) (n m lf : Nat) : Int64 := itr (hlS (A 69)) lf (itr (htS A) m (itr (hpS (A 2) (A 3) (A 42)) n (dg0 A n)))
def dgA (A : xA) (pa : Nat → Nat) (m : Nat) : xA := prnA (prnA A 58 3 1 pa m) 63 4 3 pa m
def dg3 (A : xA) (pa : Nat → Nat) (n m lf : Nat) : Int64 := mixV (mixV (dg2 A n m lf) (lossV (A 39) (A 38) (prnA A 58 3 1 pa m 74) m)) (lossV (A 39) (A 38) (dgA A pa m 74) m)
def dgV (A : xA) (pa : Nat → Nat) (n m lf len : Nat) : Int64 := itr (hlS (A 34)) len (mixV (dg3 A pa n m lf) (nI len))
theorem p_digest {n m lf len : Nat} {pa : Nat → Nat} {A A1 : xA} {B B1 : xB} {D : xD} (hrf : does0 mX7_refresh [.ref 0] A B D (eqQ none A1 B1 D) nx) (hn : A1 1 0 * A1 1 1 = nI n) (hn64 : n ≤ 64) (hT : trOK A1 m pa) (hlf : A1 35 3 = nI lf) (hlf64 : lf ≤ 64) (hl0 : A1 33 1 = nI len) (hl72 : len ≤ 72) : does0 mX7_digest [.ref 0] A B D (eqQ (some (.long (dgV A1 pa n m lf len))) (dgA A1 pa m) B1 D) nx := by
  refine does_go (by decide) rfl (Nat.le_of_ble_eq_true rfl) rfl ?_
  generalize hR : dgV A1 pa n m lf len = R
  unfold dgV at hR
  have loop3 := up_ind (n := len) (P := fun j => ∀ q, q = itr (hlS (A1 34)) j (mixV (dg3 A1 pa n m lf) (nI len)) → go0 mX7_digest (eqQ (some (.long R)) (dgA A1 pa m) B1 D) nx 0 0 117 [(0, .ref 0), (1, .long q), (3, .int (nI j))] [] (dgA A1 pa m) B1 D) (fun j hj ih q hq => by
    refine xi_iload_n dX7_digest_117 rfl rfl ?_
    refine xi_aload_n dX7_digest_118 rfl rfl ?_
    refine xi_getfield3 dX7_digest_119 fX7_29 g0 r0_3 ?_
    refine xi_getfield0 dX7_digest_122 fX7_126 g33 ?_
    rw [show dgA A1 pa m 33 1 = nI len from hl0]
    refine xi_icmp_ge (tgt := 148) dX7_digest_125 rfl (fun h125 => ?_) (fun h125 => ?_)
    · have e : j = len := ge_eq hj (by omega) h125
      subst e
      refine xi_lload_n dX7_digest_148 rfl rfl ?_
      refine go_ret (r := some (.long _)) dX7_digest_149 (Nat.le_of_ble_eq_true rfl) (Nat.le_of_ble_eq_true rfl) ?_
      exact ⟨by rw [hq, hR], rfl, rfl, rfl⟩
    · have hl : j < len := nge_lt hj (by omega) h125
      refine xi_lload_n dX7_digest_128 rfl rfl ?_
      refine xi_aload_n dX7_digest_129 rfl rfl ?_
      refine xi_getfield3 dX7_digest_130 fX7_29 g0 r0_3 ?_
      refine xi_getfield3 dX7_digest_133 fX7_249 g33 r33_0 ?_
      refine xi_iload_n dX7_digest_136 rfl rfl ?_
      refine ia dX7_digest_137 g34 s34 rfl (by omega) (Nat.le_of_ble_eq_true rfl) ?_
      refine cS1 (av := [_, _]) dX7_digest_138 lX7_238 rfl ⟨rfl, rfl⟩ rfl ⟨(Nat.le_of_ble_eq_true rfl), (Nat.le_of_ble_eq_true rfl)⟩ ⟨(Nat.le_of_ble_eq_true rfl), (Nat.le_of_ble_eq_true rfl)⟩ (Nat.le_of_ble_eq_true rfl) (c_mixed) ?_
      refine xi_lstore_n dX7_digest_141 rfl (Nat.le_of_ble_eq_true rfl) ?_
      refine xi_iinc (v := 1) dX7_digest_142 rfl (by decide) (Nat.le_of_ble_eq_true rfl) ?_
      refine xi_goto (tgt := 117) dX7_digest_145 rfl ?_
      refine xgo_pick [0, 1, 3] rfl ?_
      rw [nI_1]
      exact ih hl _ (by rw [itr_s, ← hq]; rfl)
    )
  have hT2 : trOK (prnA A1 58 3 1 pa m) m pa := hT
  have loop := up_ind (n := 8) (P := fun j => ∀ q, q = itr (dgN A1 n) j (mixV (mixV 1879 (if A1 0 9 = 0 then 0 else 1)) (if A1 0 10 = 0 then 0 else 1)) → go0 mX7_digest (eqQ (some (.long R)) (dgA A1 pa m) B1 D) nx 0 0 44 [(0, .ref 0), (1, .long q), (3, .int (nI j))] [] A1 B1 D) (fun j hj ih q hq => by
    refine xi_iload_n dX7_digest_44 rfl rfl ?_
    refine xi_bipush (v := 8) dX7_digest_45 (by decide) ?_
    refine xi_icmp_ge (tgt := 66) dX7_digest_47 rfl (fun h47 => ?_) (fun h47 => ?_)
    · have e : j = 8 := ge_eq hj (by decide) h47
      subst e
      have hq : q = dg0 A1 n := hq
      subst hq
      refine xi_aload_n dX7_digest_66 rfl rfl ?_
      refine xi_lload_n dX7_digest_67 rfl rfl ?_
      refine cV1 (av := [_]) dX7_digest_68 lX7_242 rfl ⟨rfl, rfl⟩ rfl ⟨(Nat.le_of_ble_eq_true rfl), (Nat.le_of_ble_eq_true rfl)⟩ ⟨(Nat.le_of_ble_eq_true rfl), (Nat.le_of_ble_eq_true rfl)⟩ (Nat.le_of_ble_eq_true rfl) g0 rfl rfl (c_withPixels hn hn64) ?_
      refine xi_lstore_n dX7_digest_71 rfl (Nat.le_of_ble_eq_true rfl) ?_
      refine xi_aload_n dX7_digest_72 rfl rfl ?_
      refine xi_lload_n dX7_digest_73 rfl rfl ?_
      refine cV1 (av := [_]) dX7_digest_74 lX7_246 rfl ⟨rfl, rfl⟩ rfl ⟨(Nat.le_of_ble_eq_true rfl), (Nat.le_of_ble_eq_true rfl)⟩ ⟨(Nat.le_of_ble_eq_true rfl), (Nat.le_of_ble_eq_true rfl)⟩ (Nat.le_of_ble_eq_true rfl) g0 rfl rfl (c_withTree hT.1 hT.2.2.1 hlf hlf64) ?_
      refine xi_lstore_n dX7_digest_77 rfl (Nat.le_of_ble_eq_true rfl) ?_
      refine xi_lload_n dX7_digest_78 rfl rfl ?_
      refine xi_aload_n dX7_digest_79 rfl rfl ?_
      refine xi_iconst (v := 1) dX7_digest_80 (by decide) ?_
      refine xi_iconst (v := 3) dX7_digest_81 (by decide) ?_
      refine xi_iconst (v := 1) dX7_digest_82 (by decide) ?_
      refine cV1 (av := [_, _, _]) dX7_digest_83 lX7_205 rfl ⟨rfl, rfl⟩ rfl ⟨(Nat.le_of_ble_eq_true rfl), (Nat.le_of_ble_eq_true rfl)⟩ ⟨(Nat.le_of_ble_eq_true rfl), (Nat.le_of_ble_eq_true rfl)⟩ (Nat.le_of_ble_eq_true rfl) g0 rfl rfl (c_lossBy (a := 1) hT (by decide)) ?_
      refine cS1 (av := [_, _]) dX7_digest_86 lX7_238 rfl ⟨rfl, rfl⟩ rfl ⟨(Nat.le_of_ble_eq_true rfl), (Nat.le_of_ble_eq_true rfl)⟩ ⟨(Nat.le_of_ble_eq_true rfl), (Nat.le_of_ble_eq_true rfl)⟩ (Nat.le_of_ble_eq_true rfl) (c_mixed) ?_
      refine xi_lstore_n dX7_digest_89 rfl (Nat.le_of_ble_eq_true rfl) ?_
      refine xi_lload_n dX7_digest_90 rfl rfl ?_
      refine xi_aload_n dX7_digest_91 rfl rfl ?_
      refine xi_bipush (v := 6) dX7_digest_92 (by decide) ?_
      refine xi_iconst (v := 4) dX7_digest_94 (by decide) ?_
      refine xi_iconst (v := 3) dX7_digest_95 (by decide) ?_
      refine cV1 (av := [_, _, _]) dX7_digest_96 lX7_205 rfl ⟨rfl, rfl⟩ rfl ⟨(Nat.le_of_ble_eq_true rfl), (Nat.le_of_ble_eq_true rfl)⟩ ⟨(Nat.le_of_ble_eq_true rfl), (Nat.le_of_ble_eq_true rfl)⟩ (Nat.le_of_ble_eq_true rfl) g0 rfl rfl (c_lossBy (a := 6) hT2 (by decide)) ?_
      refine cS1 (av := [_, _]) dX7_digest_99 lX7_238 rfl ⟨rfl, rfl⟩ rfl ⟨(Nat.le_of_ble_eq_true rfl), (Nat.le_of_ble_eq_true rfl)⟩ ⟨(Nat.le_of_ble_eq_true rfl), (Nat.le_of_ble_eq_true rfl)⟩ (Nat.le_of_ble_eq_true rfl) (c_mixed) ?_
      refine xi_lstore_n dX7_digest_102 rfl (Nat.le_of_ble_eq_true rfl) ?_
      refine xi_lload_n dX7_digest_103 rfl rfl ?_
      refine xi_aload_n dX7_digest_104 rfl rfl ?_
      refine xi_getfield3 dX7_digest_105 fX7_29 g0 r0_3 ?_
      refine xi_getfield0 dX7_digest_108 fX7_126 g33 ?_
      rw [show prnA (prnA A1 58 3 1 pa m) 63 4 3 pa m 33 1 = nI len from hl0]
      refine cS1 (av := [_, _]) dX7_digest_111 lX7_238 rfl ⟨rfl, rfl⟩ rfl ⟨(Nat.le_of_ble_eq_true rfl), (Nat.le_of_ble_eq_true rfl)⟩ ⟨(Nat.le_of_ble_eq_true rfl), (Nat.le_of_ble_eq_true rfl)⟩ (Nat.le_of_ble_eq_true rfl) (c_mixed) ?_
      refine xi_lstore_n dX7_digest_114 rfl (Nat.le_of_ble_eq_true rfl) ?_
      refine xi_iconst (v := 0) dX7_digest_115 (by decide) ?_
      refine xi_istore_n dX7_digest_116 rfl (Nat.le_of_ble_eq_true rfl) ?_
      refine xgo_pick [0, 1, 3] rfl ?_
      exact loop3 0 (Nat.zero_le _) _ rfl
    · have hl : j < 8 := nge_lt hj (by decide) h47
      refine xi_lload_n dX7_digest_50 rfl rfl ?_
      refine xi_aload_n dX7_digest_51 rfl rfl ?_
      refine xi_iload_n dX7_digest_52 rfl rfl ?_
      refine cV1 (av := [_]) dX7_digest_53 lX7_142 rfl ⟨rfl, rfl⟩ rfl ⟨(Nat.le_of_ble_eq_true rfl), (Nat.le_of_ble_eq_true rfl)⟩ ⟨(Nat.le_of_ble_eq_true rfl), (Nat.le_of_ble_eq_true rfl)⟩ (Nat.le_of_ble_eq_true rfl) g0 rfl rfl (c_numOf hn hn64 hl) ?_
      refine cS1 (av := [_, _]) dX7_digest_56 lX7_238 rfl ⟨rfl, rfl⟩ rfl ⟨(Nat.le_of_ble_eq_true rfl), (Nat.le_of_ble_eq_true rfl)⟩ ⟨(Nat.le_of_ble_eq_true rfl), (Nat.le_of_ble_eq_true rfl)⟩ (Nat.le_of_ble_eq_true rfl) (c_mixed) ?_
      refine xi_lstore_n dX7_digest_59 rfl (Nat.le_of_ble_eq_true rfl) ?_
      refine xi_iinc (v := 1) dX7_digest_60 rfl (by decide) (Nat.le_of_ble_eq_true rfl) ?_
      refine xi_goto (tgt := 44) dX7_digest_63 rfl ?_
      refine xgo_pick [0, 1, 3] rfl ?_
      rw [nI_1]
      exact ih hl _ (by rw [itr_s, ← hq]; rfl)
    )
  have l0 := loop 0 (Nat.zero_le _) _ rfl
  refine xi_aload_n dX7_digest_0 rfl rfl ?_
  refine cV1 (av := []) dX7_digest_1 lX7_102 rfl ⟨rfl, rfl⟩ rfl ⟨(Nat.le_of_ble_eq_true rfl), (Nat.le_of_ble_eq_true rfl)⟩ ⟨(Nat.le_of_ble_eq_true rfl), (Nat.le_of_ble_eq_true rfl)⟩ (Nat.le_of_ble_eq_true rfl) g0 rfl rfl (hrf) ?_
  refine xi_ldc2_w dX7_digest_4 kX7_236 ?_
  refine xi_lstore_n dX7_digest_7 rfl (Nat.le_of_ble_eq_true rfl) ?_
  refine xi_lload_n dX7_digest_8 rfl rfl ?_
  refine xi_aload_n dX7_digest_9 rfl rfl ?_
  refine xi_getfield1 dX7_digest_10 fX7_61 g0 ?_
  refine xi_if_eq (tgt := 20) dX7_digest_13 rfl (fun h13 => ?_) (fun h13 => ?_)
  · refine xi_iconst (v := 0) dX7_digest_20 (by decide) ?_
    refine cS1 (av := [_, _]) dX7_digest_21 lX7_238 rfl ⟨rfl, rfl⟩ rfl ⟨(Nat.le_of_ble_eq_true rfl), (Nat.le_of_ble_eq_true rfl)⟩ ⟨(Nat.le_of_ble_eq_true rfl), (Nat.le_of_ble_eq_true rfl)⟩ (Nat.le_of_ble_eq_true rfl) (c_mixed) ?_
    refine xi_lstore_n dX7_digest_24 rfl (Nat.le_of_ble_eq_true rfl) ?_
    refine xi_lload_n dX7_digest_25 rfl rfl ?_
    refine xi_aload_n dX7_digest_26 rfl rfl ?_
    refine xi_getfield1 dX7_digest_27 fX7_65 g0 ?_
    refine xi_if_eq (tgt := 37) dX7_digest_30 rfl (fun h30 => ?_) (fun h30 => ?_)
    · refine xi_iconst (v := 0) dX7_digest_37 (by decide) ?_
      refine cS1 (av := [_, _]) dX7_digest_38 lX7_238 rfl ⟨rfl, rfl⟩ rfl ⟨(Nat.le_of_ble_eq_true rfl), (Nat.le_of_ble_eq_true rfl)⟩ ⟨(Nat.le_of_ble_eq_true rfl), (Nat.le_of_ble_eq_true rfl)⟩ (Nat.le_of_ble_eq_true rfl) (c_mixed) ?_
      refine xi_lstore_n dX7_digest_41 rfl (Nat.le_of_ble_eq_true rfl) ?_
      refine xi_iconst (v := 0) dX7_digest_42 (by decide) ?_
      refine xi_istore_n dX7_digest_43 rfl (Nat.le_of_ble_eq_true rfl) ?_
      refine xgo_pick [0, 1, 3] rfl ?_
      simp only [itr, h13, h30, if_true, if_false] at l0
      exact l0
    · refine xi_iconst (v := 1) dX7_digest_33 (by decide) ?_
      refine xi_goto (tgt := 38) dX7_digest_34 rfl ?_
      refine cS1 (av := [_, _]) dX7_digest_38 lX7_238 rfl ⟨rfl, rfl⟩ rfl ⟨(Nat.le_of_ble_eq_true rfl), (Nat.le_of_ble_eq_true rfl)⟩ ⟨(Nat.le_of_ble_eq_true rfl), (Nat.le_of_ble_eq_true rfl)⟩ (Nat.le_of_ble_eq_true rfl) (c_mixed) ?_
      refine xi_lstore_n dX7_digest_41 rfl (Nat.le_of_ble_eq_true rfl) ?_
      refine xi_iconst (v := 0) dX7_digest_42 (by decide) ?_
      refine xi_istore_n dX7_digest_43 rfl (Nat.le_of_ble_eq_true rfl) ?_
      refine xgo_pick [0, 1, 3] rfl ?_
      simp only [itr, h13, h30, if_true, if_false] at l0
      exact l0
  · refine xi_iconst (v := 1) dX7_digest_16 (by decide) ?_
    refine xi_goto (tgt := 21) dX7_digest_17 rfl ?_
    refine cS1 (av := [_, _]) dX7_digest_21 lX7_238 rfl ⟨rfl, rfl⟩ rfl ⟨(Nat.le_of_ble_eq_true rfl), (Nat.le_of_ble_eq_true rfl)⟩ ⟨(Nat.le_of_ble_eq_true rfl), (Nat.le_of_ble_eq_true rfl)⟩ (Nat.le_of_ble_eq_true rfl) (c_mixed) ?_
    refine xi_lstore_n dX7_digest_24 rfl (Nat.le_of_ble_eq_true rfl) ?_
    refine xi_lload_n dX7_digest_25 rfl rfl ?_
    refine xi_aload_n dX7_digest_26 rfl rfl ?_
    refine xi_getfield1 dX7_digest_27 fX7_65 g0 ?_
    refine xi_if_eq (tgt := 37) dX7_digest_30 rfl (fun h30 => ?_) (fun h30 => ?_)
    · refine xi_iconst (v := 0) dX7_digest_37 (by decide) ?_
      refine cS1 (av := [_, _]) dX7_digest_38 lX7_238 rfl ⟨rfl, rfl⟩ rfl ⟨(Nat.le_of_ble_eq_true rfl), (Nat.le_of_ble_eq_true rfl)⟩ ⟨(Nat.le_of_ble_eq_true rfl), (Nat.le_of_ble_eq_true rfl)⟩ (Nat.le_of_ble_eq_true rfl) (c_mixed) ?_
      refine xi_lstore_n dX7_digest_41 rfl (Nat.le_of_ble_eq_true rfl) ?_
      refine xi_iconst (v := 0) dX7_digest_42 (by decide) ?_
      refine xi_istore_n dX7_digest_43 rfl (Nat.le_of_ble_eq_true rfl) ?_
      refine xgo_pick [0, 1, 3] rfl ?_
      simp only [itr, h13, h30, if_true, if_false] at l0
      exact l0
    · refine xi_iconst (v := 1) dX7_digest_33 (by decide) ?_
      refine xi_goto (tgt := 38) dX7_digest_34 rfl ?_
      refine cS1 (av := [_, _]) dX7_digest_38 lX7_238 rfl ⟨rfl, rfl⟩ rfl ⟨(Nat.le_of_ble_eq_true rfl), (Nat.le_of_ble_eq_true rfl)⟩ ⟨(Nat.le_of_ble_eq_true rfl), (Nat.le_of_ble_eq_true rfl)⟩ (Nat.le_of_ble_eq_true rfl) (c_mixed) ?_
      refine xi_lstore_n dX7_digest_41 rfl (Nat.le_of_ble_eq_true rfl) ?_
      refine xi_iconst (v := 0) dX7_digest_42 (by decide) ?_
      refine xi_istore_n dX7_digest_43 rfl (Nat.le_of_ble_eq_true rfl) ?_
      refine xgo_pick [0, 1, 3] rfl ?_
      simp only [itr, h13, h30, if_true, if_false] at l0
      exact l0

