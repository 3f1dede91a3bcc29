/-! the model: filters -/
def fiV (a t u : Int32) : Int32 := if (¬ a = 1 ∧ wiV a 5 11 = 0) then 0 else if wiV t 0 999 = 0 then 0 else if wiV u 0 3 = 0 then 0 else 1
theorem fi_ne (a t u : Int32) : ¬ fiV a t u = 0 ↔ fOK a t u := by
  have h1 : (¬ a = 1 ∧ wiV a 5 11 = 0) ↔ isFAV a = 0 := by
    unfold isFAV wiV
    by_cases e1 : a = 1
    · simp [e1]
    · by_cases e2 : a < 5
      · simp [e1, e2]
      · by_cases e3 : 11 < a <;> simp [e1, e2, e3]
  unfold fiV fOK
  rw [← wi_ne, ← wi_ne, ← h1]
  by_cases e1 : (¬ a = 1 ∧ wiV a 5 11 = 0)
  · simp [e1]
  · rw [if_neg e1]
    by_cases e2 : wiV t 0 999 = 0
    · simp [e2]
    · by_cases e3 : wiV u 0 3 = 0
      · simp [e3]
      · rw [if_neg e2, if_neg e3]; exact ⟨fun _ => ⟨e1, e2, e3⟩, fun _ => by decide⟩
theorem fi_eq (a t u : Int32) : fiV a t u = 0 ↔ ¬ fOK a t u := nn_ (fi_ne a t u)
theorem m_isFilter {a t u : Int32} {A : xA} {B : xB} {D : xD} : does0 mX8_isFilter [.int a, .int t, .int u] A B D (eqQ (some (.int (fiV a t u))) A B D) nx := by
  refine does_go (by decide) rfl (Nat.le_of_ble_eq_true rfl) rfl ?_
  refine xi_iload_n dX8_isFilter_0 rfl rfl ?_
  refine xi_iconst (v := 1) dX8_isFilter_1 (by decide) ?_
  refine xi_icmp_eq (tgt := 15) dX8_isFilter_2 rfl (fun h2 => ?_) (fun h2 => ?_)
  · have e1 : ¬ (¬ a = 1 ∧ wiV a 5 11 = 0) := fun z => z.1 h2
    refine xi_iload_n dX8_isFilter_15 rfl rfl ?_
    refine xi_iconst (v := 0) dX8_isFilter_16 (by decide) ?_
    refine xi_sipush (v := 999) dX8_isFilter_17 (by decide) ?_
    refine cS1 (av := [_, _, _]) dX8_isFilter_20 lX8_80 rfl ⟨rfl, rfl⟩ rfl ⟨(Nat.le_of_ble_eq_true rfl), (Nat.le_of_ble_eq_true rfl)⟩ ⟨(Nat.le_of_ble_eq_true rfl), (Nat.le_of_ble_eq_true rfl)⟩ (Nat.le_of_ble_eq_true rfl) (m_within) ?_
    refine xi_if_eq (tgt := 39) dX8_isFilter_23 rfl (fun h23 => ?_) (fun h23 => ?_)
    · refine xi_iconst (v := 0) dX8_isFilter_39 (by decide) ?_
      refine go_ret (r := some (.int _)) ⟨dX8_isFilter_40, (by first | exact Or.inl rfl | exact Or.inr rfl)⟩ (Nat.le_of_ble_eq_true rfl) (Nat.le_of_ble_eq_true rfl) ?_
      exact ⟨by unfold fiV; rw [if_neg e1, if_pos h23], rfl, rfl, rfl⟩
    · refine xi_iload_n dX8_isFilter_26 rfl rfl ?_
      refine xi_iconst (v := 0) dX8_isFilter_27 (by decide) ?_
      refine xi_iconst (v := 3) dX8_isFilter_28 (by decide) ?_
      refine cS1 (av := [_, _, _]) dX8_isFilter_29 lX8_80 rfl ⟨rfl, rfl⟩ rfl ⟨(Nat.le_of_ble_eq_true rfl), (Nat.le_of_ble_eq_true rfl)⟩ ⟨(Nat.le_of_ble_eq_true rfl), (Nat.le_of_ble_eq_true rfl)⟩ (Nat.le_of_ble_eq_true rfl) (m_within) ?_
      refine xi_if_eq (tgt := 39) dX8_isFilter_32 rfl (fun h32 => ?_) (fun h32 => ?_)
      · refine xi_iconst (v := 0) dX8_isFilter_39 (by decide) ?_
        refine go_ret (r := some (.int _)) ⟨dX8_isFilter_40, (by first | exact Or.inl rfl | exact Or.inr rfl)⟩ (Nat.le_of_ble_eq_true rfl) (Nat.le_of_ble_eq_true rfl) ?_
        exact ⟨by unfold fiV; rw [if_neg e1, if_neg h23, if_pos h32], rfl, rfl, rfl⟩
      · refine xi_iconst (v := 1) dX8_isFilter_35 (by decide) ?_
        refine xi_goto (tgt := 40) dX8_isFilter_36 rfl ?_
        refine go_ret (r := some (.int _)) ⟨dX8_isFilter_40, (by first | exact Or.inl rfl | exact Or.inr rfl)⟩ (Nat.le_of_ble_eq_true rfl) (Nat.le_of_ble_eq_true rfl) ?_
        exact ⟨by unfold fiV; rw [if_neg e1, if_neg h23, if_neg h32], rfl, rfl, rfl⟩
  · refine xi_iload_n dX8_isFilter_5 rfl rfl ?_
    refine xi_iconst (v := 5) dX8_isFilter_6 (by decide) ?_
    refine xi_bipush (v := 11) dX8_isFilter_7 (by decide) ?_
    refine cS1 (av := [_, _, _]) dX8_isFilter_9 lX8_80 rfl ⟨rfl, rfl⟩ rfl ⟨(Nat.le_of_ble_eq_true rfl), (Nat.le_of_ble_eq_true rfl)⟩ ⟨(Nat.le_of_ble_eq_true rfl), (Nat.le_of_ble_eq_true rfl)⟩ (Nat.le_of_ble_eq_true rfl) (m_within) ?_
    refine xi_if_eq (tgt := 39) dX8_isFilter_12 rfl (fun h12 => ?_) (fun h12 => ?_)
    · have e1 : ¬ a = 1 ∧ wiV a 5 11 = 0 := ⟨h2, h12⟩
      refine xi_iconst (v := 0) dX8_isFilter_39 (by decide) ?_
      refine go_ret (r := some (.int _)) ⟨dX8_isFilter_40, (by first | exact Or.inl rfl | exact Or.inr rfl)⟩ (Nat.le_of_ble_eq_true rfl) (Nat.le_of_ble_eq_true rfl) ?_
      exact ⟨by unfold fiV; rw [if_pos e1], rfl, rfl, rfl⟩
    · have e1 : ¬ (¬ a = 1 ∧ wiV a 5 11 = 0) := fun z => h12 z.2
      refine xi_iload_n dX8_isFilter_15 rfl rfl ?_
      refine xi_iconst (v := 0) dX8_isFilter_16 (by decide) ?_
      refine xi_sipush (v := 999) dX8_isFilter_17 (by decide) ?_
      refine cS1 (av := [_, _, _]) dX8_isFilter_20 lX8_80 rfl ⟨rfl, rfl⟩ rfl ⟨(Nat.le_of_ble_eq_true rfl), (Nat.le_of_ble_eq_true rfl)⟩ ⟨(Nat.le_of_ble_eq_true rfl), (Nat.le_of_ble_eq_true rfl)⟩ (Nat.le_of_ble_eq_true rfl) (m_within) ?_
      refine xi_if_eq (tgt := 39) dX8_isFilter_23 rfl (fun h23 => ?_) (fun h23 => ?_)
      · refine xi_iconst (v := 0) dX8_isFilter_39 (by decide) ?_
        refine go_ret (r := some (.int _)) ⟨dX8_isFilter_40, (by first | exact Or.inl rfl | exact Or.inr rfl)⟩ (Nat.le_of_ble_eq_true rfl) (Nat.le_of_ble_eq_true rfl) ?_
        exact ⟨by unfold fiV; rw [if_neg e1, if_pos h23], rfl, rfl, rfl⟩
      · refine xi_iload_n dX8_isFilter_26 rfl rfl ?_
        refine xi_iconst (v := 0) dX8_isFilter_27 (by decide) ?_
        refine xi_iconst (v := 3) dX8_isFilter_28 (by decide) ?_
        refine cS1 (av := [_, _, _]) dX8_isFilter_29 lX8_80 rfl ⟨rfl, rfl⟩ rfl ⟨(Nat.le_of_ble_eq_true rfl), (Nat.le_of_ble_eq_true rfl)⟩ ⟨(Nat.le_of_ble_eq_true rfl), (Nat.le_of_ble_eq_true rfl)⟩ (Nat.le_of_ble_eq_true rfl) (m_within) ?_
        refine xi_if_eq (tgt := 39) dX8_isFilter_32 rfl (fun h32 => ?_) (fun h32 => ?_)
        · refine xi_iconst (v := 0) dX8_isFilter_39 (by decide) ?_
          refine go_ret (r := some (.int _)) ⟨dX8_isFilter_40, (by first | exact Or.inl rfl | exact Or.inr rfl)⟩ (Nat.le_of_ble_eq_true rfl) (Nat.le_of_ble_eq_true rfl) ?_
          exact ⟨by unfold fiV; rw [if_neg e1, if_neg h23, if_pos h32], rfl, rfl, rfl⟩
        · refine xi_iconst (v := 1) dX8_isFilter_35 (by decide) ?_
          refine xi_goto (tgt := 40) dX8_isFilter_36 rfl ?_
          refine go_ret (r := some (.int _)) ⟨dX8_isFilter_40, (by first | exact Or.inl rfl | exact Or.inr rfl)⟩ (Nat.le_of_ble_eq_true rfl) (Nat.le_of_ble_eq_true rfl) ?_
          exact ⟨by unfold fiV; rw [if_neg e1, if_neg h23, if_neg h32], rfl, rfl, rfl⟩
/-- the values of all nodes -/
def vaM (A : xA) (B : xB) (c r n m w k : Nat) (j : Nat) : Int32 := if j < k then atV A B c r n m j w else A 91 j
theorem atV_91 (A : xA) (B : xB) (f : Nat → Int32) (c r n m v w : Nat) : atV (setA A 91 f) B c r n m v w = atV A B c r n m v w := by unfold atV; split <;> rfl
theorem m_layValues {c r n m w : Nat} (hw : w < 12) {A A1 : xA} {B B1 : xB} {D : xD} (hlt : does0 mX8_layTree [.ref 76] A B D (eqQ none A1 B1 D) nx) (h : mG A1 c r n) (hm : A1 76 19 = nI m) (hm64 : m ≤ 64) : does0 mX8_layValues [.ref 76, .int (nI w)] A B D (eqQ none (setA A1 91 (vaM A1 B1 c r n m w m)) B1 D) nx := by
  refine does_go (by decide) rfl (Nat.le_of_ble_eq_true rfl) rfl ?_
  have loop := up_ind (n := m) (P := fun j => go0 mX8_layValues (eqQ none (setA A1 91 (vaM A1 B1 c r n m w m)) B1 D) nx 0 0 6 [(0, .ref 76), (1, .int (nI w)), (2, .int (nI j))] [] (setA A1 91 (vaM A1 B1 c r n m w j)) B1 D) (fun j hj ih => by
    refine xi_iload_n dX8_layValues_6 rfl rfl ?_
    refine xi_aload_n dX8_layValues_7 rfl rfl ?_
    refine xi_getfield0 dX8_layValues_8 fX8_116 g76 ?_
    rw [show setA A1 91 (vaM A1 B1 c r n m w j) 76 19 = nI m from hm]
    refine xi_icmp_ge (tgt := 32) dX8_layValues_11 rfl (fun h11 => ?_) (fun h11 => ?_)
    · have e : j = m := ge_eq hj (by omega) h11
      subst e
      refine go_ret (r := none) dX8_layValues_32 (Nat.le_of_ble_eq_true rfl) (Nat.le_of_ble_eq_true rfl) ?_
      exact ⟨rfl, rfl, rfl, rfl⟩
    · have hl : j < m := nge_lt hj (by omega) h11
      refine xi_aload_n dX8_layValues_14 rfl rfl ?_
      refine xi_getfield3 dX8_layValues_15 fX8_60 g76 r76_28 ?_
      refine xi_iload_n dX8_layValues_18 rfl rfl ?_
      refine xi_aload_n dX8_layValues_19 rfl rfl ?_
      refine xi_iload_n dX8_layValues_20 rfl rfl ?_
      refine xi_iload_n dX8_layValues_21 rfl rfl ?_
      refine cV1 (av := [_, _]) dX8_layValues_22 lX8_250 rfl ⟨rfl, rfl⟩ rfl ⟨(Nat.le_of_ble_eq_true rfl), (Nat.le_of_ble_eq_true rfl)⟩ ⟨(Nat.le_of_ble_eq_true rfl), (Nat.le_of_ble_eq_true rfl)⟩ (Nat.le_of_ble_eq_true rfl) g76 rfl rfl (m_attributeOf (A := setA A1 91 (vaM A1 B1 c r n m w j)) hl hw h hm hm64) ?_
      rw [atV_91]
      refine is dX8_layValues_25 g91 s91 rfl (by omega) (Nat.le_of_ble_eq_true rfl) ?_
      refine xi_iinc (v := 1) dX8_layValues_26 rfl (by decide) (Nat.le_of_ble_eq_true rfl) ?_
      refine xi_goto (tgt := 6) dX8_layValues_29 rfl ?_
      refine xgo_pick [0, 1, 2] rfl ?_
      rw [nI_1, setA_u]
      have q := ih hl
      rw [show vaM A1 B1 c r n m w (j + 1) = upd (vaM A1 B1 c r n m w j) j (atV A1 B1 c r n m j w) by funext i; unfold vaM upd; grind] at q
      exact q
    )
  refine xi_aload_n dX8_layValues_0 rfl rfl ?_
  refine cV1 (av := []) dX8_layValues_1 lX8_113 rfl ⟨rfl, rfl⟩ rfl ⟨(Nat.le_of_ble_eq_true rfl), (Nat.le_of_ble_eq_true rfl)⟩ ⟨(Nat.le_of_ble_eq_true rfl), (Nat.le_of_ble_eq_true rfl)⟩ (Nat.le_of_ble_eq_true rfl) g76 rfl rfl (hlt) ?_
  refine xi_iconst (v := 0) dX8_layValues_4 (by decide) ?_
  refine xi_istore_n dX8_layValues_5 rfl (Nat.le_of_ble_eq_true rfl) ?_
  refine xgo_pick [0, 1, 2] rfl ?_
  have l0 := loop 0 (Nat.zero_le _)
  rw [show vaM A1 B1 c r n m w 0 = A1 91 by funext i; simp [vaM], setA_self] at l0
  exact l0
def rm1 (va : Nat → Int32) (se : Nat → Int64) (th u : Int32) (v k : Nat) (b : Int32) : Int32 := if u = 1 then (if blV se v k = 0 then b else if b = 0 then 0 else if va k < th then 0 else 1) else b
def rm2 (va : Nat → Int32) (se : Nat → Int64) (th u : Int32) (v k : Nat) (b : Int32) : Int32 := if u = 2 then (if blV se k v = 0 then b else if b = 0 then (if va k < th then 0 else 1) else 1) else b
def rmS (va : Nat → Int32) (se : Nat → Int64) (th u : Int32) (v i : Nat) (b : Int32) : Int32 := rm2 va se th u v (i + 1) (rm1 va se th u v (i + 1) b)
def rmV (va : Nat → Int32) (se : Nat → Int64) (th u : Int32) (m v : Nat) : Int32 := if itr (rmS va se th u v) (m - 1) (if va v < th then 0 else 1) = 0 then (if v = 0 then 1 else 0) else 1
theorem rm01 (va : Nat → Int32) (se : Nat → Int64) (th u : Int32) (m v : Nat) : rmV va se th u m v = 0 ∨ rmV va se th u m v = 1 := by
  unfold rmV; (repeat' split) <;> first | exact Or.inl rfl | exact Or.inr rfl
theorem m_remainsBy {m v : Nat} {th u : Int32} (hv : v < m) {A : xA} {B : xB} {D : xD} (hm : A 76 19 = nI m) (hm64 : m ≤ 64) : does0 mX8_remainsBy [.ref 76, .int (nI v), .int th, .int u] A B D (eqQ (some (.int (rmV (A 91) (B 84) th u m v))) A B D) nx := by
  refine does_go (by decide) rfl (Nat.le_of_ble_eq_true rfl) rfl ?_
  obtain ⟨M, rfl⟩ : ∃ M, m = M + 1 := ⟨m - 1, by omega⟩
  have loop := up_ind (n := M) (P := fun i => ∀ q, q = itr (rmS (A 91) (B 84) th u v) i (if A 91 v < th then 0 else 1) → go0 mX8_remainsBy (eqQ (some (.int (rmV (A 91) (B 84) th u (M + 1) v))) A B D) nx 0 0 20 [(0, .ref 76), (1, .int (nI v)), (2, .int th), (3, .int u), (4, .int q), (5, .int (nI (i + 1)))] [] A B D) (fun i hi ih q hq => by
    have K2 : i < M → ∀ b, b = rm1 (A 91) (B 84) th u v (i + 1) q → go0 mX8_remainsBy (eqQ (some (.int (rmV (A 91) (B 84) th u (M + 1) v))) A B D) nx 0 0 70 [(0, .ref 76), (1, .int (nI v)), (2, .int th), (3, .int u), (5, .int (nI (i + 1)))] [.int b] A B D := by
      intro hl b hb
      have ih1 := ih hl
      rw [itr_s, ← hq] at ih1
      unfold rmS at ih1
      rw [← hb] at ih1
      unfold rm2 at ih1
      refine xi_istore dX8_remainsBy_70 (Nat.le_of_ble_eq_true rfl) ?_
      refine xi_iload_n dX8_remainsBy_72 rfl rfl ?_
      refine xi_iconst (v := 2) dX8_remainsBy_73 (by decide) ?_
      refine xi_icmpne (tgt := 111) dX8_remainsBy_74 rfl (fun h74 => ?_) (fun h74 => ?_)
      · refine xi_iload dX8_remainsBy_111 rfl ?_
        refine xi_istore dX8_remainsBy_113 (Nat.le_of_ble_eq_true rfl) ?_
        refine xi_iinc (v := 1) dX8_remainsBy_115 rfl (by decide) (Nat.le_of_ble_eq_true rfl) ?_
        refine xi_goto (tgt := 20) dX8_remainsBy_118 rfl ?_
        refine xgo_pick [0, 1, 2, 3, 4, 5] rfl ?_
        rw [nI_1]
        exact ih1 _ (by rw [if_neg h74])
      · refine xi_aload_n dX8_remainsBy_77 rfl rfl ?_
        refine xi_iload dX8_remainsBy_78 rfl ?_
        refine xi_iload_n dX8_remainsBy_80 rfl rfl ?_
        refine cV1 (av := [_, _]) dX8_remainsBy_81 lX8_170 rfl ⟨rfl, rfl⟩ rfl ⟨(Nat.le_of_ble_eq_true rfl), (Nat.le_of_ble_eq_true rfl)⟩ ⟨(Nat.le_of_ble_eq_true rfl), (Nat.le_of_ble_eq_true rfl)⟩ (Nat.le_of_ble_eq_true rfl) g76 rfl rfl (m_isBelow (by omega) (by omega)) ?_
        refine xi_if_eq (tgt := 111) dX8_remainsBy_84 rfl (fun h84 => ?_) (fun h84 => ?_)
        · refine xi_iload dX8_remainsBy_111 rfl ?_
          refine xi_istore dX8_remainsBy_113 (Nat.le_of_ble_eq_true rfl) ?_
          refine xi_iinc (v := 1) dX8_remainsBy_115 rfl (by decide) (Nat.le_of_ble_eq_true rfl) ?_
          refine xi_goto (tgt := 20) dX8_remainsBy_118 rfl ?_
          refine xgo_pick [0, 1, 2, 3, 4, 5] rfl ?_
          rw [nI_1]
          exact ih1 _ (by rw [if_pos h74, if_pos h84])
        · refine xi_iload dX8_remainsBy_87 rfl ?_
          refine xi_ifne (tgt := 103) dX8_remainsBy_89 rfl (fun h89 => ?_) (fun h89 => ?_)
          · refine xi_iconst (v := 1) dX8_remainsBy_103 (by decide) ?_
            refine xi_goto (tgt := 113) dX8_remainsBy_104 rfl ?_
            refine xi_istore dX8_remainsBy_113 (Nat.le_of_ble_eq_true rfl) ?_
            refine xi_iinc (v := 1) dX8_remainsBy_115 rfl (by decide) (Nat.le_of_ble_eq_true rfl) ?_
            refine xi_goto (tgt := 20) dX8_remainsBy_118 rfl ?_
            refine xgo_pick [0, 1, 2, 3, 4, 5] rfl ?_
            rw [nI_1]
            exact ih1 _ (by rw [if_pos h74, if_neg h84, if_neg h89])
          · refine xi_aload_n dX8_remainsBy_92 rfl rfl ?_
            refine xi_getfield3 dX8_remainsBy_93 fX8_60 g76 r76_28 ?_
            refine xi_iload dX8_remainsBy_96 rfl ?_
            refine ia dX8_remainsBy_98 g91 s91 rfl (by omega) (Nat.le_of_ble_eq_true rfl) ?_
            refine xi_iload_n dX8_remainsBy_99 rfl rfl ?_
            refine xi_icmp_lt (tgt := 107) dX8_remainsBy_100 rfl (fun h100 => ?_) (fun h100 => ?_)
            · refine xi_iconst (v := 0) dX8_remainsBy_107 (by decide) ?_
              refine xi_goto (tgt := 113) dX8_remainsBy_108 rfl ?_
              refine xi_istore dX8_remainsBy_113 (Nat.le_of_ble_eq_true rfl) ?_
              refine xi_iinc (v := 1) dX8_remainsBy_115 rfl (by decide) (Nat.le_of_ble_eq_true rfl) ?_
              refine xi_goto (tgt := 20) dX8_remainsBy_118 rfl ?_
              refine xgo_pick [0, 1, 2, 3, 4, 5] rfl ?_
              rw [nI_1]
              exact ih1 _ (by rw [if_pos h74, if_neg h84, if_pos h89, if_pos h100])
            · refine xi_iconst (v := 1) dX8_remainsBy_103 (by decide) ?_
              refine xi_goto (tgt := 113) dX8_remainsBy_104 rfl ?_
              refine xi_istore dX8_remainsBy_113 (Nat.le_of_ble_eq_true rfl) ?_
              refine xi_iinc (v := 1) dX8_remainsBy_115 rfl (by decide) (Nat.le_of_ble_eq_true rfl) ?_
              refine xi_goto (tgt := 20) dX8_remainsBy_118 rfl ?_
              refine xgo_pick [0, 1, 2, 3, 4, 5] rfl ?_
              rw [nI_1]
              exact ih1 _ (by rw [if_pos h74, if_neg h84, if_pos h89, if_neg h100])
    refine xi_iload dX8_remainsBy_20 rfl ?_
    refine xi_aload_n dX8_remainsBy_22 rfl rfl ?_
    refine xi_getfield0 dX8_remainsBy_23 fX8_116 g76 ?_
    rw [hm]
    refine xi_icmp_ge (tgt := 121) dX8_remainsBy_26 rfl (fun h26 => ?_) (fun h26 => ?_)
    · have e : i = M := vge hi (by omega) h26
      subst e
      refine xi_iload dX8_remainsBy_121 rfl ?_
      refine xi_ifne (tgt := 130) dX8_remainsBy_123 rfl (fun h123 => ?_) (fun h123 => ?_)
      · refine xi_iconst (v := 1) dX8_remainsBy_130 (by decide) ?_
        refine xi_goto (tgt := 135) dX8_remainsBy_131 rfl ?_
        refine go_ret (r := some (.int _)) ⟨dX8_remainsBy_135, (by first | exact Or.inl rfl | exact Or.inr rfl)⟩ (Nat.le_of_ble_eq_true rfl) (Nat.le_of_ble_eq_true rfl) ?_
        exact ⟨by unfold rmV; rw [show i + 1 - 1 = i from rfl, ← hq, if_neg h123], rfl, rfl, rfl⟩
      · refine xi_iload_n dX8_remainsBy_126 rfl rfl ?_
        refine xi_ifne (tgt := 134) dX8_remainsBy_127 rfl (fun h127 => ?_) (fun h127 => ?_)
        · refine xi_iconst (v := 0) dX8_remainsBy_134 (by decide) ?_
          refine go_ret (r := some (.int _)) ⟨dX8_remainsBy_135, (by first | exact Or.inl rfl | exact Or.inr rfl)⟩ (Nat.le_of_ble_eq_true rfl) (Nat.le_of_ble_eq_true rfl) ?_
          exact ⟨by unfold rmV; rw [show i + 1 - 1 = i from rfl, ← hq, if_pos h123, if_neg (fun z => h127 (by rw [z]; rfl))], rfl, rfl, rfl⟩
        · have e0 : ¬ v = 0 ∨ v = 0 := Classical.em _ |>.symm
          refine xi_iconst (v := 1) dX8_remainsBy_130 (by decide) ?_
          refine xi_goto (tgt := 135) dX8_remainsBy_131 rfl ?_
          refine go_ret (r := some (.int _)) ⟨dX8_remainsBy_135, (by first | exact Or.inl rfl | exact Or.inr rfl)⟩ (Nat.le_of_ble_eq_true rfl) (Nat.le_of_ble_eq_true rfl) ?_
          exact ⟨by unfold rmV; rw [show i + 1 - 1 = i from rfl, ← hq, if_pos h123, if_pos ((nI_eq (b := 0) (by omega) (by decide)).mp h127)], rfl, rfl, rfl⟩
    · have hl : i < M := vnge hi (by omega) h26
      refine xi_iload_n dX8_remainsBy_29 rfl rfl ?_
      refine xi_iconst (v := 1) dX8_remainsBy_30 (by decide) ?_
      refine xi_icmpne (tgt := 68) dX8_remainsBy_31 rfl (fun h31 => ?_) (fun h31 => ?_)
      · refine xi_iload dX8_remainsBy_68 rfl ?_
        refine xgo_pick [0, 1, 2, 3, 5] rfl ?_
        exact K2 hl _ (by unfold rm1; rw [if_neg h31])
      · refine xi_aload_n dX8_remainsBy_34 rfl rfl ?_
        refine xi_iload_n dX8_remainsBy_35 rfl rfl ?_
        refine xi_iload dX8_remainsBy_36 rfl ?_
        refine cV1 (av := [_, _]) dX8_remainsBy_38 lX8_170 rfl ⟨rfl, rfl⟩ rfl ⟨(Nat.le_of_ble_eq_true rfl), (Nat.le_of_ble_eq_true rfl)⟩ ⟨(Nat.le_of_ble_eq_true rfl), (Nat.le_of_ble_eq_true rfl)⟩ (Nat.le_of_ble_eq_true rfl) g76 rfl rfl (m_isBelow (by omega) (by omega)) ?_
        refine xi_if_eq (tgt := 68) dX8_remainsBy_41 rfl (fun h41 => ?_) (fun h41 => ?_)
        · refine xi_iload dX8_remainsBy_68 rfl ?_
          refine xgo_pick [0, 1, 2, 3, 5] rfl ?_
          exact K2 hl _ (by unfold rm1; rw [if_pos h31, if_pos h41])
        · refine xi_iload dX8_remainsBy_44 rfl ?_
          refine xi_if_eq (tgt := 64) dX8_remainsBy_46 rfl (fun h46 => ?_) (fun h46 => ?_)
          · refine xi_iconst (v := 0) dX8_remainsBy_64 (by decide) ?_
            refine xi_goto (tgt := 70) dX8_remainsBy_65 rfl ?_
            refine xgo_pick [0, 1, 2, 3, 5] rfl ?_
            exact K2 hl _ (by unfold rm1; rw [if_pos h31, if_neg h41, if_pos h46])
          · refine xi_aload_n dX8_remainsBy_49 rfl rfl ?_
            refine xi_getfield3 dX8_remainsBy_50 fX8_60 g76 r76_28 ?_
            refine xi_iload dX8_remainsBy_53 rfl ?_
            refine ia dX8_remainsBy_55 g91 s91 rfl (by omega) (Nat.le_of_ble_eq_true rfl) ?_
            refine xi_iload_n dX8_remainsBy_56 rfl rfl ?_
            refine xi_icmp_lt (tgt := 64) dX8_remainsBy_57 rfl (fun h57 => ?_) (fun h57 => ?_)
            · refine xi_iconst (v := 0) dX8_remainsBy_64 (by decide) ?_
              refine xi_goto (tgt := 70) dX8_remainsBy_65 rfl ?_
              refine xgo_pick [0, 1, 2, 3, 5] rfl ?_
              exact K2 hl _ (by unfold rm1; rw [if_pos h31, if_neg h41, if_neg h46, if_pos h57])
            · refine xi_iconst (v := 1) dX8_remainsBy_60 (by decide) ?_
              refine xi_goto (tgt := 70) dX8_remainsBy_61 rfl ?_
              refine xgo_pick [0, 1, 2, 3, 5] rfl ?_
              exact K2 hl _ (by unfold rm1; rw [if_pos h31, if_neg h41, if_neg h46, if_neg h57])
    )
  have l0 := loop 0 (Nat.zero_le _) _ rfl
  rw [show itr (rmS (A 91) (B 84) th u v) 0 (if A 91 v < th then (0 : Int32) else 1) = (if A 91 v < th then 0 else 1) from rfl] at l0
  refine xi_aload_n dX8_remainsBy_0 rfl rfl ?_
  refine xi_getfield3 dX8_remainsBy_1 fX8_60 g76 r76_28 ?_
  refine xi_iload_n dX8_remainsBy_4 rfl rfl ?_
  refine ia dX8_remainsBy_5 g91 s91 rfl (by omega) (Nat.le_of_ble_eq_true rfl) ?_
  refine xi_iload_n dX8_remainsBy_6 rfl rfl ?_
  refine xi_icmp_lt (tgt := 14) dX8_remainsBy_7 rfl (fun h7 => ?_) (fun h7 => ?_)
  · refine xi_iconst (v := 0) dX8_remainsBy_14 (by decide) ?_
    refine xi_istore dX8_remainsBy_15 (Nat.le_of_ble_eq_true rfl) ?_
    refine xi_iconst (v := 1) dX8_remainsBy_17 (by decide) ?_
    refine xi_istore dX8_remainsBy_18 (Nat.le_of_ble_eq_true rfl) ?_
    refine xgo_pick [0, 1, 2, 3, 4, 5] rfl ?_
    rw [if_pos h7] at l0
    exact l0
  · refine xi_iconst (v := 1) dX8_remainsBy_10 (by decide) ?_
    refine xi_goto (tgt := 15) dX8_remainsBy_11 rfl ?_
    refine xi_istore dX8_remainsBy_15 (Nat.le_of_ble_eq_true rfl) ?_
    refine xi_iconst (v := 1) dX8_remainsBy_17 (by decide) ?_
    refine xi_istore dX8_remainsBy_18 (Nat.le_of_ble_eq_true rfl) ?_
    refine xgo_pick [0, 1, 2, 3, 4, 5] rfl ?_
    rw [if_neg h7] at l0
    exact l0
def reM (va old : Nat → Int32) (se : Nat → Int64) (th u : Int32) (m k : Nat) (j : Nat) : Int32 := if j < k then rmV va se th u m j else old j
theorem m_layRemains {m : Nat} {th u : Int32} {A : xA} {B : xB} {D : xD} (hm : A 76 19 = nI m) (hm64 : m ≤ 64) : does0 mX8_layRemains [.ref 76, .int th, .int u] A B D (eqQ none (setA A 92 (reM (A 91) (A 92) (B 84) th u m m)) B D) nx := by
  refine does_go (by decide) rfl (Nat.le_of_ble_eq_true rfl) rfl ?_
  have loop := up_ind (n := m) (P := fun j => go0 mX8_layRemains (eqQ none (setA A 92 (reM (A 91) (A 92) (B 84) th u m m)) B D) nx 0 0 2 [(0, .ref 76), (1, .int th), (2, .int u), (3, .int (nI j))] [] (setA A 92 (reM (A 91) (A 92) (B 84) th u m j)) B D) (fun j hj ih => by
    refine xi_iload_n dX8_layRemains_2 rfl rfl ?_
    refine xi_aload_n dX8_layRemains_3 rfl rfl ?_
    refine xi_getfield0 dX8_layRemains_4 fX8_116 g76 ?_
    rw [show setA A 92 (reM (A 91) (A 92) (B 84) th u m j) 76 19 = nI m from hm]
    refine xi_icmp_ge (tgt := 29) dX8_layRemains_7 rfl (fun h7 => ?_) (fun h7 => ?_)
    · have e : j = m := ge_eq hj (by omega) h7
      subst e
      refine go_ret (r := none) dX8_layRemains_29 (Nat.le_of_ble_eq_true rfl) (Nat.le_of_ble_eq_true rfl) ?_
      exact ⟨rfl, rfl, rfl, rfl⟩
    · have hl : j < m := nge_lt hj (by omega) h7
      refine xi_aload_n dX8_layRemains_10 rfl rfl ?_
      refine xi_getfield3 dX8_layRemains_11 fX8_63 g76 r76_29 ?_
      refine xi_iload_n dX8_layRemains_14 rfl rfl ?_
      refine xi_aload_n dX8_layRemains_15 rfl rfl ?_
      refine xi_iload_n dX8_layRemains_16 rfl rfl ?_
      refine xi_iload_n dX8_layRemains_17 rfl rfl ?_
      refine xi_iload_n dX8_layRemains_18 rfl rfl ?_
      refine cV1 (av := [_, _, _]) dX8_layRemains_19 lX8_256 rfl ⟨rfl, rfl⟩ rfl ⟨(Nat.le_of_ble_eq_true rfl), (Nat.le_of_ble_eq_true rfl)⟩ ⟨(Nat.le_of_ble_eq_true rfl), (Nat.le_of_ble_eq_true rfl)⟩ (Nat.le_of_ble_eq_true rfl) g76 rfl rfl (m_remainsBy (A := setA A 92 (reM (A 91) (A 92) (B 84) th u m j)) hl hm hm64) ?_
      refine zs dX8_layRemains_22 g92 s92 rfl (by omega) (Nat.le_of_ble_eq_true rfl) (rm01 _ _ _ _ _ _) ?_
      refine xi_iinc (v := 1) dX8_layRemains_23 rfl (by decide) (Nat.le_of_ble_eq_true rfl) ?_
      refine xi_goto (tgt := 2) dX8_layRemains_26 rfl ?_
      refine xgo_pick [0, 1, 2, 3] rfl ?_
      rw [nI_1, setA_u]
      have q := ih hl
      rw [show reM (A 91) (A 92) (B 84) th u m (j + 1) = upd (reM (A 91) (A 92) (B 84) th u m j) j (rmV (A 91) (B 84) th u m j) by funext i; unfold reM upd; grind] at q
      exact q
    )
  refine xi_iconst (v := 0) dX8_layRemains_0 (by decide) ?_
  refine xi_istore_n dX8_layRemains_1 rfl (Nat.le_of_ble_eq_true rfl) ?_
  refine xgo_pick [0, 1, 2, 3] rfl ?_
  have l0 := loop 0 (Nat.zero_le _)
  rw [show reM (A 91) (A 92) (B 84) th u m 0 = A 92 by funext i; simp [reM], setA_self] at l0
  exact l0
/-- the heap once values and remains are laid -/
def flA (A : xA) (B : xB) (c r n m w : Nat) (th u : Int32) : xA := setA (setA A 91 (vaM A B c r n m w m)) 92 (reM (vaM A B c r n m w m) (A 92) (B 84) th u m m)
theorem fo_nI {a t u : Int32} (h : fOK a t u) : ∃ w, w < 12 ∧ a = nI w := fa_nI h.1
def mvV (A : xA) (v : Nat) (th : Int32) : Int32 := (if A 91 v < th then 0 else 2) + (if A 92 v = 0 then 0 else 1)
theorem m_verdict {c r n m lf : Nat} {i a t u : Int32} {A A1 : xA} {B B1 : xB} {D : xD} (hl : laid A B A1 B1) (hT : mT A1 c r n m lf) : does0 mX8_verdict [.ref 76, .int i, .int a, .int t, .int u] A B D (mQ D (inR i (nI m)) (fOK a t u) (some (.int (mvV (flA (updA A1 76 0 0) B1 c r n m a.toNatClampNeg t u) i.toNatClampNeg t))) (flA (updA A1 76 0 0) B1 c r n m a.toNatClampNeg t u) B1 A1 B1) nx := by
  refine does_go (by decide) rfl (Nat.le_of_ble_eq_true rfl) rfl ?_
  obtain ⟨hG, hm, hm0, hm64, hpa, -⟩ := hT
  refine xi_aload_n dX8_verdict_0 rfl rfl ?_
  refine xi_aload_n dX8_verdict_1 rfl rfl ?_
  refine xi_iload_n dX8_verdict_2 rfl rfl ?_
  refine cV1 (av := [_]) dX8_verdict_3 lX8_247 rfl ⟨rfl, rfl⟩ rfl ⟨(Nat.le_of_ble_eq_true rfl), (Nat.le_of_ble_eq_true rfl)⟩ ⟨(Nat.le_of_ble_eq_true rfl), (Nat.le_of_ble_eq_true rfl)⟩ (Nat.le_of_ble_eq_true rfl) g76 rfl rfl (m_isNode (hl.2.1 _) hm) ?_
  refine xi_ifne (tgt := 13) dX8_verdict_6 rfl (fun h6 => ?_) (fun h6 => ?_)
  · have hp0 := (wch (by omega)).mp h6
    obtain ⟨v, hv, rfl⟩ := inR_nI hp0 (by omega)
    refine xi_iload_n dX8_verdict_13 rfl rfl ?_
    refine xi_iload_n dX8_verdict_14 rfl rfl ?_
    refine xi_iload dX8_verdict_15 rfl ?_
    refine cS1 (av := [_, _, _]) dX8_verdict_17 lX8_259 rfl ⟨rfl, rfl⟩ rfl ⟨(Nat.le_of_ble_eq_true rfl), (Nat.le_of_ble_eq_true rfl)⟩ ⟨(Nat.le_of_ble_eq_true rfl), (Nat.le_of_ble_eq_true rfl)⟩ (Nat.le_of_ble_eq_true rfl) (m_isFilter) ?_
    refine xi_if_eq (tgt := 27) dX8_verdict_20 rfl (fun h20 => ?_) (fun h20 => ?_)
    · refine xi_iconst (v := 2) dX8_verdict_27 (by decide) ?_
      refine xi_putfield0 dX8_verdict_28 fX8_73 g76 pX8_73 ?_
      refine xi_aload_n dX8_verdict_31 rfl rfl ?_
      refine xi_getfield0 dX8_verdict_32 fX8_73 g76 ?_
      refine xi_if_le (tgt := 40) dX8_verdict_35 rfl (fun h => absurd h (show ¬ ((2 : Int32) ≤ 0) by decide)) (fun _ => ?_)
      refine xi_iconst (v := 0) dX8_verdict_38 (by decide) ?_
      refine go_ret (r := some (.int _)) dX8_verdict_39 (Nat.le_of_ble_eq_true rfl) (Nat.le_of_ble_eq_true rfl) ?_
      exact ⟨rfl, Or.inr (Or.inr ⟨hp0, (fi_eq _ _ _).mp h20, rfl, rfl, rfl⟩)⟩
    · have hp1 := (fi_ne _ _ _).mp h20
      obtain ⟨w, hw, rfl⟩ := fo_nI hp1
      refine xi_iconst (v := 0) dX8_verdict_23 (by decide) ?_
      refine xi_goto (tgt := 28) dX8_verdict_24 rfl ?_
      refine xi_putfield0 dX8_verdict_28 fX8_73 g76 pX8_73 ?_
      refine xi_aload_n dX8_verdict_31 rfl rfl ?_
      refine xi_getfield0 dX8_verdict_32 fX8_73 g76 ?_
      refine xi_if_le (tgt := 40) dX8_verdict_35 rfl (fun _ => ?_) (fun h => absurd h (show ¬ (¬ (0 : Int32) ≤ 0) by decide))
      refine xi_aload_n dX8_verdict_40 rfl rfl ?_
      refine xi_iload_n dX8_verdict_41 rfl rfl ?_
      refine cV1 (av := [_]) dX8_verdict_42 lX8_262 rfl ⟨rfl, rfl⟩ rfl ⟨(Nat.le_of_ble_eq_true rfl), (Nat.le_of_ble_eq_true rfl)⟩ ⟨(Nat.le_of_ble_eq_true rfl), (Nat.le_of_ble_eq_true rfl)⟩ (Nat.le_of_ble_eq_true rfl) g76 rfl rfl (m_layValues hw (m_layDone (A := updA A1 76 0 0) hl.2.2) hG hm hm64) ?_
      refine xi_aload_n dX8_verdict_45 rfl rfl ?_
      refine xi_iload_n dX8_verdict_46 rfl rfl ?_
      refine xi_iload dX8_verdict_47 rfl ?_
      refine cV1 (av := [_, _]) dX8_verdict_49 lX8_266 rfl ⟨rfl, rfl⟩ rfl ⟨(Nat.le_of_ble_eq_true rfl), (Nat.le_of_ble_eq_true rfl)⟩ ⟨(Nat.le_of_ble_eq_true rfl), (Nat.le_of_ble_eq_true rfl)⟩ (Nat.le_of_ble_eq_true rfl) g76 rfl rfl (m_layRemains (m := m) (A := setA (updA A1 76 0 0) 91 (vaM (updA A1 76 0 0) B1 c r n m w m)) hm hm64) ?_
      rw [show setA (setA (updA A1 76 0 0) 91 (vaM (updA A1 76 0 0) B1 c r n m w m)) 92 (reM (setA (updA A1 76 0 0) 91 (vaM (updA A1 76 0 0) B1 c r n m w m) 91) (setA (updA A1 76 0 0) 91 (vaM (updA A1 76 0 0) B1 c r n m w m) 92) (B1 84) t u m m) = flA (updA A1 76 0 0) B1 c r n m w t u from rfl]
      refine xi_aload_n dX8_verdict_52 rfl rfl ?_
      refine xi_getfield3 dX8_verdict_53 fX8_60 g76 r76_28 ?_
      refine xi_iload_n dX8_verdict_56 rfl rfl ?_
      refine ia dX8_verdict_57 g91 s91 rfl (by omega) (Nat.le_of_ble_eq_true rfl) ?_
      refine xi_iload_n dX8_verdict_58 rfl rfl ?_
      refine xi_icmp_lt (tgt := 66) dX8_verdict_59 rfl (fun h59 => ?_) (fun h59 => ?_)
      · refine xi_iconst (v := 0) dX8_verdict_66 (by decide) ?_
        refine xi_aload_n dX8_verdict_67 rfl rfl ?_
        refine xi_getfield3 dX8_verdict_68 fX8_63 g76 r76_29 ?_
        refine xi_iload_n dX8_verdict_71 rfl rfl ?_
        refine za dX8_verdict_72 g92 s92 rfl (by omega) (Nat.le_of_ble_eq_true rfl) ?_
        refine xi_if_eq (tgt := 80) dX8_verdict_73 rfl (fun h73 => ?_) (fun h73 => ?_)
        · refine xi_iconst (v := 0) dX8_verdict_80 (by decide) ?_
          refine xi_iadd dX8_verdict_81 ?_
          refine go_ret (r := some (.int _)) dX8_verdict_82 (Nat.le_of_ble_eq_true rfl) (Nat.le_of_ble_eq_true rfl) ?_
          exact ⟨rfl, Or.inl ⟨hp0, hp1, by rw [nI_clamp (by omega), nI_clamp (by omega)]; unfold mvV; simp only [h59, h73, if_true, if_false], by rw [nI_clamp (by omega)], rfl⟩⟩
        · refine xi_iconst (v := 1) dX8_verdict_76 (by decide) ?_
          refine xi_goto (tgt := 81) dX8_verdict_77 rfl ?_
          refine xi_iadd dX8_verdict_81 ?_
          refine go_ret (r := some (.int _)) dX8_verdict_82 (Nat.le_of_ble_eq_true rfl) (Nat.le_of_ble_eq_true rfl) ?_
          exact ⟨rfl, Or.inl ⟨hp0, hp1, by rw [nI_clamp (by omega), nI_clamp (by omega)]; unfold mvV; simp only [h59, h73, if_true, if_false], by rw [nI_clamp (by omega)], rfl⟩⟩
      · refine xi_iconst (v := 2) dX8_verdict_62 (by decide) ?_
        refine xi_goto (tgt := 67) dX8_verdict_63 rfl ?_
        refine xi_aload_n dX8_verdict_67 rfl rfl ?_
        refine xi_getfield3 dX8_verdict_68 fX8_63 g76 r76_29 ?_
        refine xi_iload_n dX8_verdict_71 rfl rfl ?_
        refine za dX8_verdict_72 g92 s92 rfl (by omega) (Nat.le_of_ble_eq_true rfl) ?_
        refine xi_if_eq (tgt := 80) dX8_verdict_73 rfl (fun h73 => ?_) (fun h73 => ?_)
        · refine xi_iconst (v := 0) dX8_verdict_80 (by decide) ?_
          refine xi_iadd dX8_verdict_81 ?_
          refine go_ret (r := some (.int _)) dX8_verdict_82 (Nat.le_of_ble_eq_true rfl) (Nat.le_of_ble_eq_true rfl) ?_
          exact ⟨rfl, Or.inl ⟨hp0, hp1, by rw [nI_clamp (by omega), nI_clamp (by omega)]; unfold mvV; simp only [h59, h73, if_true, if_false], by rw [nI_clamp (by omega)], rfl⟩⟩
        · refine xi_iconst (v := 1) dX8_verdict_76 (by decide) ?_
          refine xi_goto (tgt := 81) dX8_verdict_77 rfl ?_
          refine xi_iadd dX8_verdict_81 ?_
          refine go_ret (r := some (.int _)) dX8_verdict_82 (Nat.le_of_ble_eq_true rfl) (Nat.le_of_ble_eq_true rfl) ?_
          exact ⟨rfl, Or.inl ⟨hp0, hp1, by rw [nI_clamp (by omega), nI_clamp (by omega)]; unfold mvV; simp only [h59, h73, if_true, if_false], by rw [nI_clamp (by omega)], rfl⟩⟩
  · have hp0 := (wch0 (by omega)).mp h6
    refine xi_iconst (v := 1) dX8_verdict_9 (by decide) ?_
    refine xi_goto (tgt := 28) dX8_verdict_10 rfl ?_
    refine xi_putfield0 dX8_verdict_28 fX8_73 g76 pX8_73 ?_
    refine xi_aload_n dX8_verdict_31 rfl rfl ?_
    refine xi_getfield0 dX8_verdict_32 fX8_73 g76 ?_
    refine xi_if_le (tgt := 40) dX8_verdict_35 rfl (fun h => absurd h (show ¬ ((1 : Int32) ≤ 0) by decide)) (fun _ => ?_)
    refine xi_iconst (v := 0) dX8_verdict_38 (by decide) ?_
    refine go_ret (r := some (.int _)) dX8_verdict_39 (Nat.le_of_ble_eq_true rfl) (Nat.le_of_ble_eq_true rfl) ?_
    exact ⟨rfl, Or.inr (Or.inl ⟨hp0, rfl, rfl, rfl⟩)⟩
/-- the nearest node that remains, from x up -/
def nwV (re pa : Nat → Int32) : Nat → Nat → Nat
  | 0, x => x
  | d + 1, x => if re x = 0 then nwV re pa d (pa x).toNatClampNeg else x
def nsS (re rk pa : Nat → Int32) (se : Nat → Int64) (p i : Nat) (s : Int32) : Int32 := s + (if re (i + 1) = 0 then 0 else if hasM (se (i + 1)) (nI p) = 0 then 0 else rk (i + 1) - rk (pa (i + 1)).toNatClampNeg)
def nrV (A : xA) (B : xB) (m p : Nat) (sm : Int32) : Int32 := if sm = 0 then A 85 (nwV (A 92) (A 86) 64 (A 88 p).toNatClampNeg) else itr (nsS (A 92) (A 85) (A 86) (B 84) p) (m - 1) (A 85 0)
def mRt (A : xA) (m : Nat) : Prop := ∀ v, 0 < v → v < m → ∃ a, a < v ∧ A 86 v = nI a
theorem m_newRank {m p q : Nat} {sm : Int32} (hp : p < 64) {A : xA} {B : xB} {D : xD} (hm : A 76 19 = nI m) (hm0 : 0 < m) (hm64 : m ≤ 64) (hR : mRt A m) (hq : A 88 p = nI q) (hqm : q < m) (h0 : ¬ A 92 0 = 0) : does0 mX8_newRank [.ref 76, .int (nI p), .int sm] A B D (eqQ (some (.int (nrV A B m p sm))) A B D) nx := by
  refine does_go (by decide) rfl (Nat.le_of_ble_eq_true rfl) rfl ?_
  obtain ⟨M, rfl⟩ : ∃ M, m = M + 1 := ⟨m - 1, by omega⟩
  by_cases hs : sm = 0
  · have eR : nrV A B (M + 1) p sm = A 85 (nwV (A 92) (A 86) 64 q) := by unfold nrV; rw [if_pos hs, hq, nI_clamp (by omega)]
    rw [eR]
    generalize hX : nwV (A 92) (A 86) 64 q = X
    have loop : ∀ d x, x < d → x < M + 1 → nwV (A 92) (A 86) d x = X → go0 mX8_newRank (eqQ (some (.int (A 85 X))) A B D) nx 0 0 89 [(0, .ref 76), (3, .int (nI x))] [] A B D := by
      intro d
      induction d with
      | zero => intro x hx; omega
      | succ d ih =>
        intro x hx hxm hR2
        unfold nwV at hR2
        refine xi_aload_n dX8_newRank_89 rfl rfl ?_
        refine xi_getfield3 dX8_newRank_90 fX8_63 g76 r76_29 ?_
        refine xi_iload_n dX8_newRank_93 rfl rfl ?_
        refine za dX8_newRank_94 g92 s92 rfl (by omega) (Nat.le_of_ble_eq_true rfl) ?_
        refine xi_ifne (tgt := 108) dX8_newRank_95 rfl (fun h95 => ?_) (fun h95 => ?_)
        · rw [if_neg h95] at hR2
          subst hR2
          refine xi_aload_n dX8_newRank_108 rfl rfl ?_
          refine xi_getfield3 dX8_newRank_109 fX8_42 g76 r76_21 ?_
          refine xi_iload_n dX8_newRank_112 rfl rfl ?_
          refine ia dX8_newRank_113 g85 s85 rfl (by omega) (Nat.le_of_ble_eq_true rfl) ?_
          refine go_ret (r := some (.int _)) dX8_newRank_114 (Nat.le_of_ble_eq_true rfl) (Nat.le_of_ble_eq_true rfl) ?_
          exact ⟨rfl, rfl, rfl, rfl⟩
        · rw [if_pos h95] at hR2
          have e0 : 0 < x := Nat.pos_of_ne_zero (fun e => h0 (by rw [← e]; exact h95))
          obtain ⟨a, ha, ea⟩ := hR x e0 hxm
          rw [ea, nI_clamp (by omega)] at hR2
          refine xi_aload_n dX8_newRank_98 rfl rfl ?_
          refine xi_getfield3 dX8_newRank_99 fX8_45 g76 r76_22 ?_
          refine xi_iload_n dX8_newRank_102 rfl rfl ?_
          refine ia dX8_newRank_103 g86 s86 rfl (by omega) (Nat.le_of_ble_eq_true rfl) ?_
          rw [ea]
          refine xi_istore_n dX8_newRank_104 rfl (Nat.le_of_ble_eq_true rfl) ?_
          refine xi_goto (tgt := 89) dX8_newRank_105 rfl ?_
          refine xgo_pick [0, 3] rfl ?_
          exact ih a (by omega) (by omega) hR2
    refine xi_iload_n dX8_newRank_0 rfl rfl ?_
    refine xi_if_eq (tgt := 82) dX8_newRank_1 rfl (fun h1 => ?_) (fun h1 => ?_)
    · refine xi_aload_n dX8_newRank_82 rfl rfl ?_
      refine xi_getfield3 dX8_newRank_83 fX8_51 g76 r76_24 ?_
      refine xi_iload_n dX8_newRank_86 rfl rfl ?_
      refine ia dX8_newRank_87 g88 s88 rfl (by omega) (Nat.le_of_ble_eq_true rfl) ?_
      rw [hq]
      refine xi_istore_n dX8_newRank_88 rfl (Nat.le_of_ble_eq_true rfl) ?_
      refine xgo_pick [0, 3] rfl ?_
      exact loop 64 q (by omega) hqm hX
    · exact absurd hs h1
  · have eR : nrV A B (M + 1) p sm = itr (nsS (A 92) (A 85) (A 86) (B 84) p) M (A 85 0) := by unfold nrV; rw [if_neg hs]; rfl
    rw [eR]
    have loop := up_ind (n := M) (P := fun i => ∀ x, x = itr (nsS (A 92) (A 85) (A 86) (B 84) p) i (A 85 0) → go0 mX8_newRank (eqQ (some (.int (itr (nsS (A 92) (A 85) (A 86) (B 84) p) M (A 85 0)))) A B D) nx 0 0 14 [(0, .ref 76), (1, .int (nI p)), (3, .int x), (4, .int (nI (i + 1)))] [] A B D) (fun i hi ih x hx => by
      refine xi_iload dX8_newRank_14 rfl ?_
      refine xi_aload_n dX8_newRank_16 rfl rfl ?_
      refine xi_getfield0 dX8_newRank_17 fX8_116 g76 ?_
      rw [hm]
      refine xi_icmp_ge (tgt := 80) dX8_newRank_20 rfl (fun h20 => ?_) (fun h20 => ?_)
      · have e : i = M := vge hi (by omega) h20
        subst e
        refine xi_iload_n dX8_newRank_80 rfl rfl ?_
        refine go_ret (r := some (.int _)) dX8_newRank_81 (Nat.le_of_ble_eq_true rfl) (Nat.le_of_ble_eq_true rfl) ?_
        exact ⟨by rw [hx], rfl, rfl, rfl⟩
      · have hl : i < M := vnge hi (by omega) h20
        obtain ⟨a, ha, ea⟩ := hR (i + 1) (by omega) (by omega)
        refine xi_iload_n dX8_newRank_23 rfl rfl ?_
        refine xi_aload_n dX8_newRank_24 rfl rfl ?_
        refine xi_getfield3 dX8_newRank_25 fX8_63 g76 r76_29 ?_
        refine xi_iload dX8_newRank_28 rfl ?_
        refine za dX8_newRank_30 g92 s92 rfl (by omega) (Nat.le_of_ble_eq_true rfl) ?_
        refine xi_if_eq (tgt := 71) dX8_newRank_31 rfl (fun h31 => ?_) (fun h31 => ?_)
        · refine xi_iconst (v := 0) dX8_newRank_71 (by decide) ?_
          refine xi_iadd dX8_newRank_72 ?_
          refine xi_istore_n dX8_newRank_73 rfl (Nat.le_of_ble_eq_true rfl) ?_
          refine xi_iinc (v := 1) dX8_newRank_74 rfl (by decide) (Nat.le_of_ble_eq_true rfl) ?_
          refine xi_goto (tgt := 14) dX8_newRank_77 rfl ?_
          refine xgo_pick [0, 1, 3, 4] rfl ?_
          rw [nI_1]
          exact ih hl _ (by rw [itr_s, ← hx]; unfold nsS; rw [if_pos h31])
        · refine xi_aload_n dX8_newRank_34 rfl rfl ?_
          refine xi_getfield3 dX8_newRank_35 fX8_38 g76 r76_20 ?_
          refine xi_iload dX8_newRank_38 rfl ?_
          refine la dX8_newRank_40 g84 s84 rfl (by omega) (Nat.le_of_ble_eq_true rfl) ?_
          refine xi_iload_n dX8_newRank_41 rfl rfl ?_
          refine cS1 (av := [_, _]) dX8_newRank_42 lX8_151 rfl ⟨rfl, rfl⟩ rfl ⟨(Nat.le_of_ble_eq_true rfl), (Nat.le_of_ble_eq_true rfl)⟩ ⟨(Nat.le_of_ble_eq_true rfl), (Nat.le_of_ble_eq_true rfl)⟩ (Nat.le_of_ble_eq_true rfl) (m_has) ?_
          refine xi_if_eq (tgt := 71) dX8_newRank_45 rfl (fun h45 => ?_) (fun h45 => ?_)
          · refine xi_iconst (v := 0) dX8_newRank_71 (by decide) ?_
            refine xi_iadd dX8_newRank_72 ?_
            refine xi_istore_n dX8_newRank_73 rfl (Nat.le_of_ble_eq_true rfl) ?_
            refine xi_iinc (v := 1) dX8_newRank_74 rfl (by decide) (Nat.le_of_ble_eq_true rfl) ?_
            refine xi_goto (tgt := 14) dX8_newRank_77 rfl ?_
            refine xgo_pick [0, 1, 3, 4] rfl ?_
            rw [nI_1]
            exact ih hl _ (by rw [itr_s, ← hx]; unfold nsS; rw [if_neg h31, if_pos h45])
          · refine xi_aload_n dX8_newRank_48 rfl rfl ?_
            refine xi_getfield3 dX8_newRank_49 fX8_42 g76 r76_21 ?_
            refine xi_iload dX8_newRank_52 rfl ?_
            refine ia dX8_newRank_54 g85 s85 rfl (by omega) (Nat.le_of_ble_eq_true rfl) ?_
            refine xi_aload_n dX8_newRank_55 rfl rfl ?_
            refine xi_getfield3 dX8_newRank_56 fX8_42 g76 r76_21 ?_
            refine xi_aload_n dX8_newRank_59 rfl rfl ?_
            refine xi_getfield3 dX8_newRank_60 fX8_45 g76 r76_22 ?_
            refine xi_iload dX8_newRank_63 rfl ?_
            refine ia dX8_newRank_65 g86 s86 rfl (by omega) (Nat.le_of_ble_eq_true rfl) ?_
            refine ia dX8_newRank_66 g85 s85 ea (by omega) (Nat.le_of_ble_eq_true rfl) ?_
            refine xi_isub dX8_newRank_67 ?_
            refine xi_goto (tgt := 72) dX8_newRank_68 rfl ?_
            refine xi_iadd dX8_newRank_72 ?_
            refine xi_istore_n dX8_newRank_73 rfl (Nat.le_of_ble_eq_true rfl) ?_
            refine xi_iinc (v := 1) dX8_newRank_74 rfl (by decide) (Nat.le_of_ble_eq_true rfl) ?_
            refine xi_goto (tgt := 14) dX8_newRank_77 rfl ?_
            refine xgo_pick [0, 1, 3, 4] rfl ?_
            rw [nI_1]
            exact ih hl _ (by rw [itr_s, ← hx]; unfold nsS; rw [if_neg h31, if_neg h45, ea, nI_clamp (by omega)])
      )
    refine xi_iload_n dX8_newRank_0 rfl rfl ?_
    refine xi_if_eq (tgt := 82) dX8_newRank_1 rfl (fun h1 => ?_) (fun h1 => ?_)
    · exact absurd h1 hs
    · refine xi_aload_n dX8_newRank_4 rfl rfl ?_
      refine xi_getfield3 dX8_newRank_5 fX8_42 g76 r76_21 ?_
      refine xi_iconst (v := 0) dX8_newRank_8 (by decide) ?_
      refine ia dX8_newRank_9 g85 s85 (j := 0) rfl (by omega) (Nat.le_of_ble_eq_true rfl) ?_
      refine xi_istore_n dX8_newRank_10 rfl (Nat.le_of_ble_eq_true rfl) ?_
      refine xi_iconst (v := 1) dX8_newRank_11 (by decide) ?_
      refine xi_istore dX8_newRank_12 (Nat.le_of_ble_eq_true rfl) ?_
      refine xgo_pick [0, 1, 3, 4] rfl ?_
      exact loop 0 (Nat.zero_le _) _ rfl
def loV (A : xA) (B : xB) (m : Nat) (sm : Int32) (n : Nat) : Int32 := isum (fun p => apV (A 77 p) (trn (nrV A B m p sm) (A 76 5))) n
/-- what newRank wants of the heap -/
def nwOK (A : xA) (n m : Nat) : Prop := A 76 19 = nI m ∧ 0 < m ∧ m ≤ 64 ∧ mRt A m ∧ (∀ p, p < n → ∃ q, q < m ∧ A 88 p = nI q) ∧ ¬ A 92 0 = 0
theorem nwOK.nr {A : xA} {n m p : Nat} {sm : Int32} (h : nwOK A n m) (hp : p < n) (hn : n ≤ 64) {B : xB} {D : xD} : does0 mX8_newRank [.ref 76, .int (nI p), .int sm] A B D (eqQ (some (.int (nrV A B m p sm))) A B D) nx := by
  obtain ⟨h1, h2, h3, h4, h5, h6⟩ := h
  obtain ⟨q, hq, eq⟩ := h5 p hp
  exact m_newRank (by omega) h1 h2 h3 h4 eq hq h6
theorem m_lossNow {n m : Nat} {sm : Int32} {A : xA} {B : xB} {D : xD} (hn : A 76 1 * A 76 2 = nI n) (hn64 : n ≤ 64) (h : nwOK A n m) : does0 mX8_lossNow [.ref 76, .int sm] A B D (eqQ (some (.int (loV A B m sm n))) A B D) nx := by
  refine does_go (by decide) rfl (Nat.le_of_ble_eq_true rfl) rfl ?_
  have loop := up_ind (n := n) (P := fun j => go0 mX8_lossNow (eqQ (some (.int (loV A B m sm n))) A B D) nx 0 0 4 [(0, .ref 76), (1, .int sm), (2, .int (loV A B m sm j)), (3, .int (nI j))] [] A B D) (fun j hj ih => by
    refine xi_iload_n dX8_lossNow_4 rfl rfl ?_
    refine xi_aload_n dX8_lossNow_5 rfl rfl ?_
    refine cV1 (av := []) dX8_lossNow_6 lX8_76 rfl ⟨rfl, rfl⟩ rfl ⟨(Nat.le_of_ble_eq_true rfl), (Nat.le_of_ble_eq_true rfl)⟩ ⟨(Nat.le_of_ble_eq_true rfl), (Nat.le_of_ble_eq_true rfl)⟩ (Nat.le_of_ble_eq_true rfl) g76 rfl rfl (m_pixels) ?_
    rw [hn]
    refine xi_icmp_ge (tgt := 40) dX8_lossNow_9 rfl (fun h9 => ?_) (fun h9 => ?_)
    · have e : j = n := ge_eq hj (by omega) h9
      subst e
      refine xi_iload_n dX8_lossNow_40 rfl rfl ?_
      refine go_ret (r := some (.int _)) dX8_lossNow_41 (Nat.le_of_ble_eq_true rfl) (Nat.le_of_ble_eq_true rfl) ?_
      exact ⟨rfl, rfl, rfl, rfl⟩
    · have hl : j < n := nge_lt hj (by omega) h9
      refine xi_iload_n dX8_lossNow_12 rfl rfl ?_
      refine xi_aload_n dX8_lossNow_13 rfl rfl ?_
      refine xi_getfield3 dX8_lossNow_14 fX8_16 g76 r76_3 ?_
      refine xi_iload_n dX8_lossNow_17 rfl rfl ?_
      refine ia dX8_lossNow_18 g77 s77 rfl (by omega) (Nat.le_of_ble_eq_true rfl) ?_
      refine xi_aload_n dX8_lossNow_19 rfl rfl ?_
      refine xi_aload_n dX8_lossNow_20 rfl rfl ?_
      refine xi_iload_n dX8_lossNow_21 rfl rfl ?_
      refine xi_iload_n dX8_lossNow_22 rfl rfl ?_
      refine cV1 (av := [_, _]) dX8_lossNow_23 lX8_269 rfl ⟨rfl, rfl⟩ rfl ⟨(Nat.le_of_ble_eq_true rfl), (Nat.le_of_ble_eq_true rfl)⟩ ⟨(Nat.le_of_ble_eq_true rfl), (Nat.le_of_ble_eq_true rfl)⟩ (Nat.le_of_ble_eq_true rfl) g76 rfl rfl (h.nr hl hn64) ?_
      refine cV1 (av := [_]) dX8_lossNow_26 lX8_159 rfl ⟨rfl, rfl⟩ rfl ⟨(Nat.le_of_ble_eq_true rfl), (Nat.le_of_ble_eq_true rfl)⟩ ⟨(Nat.le_of_ble_eq_true rfl), (Nat.le_of_ble_eq_true rfl)⟩ (Nat.le_of_ble_eq_true rfl) g76 rfl rfl (m_rankOf) ?_
      refine cS1 (av := [_, _]) dX8_lossNow_29 lX8_119 rfl ⟨rfl, rfl⟩ rfl ⟨(Nat.le_of_ble_eq_true rfl), (Nat.le_of_ble_eq_true rfl)⟩ ⟨(Nat.le_of_ble_eq_true rfl), (Nat.le_of_ble_eq_true rfl)⟩ (Nat.le_of_ble_eq_true rfl) (m_apart) ?_
      refine xi_iadd dX8_lossNow_32 ?_
      refine xi_istore_n dX8_lossNow_33 rfl (Nat.le_of_ble_eq_true rfl) ?_
      refine xi_iinc (v := 1) dX8_lossNow_34 rfl (by decide) (Nat.le_of_ble_eq_true rfl) ?_
      refine xi_goto (tgt := 4) dX8_lossNow_37 rfl ?_
      refine xgo_pick [0, 1, 2, 3] rfl ?_
      rw [nI_1]
      exact ih hl
    )
  refine xi_iconst (v := 0) dX8_lossNow_0 (by decide) ?_
  refine xi_istore_n dX8_lossNow_1 rfl (Nat.le_of_ble_eq_true rfl) ?_
  refine xi_iconst (v := 0) dX8_lossNow_2 (by decide) ?_
  refine xi_istore_n dX8_lossNow_3 rfl (Nat.le_of_ble_eq_true rfl) ?_
  refine xgo_pick [0, 1, 2, 3] rfl ?_
  exact loop 0 (Nat.zero_le _)
theorem rm_0 {va : Nat → Int32} {se : Nat → Int64} {th u : Int32} {m : Nat} : rmV va se th u m 0 = 1 := by unfold rmV; split <;> simp
theorem flA_nw {A : xA} {B : xB} {c r n m lf w : Nat} {th u : Int32} (hT : mT A c r n m lf) (hR : mRt A m) : nwOK (flA A B c r n m w th u) n m := by
  obtain ⟨hG, hm, hm0, hm64, hpa, h1, h2, h3, h4, h5⟩ := hT
  refine ⟨hm, hm0, hm64, hR, h4, ?_⟩
  show ¬ reM _ _ _ th u m m 0 = 0
  unfold reM
  rw [if_pos hm0, rm_0]
  decide
theorem mT_t {A : xA} {c r n m lf : Nat} {t : Int32} (hT : mT A c r n m lf) : mT (updA A 76 0 t) c r n m lf := hT
theorem mR_t {A : xA} {m : Nat} {t : Int32} (hT : mRt A m) : mRt (updA A 76 0 t) m := hT
/-- values and remains are laid -/
theorem i_fl {c r n m w : Nat} {th u : Int32} (hw : w < 12) {A A1 : xA} {B B1 : xB} {D : xD} (hlt : does0 mX8_layTree [.ref 76] A B D (eqQ none A1 B1 D) nx) (h : mG A1 c r n) (hm : A1 76 19 = nI m) (hm64 : m ≤ 64) : does0 mX8_layValues [.ref 76, .int (nI w)] A B D (eqQ none (setA A1 91 (vaM A1 B1 c r n m w m)) B1 D) nx ∧ does0 mX8_layRemains [.ref 76, .int th, .int u] (setA A1 91 (vaM A1 B1 c r n m w m)) B1 D (eqQ none (flA A1 B1 c r n m w th u) B1 D) nx := ⟨m_layValues hw hlt h hm hm64, m_layRemains (A := setA A1 91 (vaM A1 B1 c r n m w m)) hm hm64⟩
theorem m_filtered {c r n m lf : Nat} {i a t u : Int32} {A A1 : xA} {B B1 : xB} {D : xD} (hG0 : mG A c r n) (hl : laid A B A1 B1) (hT : mT A1 c r n m lf) (hR : mRt A1 m) : does0 mX8_filtered [.ref 76, .int i, .int a, .int t, .int u] A B D (mQ D (inR i (nI n)) (fOK a t u) (some (.int (trn (nrV (flA (updA A1 76 0 0) B1 c r n m a.toNatClampNeg t u) B1 m i.toNatClampNeg (if u = 3 then 1 else 0)) (A1 76 5)))) (flA (updA A1 76 0 0) B1 c r n m a.toNatClampNeg t u) B1 A B) nx := by
  refine does_go (by decide) rfl (Nat.le_of_ble_eq_true rfl) rfl ?_
  have hT2 := hT
  obtain ⟨hG, hm, hm0, hm64, hpa, -⟩ := hT
  obtain ⟨hn, hn0, hn64⟩ := hG0.n
  refine xi_aload_n dX8_filtered_0 rfl rfl ?_
  refine xi_aload_n dX8_filtered_1 rfl rfl ?_
  refine xi_iload_n dX8_filtered_2 rfl rfl ?_
  refine cV1 (av := [_]) dX8_filtered_3 lX8_106 rfl ⟨rfl, rfl⟩ rfl ⟨(Nat.le_of_ble_eq_true rfl), (Nat.le_of_ble_eq_true rfl)⟩ ⟨(Nat.le_of_ble_eq_true rfl), (Nat.le_of_ble_eq_true rfl)⟩ (Nat.le_of_ble_eq_true rfl) g76 rfl rfl (m_isPixel) ?_
  rw [hn]
  refine xi_ifne (tgt := 13) dX8_filtered_6 rfl (fun h6 => ?_) (fun h6 => ?_)
  · have hp0 := (wch (by omega)).mp h6
    obtain ⟨p, hp, rfl⟩ := inR_nI hp0 (by omega)
    refine xi_iload_n dX8_filtered_13 rfl rfl ?_
    refine xi_iload_n dX8_filtered_14 rfl rfl ?_
    refine xi_iload dX8_filtered_15 rfl ?_
    refine cS1 (av := [_, _, _]) dX8_filtered_17 lX8_259 rfl ⟨rfl, rfl⟩ rfl ⟨(Nat.le_of_ble_eq_true rfl), (Nat.le_of_ble_eq_true rfl)⟩ ⟨(Nat.le_of_ble_eq_true rfl), (Nat.le_of_ble_eq_true rfl)⟩ (Nat.le_of_ble_eq_true rfl) (m_isFilter) ?_
    refine xi_if_eq (tgt := 27) dX8_filtered_20 rfl (fun h20 => ?_) (fun h20 => ?_)
    · refine xi_iconst (v := 2) dX8_filtered_27 (by decide) ?_
      refine xi_putfield0 dX8_filtered_28 fX8_73 g76 pX8_73 ?_
      refine xi_aload_n dX8_filtered_31 rfl rfl ?_
      refine xi_getfield0 dX8_filtered_32 fX8_73 g76 ?_
      refine xi_if_le (tgt := 40) dX8_filtered_35 rfl (fun h => absurd h (show ¬ ((2 : Int32) ≤ 0) by decide)) (fun _ => ?_)
      refine xi_iconst (v := 0) dX8_filtered_38 (by decide) ?_
      refine go_ret (r := some (.int _)) dX8_filtered_39 (Nat.le_of_ble_eq_true rfl) (Nat.le_of_ble_eq_true rfl) ?_
      exact ⟨rfl, Or.inr (Or.inr ⟨hp0, (fi_eq _ _ _).mp h20, rfl, rfl, rfl⟩)⟩
    · have hp1 := (fi_ne _ _ _).mp h20
      obtain ⟨w, hw, rfl⟩ := fo_nI hp1
      refine xi_iconst (v := 0) dX8_filtered_23 (by decide) ?_
      refine xi_goto (tgt := 28) dX8_filtered_24 rfl ?_
      refine xi_putfield0 dX8_filtered_28 fX8_73 g76 pX8_73 ?_
      refine xi_aload_n dX8_filtered_31 rfl rfl ?_
      refine xi_getfield0 dX8_filtered_32 fX8_73 g76 ?_
      refine xi_if_le (tgt := 40) dX8_filtered_35 rfl (fun _ => ?_) (fun h => absurd h (show ¬ (¬ (0 : Int32) ≤ 0) by decide))
      refine xi_aload_n dX8_filtered_40 rfl rfl ?_
      refine xi_iload_n dX8_filtered_41 rfl rfl ?_
      refine cV1 (av := [_]) dX8_filtered_42 lX8_262 rfl ⟨rfl, rfl⟩ rfl ⟨(Nat.le_of_ble_eq_true rfl), (Nat.le_of_ble_eq_true rfl)⟩ ⟨(Nat.le_of_ble_eq_true rfl), (Nat.le_of_ble_eq_true rfl)⟩ (Nat.le_of_ble_eq_true rfl) g76 rfl rfl ((i_fl (th := t) (u := u) hw (hl.1 0 D) hG hm hm64).1) ?_
      refine xi_aload_n dX8_filtered_45 rfl rfl ?_
      refine xi_iload_n dX8_filtered_46 rfl rfl ?_
      refine xi_iload dX8_filtered_47 rfl ?_
      refine cV1 (av := [_, _]) dX8_filtered_49 lX8_266 rfl ⟨rfl, rfl⟩ rfl ⟨(Nat.le_of_ble_eq_true rfl), (Nat.le_of_ble_eq_true rfl)⟩ ⟨(Nat.le_of_ble_eq_true rfl), (Nat.le_of_ble_eq_true rfl)⟩ (Nat.le_of_ble_eq_true rfl) g76 rfl rfl ((i_fl (th := t) (u := u) hw (hl.1 0 D) hG hm hm64).2) ?_
      refine xi_aload_n dX8_filtered_52 rfl rfl ?_
      refine xi_aload_n dX8_filtered_53 rfl rfl ?_
      refine xi_iload_n dX8_filtered_54 rfl rfl ?_
      refine xi_iload dX8_filtered_55 rfl ?_
      refine xi_iconst (v := 3) dX8_filtered_57 (by decide) ?_
      refine xi_icmpne (tgt := 65) dX8_filtered_58 rfl (fun h58 => ?_) (fun h58 => ?_)
      · refine xi_iconst (v := 0) dX8_filtered_65 (by decide) ?_
        refine cV1 (av := [_, _]) dX8_filtered_66 lX8_269 rfl ⟨rfl, rfl⟩ rfl ⟨(Nat.le_of_ble_eq_true rfl), (Nat.le_of_ble_eq_true rfl)⟩ ⟨(Nat.le_of_ble_eq_true rfl), (Nat.le_of_ble_eq_true rfl)⟩ (Nat.le_of_ble_eq_true rfl) g76 rfl rfl ((flA_nw (mT_t hT2) hR).nr hp hn64) ?_
        refine cV1 (av := [_]) dX8_filtered_69 lX8_159 rfl ⟨rfl, rfl⟩ rfl ⟨(Nat.le_of_ble_eq_true rfl), (Nat.le_of_ble_eq_true rfl)⟩ ⟨(Nat.le_of_ble_eq_true rfl), (Nat.le_of_ble_eq_true rfl)⟩ (Nat.le_of_ble_eq_true rfl) g76 rfl rfl (m_rankOf) ?_
        refine go_ret (r := some (.int _)) dX8_filtered_72 (Nat.le_of_ble_eq_true rfl) (Nat.le_of_ble_eq_true rfl) ?_
        exact ⟨rfl, Or.inl ⟨hp0, hp1, by rw [nI_clamp (by omega), nI_clamp (by omega), if_neg h58]; rfl, by rw [nI_clamp (by omega)], rfl⟩⟩
      · refine xi_iconst (v := 1) dX8_filtered_61 (by decide) ?_
        refine xi_goto (tgt := 66) dX8_filtered_62 rfl ?_
        refine cV1 (av := [_, _]) dX8_filtered_66 lX8_269 rfl ⟨rfl, rfl⟩ rfl ⟨(Nat.le_of_ble_eq_true rfl), (Nat.le_of_ble_eq_true rfl)⟩ ⟨(Nat.le_of_ble_eq_true rfl), (Nat.le_of_ble_eq_true rfl)⟩ (Nat.le_of_ble_eq_true rfl) g76 rfl rfl ((flA_nw (mT_t hT2) hR).nr hp hn64) ?_
        refine cV1 (av := [_]) dX8_filtered_69 lX8_159 rfl ⟨rfl, rfl⟩ rfl ⟨(Nat.le_of_ble_eq_true rfl), (Nat.le_of_ble_eq_true rfl)⟩ ⟨(Nat.le_of_ble_eq_true rfl), (Nat.le_of_ble_eq_true rfl)⟩ (Nat.le_of_ble_eq_true rfl) g76 rfl rfl (m_rankOf) ?_
        refine go_ret (r := some (.int _)) dX8_filtered_72 (Nat.le_of_ble_eq_true rfl) (Nat.le_of_ble_eq_true rfl) ?_
        exact ⟨rfl, Or.inl ⟨hp0, hp1, by rw [nI_clamp (by omega), nI_clamp (by omega), if_pos h58]; rfl, by rw [nI_clamp (by omega)], rfl⟩⟩
  · have hp0 := (wch0 (by omega)).mp h6
    refine xi_iconst (v := 1) dX8_filtered_9 (by decide) ?_
    refine xi_goto (tgt := 28) dX8_filtered_10 rfl ?_
    refine xi_putfield0 dX8_filtered_28 fX8_73 g76 pX8_73 ?_
    refine xi_aload_n dX8_filtered_31 rfl rfl ?_
    refine xi_getfield0 dX8_filtered_32 fX8_73 g76 ?_
    refine xi_if_le (tgt := 40) dX8_filtered_35 rfl (fun h => absurd h (show ¬ ((1 : Int32) ≤ 0) by decide)) (fun _ => ?_)
    refine xi_iconst (v := 0) dX8_filtered_38 (by decide) ?_
    refine go_ret (r := some (.int _)) dX8_filtered_39 (Nat.le_of_ble_eq_true rfl) (Nat.le_of_ble_eq_true rfl) ?_
    exact ⟨rfl, Or.inr (Or.inl ⟨hp0, rfl, rfl, rfl⟩)⟩
theorem m_lossBy {c r n m lf w : Nat} {t u : Int32} (hw : w < 12) {A A1 : xA} {B B1 : xB} {D : xD} (hlt : does0 mX8_layTree [.ref 76] A B D (eqQ none A1 B1 D) nx) (hT : mT A1 c r n m lf) (hR : mRt A1 m) : does0 mX8_lossBy [.ref 76, .int (nI w), .int t, .int u] A B D (eqQ (some (.int (loV (flA A1 B1 c r n m w t u) B1 m (if u = 3 then 1 else 0) n))) (flA A1 B1 c r n m w t u) B1 D) nx := by
  refine does_go (by decide) rfl (Nat.le_of_ble_eq_true rfl) rfl ?_
  have hT2 := hT
  obtain ⟨hG, hm, hm0, hm64, hpa, -⟩ := hT
  obtain ⟨hn, hn0, hn64⟩ := hG.n
  refine xi_aload_n dX8_lossBy_0 rfl rfl ?_
  refine xi_iload_n dX8_lossBy_1 rfl rfl ?_
  refine cV1 (av := [_]) dX8_lossBy_2 lX8_262 rfl ⟨rfl, rfl⟩ rfl ⟨(Nat.le_of_ble_eq_true rfl), (Nat.le_of_ble_eq_true rfl)⟩ ⟨(Nat.le_of_ble_eq_true rfl), (Nat.le_of_ble_eq_true rfl)⟩ (Nat.le_of_ble_eq_true rfl) g76 rfl rfl ((i_fl (th := t) (u := u) hw hlt hG hm hm64).1) ?_
  refine xi_aload_n dX8_lossBy_5 rfl rfl ?_
  refine xi_iload_n dX8_lossBy_6 rfl rfl ?_
  refine xi_iload_n dX8_lossBy_7 rfl rfl ?_
  refine cV1 (av := [_, _]) dX8_lossBy_8 lX8_266 rfl ⟨rfl, rfl⟩ rfl ⟨(Nat.le_of_ble_eq_true rfl), (Nat.le_of_ble_eq_true rfl)⟩ ⟨(Nat.le_of_ble_eq_true rfl), (Nat.le_of_ble_eq_true rfl)⟩ (Nat.le_of_ble_eq_true rfl) g76 rfl rfl ((i_fl (th := t) (u := u) hw hlt hG hm hm64).2) ?_
  refine xi_aload_n dX8_lossBy_11 rfl rfl ?_
  refine xi_iload_n dX8_lossBy_12 rfl rfl ?_
  refine xi_iconst (v := 3) dX8_lossBy_13 (by decide) ?_
  refine xi_icmpne (tgt := 21) dX8_lossBy_14 rfl (fun h14 => ?_) (fun h14 => ?_)
  · refine xi_iconst (v := 0) dX8_lossBy_21 (by decide) ?_
    refine cV1 (av := [_]) dX8_lossBy_22 lX8_272 rfl ⟨rfl, rfl⟩ rfl ⟨(Nat.le_of_ble_eq_true rfl), (Nat.le_of_ble_eq_true rfl)⟩ ⟨(Nat.le_of_ble_eq_true rfl), (Nat.le_of_ble_eq_true rfl)⟩ (Nat.le_of_ble_eq_true rfl) g76 rfl rfl (m_lossNow (A := flA A1 B1 c r n m w t u) hn hn64 (flA_nw hT2 hR)) ?_
    refine go_ret (r := some (.int _)) dX8_lossBy_25 (Nat.le_of_ble_eq_true rfl) (Nat.le_of_ble_eq_true rfl) ?_
    exact ⟨by rw [if_neg h14], rfl, rfl, rfl⟩
  · refine xi_iconst (v := 1) dX8_lossBy_17 (by decide) ?_
    refine xi_goto (tgt := 22) dX8_lossBy_18 rfl ?_
    refine cV1 (av := [_]) dX8_lossBy_22 lX8_272 rfl ⟨rfl, rfl⟩ rfl ⟨(Nat.le_of_ble_eq_true rfl), (Nat.le_of_ble_eq_true rfl)⟩ ⟨(Nat.le_of_ble_eq_true rfl), (Nat.le_of_ble_eq_true rfl)⟩ (Nat.le_of_ble_eq_true rfl) g76 rfl rfl (m_lossNow (A := flA A1 B1 c r n m w t u) hn hn64 (flA_nw hT2 hR)) ?_
    refine go_ret (r := some (.int _)) dX8_lossBy_25 (Nat.le_of_ble_eq_true rfl) (Nat.le_of_ble_eq_true rfl) ?_
    exact ⟨by rw [if_pos h14], rfl, rfl, rfl⟩
theorem m_loss {c r n m lf : Nat} {a t u : Int32} {A A1 : xA} {B B1 : xB} {D : xD} (hl : laid A B A1 B1) (hT : mT A1 c r n m lf) (hR : mRt A1 m) : does0 mX8_loss [.ref 76, .int a, .int t, .int u] A B D (mQ D (fOK a t u) True (some (.int (loV (flA (updA A1 76 0 0) B1 c r n m a.toNatClampNeg t u) B1 m (if u = 3 then 1 else 0) n))) (flA (updA A1 76 0 0) B1 c r n m a.toNatClampNeg t u) B1 A B) nx := by
  refine does_go (by decide) rfl (Nat.le_of_ble_eq_true rfl) rfl ?_
  refine xi_aload_n dX8_loss_0 rfl rfl ?_
  refine xi_iload_n dX8_loss_1 rfl rfl ?_
  refine xi_iload_n dX8_loss_2 rfl rfl ?_
  refine xi_iload_n dX8_loss_3 rfl rfl ?_
  refine cS1 (av := [_, _, _]) dX8_loss_4 lX8_259 rfl ⟨rfl, rfl⟩ rfl ⟨(Nat.le_of_ble_eq_true rfl), (Nat.le_of_ble_eq_true rfl)⟩ ⟨(Nat.le_of_ble_eq_true rfl), (Nat.le_of_ble_eq_true rfl)⟩ (Nat.le_of_ble_eq_true rfl) (m_isFilter) ?_
  refine xi_if_eq (tgt := 14) dX8_loss_7 rfl (fun h7 => ?_) (fun h7 => ?_)
  · refine xi_iconst (v := 1) dX8_loss_14 (by decide) ?_
    refine xi_putfield0 dX8_loss_15 fX8_73 g76 pX8_73 ?_
    refine xi_aload_n dX8_loss_18 rfl rfl ?_
    refine xi_getfield0 dX8_loss_19 fX8_73 g76 ?_
    refine xi_if_le (tgt := 29) dX8_loss_22 rfl (fun h => absurd h (show ¬ ((1 : Int32) ≤ 0) by decide)) (fun _ => ?_)
    refine xi_iconst (v := 0) dX8_loss_25 (by decide) ?_
    refine xi_goto (tgt := 36) dX8_loss_26 rfl ?_
    refine go_ret (r := some (.int _)) dX8_loss_36 (Nat.le_of_ble_eq_true rfl) (Nat.le_of_ble_eq_true rfl) ?_
    exact ⟨rfl, Or.inr (Or.inl ⟨(fi_eq _ _ _).mp h7, rfl, rfl, rfl⟩)⟩
  · have hp1 := (fi_ne _ _ _).mp h7
    obtain ⟨w, hw, rfl⟩ := fo_nI hp1
    refine xi_iconst (v := 0) dX8_loss_10 (by decide) ?_
    refine xi_goto (tgt := 15) dX8_loss_11 rfl ?_
    refine xi_putfield0 dX8_loss_15 fX8_73 g76 pX8_73 ?_
    refine xi_aload_n dX8_loss_18 rfl rfl ?_
    refine xi_getfield0 dX8_loss_19 fX8_73 g76 ?_
    refine xi_if_le (tgt := 29) dX8_loss_22 rfl (fun _ => ?_) (fun h => absurd h (show ¬ (¬ (0 : Int32) ≤ 0) by decide))
    refine xi_aload_n dX8_loss_29 rfl rfl ?_
    refine xi_iload_n dX8_loss_30 rfl rfl ?_
    refine xi_iload_n dX8_loss_31 rfl rfl ?_
    refine xi_iload_n dX8_loss_32 rfl rfl ?_
    refine cV1 (av := [_, _, _]) dX8_loss_33 lX8_276 rfl ⟨rfl, rfl⟩ rfl ⟨(Nat.le_of_ble_eq_true rfl), (Nat.le_of_ble_eq_true rfl)⟩ ⟨(Nat.le_of_ble_eq_true rfl), (Nat.le_of_ble_eq_true rfl)⟩ (Nat.le_of_ble_eq_true rfl) g76 rfl rfl (m_lossBy hw (hl.1 0 D) (mT_t hT) hR) ?_
    refine go_ret (r := some (.int _)) dX8_loss_36 (Nat.le_of_ble_eq_true rfl) (Nat.le_of_ble_eq_true rfl) ?_
    exact ⟨rfl, Or.inl ⟨hp1, trivial, by rw [nI_clamp (by omega)], by rw [nI_clamp (by omega)], rfl⟩⟩
/-- takeMade: (how many changed, the levels) -/
def mdS (now : Nat → Int32) (p : Nat) (q : Int32 × (Nat → Int32)) : Int32 × (Nat → Int32) := (q.1 + (if q.2 p = now p then 0 else 1), upd q.2 p (now p))
def mdR (A : xA) (n : Nat) : Int32 × (Nat → Int32) := itr (mdS (fun p => trn (A 93 p) (A 76 5))) n (0, A 77)
def mdA (A : xA) (sz n : Nat) : xA := setA (svA A sz) 77 (mdR A n).2
theorem m_takeMade {n sz : Nat} {A : xA} {B : xB} {D : xD} (hn : A 76 1 * A 76 2 = nI n) (hn64 : n ≤ 64) (hz : A 76 7 = nI sz) (hz8 : sz ≤ 8) : does0 mX8_takeMade [.ref 76] A B D (eqQ (some (.int (mdR A n).1)) (mdA A sz n) B D) nx := by
  refine does_go (by decide) rfl (Nat.le_of_ble_eq_true rfl) rfl ?_
  generalize hR : mdR A n = R
  unfold mdA
  rw [hR]
  have loop := up_ind (n := n) (P := fun j => ∀ q, q = itr (mdS (fun p => trn (A 93 p) (A 76 5))) j (0, A 77) → go0 mX8_takeMade (eqQ (some (.int R.1)) (setA (svA A sz) 77 R.2) B D) nx 0 0 8 [(0, .ref 76), (1, .int q.1), (2, .int (nI j))] [] (setA (svA A sz) 77 q.2) B D) (fun j hj ih q hq => by
    refine xi_iload_n dX8_takeMade_8 rfl rfl ?_
    refine xi_aload_n dX8_takeMade_9 rfl rfl ?_
    refine cV1 (av := []) dX8_takeMade_10 lX8_76 rfl ⟨rfl, rfl⟩ rfl ⟨(Nat.le_of_ble_eq_true rfl), (Nat.le_of_ble_eq_true rfl)⟩ ⟨(Nat.le_of_ble_eq_true rfl), (Nat.le_of_ble_eq_true rfl)⟩ (Nat.le_of_ble_eq_true rfl) g76 rfl rfl (m_pixels) ?_
    rw [show setA (svA A sz) 77 q.2 76 1 * setA (svA A sz) 77 q.2 76 2 = nI n from hn]
    refine xi_icmp_ge (tgt := 58) dX8_takeMade_13 rfl (fun h13 => ?_) (fun h13 => ?_)
    · have e : j = n := ge_eq hj (by omega) h13
      subst e
      refine xi_iload_n dX8_takeMade_58 rfl rfl ?_
      refine go_ret (r := some (.int _)) dX8_takeMade_59 (Nat.le_of_ble_eq_true rfl) (Nat.le_of_ble_eq_true rfl) ?_
      exact ⟨by rw [hq, ← hR]; rfl, by rw [hq, ← hR]; rfl, rfl, rfl⟩
    · have hl : j < n := nge_lt hj (by omega) h13
      refine xi_aload_n dX8_takeMade_16 rfl rfl ?_
      refine xi_aload_n dX8_takeMade_17 rfl rfl ?_
      refine xi_getfield3 dX8_takeMade_18 fX8_67 g76 r76_30 ?_
      refine xi_iload_n dX8_takeMade_21 rfl rfl ?_
      refine ia dX8_takeMade_22 g93 s93 rfl (by omega) (Nat.le_of_ble_eq_true rfl) ?_
      refine cV1 (av := [_]) dX8_takeMade_23 lX8_159 rfl ⟨rfl, rfl⟩ rfl ⟨(Nat.le_of_ble_eq_true rfl), (Nat.le_of_ble_eq_true rfl)⟩ ⟨(Nat.le_of_ble_eq_true rfl), (Nat.le_of_ble_eq_true rfl)⟩ (Nat.le_of_ble_eq_true rfl) g76 rfl rfl (m_rankOf) ?_
      rw [show trn (setA (svA A sz) 77 q.2 93 j) (setA (svA A sz) 77 q.2 76 5) = trn (A 93 j) (A 76 5) from rfl]
      refine xi_istore_n dX8_takeMade_26 rfl (Nat.le_of_ble_eq_true rfl) ?_
      refine xi_iload_n dX8_takeMade_27 rfl rfl ?_
      refine xi_aload_n dX8_takeMade_28 rfl rfl ?_
      refine xi_getfield3 dX8_takeMade_29 fX8_16 g76 r76_3 ?_
      refine xi_iload_n dX8_takeMade_32 rfl rfl ?_
      refine ia dX8_takeMade_33 g77 s77 rfl (by omega) (Nat.le_of_ble_eq_true rfl) ?_
      rw [setA_s]
      refine xi_iload_n dX8_takeMade_34 rfl rfl ?_
      refine xi_icmpne (tgt := 42) dX8_takeMade_35 rfl (fun h35 => ?_) (fun h35 => ?_)
      · refine xi_iconst (v := 1) dX8_takeMade_42 (by decide) ?_
        refine xi_iadd dX8_takeMade_43 ?_
        refine xi_istore_n dX8_takeMade_44 rfl (Nat.le_of_ble_eq_true rfl) ?_
        refine xi_aload_n dX8_takeMade_45 rfl rfl ?_
        refine xi_getfield3 dX8_takeMade_46 fX8_16 g76 r76_3 ?_
        refine xi_iload_n dX8_takeMade_49 rfl rfl ?_
        refine xi_iload_n dX8_takeMade_50 rfl rfl ?_
        refine is dX8_takeMade_51 g77 s77 rfl (by omega) (Nat.le_of_ble_eq_true rfl) ?_
        refine xi_iinc (v := 1) dX8_takeMade_52 rfl (by decide) (Nat.le_of_ble_eq_true rfl) ?_
        refine xi_goto (tgt := 8) dX8_takeMade_55 rfl ?_
        refine xgo_pick [0, 1, 2] rfl ?_
        rw [nI_1, setA_u]
        exact ih hl (_, upd q.2 j (trn (A 93 j) (A 76 5))) (by rw [itr_s, ← hq]; unfold mdS; simp only [h35, if_true, if_false])
      · refine xi_iconst (v := 0) dX8_takeMade_38 (by decide) ?_
        refine xi_goto (tgt := 43) dX8_takeMade_39 rfl ?_
        refine xi_iadd dX8_takeMade_43 ?_
        refine xi_istore_n dX8_takeMade_44 rfl (Nat.le_of_ble_eq_true rfl) ?_
        refine xi_aload_n dX8_takeMade_45 rfl rfl ?_
        refine xi_getfield3 dX8_takeMade_46 fX8_16 g76 r76_3 ?_
        refine xi_iload_n dX8_takeMade_49 rfl rfl ?_
        refine xi_iload_n dX8_takeMade_50 rfl rfl ?_
        refine is dX8_takeMade_51 g77 s77 rfl (by omega) (Nat.le_of_ble_eq_true rfl) ?_
        refine xi_iinc (v := 1) dX8_takeMade_52 rfl (by decide) (Nat.le_of_ble_eq_true rfl) ?_
        refine xi_goto (tgt := 8) dX8_takeMade_55 rfl ?_
        refine xgo_pick [0, 1, 2] rfl ?_
        rw [nI_1, setA_u]
        exact ih hl (_, upd q.2 j (trn (A 93 j) (A 76 5))) (by rw [itr_s, ← hq]; unfold mdS; simp only [h35, if_true, if_false])
    )
  refine xi_aload_n dX8_takeMade_0 rfl rfl ?_
  refine cV1 (av := []) dX8_takeMade_1 lX8_100 rfl ⟨rfl, rfl⟩ rfl ⟨(Nat.le_of_ble_eq_true rfl), (Nat.le_of_ble_eq_true rfl)⟩ ⟨(Nat.le_of_ble_eq_true rfl), (Nat.le_of_ble_eq_true rfl)⟩ (Nat.le_of_ble_eq_true rfl) g76 rfl rfl (m_save (sz := sz) hz hz8) ?_
  refine xi_iconst (v := 0) dX8_takeMade_4 (by decide) ?_
  refine xi_istore_n dX8_takeMade_5 rfl (Nat.le_of_ble_eq_true rfl) ?_
  refine xi_iconst (v := 0) dX8_takeMade_6 (by decide) ?_
  refine xi_istore_n dX8_takeMade_7 rfl (Nat.le_of_ble_eq_true rfl) ?_
  refine xgo_pick [0, 1, 2] rfl ?_
  have l0 := loop 0 (Nat.zero_le _) (0, A 77) rfl
  rw [show setA (svA A sz) 77 (0, A 77).2 = svA A sz from setA_self (svA A sz) 77] at l0
  exact l0
def mkF (A : xA) (f : Nat → Int32) (k : Nat) (j : Nat) : Int32 := if j < k then f j else A 93 j
theorem mkF_s (A : xA) (f : Nat → Int32) (k : Nat) : mkF A f (k + 1) = upd (mkF A f k) k (f k) := by funext i; unfold mkF upd; grind
/-- takeRemains' heap -/
def trmA (A : xA) (B : xB) (m n : Nat) (sm : Int32) : xA := setA A 93 (mkF A (fun p => nrV A B m p sm) n)
theorem m_takeRemains {n m sz : Nat} {sm : Int32} {A : xA} {B : xB} {D : xD} (hn : A 76 1 * A 76 2 = nI n) (hn64 : n ≤ 64) (h : nwOK A n m) (hz : A 76 7 = nI sz) (hz8 : sz ≤ 8) : does0 mX8_takeRemains [.ref 76, .int sm] A B D (eqQ (some (.int (mdR (trmA A B m n sm) n).1)) (mdA (trmA A B m n sm) sz n) B D) nx := by
  refine does_go (by decide) rfl (Nat.le_of_ble_eq_true rfl) rfl ?_
  have loop := up_ind (n := n) (P := fun j => go0 mX8_takeRemains (eqQ (some (.int (mdR (trmA A B m n sm) n).1)) (mdA (trmA A B m n sm) sz n) B D) nx 0 0 2 [(0, .ref 76), (1, .int sm), (2, .int (nI j))] [] (setA A 93 (mkF A (fun p => nrV A B m p sm) j)) B D) (fun j hj ih => by
    have h2 : nwOK (setA A 93 (mkF A (fun p => nrV A B m p sm) j)) n m := h
    refine xi_iload_n dX8_takeRemains_2 rfl rfl ?_
    refine xi_aload_n dX8_takeRemains_3 rfl rfl ?_
    refine cV1 (av := []) dX8_takeRemains_4 lX8_76 rfl ⟨rfl, rfl⟩ rfl ⟨(Nat.le_of_ble_eq_true rfl), (Nat.le_of_ble_eq_true rfl)⟩ ⟨(Nat.le_of_ble_eq_true rfl), (Nat.le_of_ble_eq_true rfl)⟩ (Nat.le_of_ble_eq_true rfl) g76 rfl rfl (m_pixels) ?_
    rw [show setA A 93 (mkF A (fun p => nrV A B m p sm) j) 76 1 * setA A 93 (mkF A (fun p => nrV A B m p sm) j) 76 2 = nI n from hn]
    refine xi_icmp_ge (tgt := 28) dX8_takeRemains_7 rfl (fun h7 => ?_) (fun h7 => ?_)
    · have e : j = n := ge_eq hj (by omega) h7
      subst e
      refine xi_aload_n dX8_takeRemains_28 rfl rfl ?_
      refine cV1 (av := []) dX8_takeRemains_29 lX8_280 rfl ⟨rfl, rfl⟩ rfl ⟨(Nat.le_of_ble_eq_true rfl), (Nat.le_of_ble_eq_true rfl)⟩ ⟨(Nat.le_of_ble_eq_true rfl), (Nat.le_of_ble_eq_true rfl)⟩ (Nat.le_of_ble_eq_true rfl) g76 rfl rfl (m_takeMade (A := trmA A B m j sm) hn hn64 hz hz8) ?_
      refine go_ret (r := some (.int _)) dX8_takeRemains_32 (Nat.le_of_ble_eq_true rfl) (Nat.le_of_ble_eq_true rfl) ?_
      exact ⟨rfl, rfl, rfl, rfl⟩
    · have hl : j < n := nge_lt hj (by omega) h7
      refine xi_aload_n dX8_takeRemains_10 rfl rfl ?_
      refine xi_getfield3 dX8_takeRemains_11 fX8_67 g76 r76_30 ?_
      refine xi_iload_n dX8_takeRemains_14 rfl rfl ?_
      refine xi_aload_n dX8_takeRemains_15 rfl rfl ?_
      refine xi_iload_n dX8_takeRemains_16 rfl rfl ?_
      refine xi_iload_n dX8_takeRemains_17 rfl rfl ?_
      refine cV1 (av := [_, _]) dX8_takeRemains_18 lX8_269 rfl ⟨rfl, rfl⟩ rfl ⟨(Nat.le_of_ble_eq_true rfl), (Nat.le_of_ble_eq_true rfl)⟩ ⟨(Nat.le_of_ble_eq_true rfl), (Nat.le_of_ble_eq_true rfl)⟩ (Nat.le_of_ble_eq_true rfl) g76 rfl rfl (h2.nr hl hn64) ?_
      refine is dX8_takeRemains_21 g93 s93 rfl (by omega) (Nat.le_of_ble_eq_true rfl) ?_
      refine xi_iinc (v := 1) dX8_takeRemains_22 rfl (by decide) (Nat.le_of_ble_eq_true rfl) ?_
      refine xi_goto (tgt := 2) dX8_takeRemains_25 rfl ?_
      refine xgo_pick [0, 1, 2] rfl ?_
      rw [nI_1, setA_u]
      have q := ih hl
      rw [mkF_s] at q
      exact q
    )
  refine xi_iconst (v := 0) dX8_takeRemains_0 (by decide) ?_
  refine xi_istore_n dX8_takeRemains_1 rfl (Nat.le_of_ble_eq_true rfl) ?_
  refine xgo_pick [0, 1, 2] rfl ?_
  have l0 := loop 0 (Nat.zero_le _)
  rw [show mkF A (fun p => nrV A B m p sm) 0 = A 93 by funext i; simp [mkF], setA_self] at l0
  exact l0
theorem m_filter {c r n m lf sz : Nat} {a t u : Int32} {A A1 : xA} {B B1 : xB} {D : xD} (hl : laid A B A1 B1) (hT : mT A1 c r n m lf) (hR : mRt A1 m) (hz : A1 76 7 = nI sz) (hz8 : sz ≤ 8) : does0 mX8_filter [.ref 76, .int a, .int t, .int u] A B D (mQ D (fOK a t u) True (some (.int (mdR (trmA (flA (updA A1 76 0 0) B1 c r n m a.toNatClampNeg t u) B1 m n (if u = 3 then 1 else 0)) n).1)) (mdA (trmA (flA (updA A1 76 0 0) B1 c r n m a.toNatClampNeg t u) B1 m n (if u = 3 then 1 else 0)) sz n) B1 A B) nx := by
  refine does_go (by decide) rfl (Nat.le_of_ble_eq_true rfl) rfl ?_
  have hT2 := hT
  obtain ⟨hG, hm, hm0, hm64, hpa, -⟩ := hT
  obtain ⟨hn, hn0, hn64⟩ := hG.n
  refine xi_aload_n dX8_filter_0 rfl rfl ?_
  refine xi_iload_n dX8_filter_1 rfl rfl ?_
  refine xi_iload_n dX8_filter_2 rfl rfl ?_
  refine xi_iload_n dX8_filter_3 rfl rfl ?_
  refine cS1 (av := [_, _, _]) dX8_filter_4 lX8_259 rfl ⟨rfl, rfl⟩ rfl ⟨(Nat.le_of_ble_eq_true rfl), (Nat.le_of_ble_eq_true rfl)⟩ ⟨(Nat.le_of_ble_eq_true rfl), (Nat.le_of_ble_eq_true rfl)⟩ (Nat.le_of_ble_eq_true rfl) (m_isFilter) ?_
  refine xi_if_eq (tgt := 14) dX8_filter_7 rfl (fun h7 => ?_) (fun h7 => ?_)
  · refine xi_iconst (v := 1) dX8_filter_14 (by decide) ?_
    refine xi_putfield0 dX8_filter_15 fX8_73 g76 pX8_73 ?_
    refine xi_aload_n dX8_filter_18 rfl rfl ?_
    refine xi_getfield0 dX8_filter_19 fX8_73 g76 ?_
    refine xi_if_le (tgt := 27) dX8_filter_22 rfl (fun h => absurd h (show ¬ ((1 : Int32) ≤ 0) by decide)) (fun _ => ?_)
    refine xi_iconst (v := 0) dX8_filter_25 (by decide) ?_
    refine go_ret (r := some (.int _)) dX8_filter_26 (Nat.le_of_ble_eq_true rfl) (Nat.le_of_ble_eq_true rfl) ?_
    exact ⟨rfl, Or.inr (Or.inl ⟨(fi_eq _ _ _).mp h7, rfl, rfl, rfl⟩)⟩
  · have hp1 := (fi_ne _ _ _).mp h7
    obtain ⟨w, hw, rfl⟩ := fo_nI hp1
    refine xi_iconst (v := 0) dX8_filter_10 (by decide) ?_
    refine xi_goto (tgt := 15) dX8_filter_11 rfl ?_
    refine xi_putfield0 dX8_filter_15 fX8_73 g76 pX8_73 ?_
    refine xi_aload_n dX8_filter_18 rfl rfl ?_
    refine xi_getfield0 dX8_filter_19 fX8_73 g76 ?_
    refine xi_if_le (tgt := 27) dX8_filter_22 rfl (fun _ => ?_) (fun h => absurd h (show ¬ (¬ (0 : Int32) ≤ 0) by decide))
    refine xi_aload_n dX8_filter_27 rfl rfl ?_
    refine xi_iload_n dX8_filter_28 rfl rfl ?_
    refine cV1 (av := [_]) dX8_filter_29 lX8_262 rfl ⟨rfl, rfl⟩ rfl ⟨(Nat.le_of_ble_eq_true rfl), (Nat.le_of_ble_eq_true rfl)⟩ ⟨(Nat.le_of_ble_eq_true rfl), (Nat.le_of_ble_eq_true rfl)⟩ (Nat.le_of_ble_eq_true rfl) g76 rfl rfl ((i_fl (th := t) (u := u) hw (hl.1 0 D) hG hm hm64).1) ?_
    refine xi_aload_n dX8_filter_32 rfl rfl ?_
    refine xi_iload_n dX8_filter_33 rfl rfl ?_
    refine xi_iload_n dX8_filter_34 rfl rfl ?_
    refine cV1 (av := [_, _]) dX8_filter_35 lX8_266 rfl ⟨rfl, rfl⟩ rfl ⟨(Nat.le_of_ble_eq_true rfl), (Nat.le_of_ble_eq_true rfl)⟩ ⟨(Nat.le_of_ble_eq_true rfl), (Nat.le_of_ble_eq_true rfl)⟩ (Nat.le_of_ble_eq_true rfl) g76 rfl rfl ((i_fl (th := t) (u := u) hw (hl.1 0 D) hG hm hm64).2) ?_
    refine xi_aload_n dX8_filter_38 rfl rfl ?_
    refine xi_iload_n dX8_filter_39 rfl rfl ?_
    refine xi_iconst (v := 3) dX8_filter_40 (by decide) ?_
    refine xi_icmpne (tgt := 48) dX8_filter_41 rfl (fun h41 => ?_) (fun h41 => ?_)
    · refine xi_iconst (v := 0) dX8_filter_48 (by decide) ?_
      refine cV1 (av := [_]) dX8_filter_49 lX8_283 rfl ⟨rfl, rfl⟩ rfl ⟨(Nat.le_of_ble_eq_true rfl), (Nat.le_of_ble_eq_true rfl)⟩ ⟨(Nat.le_of_ble_eq_true rfl), (Nat.le_of_ble_eq_true rfl)⟩ (Nat.le_of_ble_eq_true rfl) g76 rfl rfl (m_takeRemains (A := flA (updA A1 76 0 0) B1 c r n m w t u) hn hn64 (flA_nw (mT_t hT2) hR) hz hz8) ?_
      refine go_ret (r := some (.int _)) dX8_filter_52 (Nat.le_of_ble_eq_true rfl) (Nat.le_of_ble_eq_true rfl) ?_
      exact ⟨rfl, Or.inl ⟨hp1, trivial, by rw [nI_clamp (by omega), if_neg h41], by rw [nI_clamp (by omega), if_neg h41], rfl⟩⟩
    · refine xi_iconst (v := 1) dX8_filter_44 (by decide) ?_
      refine xi_goto (tgt := 49) dX8_filter_45 rfl ?_
      refine cV1 (av := [_]) dX8_filter_49 lX8_283 rfl ⟨rfl, rfl⟩ rfl ⟨(Nat.le_of_ble_eq_true rfl), (Nat.le_of_ble_eq_true rfl)⟩ ⟨(Nat.le_of_ble_eq_true rfl), (Nat.le_of_ble_eq_true rfl)⟩ (Nat.le_of_ble_eq_true rfl) g76 rfl rfl (m_takeRemains (A := flA (updA A1 76 0 0) B1 c r n m w t u) hn hn64 (flA_nw (mT_t hT2) hR) hz hz8) ?_
      refine go_ret (r := some (.int _)) dX8_filter_52 (Nat.le_of_ble_eq_true rfl) (Nat.le_of_ble_eq_true rfl) ?_
      exact ⟨rfl, Or.inl ⟨hp1, trivial, by rw [nI_clamp (by omega), if_pos h41], by rw [nI_clamp (by omega), if_pos h41], rfl⟩⟩

