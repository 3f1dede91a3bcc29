/-! ComponentTree: what its calls share -/
def inR (i n : Int32) : Prop := ¬ i < 0 ∧ i < n
theorem c_needPixel {i : Int32} {A : xA} {B : xB} {D : xD} : does0 mX7_needPixel [.ref 0, .int i] A B D (ifQ (inR i (A 1 0 * A 1 1)) A B D) (ifX (inR i (A 1 0 * A 1 1)) sIO A B D) := by
  refine does_go (by decide) rfl (Nat.le_of_ble_eq_true rfl) rfl ?_
  refine xi_iload_n dX7_needPixel_0 rfl rfl ?_
  refine xi_aload_n dX7_needPixel_1 rfl rfl ?_
  refine xi_getfield3 dX7_needPixel_2 fX7_10 g0 r0_0 ?_
  refine cV1 (av := []) dX7_needPixel_5 lX7_75 rfl ⟨rfl, rfl⟩ rfl ⟨(Nat.le_of_ble_eq_true rfl), (Nat.le_of_ble_eq_true rfl)⟩ ⟨(Nat.le_of_ble_eq_true rfl), (Nat.le_of_ble_eq_true rfl)⟩ (Nat.le_of_ble_eq_true rfl) g1 rfl rfl (c_size isPic_1) ?_
  refine cSI (av := [_, _]) dX7_needPixel_8 lX7_165 rfl rfl rfl ⟨(Nat.le_of_ble_eq_true rfl), (Nat.le_of_ble_eq_true rfl), (Nat.le_of_ble_eq_true rfl), (Nat.le_of_ble_eq_true rfl)⟩ (Nat.le_of_ble_eq_true rfl) (c_needIndex) (fun q => ⟨q, rfl, rfl, rfl, rfl⟩) (fun h8 => ?_)
  refine go_ret (r := none) dX7_needPixel_11 (Nat.le_of_ble_eq_true rfl) (Nat.le_of_ble_eq_true rfl) ?_
  exact ⟨h8, rfl, rfl, rfl, rfl⟩
theorem c_needNode {i : Int32} {A : xA} {B : xB} {D : xD} : does0 mX7_needNode [.ref 0, .int i] A B D (ifQ (inR i (A 35 2)) A B D) (ifX (inR i (A 35 2)) sIO A B D) := by
  refine does_go (by decide) rfl (Nat.le_of_ble_eq_true rfl) rfl ?_
  refine xi_iload_n dX7_needNode_0 rfl rfl ?_
  refine xi_aload_n dX7_needNode_1 rfl rfl ?_
  refine xi_getfield3 dX7_needNode_2 fX7_36 g0 r0_4 ?_
  refine xi_getfield0 dX7_needNode_5 fX7_105 g35 ?_
  refine cSI (av := [_, _]) dX7_needNode_8 lX7_165 rfl rfl rfl ⟨(Nat.le_of_ble_eq_true rfl), (Nat.le_of_ble_eq_true rfl), (Nat.le_of_ble_eq_true rfl), (Nat.le_of_ble_eq_true rfl)⟩ (Nat.le_of_ble_eq_true rfl) (c_needIndex) (fun q => ⟨q, rfl, rfl, rfl, rfl⟩) (fun h8 => ?_)
  refine go_ret (r := none) dX7_needNode_11 (Nat.le_of_ble_eq_true rfl) (Nat.le_of_ble_eq_true rfl) ?_
  exact ⟨h8, rfl, rfl, rfl, rfl⟩
def b01 (c : Bool) : Int32 := if c then 1 else 0
/-- low to high, both included -/
def btw (v l h : Int32) : Prop := ¬ v < l ∧ ¬ h < v
def isLevV (v : Int32) : Int32 := if v < 0 then 0 else if 15 < v then 0 else 1
theorem c_isLevel {v : Int32} {A : xA} {B : xB} {D : xD} : does0 mX7_isLevel [.int v] A B D (eqQ (some (.int (isLevV v))) A B D) nx := by
  refine does_go (by decide) rfl (Nat.le_of_ble_eq_true rfl) rfl ?_
  refine xi_iload_n dX7_isLevel_0 rfl rfl ?_
  refine xi_if_lt (tgt := 14) dX7_isLevel_1 rfl (fun h1 => ?_) (fun h1 => ?_)
  · refine xi_iconst (v := 0) dX7_isLevel_14 (by decide) ?_
    refine go_ret (r := some (.int _)) ⟨dX7_isLevel_15, (by first | exact Or.inl rfl | exact Or.inr rfl)⟩ (Nat.le_of_ble_eq_true rfl) (Nat.le_of_ble_eq_true rfl) ?_
    exact ⟨by unfold isLevV; simp only [*, if_true, if_false], rfl, rfl, rfl⟩
  · refine xi_iload_n dX7_isLevel_4 rfl rfl ?_
    refine xi_bipush (v := 15) dX7_isLevel_5 (by decide) ?_
    refine xi_icmp_gt (tgt := 14) dX7_isLevel_7 rfl (fun h7 => ?_) (fun h7 => ?_)
    · refine xi_iconst (v := 0) dX7_isLevel_14 (by decide) ?_
      refine go_ret (r := some (.int _)) ⟨dX7_isLevel_15, (by first | exact Or.inl rfl | exact Or.inr rfl)⟩ (Nat.le_of_ble_eq_true rfl) (Nat.le_of_ble_eq_true rfl) ?_
      exact ⟨by unfold isLevV; simp only [*, if_true, if_false], rfl, rfl, rfl⟩
    · refine xi_iconst (v := 1) dX7_isLevel_10 (by decide) ?_
      refine xi_goto (tgt := 15) dX7_isLevel_11 rfl ?_
      refine go_ret (r := some (.int _)) ⟨dX7_isLevel_15, (by first | exact Or.inl rfl | exact Or.inr rfl)⟩ (Nat.le_of_ble_eq_true rfl) (Nat.le_of_ble_eq_true rfl) ?_
      exact ⟨by unfold isLevV; simp only [*, if_true, if_false], rfl, rfl, rfl⟩
theorem isLev_ne (v : Int32) : ¬ isLevV v = 0 ↔ btw v 0 15 := by
  unfold isLevV btw
  by_cases h1 : v < 0 <;> by_cases h2 : 15 < v <;> simp [h1, h2]
def isFAV (a : Int32) : Int32 := if a = 1 then 1 else if a < 5 then 0 else if 11 < a then 0 else 1
theorem c_isFA {a : Int32} {A : xA} {B : xB} {D : xD} : does0 mX7_isFilterAttribute [.int a] A B D (eqQ (some (.int (isFAV a))) A B D) nx := by
  refine does_go (by decide) rfl (Nat.le_of_ble_eq_true rfl) rfl ?_
  refine xi_iload_n dX7_isFilterAttribute_0 rfl rfl ?_
  refine xi_iconst (v := 1) dX7_isFilterAttribute_1 (by decide) ?_
  refine xi_icmp_eq (tgt := 16) dX7_isFilterAttribute_2 rfl (fun h2 => ?_) (fun h2 => ?_)
  · refine xi_iconst (v := 1) dX7_isFilterAttribute_16 (by decide) ?_
    refine xi_goto (tgt := 21) dX7_isFilterAttribute_17 rfl ?_
    refine go_ret (r := some (.int _)) ⟨dX7_isFilterAttribute_21, (by first | exact Or.inl rfl | exact Or.inr rfl)⟩ (Nat.le_of_ble_eq_true rfl) (Nat.le_of_ble_eq_true rfl) ?_
    exact ⟨by unfold isFAV; simp only [*, if_true, if_false], rfl, rfl, rfl⟩
  · refine xi_iload_n dX7_isFilterAttribute_5 rfl rfl ?_
    refine xi_iconst (v := 5) dX7_isFilterAttribute_6 (by decide) ?_
    refine xi_icmp_lt (tgt := 20) dX7_isFilterAttribute_7 rfl (fun h7 => ?_) (fun h7 => ?_)
    · refine xi_iconst (v := 0) dX7_isFilterAttribute_20 (by decide) ?_
      refine go_ret (r := some (.int _)) ⟨dX7_isFilterAttribute_21, (by first | exact Or.inl rfl | exact Or.inr rfl)⟩ (Nat.le_of_ble_eq_true rfl) (Nat.le_of_ble_eq_true rfl) ?_
      exact ⟨by unfold isFAV; simp only [*, if_true, if_false], rfl, rfl, rfl⟩
    · refine xi_iload_n dX7_isFilterAttribute_10 rfl rfl ?_
      refine xi_bipush (v := 11) dX7_isFilterAttribute_11 (by decide) ?_
      refine xi_icmp_gt (tgt := 20) dX7_isFilterAttribute_13 rfl (fun h13 => ?_) (fun h13 => ?_)
      · refine xi_iconst (v := 0) dX7_isFilterAttribute_20 (by decide) ?_
        refine go_ret (r := some (.int _)) ⟨dX7_isFilterAttribute_21, (by first | exact Or.inl rfl | exact Or.inr rfl)⟩ (Nat.le_of_ble_eq_true rfl) (Nat.le_of_ble_eq_true rfl) ?_
        exact ⟨by unfold isFAV; simp only [*, if_true, if_false], rfl, rfl, rfl⟩
      · refine xi_iconst (v := 1) dX7_isFilterAttribute_16 (by decide) ?_
        refine xi_goto (tgt := 21) dX7_isFilterAttribute_17 rfl ?_
        refine go_ret (r := some (.int _)) ⟨dX7_isFilterAttribute_21, (by first | exact Or.inl rfl | exact Or.inr rfl)⟩ (Nat.le_of_ble_eq_true rfl) (Nat.le_of_ble_eq_true rfl) ?_
        exact ⟨by unfold isFAV; simp only [*, if_true, if_false], rfl, rfl, rfl⟩
/-- attribute, threshold and rule of a filter -/
def fOK (a t r : Int32) : Prop := ¬ isFAV a = 0 ∧ btw t 0 999 ∧ btw r 0 3
theorem c_needFilter {a t r : Int32} {A : xA} {B : xB} {D : xD} : does0 mX7_needFilter [.int a, .int t, .int r] A B D (ifQ (fOK a t r) A B D) (ifX (fOK a t r) sIA A B D) := by
  refine does_go (by decide) rfl (Nat.le_of_ble_eq_true rfl) rfl ?_
  refine xi_iload_n dX7_needFilter_0 rfl rfl ?_
  refine cS1 (av := [_]) dX7_needFilter_1 lX7_211 rfl ⟨rfl, rfl⟩ rfl ⟨(Nat.le_of_ble_eq_true rfl), (Nat.le_of_ble_eq_true rfl)⟩ ⟨(Nat.le_of_ble_eq_true rfl), (Nat.le_of_ble_eq_true rfl)⟩ (Nat.le_of_ble_eq_true rfl) (c_isFA) ?_
  refine cSI (av := [_]) dX7_needFilter_4 lX7_71 rfl rfl rfl ⟨(Nat.le_of_ble_eq_true rfl), (Nat.le_of_ble_eq_true rfl), (Nat.le_of_ble_eq_true rfl), (Nat.le_of_ble_eq_true rfl)⟩ (Nat.le_of_ble_eq_true rfl) (c_needArgument) (fun q => ⟨fun z => q z.1, rfl, rfl, rfl, rfl⟩) (fun h4 => ?_)
  refine xi_iload_n dX7_needFilter_7 rfl rfl ?_
  refine xi_if_lt (tgt := 22) dX7_needFilter_8 rfl (fun h8 => ?_) (fun h8 => ?_)
  · refine xi_iconst (v := 0) dX7_needFilter_22 (by decide) ?_
    refine cSI (av := [_]) dX7_needFilter_23 lX7_71 rfl rfl rfl ⟨(Nat.le_of_ble_eq_true rfl), (Nat.le_of_ble_eq_true rfl), (Nat.le_of_ble_eq_true rfl), (Nat.le_of_ble_eq_true rfl)⟩ (Nat.le_of_ble_eq_true rfl) (c_needArgument) (fun q => ⟨fun z => by first | exact q (by decide) | exact z.2.1.1 h8 | exact z.2.1.2 h15, rfl, rfl, rfl, rfl⟩) (fun h23 => ?_)
    exact absurd rfl h23
  · refine xi_iload_n dX7_needFilter_11 rfl rfl ?_
    refine xi_sipush (v := 999) dX7_needFilter_12 (by decide) ?_
    refine xi_icmp_gt (tgt := 22) dX7_needFilter_15 rfl (fun h15 => ?_) (fun h15 => ?_)
    · refine xi_iconst (v := 0) dX7_needFilter_22 (by decide) ?_
      refine cSI (av := [_]) dX7_needFilter_23 lX7_71 rfl rfl rfl ⟨(Nat.le_of_ble_eq_true rfl), (Nat.le_of_ble_eq_true rfl), (Nat.le_of_ble_eq_true rfl), (Nat.le_of_ble_eq_true rfl)⟩ (Nat.le_of_ble_eq_true rfl) (c_needArgument) (fun q => ⟨fun z => by first | exact q (by decide) | exact z.2.1.1 h8 | exact z.2.1.2 h15, rfl, rfl, rfl, rfl⟩) (fun h23 => ?_)
      exact absurd rfl h23
    · refine xi_iconst (v := 1) dX7_needFilter_18 (by decide) ?_
      refine xi_goto (tgt := 23) dX7_needFilter_19 rfl ?_
      refine cSI (av := [_]) dX7_needFilter_23 lX7_71 rfl rfl rfl ⟨(Nat.le_of_ble_eq_true rfl), (Nat.le_of_ble_eq_true rfl), (Nat.le_of_ble_eq_true rfl), (Nat.le_of_ble_eq_true rfl)⟩ (Nat.le_of_ble_eq_true rfl) (c_needArgument) (fun q => ⟨fun z => by first | exact q (by decide) | exact z.2.1.1 h8 | exact z.2.1.2 h15, rfl, rfl, rfl, rfl⟩) (fun h23 => ?_)
      refine xi_iload_n dX7_needFilter_26 rfl rfl ?_
      refine xi_if_lt (tgt := 39) dX7_needFilter_27 rfl (fun h27 => ?_) (fun h27 => ?_)
      · refine xi_iconst (v := 0) dX7_needFilter_39 (by decide) ?_
        refine cSI (av := [_]) dX7_needFilter_40 lX7_71 rfl rfl rfl ⟨(Nat.le_of_ble_eq_true rfl), (Nat.le_of_ble_eq_true rfl), (Nat.le_of_ble_eq_true rfl), (Nat.le_of_ble_eq_true rfl)⟩ (Nat.le_of_ble_eq_true rfl) (c_needArgument) (fun q => ⟨fun z => by first | exact q (by decide) | exact z.2.2.1 h27 | exact z.2.2.2 h32, rfl, rfl, rfl, rfl⟩) (fun h40 => ?_)
        exact absurd rfl h40
      · refine xi_iload_n dX7_needFilter_30 rfl rfl ?_
        refine xi_iconst (v := 3) dX7_needFilter_31 (by decide) ?_
        refine xi_icmp_gt (tgt := 39) dX7_needFilter_32 rfl (fun h32 => ?_) (fun h32 => ?_)
        · refine xi_iconst (v := 0) dX7_needFilter_39 (by decide) ?_
          refine cSI (av := [_]) dX7_needFilter_40 lX7_71 rfl rfl rfl ⟨(Nat.le_of_ble_eq_true rfl), (Nat.le_of_ble_eq_true rfl), (Nat.le_of_ble_eq_true rfl), (Nat.le_of_ble_eq_true rfl)⟩ (Nat.le_of_ble_eq_true rfl) (c_needArgument) (fun q => ⟨fun z => by first | exact q (by decide) | exact z.2.2.1 h27 | exact z.2.2.2 h32, rfl, rfl, rfl, rfl⟩) (fun h40 => ?_)
          exact absurd rfl h40
        · refine xi_iconst (v := 1) dX7_needFilter_35 (by decide) ?_
          refine xi_goto (tgt := 40) dX7_needFilter_36 rfl ?_
          refine cSI (av := [_]) dX7_needFilter_40 lX7_71 rfl rfl rfl ⟨(Nat.le_of_ble_eq_true rfl), (Nat.le_of_ble_eq_true rfl), (Nat.le_of_ble_eq_true rfl), (Nat.le_of_ble_eq_true rfl)⟩ (Nat.le_of_ble_eq_true rfl) (c_needArgument) (fun q => ⟨fun z => by first | exact q (by decide) | exact z.2.2.1 h27 | exact z.2.2.2 h32, rfl, rfl, rfl, rfl⟩) (fun h40 => ?_)
          refine go_ret (r := none) dX7_needFilter_43 (Nat.le_of_ble_eq_true rfl) (Nat.le_of_ble_eq_true rfl) ?_
          exact ⟨⟨h4, ⟨h8, h15⟩, ⟨h27, h32⟩⟩, rfl, rfl, rfl, rfl⟩
def mixV (h : Int64) (v : Int32) : Int64 := 31 * h + v.toInt64
theorem c_mixed {h : Int64} {v : Int32} {A : xA} {B : xB} {D : xD} : does0 mX7_mixed [.long h, .int v] A B D (eqQ (some (.long (mixV h v))) A B D) nx := by
  refine does_go (by decide) rfl (Nat.le_of_ble_eq_true rfl) rfl ?_
  refine xi_ldc2_w dX7_mixed_0 kX7_252 ?_
  refine xi_lload_n dX7_mixed_3 rfl rfl ?_
  refine xi_lmul dX7_mixed_4 ?_
  refine xi_iload_n dX7_mixed_5 rfl rfl ?_
  refine xi_i2l dX7_mixed_6 ?_
  refine xi_ladd dX7_mixed_7 ?_
  refine go_ret (r := some (.long _)) dX7_mixed_8 (Nat.le_of_ble_eq_true rfl) (Nat.le_of_ble_eq_true rfl) ?_
  exact ⟨rfl, rfl, rfl, rfl⟩
theorem c_lossBy {m a : Nat} {pa : Nat → Nat} {th rule : Int32} {A : xA} {B : xB} {D : xD} (h : trOK A m pa) (ha : a < 12) : does0 mX7_lossBy [.ref 0, .int (nI a), .int th, .int rule] A B D (eqQ (some (.int (lossV (A 39) (A 38) (prnA A (57 + a) th rule pa m 74) m))) (prnA A (57 + a) th rule pa m) B D) nx := by
  refine does_go (by decide) rfl (Nat.le_of_ble_eq_true rfl) rfl ?_
  obtain ⟨kv, hkv⟩ : ∃ kv, kv = 57 + a := ⟨_, rfl⟩
  rw [← hkv]
  have hg : (xG0 kv).1 = 1 := by rw [hkv]; exact (gv ha).1
  have hs : (xG0 kv).2.1 = 64 := by rw [hkv]; exact (gv ha).2
  refine xi_aload_n dX7_lossBy_0 rfl rfl ?_
  refine xi_getfield3 dX7_lossBy_1 fX7_53 g0 r0_7 ?_
  refine xi_aload_n dX7_lossBy_4 rfl rfl ?_
  refine xi_getfield3 dX7_lossBy_5 fX7_36 g0 r0_4 ?_
  refine xi_aload_n dX7_lossBy_8 rfl rfl ?_
  refine xi_getfield3 dX7_lossBy_9 fX7_46 g0 r0_6 ?_
  refine xi_getfield3 dX7_lossBy_12 fX7_151 g55 r55_0 ?_
  refine xi_iload_n dX7_lossBy_15 rfl rfl ?_
  refine xi_aaload5 (r := kv) dX7_lossBy_16 g56 s56 (vp_in_nI ha (by decide)) (by rw [nI_clamp (by omega), hkv]; exact r56 ha) ?_
  refine xi_iload_n dX7_lossBy_17 rfl rfl ?_
  refine xi_iload_n dX7_lossBy_18 rfl rfl ?_
  refine cV1 (av := [_, _, _, _]) dX7_lossBy_19 lX7_190 rfl ⟨rfl, rfl⟩ rfl ⟨(Nat.le_of_ble_eq_true rfl), (Nat.le_of_ble_eq_true rfl)⟩ ⟨(Nat.le_of_ble_eq_true rfl), (Nat.le_of_ble_eq_true rfl)⟩ (Nat.le_of_ble_eq_true rfl) g72 rfl rfl (c_prune h hg hs (by omega)) ?_
  refine xi_aload_n dX7_lossBy_22 rfl rfl ?_
  refine xi_getfield3 dX7_lossBy_23 fX7_53 g0 r0_7 ?_
  refine xi_aload_n dX7_lossBy_26 rfl rfl ?_
  refine xi_getfield3 dX7_lossBy_27 fX7_36 g0 r0_4 ?_
  refine cV1 (av := [_]) dX7_lossBy_30 lX7_270 rfl ⟨rfl, rfl⟩ rfl ⟨(Nat.le_of_ble_eq_true rfl), (Nat.le_of_ble_eq_true rfl)⟩ ⟨(Nat.le_of_ble_eq_true rfl), (Nat.le_of_ble_eq_true rfl)⟩ (Nat.le_of_ble_eq_true rfl) g72 rfl rfl (c_lossIn (m := m) h.1 h.2.2.1) ?_
  refine go_ret (r := some (.int _)) dX7_lossBy_33 (Nat.le_of_ble_eq_true rfl) (Nat.le_of_ble_eq_true rfl) ?_
  exact ⟨rfl, rfl, rfl, rfl⟩
def rpS (nd nr : Nat → Int32) (dk : Int32) (p : Nat) (s : Nat → Int32) : Nat → Int32 := upd s p (trn (nr (nd p).toNatClampNeg) dk)
/-- repaint's heap: the picture is kept, gets its new levels, the tree is stale -/
def rpA (A : xA) (x sz n : Nat) : xA := updA (setA (keepA A x sz) 2 (itr (rpS (A 42) (A 74) (A 0 9)) n (A 2))) 0 11 1
theorem keepA_o {A : xA} {x sz k' : Nat} (h : k' ≠ 7) (h9 : k' < 9 ∨ 32 < k') (hx : x < 8) : keepA A x sz k' = A k' := by
  unfold keepA
  rw [updA_n _ _ _ h, updA_n _ _ _ h, copyA_o (by omega) (by omega) (by omega)]
theorem c_repaint {m n x sz : Nat} {A : xA} {B : xB} {D : xD} (hm : A 35 2 = nI m) (hm64 : m ≤ 64) (hn : A 1 0 * A 1 1 = nI n) (hn64 : n ≤ 64) (hnd : ∀ p, p < n → ∃ a, a < 64 ∧ A 42 p = nI a) (hx : A 7 1 = nI x) (hx8 : x < 8) (hz : A 7 2 = nI sz) (hz8 : sz ≤ 8) : does0 mX7_repaint [.ref 0] A B D (eqQ (some (.int (chgV (A 39) (A 38) (A 74) m))) (rpA A x sz n) B D) nx := by
  refine does_go (by decide) rfl (Nat.le_of_ble_eq_true rfl) rfl ?_
  have ho : ∀ k', k' ≠ 7 → (k' < 9 ∨ 32 < k') → keepA A x sz k' = A k' := fun k' h1 h2 => keepA_o h1 h2 hx8
  unfold rpA
  generalize hA1 : keepA A x sz = A1 at ho
  have loop := up_ind (n := n) (P := fun j => ∀ s, s = itr (rpS (A 42) (A 74) (A 0 9)) j (A 2) → go0 mX7_repaint (eqQ (some (.int (chgV (A 39) (A 38) (A 74) m))) (updA (setA A1 2 (itr (rpS (A 42) (A 74) (A 0 9)) n (A 2))) 0 11 1) B D) nx 0 0 13 [(0, .ref 0), (1, .int (nI j))] [] (setA A1 2 s) B D) (fun j hj ih s hs => by
    refine xi_iload_n dX7_repaint_13 rfl rfl ?_
    refine xi_aload_n dX7_repaint_14 rfl rfl ?_
    refine xi_getfield3 dX7_repaint_15 fX7_10 g0 r0_0 ?_
    refine cV1 (av := []) dX7_repaint_18 lX7_75 rfl ⟨rfl, rfl⟩ rfl ⟨(Nat.le_of_ble_eq_true rfl), (Nat.le_of_ble_eq_true rfl)⟩ ⟨(Nat.le_of_ble_eq_true rfl), (Nat.le_of_ble_eq_true rfl)⟩ (Nat.le_of_ble_eq_true rfl) g1 rfl rfl (c_size isPic_1) ?_
    rw [show setA A1 2 s 1 0 * setA A1 2 s 1 1 = nI n by rw [setA_n _ _ (by decide), ho 1 (by decide) (by decide)]; exact hn]
    refine xi_icmp_ge (tgt := 63) dX7_repaint_21 rfl (fun h21 => ?_) (fun h21 => ?_)
    · have e : j = n := ge_eq hj (by omega) h21
      subst e
      refine xi_aload_n dX7_repaint_63 rfl rfl ?_
      refine xi_iconst (v := 1) dX7_repaint_64 (by decide) ?_
      refine xi_putfield1 dX7_repaint_65 fX7_68 g0 pX7_68 (by first | exact Or.inl rfl | exact Or.inr rfl) ?_
      refine xi_aload_n dX7_repaint_68 rfl rfl ?_
      refine xi_getfield3 dX7_repaint_69 fX7_53 g0 r0_7 ?_
      refine xi_aload_n dX7_repaint_72 rfl rfl ?_
      refine xi_getfield3 dX7_repaint_73 fX7_36 g0 r0_4 ?_
      refine cV1 (av := [_]) dX7_repaint_76 lX7_274 rfl ⟨rfl, rfl⟩ rfl ⟨(Nat.le_of_ble_eq_true rfl), (Nat.le_of_ble_eq_true rfl)⟩ ⟨(Nat.le_of_ble_eq_true rfl), (Nat.le_of_ble_eq_true rfl)⟩ (Nat.le_of_ble_eq_true rfl) g72 rfl rfl (c_changedIn (m := m) (by rw [updA_n _ _ _ (by decide), setA_n _ _ (by decide), ho 35 (by decide) (by decide)]; exact hm) hm64) ?_
      refine go_ret (r := some (.int _)) dX7_repaint_79 (Nat.le_of_ble_eq_true rfl) (Nat.le_of_ble_eq_true rfl) ?_
      exact ⟨by rw [updA_n _ _ _ (by decide), setA_n _ _ (by decide), ho 39 (by decide) (by decide), updA_n _ _ _ (by decide), setA_n _ _ (by decide), ho 38 (by decide) (by decide), updA_n _ _ _ (by decide), setA_n _ _ (by decide), ho 74 (by decide) (by decide)], by rw [hs], rfl, rfl⟩
    · have hl : j < n := nge_lt hj (by omega) h21
      obtain ⟨a, ha, hfa⟩ := hnd j hl
      refine xi_aload_n dX7_repaint_24 rfl rfl ?_
      refine xi_getfield3 dX7_repaint_25 fX7_10 g0 r0_0 ?_
      refine xi_getfield3 dX7_repaint_28 fX7_95 g1 r1_2 ?_
      refine xi_iload_n dX7_repaint_31 rfl rfl ?_
      refine xi_aload_n dX7_repaint_32 rfl rfl ?_
      refine xi_getfield3 dX7_repaint_33 fX7_53 g0 r0_7 ?_
      refine xi_getfield3 dX7_repaint_36 fX7_198 g72 r72_1 ?_
      refine xi_aload_n dX7_repaint_39 rfl rfl ?_
      refine xi_getfield3 dX7_repaint_40 fX7_36 g0 r0_4 ?_
      refine xi_getfield3 dX7_repaint_43 fX7_145 g35 r35_10 ?_
      refine xi_iload_n dX7_repaint_46 rfl rfl ?_
      refine ia dX7_repaint_47 g42 s42 rfl (by omega) (Nat.le_of_ble_eq_true rfl) ?_
      rw [setA_n _ _ (by decide), ho 42 (by decide) (by decide)]
      refine ia dX7_repaint_48 g74 s74 hfa ha (Nat.le_of_ble_eq_true rfl) ?_
      refine xi_aload_n dX7_repaint_49 rfl rfl ?_
      refine xi_getfield1 dX7_repaint_50 fX7_61 g0 ?_
      rw [show setA A1 2 s 74 a = A 74 a by rw [setA_n _ _ (by decide), ho 74 (by decide) (by decide)], show setA A1 2 s 0 9 = A 0 9 by rw [setA_n _ _ (by decide), ho 0 (by decide) (by decide)]]
      refine cS1 (av := [_, _]) dX7_repaint_53 lX7_201 rfl ⟨rfl, rfl⟩ rfl ⟨(Nat.le_of_ble_eq_true rfl), (Nat.le_of_ble_eq_true rfl)⟩ ⟨(Nat.le_of_ble_eq_true rfl), (Nat.le_of_ble_eq_true rfl)⟩ (Nat.le_of_ble_eq_true rfl) (c_turned) ?_
      refine is dX7_repaint_56 g2 s2 rfl (by omega) (Nat.le_of_ble_eq_true rfl) ?_
      refine xi_iinc (v := 1) dX7_repaint_57 rfl (by decide) (Nat.le_of_ble_eq_true rfl) ?_
      refine xi_goto (tgt := 13) dX7_repaint_60 rfl ?_
      refine xgo_pick [0, 1] rfl ?_
      rw [nI_1, setA_u]
      exact ih hl _ (by rw [itr_s, ← hs]; unfold rpS; rw [hfa, nI_clamp (by omega)])
    )
  refine xi_aload_n dX7_repaint_0 rfl rfl ?_
  refine xi_getfield3 dX7_repaint_1 fX7_22 g0 r0_2 ?_
  refine xi_aload_n dX7_repaint_4 rfl rfl ?_
  refine xi_getfield3 dX7_repaint_5 fX7_10 g0 r0_0 ?_
  refine cV1 (av := [_]) dX7_repaint_8 lX7_79 rfl ⟨rfl, rfl⟩ rfl ⟨(Nat.le_of_ble_eq_true rfl), (Nat.le_of_ble_eq_true rfl)⟩ ⟨(Nat.le_of_ble_eq_true rfl), (Nat.le_of_ble_eq_true rfl)⟩ (Nat.le_of_ble_eq_true rfl) g7 rfl rfl (c_keep hx hx8 hz hz8) ?_
  rw [hA1]
  refine xi_iconst (v := 0) dX7_repaint_11 (by decide) ?_
  refine xi_istore_n dX7_repaint_12 rfl (Nat.le_of_ble_eq_true rfl) ?_
  refine xgo_pick [0, 1] rfl ?_
  have l0 := loop 0 (Nat.zero_le _) (A 2) rfl
  rw [show setA A1 2 (A 2) = A1 by rw [← ho 2 (by decide) (by decide)]; exact setA_self A1 2] at l0
  exact l0

/-- the hash of the pixels -/
def hpS (lv mk nd : Nat → Int32) (p : Nat) (h : Int64) : Int64 := mixV (mixV (mixV h (lv p)) (mk p)) (nd p)
theorem c_withPixels {n : Nat} {h : Int64} {A : xA} {B : xB} {D : xD} (hn : A 1 0 * A 1 1 = nI n) (hn64 : n ≤ 64) : does0 mX7_withPixels [.ref 0, .long h] A B D (eqQ (some (.long (itr (hpS (A 2) (A 3) (A 42)) n h))) A B D) nx := by
  refine does_go (by decide) rfl (Nat.le_of_ble_eq_true rfl) rfl ?_
  generalize hR : itr (hpS (A 2) (A 3) (A 42)) n h = R
  have loop := up_ind (n := n) (P := fun j => ∀ x, x = itr (hpS (A 2) (A 3) (A 42)) j h → go0 mX7_withPixels (eqQ (some (.long R)) A B D) nx 0 0 5 [(0, .ref 0), (3, .long x), (5, .int (nI j))] [] A B D) (fun j hj ih x hx => by
    refine xi_iload dX7_withPixels_5 rfl ?_
    refine xi_aload_n dX7_withPixels_7 rfl rfl ?_
    refine xi_getfield3 dX7_withPixels_8 fX7_10 g0 r0_0 ?_
    refine cV1 (av := []) dX7_withPixels_11 lX7_75 rfl ⟨rfl, rfl⟩ rfl ⟨(Nat.le_of_ble_eq_true rfl), (Nat.le_of_ble_eq_true rfl)⟩ ⟨(Nat.le_of_ble_eq_true rfl), (Nat.le_of_ble_eq_true rfl)⟩ (Nat.le_of_ble_eq_true rfl) g1 rfl rfl (c_size isPic_1) ?_
    rw [hn]
    refine xi_icmp_ge (tgt := 68) dX7_withPixels_14 rfl (fun h14 => ?_) (fun h14 => ?_)
    · have e : j = n := ge_eq hj (by omega) h14
      subst e
      refine xi_lload_n dX7_withPixels_68 rfl rfl ?_
      refine go_ret (r := some (.long _)) dX7_withPixels_69 (Nat.le_of_ble_eq_true rfl) (Nat.le_of_ble_eq_true rfl) ?_
      exact ⟨by rw [hx, hR], rfl, rfl, rfl⟩
    · have hl : j < n := nge_lt hj (by omega) h14
      refine xi_lload_n dX7_withPixels_17 rfl rfl ?_
      refine xi_aload_n dX7_withPixels_18 rfl rfl ?_
      refine xi_getfield3 dX7_withPixels_19 fX7_10 g0 r0_0 ?_
      refine xi_getfield3 dX7_withPixels_22 fX7_95 g1 r1_2 ?_
      refine xi_iload dX7_withPixels_25 rfl ?_
      refine ia dX7_withPixels_27 g2 s2 rfl (by omega) (Nat.le_of_ble_eq_true rfl) ?_
      refine cS1 (av := [_, _]) dX7_withPixels_28 lX7_238 rfl ⟨rfl, rfl⟩ rfl ⟨(Nat.le_of_ble_eq_true rfl), (Nat.le_of_ble_eq_true rfl)⟩ ⟨(Nat.le_of_ble_eq_true rfl), (Nat.le_of_ble_eq_true rfl)⟩ (Nat.le_of_ble_eq_true rfl) (c_mixed) ?_
      refine xi_lstore_n dX7_withPixels_31 rfl (Nat.le_of_ble_eq_true rfl) ?_
      refine xi_lload_n dX7_withPixels_32 rfl rfl ?_
      refine xi_aload_n dX7_withPixels_33 rfl rfl ?_
      refine xi_getfield3 dX7_withPixels_34 fX7_10 g0 r0_0 ?_
      refine xi_getfield3 dX7_withPixels_37 fX7_109 g1 r1_3 ?_
      refine xi_iload dX7_withPixels_40 rfl ?_
      refine ia dX7_withPixels_42 g3 s3 rfl (by omega) (Nat.le_of_ble_eq_true rfl) ?_
      refine cS1 (av := [_, _]) dX7_withPixels_43 lX7_238 rfl ⟨rfl, rfl⟩ rfl ⟨(Nat.le_of_ble_eq_true rfl), (Nat.le_of_ble_eq_true rfl)⟩ ⟨(Nat.le_of_ble_eq_true rfl), (Nat.le_of_ble_eq_true rfl)⟩ (Nat.le_of_ble_eq_true rfl) (c_mixed) ?_
      refine xi_lstore_n dX7_withPixels_46 rfl (Nat.le_of_ble_eq_true rfl) ?_
      refine xi_lload_n dX7_withPixels_47 rfl rfl ?_
      refine xi_aload_n dX7_withPixels_48 rfl rfl ?_
      refine xi_getfield3 dX7_withPixels_49 fX7_36 g0 r0_4 ?_
      refine xi_getfield3 dX7_withPixels_52 fX7_145 g35 r35_10 ?_
      refine xi_iload dX7_withPixels_55 rfl ?_
      refine ia dX7_withPixels_57 g42 s42 rfl (by omega) (Nat.le_of_ble_eq_true rfl) ?_
      refine cS1 (av := [_, _]) dX7_withPixels_58 lX7_238 rfl ⟨rfl, rfl⟩ rfl ⟨(Nat.le_of_ble_eq_true rfl), (Nat.le_of_ble_eq_true rfl)⟩ ⟨(Nat.le_of_ble_eq_true rfl), (Nat.le_of_ble_eq_true rfl)⟩ (Nat.le_of_ble_eq_true rfl) (c_mixed) ?_
      refine xi_lstore_n dX7_withPixels_61 rfl (Nat.le_of_ble_eq_true rfl) ?_
      refine xi_iinc (v := 1) dX7_withPixels_62 rfl (by decide) (Nat.le_of_ble_eq_true rfl) ?_
      refine xi_goto (tgt := 5) dX7_withPixels_65 rfl ?_
      refine xgo_pick [0, 3, 5] rfl ?_
      rw [nI_1]
      exact ih hl _ (by rw [itr_s, ← hx]; rfl)
    )
  refine xi_lload_n dX7_withPixels_0 rfl rfl ?_
  refine xi_lstore_n dX7_withPixels_1 rfl (Nat.le_of_ble_eq_true rfl) ?_
  refine xi_iconst (v := 0) dX7_withPixels_2 (by decide) ?_
  refine xi_istore dX7_withPixels_3 (Nat.le_of_ble_eq_true rfl) ?_
  refine xgo_pick [0, 3, 5] rfl ?_
  exact loop 0 (Nat.zero_le _) _ rfl
def haS (A : xA) (v a : Nat) (h : Int64) : Int64 := mixV h (A (57 + a) v)
def htS (A : xA) (v : Nat) (h : Int64) : Int64 := itr (haS A v) 12 h
def hlS (lf : Nat → Int32) (i : Nat) (h : Int64) : Int64 := mixV h (lf i)
theorem i_withTree {Q : Option Value → xA → xB → xD → Prop} {v : Nat} {h : Int64} {A : xA} {B : xB} {D : xD} (hv : v < 64) (K : go0 mX7_withTree Q nx 0 0 51 [(0, .ref 0), (3, .long (htS A v h)), (5, .int (nI v))] [] A B D) :
    ∀ j, j ≤ 12 → ∀ x, x = itr (haS A v) j h → go0 mX7_withTree Q nx 0 0 20 [(0, .ref 0), (3, .long x), (5, .int (nI v)), (6, .int (nI j))] [] A B D :=
  up_ind (fun j hj ih x hx => by
    obtain ⟨kv, hkv⟩ : ∃ kv, kv = 57 + j := ⟨_, rfl⟩
    have hg : j < 12 → (xG0 kv).1 = 1 := fun h => by rw [hkv]; exact (gv h).1
    have hs : j < 12 → (xG0 kv).2.1 = 64 := fun h => by rw [hkv]; exact (gv h).2
    refine xi_iload dX7_withTree_20 rfl ?_
    refine xi_bipush (v := 12) dX7_withTree_22 (by decide) ?_
    refine xi_icmp_ge (tgt := 51) dX7_withTree_24 rfl (fun h24 => ?_) (fun h24 => ?_)
    · have e : j = 12 := ge_eq hj (by decide) h24
      subst e
      refine xgo_pick [0, 3, 5] rfl ?_
      rw [hx]
      exact K
    · have hl : j < 12 := nge_lt hj (by decide) h24
      have hg := hg hl
      have hs := hs hl
      refine xi_lload_n dX7_withTree_27 rfl rfl ?_
      refine xi_aload_n dX7_withTree_28 rfl rfl ?_
      refine xi_getfield3 dX7_withTree_29 fX7_46 g0 r0_6 ?_
      refine xi_getfield3 dX7_withTree_32 fX7_151 g55 r55_0 ?_
      refine xi_iload dX7_withTree_35 rfl ?_
      refine xi_aaload5 (r := kv) dX7_withTree_37 g56 s56 (vp_in_nI hl (by decide)) (by rw [nI_clamp (by omega), hkv]; exact r56 hl) ?_
      refine xi_iload dX7_withTree_38 rfl ?_
      refine ia dX7_withTree_40 hg hs rfl (by omega) (by omega) ?_
      refine cS1 (av := [_, _]) dX7_withTree_41 lX7_238 rfl ⟨rfl, rfl⟩ rfl ⟨(Nat.le_of_ble_eq_true rfl), (Nat.le_of_ble_eq_true rfl)⟩ ⟨(Nat.le_of_ble_eq_true rfl), (Nat.le_of_ble_eq_true rfl)⟩ (Nat.le_of_ble_eq_true rfl) (c_mixed) ?_
      refine xi_lstore_n dX7_withTree_44 rfl (Nat.le_of_ble_eq_true rfl) ?_
      refine xi_iinc (v := 1) dX7_withTree_45 rfl (by decide) (Nat.le_of_ble_eq_true rfl) ?_
      refine xi_goto (tgt := 20) dX7_withTree_48 rfl ?_
      refine xgo_pick [0, 3, 5, 6] rfl ?_
      rw [nI_1]
      exact ih hl _ (by rw [itr_s, ← hx, hkv]; rfl)
    )
theorem c_withTree {m lf : Nat} {h : Int64} {A : xA} {B : xB} {D : xD} (hm : A 35 2 = nI m) (hm64 : m ≤ 64) (hlf : A 35 3 = nI lf) (hlf64 : lf ≤ 64) : does0 mX7_withTree [.ref 0, .long h] A B D (eqQ (some (.long (itr (hlS (A 69)) lf (itr (htS A) m h)))) A B D) nx := by
  refine does_go (by decide) rfl (Nat.le_of_ble_eq_true rfl) rfl ?_
  generalize hR : itr (hlS (A 69)) lf (itr (htS A) m h) = R
  generalize hS : itr (htS A) m h = S at hR
  have loop2 := up_ind (n := lf) (P := fun j => ∀ x, x = itr (hlS (A 69)) j S → go0 mX7_withTree (eqQ (some (.long R)) A B D) nx 0 0 60 [(0, .ref 0), (3, .long x), (5, .int (nI j))] [] A B D) (fun j hj ih x hx => by
    refine xi_iload dX7_withTree_60 rfl ?_
    refine xi_aload_n dX7_withTree_62 rfl rfl ?_
    refine xi_getfield3 dX7_withTree_63 fX7_36 g0 r0_4 ?_
    refine xi_getfield0 dX7_withTree_66 fX7_172 g35 ?_
    rw [hlf]
    refine xi_icmp_ge (tgt := 93) dX7_withTree_69 rfl (fun h69 => ?_) (fun h69 => ?_)
    · have e : j = lf := ge_eq hj (by omega) h69
      subst e
      refine xi_lload_n dX7_withTree_93 rfl rfl ?_
      refine go_ret (r := some (.long _)) dX7_withTree_94 (Nat.le_of_ble_eq_true rfl) (Nat.le_of_ble_eq_true rfl) ?_
      exact ⟨by rw [hx, hR], rfl, rfl, rfl⟩
    · have hl : j < lf := nge_lt hj (by omega) h69
      refine xi_lload_n dX7_withTree_72 rfl rfl ?_
      refine xi_aload_n dX7_withTree_73 rfl rfl ?_
      refine xi_getfield3 dX7_withTree_74 fX7_46 g0 r0_6 ?_
      refine xi_getfield3 dX7_withTree_77 fX7_175 g55 r55_1 ?_
      refine xi_iload dX7_withTree_80 rfl ?_
      refine ia dX7_withTree_82 g69 s69 rfl (by omega) (Nat.le_of_ble_eq_true rfl) ?_
      refine cS1 (av := [_, _]) dX7_withTree_83 lX7_238 rfl ⟨rfl, rfl⟩ rfl ⟨(Nat.le_of_ble_eq_true rfl), (Nat.le_of_ble_eq_true rfl)⟩ ⟨(Nat.le_of_ble_eq_true rfl), (Nat.le_of_ble_eq_true rfl)⟩ (Nat.le_of_ble_eq_true rfl) (c_mixed) ?_
      refine xi_lstore_n dX7_withTree_86 rfl (Nat.le_of_ble_eq_true rfl) ?_
      refine xi_iinc (v := 1) dX7_withTree_87 rfl (by decide) (Nat.le_of_ble_eq_true rfl) ?_
      refine xi_goto (tgt := 60) dX7_withTree_90 rfl ?_
      refine xgo_pick [0, 3, 5] rfl ?_
      rw [nI_1]
      exact ih hl _ (by rw [itr_s, ← hx]; rfl)
    )
  have loop := up_ind (n := m) (P := fun j => ∀ x, x = itr (htS A) j h → go0 mX7_withTree (eqQ (some (.long R)) A B D) nx 0 0 5 [(0, .ref 0), (3, .long x), (5, .int (nI j))] [] A B D) (fun j hj ih x hx => by
    refine xi_iload dX7_withTree_5 rfl ?_
    refine xi_aload_n dX7_withTree_7 rfl rfl ?_
    refine xi_getfield3 dX7_withTree_8 fX7_36 g0 r0_4 ?_
    refine xi_getfield0 dX7_withTree_11 fX7_105 g35 ?_
    rw [hm]
    refine xi_icmp_ge (tgt := 57) dX7_withTree_14 rfl (fun h14 => ?_) (fun h14 => ?_)
    · have e : j = m := ge_eq hj (by omega) h14
      subst e
      refine xi_iconst (v := 0) dX7_withTree_57 (by decide) ?_
      refine xi_istore dX7_withTree_58 (Nat.le_of_ble_eq_true rfl) ?_
      refine xgo_pick [0, 3, 5] rfl ?_
      exact loop2 0 (Nat.zero_le _) _ (by rw [hx, hS]; rfl)
    · have hl : j < m := nge_lt hj (by omega) h14
      refine xi_iconst (v := 0) dX7_withTree_17 (by decide) ?_
      refine xi_istore dX7_withTree_18 (Nat.le_of_ble_eq_true rfl) ?_
      refine xgo_pick [0, 3, 5, 6] rfl ?_
      refine i_withTree (by omega) ?_ 0 (Nat.zero_le _) x rfl
      refine xi_iinc (v := 1) dX7_withTree_51 rfl (by decide) (Nat.le_of_ble_eq_true rfl) ?_
      refine xi_goto (tgt := 5) dX7_withTree_54 rfl ?_
      refine xgo_pick [0, 3, 5] rfl ?_
      rw [nI_1]
      exact ih hl _ (by rw [itr_s, ← hx])
    )
  refine xi_lload_n dX7_withTree_0 rfl rfl ?_
  refine xi_lstore_n dX7_withTree_1 rfl (Nat.le_of_ble_eq_true rfl) ?_
  refine xi_iconst (v := 0) dX7_withTree_2 (by decide) ?_
  refine xi_istore dX7_withTree_3 (Nat.le_of_ble_eq_true rfl) ?_
  refine xgo_pick [0, 3, 5] rfl ?_
  exact loop 0 (Nat.zero_le _) _ rfl

