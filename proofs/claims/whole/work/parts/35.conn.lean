/-! components: the class's connected, the model's spread -/
theorem bq {a b : Bool} {P : Prop} (h1 : a = true ↔ P) (h2 : b = true ↔ P) : a = b := by
  cases a <;> cases b
  · rfl
  · exact absurd (h1.mpr (h2.mp rfl)) (by decide)
  · exact absurd (h2.mpr (h1.mp rfl)) (by decide)
  · rfl
/-- how many of the first k bits are set -/
def cd (s : Int64) : Nat → Nat
  | 0 => 0
  | k + 1 => cd s k + (if hb s k then 1 else 0)
theorem cd_le (s : Int64) : ∀ k, cd s k ≤ k
  | 0 => Nat.le_refl _
  | k + 1 => by have := cd_le s k; unfold cd; split <;> omega
theorem cd_mo {x y : Int64} (h : ∀ q, hb x q = true → hb y q = true) : ∀ k, cd x k ≤ cd y k
  | 0 => Nat.le_refl _
  | k + 1 => by
    have := cd_mo h k
    unfold cd
    by_cases h1 : hb x k = true
    · rw [if_pos h1, if_pos (h k h1)]; omega
    · rw [if_neg h1]; split <;> omega
theorem cd_st {x y : Int64} (h : ∀ q, hb x q = true → hb y q = true) {q : Nat} (h1 : hb x q = false) (h2 : hb y q = true) : ∀ k, q < k → cd x k < cd y k
  | 0, hk => by omega
  | k + 1, hk => by
    unfold cd
    rcases Nat.lt_or_eq_of_le (Nat.le_of_lt_succ hk) with e | e
    · have := cd_st h h1 h2 k e
      by_cases h3 : hb x k = true
      · rw [if_pos h3, if_pos (h k h3)]; omega
      · rw [if_neg h3]; split <;> omega
    · subst e
      have := cd_mo h q
      rw [h1, h2]
      simp
      omega
theorem cd_full {s : Int64} : ∀ k, cd s k = k → ∀ q, q < k → hb s q = true
  | 0, _, q, hq => by omega
  | k + 1, h, q, hq => by
    unfold cd at h
    have h1 := cd_le s k
    by_cases h3 : hb s k = true
    · rw [if_pos h3] at h
      rcases Nat.lt_or_eq_of_le (Nat.le_of_lt_succ hq) with e | e
      · exact cd_full k (by omega) q e
      · subst e; exact h3
    · rw [if_neg h3] at h; omega
theorem hb_ne {x y : Int64} (h : ∀ q, hb x q = true → hb y q = true) (hne : ¬ y = x) : ∃ q, q < 64 ∧ hb x q = false ∧ hb y q = true := by
  refine Classical.byContradiction (fun hc => hne (hb_ext (fun q hq => ?_)))
  cases h1 : hb x q
  · cases h2 : hb y q
    · rfl
    · exact (hc ⟨q, hq, h1, h2⟩).elim
  · exact h q h1
theorem conn_go {c r : Nat} (h0 : 0 < c) (h8 : c ≤ 8) (hr : r ≤ 8) {wi : Int64} (hwi : ∀ q, hb wi q = true → q < c * r) (dg : Int32) {p : Nat} : ∀ (d : Nat) (x : Int64), 64 ≤ cd x 64 + d → hb x p = true → (∀ q, hb x q = true → hb wi q = true ∧ rch (nbr c dg) (fun q => hb wi q = true) p q) → ∀ q, hb (connV (nI c) (gL c r) (gR c r) wi dg d x) q = true ↔ rch (nbr c dg) (fun q => hb wi q = true) p q := by
  intro d
  induction d with
  | zero =>
    intro x hc hp hx q
    unfold connV
    have hf := cd_full 64 (show cd x 64 = 64 by have := cd_le x 64; omega)
    exact rch_is (X := fun q => hb x q = true) hp (fun q h => (hx q h).2) (fun a b _ _ hb2 => hf b (hb_lt hb2)) q
  | succ d ih =>
    intro x hc hp hx q
    unfold connV
    have hs : ∀ q, hb x q = true → q < c * r := fun q h => hwi q (hx q h).1
    have hy : ∀ q, hb (spreadV (nI c) (gL c r) (gR c r) x dg &&& wi) q = true ↔ (hb wi q = true ∧ (hb x q = true ∨ ∃ p, hb x p = true ∧ nbr c dg p q)) := by
      intro q
      rw [hb_and, Bool.and_eq_true]
      constructor
      · rintro ⟨h1, h2⟩
        exact ⟨h2, (hb_spread h0 h8 hr hs dg (hwi q h2)).mp h1⟩
      · rintro ⟨h1, h2⟩
        exact ⟨(hb_spread h0 h8 hr hs dg (hwi q h1)).mpr h2, h1⟩
    have hsub : ∀ q, hb x q = true → hb (spreadV (nI c) (gL c r) (gR c r) x dg &&& wi) q = true := fun q h => (hy q).mpr ⟨(hx q h).1, Or.inl h⟩
    by_cases he : (spreadV (nI c) (gL c r) (gR c r) x dg &&& wi) = x
    · rw [if_pos he]
      refine rch_is (X := fun q => hb x q = true) hp (fun q h => (hx q h).2) (fun a b ha hab hb2 => ?_) q
      have := (hy b).mpr ⟨hb2, Or.inr ⟨a, ha, hab⟩⟩
      rwa [he] at this
    · rw [if_neg he]
      obtain ⟨q0, hq0, e1, e2⟩ := hb_ne hsub he
      have := cd_st hsub e1 e2 64 hq0
      refine ih _ (by omega) (hsub p hp) (fun q h => ?_) q
      obtain ⟨h1, h2⟩ := (hy q).mp h
      refine ⟨h1, ?_⟩
      rcases h2 with h2 | ⟨a, h2, h3⟩
      · exact (hx q h2).2
      · exact rch_st (hx a h2).2 h3 h1
/-- the component of pixel p in the set S -/
def cpV (c r : Nat) (dg : Int32) (S : Int64) (p : Nat) : Int64 := connV (nI c) (gL c r) (gR c r) S dg 64 (shlL 1 (nI p))
theorem cp_rch {c r : Nat} (h0 : 0 < c) (h8 : c ≤ 8) (hr : r ≤ 8) {S : Int64} (hS : ∀ q, hb S q = true → q < c * r) (dg : Int32) {p : Nat} (hp : hb S p = true) (q : Nat) : hb (cpV c r dg S p) q = true ↔ rch (nbr c dg) (fun q => hb S q = true) p q := by
  have hp64 := hb_lt hp
  refine conn_go h0 h8 hr hS dg 64 _ (by omega) (by rw [hb_bit hp64]; simp) (fun q h => ?_) q
  rw [hb_bit hp64] at h
  have : q = p := by simpa using h
  subst this
  exact ⟨hp, rch_rf q⟩
def mG (A : xA) (c r n : Nat) : Prop := A 76 1 = nI c ∧ A 76 2 = nI r ∧ 0 < c ∧ c ≤ 8 ∧ 0 < r ∧ r ≤ 8 ∧ c * r = n
theorem mG.n {A : xA} {c r n : Nat} (h : mG A c r n) : A 76 1 * A 76 2 = nI n ∧ 0 < n ∧ n ≤ 64 := by
  obtain ⟨h1, h2, h3, h4, h5, h6, h7⟩ := h
  subst h7
  exact ⟨by rw [h1, h2, pk_mul], Nat.mul_pos h3 h5, Nat.mul_le_mul h4 h6⟩
/-- the k-th of the nine places around p -/
def bsO (c r p : Nat) (dg : Int32) (k : Nat) : Int64 := if nI k = 4 then 0 else if (¬ nI (k % 2) = 1 ∧ dg = 0) then 0 else if wiV (nI (p % c) + nI (k % 3) - 1) 0 (nI c - 1) = 0 then 0 else if wiV (nI (p / c) + nI (k / 3) - 1) 0 (nI r - 1) = 0 then 0 else shlL 1 (nI c * (nI (p / c) + nI (k / 3) - 1) + (nI (p % c) + nI (k % 3) - 1))
def bsS (c r p : Nat) (dg : Int32) (k : Nat) (s : Int64) : Int64 := s ||| bsO c r p dg k
def bsV (c r p : Nat) (dg : Int32) : Int64 := itr (bsS c r p dg) 9 0
theorem m_beside {c r n p : Nat} {dg : Int32} {A : xA} {B : xB} {D : xD} (h : mG A c r n) (hp : p < n) : does0 mX8_beside [.ref 76, .int (nI p), .int dg] A B D (eqQ (some (.long (bsV c r p dg))) A B D) nx := by
  refine does_go (by decide) rfl (Nat.le_of_ble_eq_true rfl) rfl ?_
  obtain ⟨hn, hn0, hn64⟩ := h.n
  obtain ⟨hc, hr, hc0, hc8, hr0, hr8, hcr⟩ := h
  have hd : ¬ nI c = 0 := nI_ne0 hc0 (by omega)
  have loop := up_ind (n := 9) (P := fun j => ∀ q, q = itr (bsS c r p dg) j 0 → go0 mX8_beside (eqQ (some (.long (bsV c r p dg))) A B D) nx 0 0 21 [(0, .ref 76), (2, .int dg), (3, .long q), (5, .int (nI (p % c))), (6, .int (nI (p / c))), (7, .int (nI j))] [] A B D) (fun j hj ih q hq => by
    refine xi_iload dX8_beside_21 rfl ?_
    refine xi_bipush (v := 9) dX8_beside_23 (by decide) ?_
    refine xi_icmp_ge (tgt := 135) dX8_beside_25 rfl (fun h25 => ?_) (fun h25 => ?_)
    · have e : j = 9 := ge_eq hj (by decide) h25
      subst e
      refine xi_lload_n dX8_beside_135 rfl rfl ?_
      refine go_ret (r := some (.long _)) dX8_beside_136 (Nat.le_of_ble_eq_true rfl) (Nat.le_of_ble_eq_true rfl) ?_
      exact ⟨by rw [hq]; rfl, rfl, rfl, rfl⟩
    · have hl : j < 9 := nge_lt hj (by decide) h25
      refine xi_iload dX8_beside_28 rfl ?_
      refine xi_iload dX8_beside_30 rfl ?_
      refine xi_iconst (v := 3) dX8_beside_32 (by decide) ?_
      refine xi_irem dX8_beside_33 (show ¬ (3 : Int32) = 0 by decide) ?_
      rw [show (3 : Int32) = nI 3 from rfl, pk_rem (by omega) (by decide) (by decide)]
      refine xi_iadd dX8_beside_34 ?_
      refine xi_iconst (v := 1) dX8_beside_35 (by decide) ?_
      refine xi_isub dX8_beside_36 ?_
      refine xi_istore dX8_beside_37 (Nat.le_of_ble_eq_true rfl) ?_
      refine xi_iload dX8_beside_39 rfl ?_
      refine xi_iload dX8_beside_41 rfl ?_
      refine xi_iconst (v := 3) dX8_beside_43 (by decide) ?_
      refine xi_idiv dX8_beside_44 (show ¬ (3 : Int32) = 0 by decide) ?_
      rw [show (3 : Int32) = nI 3 from rfl, pk_div (by omega) (by decide) (by decide)]
      refine xi_iadd dX8_beside_45 ?_
      refine xi_iconst (v := 1) dX8_beside_46 (by decide) ?_
      refine xi_isub dX8_beside_47 ?_
      refine xi_istore dX8_beside_48 (Nat.le_of_ble_eq_true rfl) ?_
      refine xi_iload dX8_beside_50 rfl ?_
      refine xi_iconst (v := 4) dX8_beside_52 (by decide) ?_
      refine xi_icmp_eq (tgt := 102) dX8_beside_53 rfl (fun h53 => ?_) (fun h53 => ?_)
      · refine xi_iconst (v := 0) dX8_beside_102 (by decide) ?_
        refine xi_istore dX8_beside_103 (Nat.le_of_ble_eq_true rfl) ?_
        refine xi_lload_n dX8_beside_105 rfl rfl ?_
        refine xi_iload dX8_beside_106 rfl ?_
        refine xi_if_eq (tgt := 126) dX8_beside_108 rfl (fun _ => ?_) (fun h => absurd h (show ¬ (¬ (0 : Int32) = 0) by decide))
        refine xi_lconst (v := 0) dX8_beside_126 (by decide) ?_
        refine xi_lor dX8_beside_127 ?_
        refine xi_lstore_n dX8_beside_128 rfl (Nat.le_of_ble_eq_true rfl) ?_
        refine xi_iinc (v := 1) dX8_beside_129 rfl (by decide) (Nat.le_of_ble_eq_true rfl) ?_
        refine xi_goto (tgt := 21) dX8_beside_132 rfl ?_
        refine xgo_pick [0, 2, 3, 5, 6, 7] rfl ?_
        rw [nI_1]
        exact ih hl _ (by rw [itr_s, ← hq]; unfold bsS bsO; rw [if_pos h53])
      · refine xi_iload dX8_beside_56 rfl ?_
        refine xi_iconst (v := 2) dX8_beside_58 (by decide) ?_
        refine xi_irem dX8_beside_59 (show ¬ (2 : Int32) = 0 by decide) ?_
        rw [show (2 : Int32) = nI 2 from rfl, pk_rem (by omega) (by decide) (by decide)]
        refine xi_iconst (v := 1) dX8_beside_60 (by decide) ?_
        refine xi_icmp_eq (tgt := 68) dX8_beside_61 rfl (fun h61 => ?_) (fun h61 => ?_)
        · have h65 : ¬ (¬ nI (j % 2) = 1 ∧ dg = 0) := fun z => z.1 h61
          refine xi_iload dX8_beside_68 rfl ?_
          refine xi_iconst (v := 0) dX8_beside_70 (by decide) ?_
          refine xi_aload_n dX8_beside_71 rfl rfl ?_
          refine xi_getfield0 dX8_beside_72 fX8_7 g76 ?_
          rw [hc]
          refine xi_iconst (v := 1) dX8_beside_75 (by decide) ?_
          refine xi_isub dX8_beside_76 ?_
          refine cS1 (av := [_, _, _]) dX8_beside_77 lX8_80 rfl ⟨rfl, rfl⟩ rfl ⟨(Nat.le_of_ble_eq_true rfl), (Nat.le_of_ble_eq_true rfl)⟩ ⟨(Nat.le_of_ble_eq_true rfl), (Nat.le_of_ble_eq_true rfl)⟩ (Nat.le_of_ble_eq_true rfl) (m_within) ?_
          refine xi_if_eq (tgt := 102) dX8_beside_80 rfl (fun h80 => ?_) (fun h80 => ?_)
          · refine xi_iconst (v := 0) dX8_beside_102 (by decide) ?_
            refine xi_istore dX8_beside_103 (Nat.le_of_ble_eq_true rfl) ?_
            refine xi_lload_n dX8_beside_105 rfl rfl ?_
            refine xi_iload dX8_beside_106 rfl ?_
            refine xi_if_eq (tgt := 126) dX8_beside_108 rfl (fun _ => ?_) (fun h => absurd h (show ¬ (¬ (0 : Int32) = 0) by decide))
            refine xi_lconst (v := 0) dX8_beside_126 (by decide) ?_
            refine xi_lor dX8_beside_127 ?_
            refine xi_lstore_n dX8_beside_128 rfl (Nat.le_of_ble_eq_true rfl) ?_
            refine xi_iinc (v := 1) dX8_beside_129 rfl (by decide) (Nat.le_of_ble_eq_true rfl) ?_
            refine xi_goto (tgt := 21) dX8_beside_132 rfl ?_
            refine xgo_pick [0, 2, 3, 5, 6, 7] rfl ?_
            rw [nI_1]
            exact ih hl _ (by rw [itr_s, ← hq]; unfold bsS bsO; rw [if_neg h53, if_neg h65, if_pos h80])
          · refine xi_iload dX8_beside_83 rfl ?_
            refine xi_iconst (v := 0) dX8_beside_85 (by decide) ?_
            refine xi_aload_n dX8_beside_86 rfl rfl ?_
            refine xi_getfield0 dX8_beside_87 fX8_13 g76 ?_
            rw [hr]
            refine xi_iconst (v := 1) dX8_beside_90 (by decide) ?_
            refine xi_isub dX8_beside_91 ?_
            refine cS1 (av := [_, _, _]) dX8_beside_92 lX8_80 rfl ⟨rfl, rfl⟩ rfl ⟨(Nat.le_of_ble_eq_true rfl), (Nat.le_of_ble_eq_true rfl)⟩ ⟨(Nat.le_of_ble_eq_true rfl), (Nat.le_of_ble_eq_true rfl)⟩ (Nat.le_of_ble_eq_true rfl) (m_within) ?_
            refine xi_if_eq (tgt := 102) dX8_beside_95 rfl (fun h95 => ?_) (fun h95 => ?_)
            · refine xi_iconst (v := 0) dX8_beside_102 (by decide) ?_
              refine xi_istore dX8_beside_103 (Nat.le_of_ble_eq_true rfl) ?_
              refine xi_lload_n dX8_beside_105 rfl rfl ?_
              refine xi_iload dX8_beside_106 rfl ?_
              refine xi_if_eq (tgt := 126) dX8_beside_108 rfl (fun _ => ?_) (fun h => absurd h (show ¬ (¬ (0 : Int32) = 0) by decide))
              refine xi_lconst (v := 0) dX8_beside_126 (by decide) ?_
              refine xi_lor dX8_beside_127 ?_
              refine xi_lstore_n dX8_beside_128 rfl (Nat.le_of_ble_eq_true rfl) ?_
              refine xi_iinc (v := 1) dX8_beside_129 rfl (by decide) (Nat.le_of_ble_eq_true rfl) ?_
              refine xi_goto (tgt := 21) dX8_beside_132 rfl ?_
              refine xgo_pick [0, 2, 3, 5, 6, 7] rfl ?_
              rw [nI_1]
              exact ih hl _ (by rw [itr_s, ← hq]; unfold bsS bsO; rw [if_neg h53, if_neg h65, if_neg h80, if_pos h95])
            · refine xi_iconst (v := 1) dX8_beside_98 (by decide) ?_
              refine xi_goto (tgt := 103) dX8_beside_99 rfl ?_
              refine xi_istore dX8_beside_103 (Nat.le_of_ble_eq_true rfl) ?_
              refine xi_lload_n dX8_beside_105 rfl rfl ?_
              refine xi_iload dX8_beside_106 rfl ?_
              refine xi_if_eq (tgt := 126) dX8_beside_108 rfl (fun h => absurd h (show ¬ ((1 : Int32) = 0) by decide)) (fun _ => ?_)
              refine xi_lconst (v := 1) dX8_beside_111 (by decide) ?_
              refine xi_aload_n dX8_beside_112 rfl rfl ?_
              refine xi_getfield0 dX8_beside_113 fX8_7 g76 ?_
              rw [hc]
              refine xi_iload dX8_beside_116 rfl ?_
              refine xi_imul dX8_beside_118 ?_
              refine xi_iload dX8_beside_119 rfl ?_
              refine xi_iadd dX8_beside_121 ?_
              refine xi_lshl dX8_beside_122 ?_
              refine xi_goto (tgt := 127) dX8_beside_123 rfl ?_
              refine xi_lor dX8_beside_127 ?_
              refine xi_lstore_n dX8_beside_128 rfl (Nat.le_of_ble_eq_true rfl) ?_
              refine xi_iinc (v := 1) dX8_beside_129 rfl (by decide) (Nat.le_of_ble_eq_true rfl) ?_
              refine xi_goto (tgt := 21) dX8_beside_132 rfl ?_
              refine xgo_pick [0, 2, 3, 5, 6, 7] rfl ?_
              rw [nI_1]
              exact ih hl _ (by rw [itr_s, ← hq]; unfold bsS bsO; rw [if_neg h53, if_neg h65, if_neg h80, if_neg h95])
        · refine xi_iload_n dX8_beside_64 rfl rfl ?_
          refine xi_if_eq (tgt := 102) dX8_beside_65 rfl (fun h65 => ?_) (fun h65 => ?_)
          · have h65b : ¬ nI (j % 2) = 1 ∧ dg = 0 := ⟨h61, h65⟩
            refine xi_iconst (v := 0) dX8_beside_102 (by decide) ?_
            refine xi_istore dX8_beside_103 (Nat.le_of_ble_eq_true rfl) ?_
            refine xi_lload_n dX8_beside_105 rfl rfl ?_
            refine xi_iload dX8_beside_106 rfl ?_
            refine xi_if_eq (tgt := 126) dX8_beside_108 rfl (fun _ => ?_) (fun h => absurd h (show ¬ (¬ (0 : Int32) = 0) by decide))
            refine xi_lconst (v := 0) dX8_beside_126 (by decide) ?_
            refine xi_lor dX8_beside_127 ?_
            refine xi_lstore_n dX8_beside_128 rfl (Nat.le_of_ble_eq_true rfl) ?_
            refine xi_iinc (v := 1) dX8_beside_129 rfl (by decide) (Nat.le_of_ble_eq_true rfl) ?_
            refine xi_goto (tgt := 21) dX8_beside_132 rfl ?_
            refine xgo_pick [0, 2, 3, 5, 6, 7] rfl ?_
            rw [nI_1]
            exact ih hl _ (by rw [itr_s, ← hq]; unfold bsS bsO; rw [if_neg h53, if_pos h65b])
          · have h65 : ¬ (¬ nI (j % 2) = 1 ∧ dg = 0) := fun z => h65 z.2
            refine xi_iload dX8_beside_68 rfl ?_
            refine xi_iconst (v := 0) dX8_beside_70 (by decide) ?_
            refine xi_aload_n dX8_beside_71 rfl rfl ?_
            refine xi_getfield0 dX8_beside_72 fX8_7 g76 ?_
            rw [hc]
            refine xi_iconst (v := 1) dX8_beside_75 (by decide) ?_
            refine xi_isub dX8_beside_76 ?_
            refine cS1 (av := [_, _, _]) dX8_beside_77 lX8_80 rfl ⟨rfl, rfl⟩ rfl ⟨(Nat.le_of_ble_eq_true rfl), (Nat.le_of_ble_eq_true rfl)⟩ ⟨(Nat.le_of_ble_eq_true rfl), (Nat.le_of_ble_eq_true rfl)⟩ (Nat.le_of_ble_eq_true rfl) (m_within) ?_
            refine xi_if_eq (tgt := 102) dX8_beside_80 rfl (fun h80 => ?_) (fun h80 => ?_)
            · refine xi_iconst (v := 0) dX8_beside_102 (by decide) ?_
              refine xi_istore dX8_beside_103 (Nat.le_of_ble_eq_true rfl) ?_
              refine xi_lload_n dX8_beside_105 rfl rfl ?_
              refine xi_iload dX8_beside_106 rfl ?_
              refine xi_if_eq (tgt := 126) dX8_beside_108 rfl (fun _ => ?_) (fun h => absurd h (show ¬ (¬ (0 : Int32) = 0) by decide))
              refine xi_lconst (v := 0) dX8_beside_126 (by decide) ?_
              refine xi_lor dX8_beside_127 ?_
              refine xi_lstore_n dX8_beside_128 rfl (Nat.le_of_ble_eq_true rfl) ?_
              refine xi_iinc (v := 1) dX8_beside_129 rfl (by decide) (Nat.le_of_ble_eq_true rfl) ?_
              refine xi_goto (tgt := 21) dX8_beside_132 rfl ?_
              refine xgo_pick [0, 2, 3, 5, 6, 7] rfl ?_
              rw [nI_1]
              exact ih hl _ (by rw [itr_s, ← hq]; unfold bsS bsO; rw [if_neg h53, if_neg h65, if_pos h80])
            · refine xi_iload dX8_beside_83 rfl ?_
              refine xi_iconst (v := 0) dX8_beside_85 (by decide) ?_
              refine xi_aload_n dX8_beside_86 rfl rfl ?_
              refine xi_getfield0 dX8_beside_87 fX8_13 g76 ?_
              rw [hr]
              refine xi_iconst (v := 1) dX8_beside_90 (by decide) ?_
              refine xi_isub dX8_beside_91 ?_
              refine cS1 (av := [_, _, _]) dX8_beside_92 lX8_80 rfl ⟨rfl, rfl⟩ rfl ⟨(Nat.le_of_ble_eq_true rfl), (Nat.le_of_ble_eq_true rfl)⟩ ⟨(Nat.le_of_ble_eq_true rfl), (Nat.le_of_ble_eq_true rfl)⟩ (Nat.le_of_ble_eq_true rfl) (m_within) ?_
              refine xi_if_eq (tgt := 102) dX8_beside_95 rfl (fun h95 => ?_) (fun h95 => ?_)
              · refine xi_iconst (v := 0) dX8_beside_102 (by decide) ?_
                refine xi_istore dX8_beside_103 (Nat.le_of_ble_eq_true rfl) ?_
                refine xi_lload_n dX8_beside_105 rfl rfl ?_
                refine xi_iload dX8_beside_106 rfl ?_
                refine xi_if_eq (tgt := 126) dX8_beside_108 rfl (fun _ => ?_) (fun h => absurd h (show ¬ (¬ (0 : Int32) = 0) by decide))
                refine xi_lconst (v := 0) dX8_beside_126 (by decide) ?_
                refine xi_lor dX8_beside_127 ?_
                refine xi_lstore_n dX8_beside_128 rfl (Nat.le_of_ble_eq_true rfl) ?_
                refine xi_iinc (v := 1) dX8_beside_129 rfl (by decide) (Nat.le_of_ble_eq_true rfl) ?_
                refine xi_goto (tgt := 21) dX8_beside_132 rfl ?_
                refine xgo_pick [0, 2, 3, 5, 6, 7] rfl ?_
                rw [nI_1]
                exact ih hl _ (by rw [itr_s, ← hq]; unfold bsS bsO; rw [if_neg h53, if_neg h65, if_neg h80, if_pos h95])
              · refine xi_iconst (v := 1) dX8_beside_98 (by decide) ?_
                refine xi_goto (tgt := 103) dX8_beside_99 rfl ?_
                refine xi_istore dX8_beside_103 (Nat.le_of_ble_eq_true rfl) ?_
                refine xi_lload_n dX8_beside_105 rfl rfl ?_
                refine xi_iload dX8_beside_106 rfl ?_
                refine xi_if_eq (tgt := 126) dX8_beside_108 rfl (fun h => absurd h (show ¬ ((1 : Int32) = 0) by decide)) (fun _ => ?_)
                refine xi_lconst (v := 1) dX8_beside_111 (by decide) ?_
                refine xi_aload_n dX8_beside_112 rfl rfl ?_
                refine xi_getfield0 dX8_beside_113 fX8_7 g76 ?_
                rw [hc]
                refine xi_iload dX8_beside_116 rfl ?_
                refine xi_imul dX8_beside_118 ?_
                refine xi_iload dX8_beside_119 rfl ?_
                refine xi_iadd dX8_beside_121 ?_
                refine xi_lshl dX8_beside_122 ?_
                refine xi_goto (tgt := 127) dX8_beside_123 rfl ?_
                refine xi_lor dX8_beside_127 ?_
                refine xi_lstore_n dX8_beside_128 rfl (Nat.le_of_ble_eq_true rfl) ?_
                refine xi_iinc (v := 1) dX8_beside_129 rfl (by decide) (Nat.le_of_ble_eq_true rfl) ?_
                refine xi_goto (tgt := 21) dX8_beside_132 rfl ?_
                refine xgo_pick [0, 2, 3, 5, 6, 7] rfl ?_
                rw [nI_1]
                exact ih hl _ (by rw [itr_s, ← hq]; unfold bsS bsO; rw [if_neg h53, if_neg h65, if_neg h80, if_neg h95])
    )
  refine xi_lconst (v := 0) dX8_beside_0 (by decide) ?_
  refine xi_lstore_n dX8_beside_1 rfl (Nat.le_of_ble_eq_true rfl) ?_
  refine xi_iload_n dX8_beside_2 rfl rfl ?_
  refine xi_aload_n dX8_beside_3 rfl rfl ?_
  refine xi_getfield0 dX8_beside_4 fX8_7 g76 ?_
  rw [hc]
  refine xi_irem dX8_beside_7 hd ?_
  rw [pk_rem (by omega) hc0 (by omega)]
  refine xi_istore dX8_beside_8 (Nat.le_of_ble_eq_true rfl) ?_
  refine xi_iload_n dX8_beside_10 rfl rfl ?_
  refine xi_aload_n dX8_beside_11 rfl rfl ?_
  refine xi_getfield0 dX8_beside_12 fX8_7 g76 ?_
  rw [hc]
  refine xi_idiv dX8_beside_15 hd ?_
  rw [pk_div (by omega) hc0 (by omega)]
  refine xi_istore dX8_beside_16 (Nat.le_of_ble_eq_true rfl) ?_
  refine xi_iconst (v := 0) dX8_beside_18 (by decide) ?_
  refine xi_istore dX8_beside_19 (Nat.le_of_ble_eq_true rfl) ?_
  refine xgo_pick [0, 2, 3, 5, 6, 7] rfl ?_
  exact loop 0 (Nat.zero_le _) 0 rfl
theorem hb_or_itr (f : Nat → Int64) (q : Nat) : ∀ m, hb (itr (fun k s => s ||| f k) m 0) q = true ↔ ∃ k, k < m ∧ hb (f k) q = true
  | 0 => by
    rw [show itr (fun k s => s ||| f k) 0 (0 : Int64) = 0 from rfl, hb_0]
    exact ⟨fun h => absurd h (by decide), fun ⟨k, hk, _⟩ => by omega⟩
  | m + 1 => by
    rw [itr_s, hb_or, Bool.or_eq_true, hb_or_itr f q m]
    constructor
    · rintro (⟨k, h1, h2⟩ | h)
      · exact ⟨k, by omega, h2⟩
      · exact ⟨m, by omega, h⟩
    · rintro ⟨k, h1, h2⟩
      rcases Nat.lt_or_eq_of_le (Nat.le_of_lt_succ h1) with e | e
      · exact Or.inl ⟨k, e, h2⟩
      · subst e; exact Or.inr h2
theorem wi_sub {x k m : Nat} (hx : x < 100) (hk : k < 100) (hm : 0 < m) (hm2 : m < 100) : wiV (nI x + nI k - 1) 0 (nI m - 1) = 0 ↔ ¬ (1 ≤ x + k ∧ x + k - 1 < m) := by
  obtain ⟨d, rfl⟩ : ∃ d, m = d + 1 := ⟨m - 1, by omega⟩
  rw [nI_pred, wi_eq, nI_add]
  unfold btw
  rcases Nat.eq_zero_or_pos (x + k) with e | e
  · rw [e]
    constructor
    · intro _ z; omega
    · intro _ z; exact z.1 (by decide)
  · obtain ⟨u, hu⟩ : ∃ u, x + k = u + 1 := ⟨x + k - 1, by omega⟩
    rw [hu, nI_pred, nI_ltI (by omega) (by omega)]
    constructor
    · intro z w; exact z ⟨nI_pos (by omega), by omega⟩
    · intro z w; exact z ⟨by omega, by omega⟩
theorem hb_bsO {c r p : Nat} (hc0 : 0 < c) (hc8 : c ≤ 8) (hr0 : 0 < r) (hr8 : r ≤ 8) (hp : p < c * r) (dg : Int32) {k : Nat} (hk : k < 9) (q : Nat) : hb (bsO c r p dg k) q = true ↔ (k ≠ 4 ∧ (k % 2 = 1 ∨ dg ≠ 0) ∧ (1 ≤ p % c + k % 3 ∧ p % c + k % 3 - 1 < c) ∧ (1 ≤ p / c + k / 3 ∧ p / c + k / 3 - 1 < r) ∧ q = c * (p / c + k / 3 - 1) + (p % c + k % 3 - 1)) := by
  have hy : p / c < r := Nat.div_lt_of_lt_mul hp
  have hx : p % c < c := Nat.mod_lt _ hc0
  unfold bsO
  by_cases e4 : k = 4
  · subst e4; rw [if_pos (show nI 4 = 4 from rfl), hb_0]; exact ⟨fun h => absurd h (by decide), fun h => absurd rfl h.1⟩
  · rw [if_neg (show ¬ nI k = 4 from fun z => e4 ((nI_eq (b := 4) (by omega) (by decide)).mp z))]
    by_cases ed : (¬ nI (k % 2) = 1 ∧ dg = 0)
    · rw [if_pos ed, hb_0]
      refine ⟨fun h => absurd h (by decide), fun h => ?_⟩
      rcases h.2.1 with h1 | h1
      · exact (ed.1 (by rw [h1]; rfl)).elim
      · exact (h1 ed.2).elim
    · rw [if_neg ed]
      have ed2 : k % 2 = 1 ∨ dg ≠ 0 := by
        by_cases h1 : dg = 0
        · exact Or.inl ((nI_eq (b := 1) (by omega) (by decide)).mp (Classical.not_not.mp (fun z => ed ⟨z, h1⟩)))
        · exact Or.inr h1
      by_cases e1 : wiV (nI (p % c) + nI (k % 3) - 1) 0 (nI c - 1) = 0
      · rw [if_pos e1, hb_0]
        exact ⟨fun h => absurd h (by decide), fun h => ((wi_sub (by omega) (by omega) hc0 (by omega)).mp e1 h.2.2.1).elim⟩
      · rw [if_neg e1]
        have e1' := Classical.not_not.mp (fun z => e1 ((wi_sub (by omega) (by omega) hc0 (by omega)).mpr z))
        by_cases e2 : wiV (nI (p / c) + nI (k / 3) - 1) 0 (nI r - 1) = 0
        · rw [if_pos e2, hb_0]
          exact ⟨fun h => absurd h (by decide), fun h => ((wi_sub (by omega) (by omega) hr0 (by omega)).mp e2 h.2.2.2.1).elim⟩
        · rw [if_neg e2]
          have e2' := Classical.not_not.mp (fun z => e2 ((wi_sub (by omega) (by omega) hr0 (by omega)).mpr z))
          obtain ⟨u, hu⟩ : ∃ u, p % c + k % 3 = u + 1 := ⟨p % c + k % 3 - 1, by omega⟩
          obtain ⟨v, hv⟩ : ∃ v, p / c + k / 3 = v + 1 := ⟨p / c + k / 3 - 1, by omega⟩
          rw [hu] at e1'
          rw [hv] at e2'
          have hq64 : c * v + u < 64 := by
            have h1 : v + 1 ≤ r := by omega
            have h2 : u + 1 ≤ c := by omega
            have h3 : c * (v + 1) ≤ c * r := Nat.mul_le_mul_left _ h1
            have h4 : c * r ≤ 64 := Nat.mul_le_mul hc8 hr8
            rw [Nat.mul_succ] at h3
            omega
          rw [nI_add, nI_add, hu, hv, nI_pred, nI_pred, pk_mul, nI_add, hb_bit hq64, decide_eq_true_eq]
          simp only [Nat.add_sub_cancel]
          exact ⟨fun h => ⟨e4, ed2, by omega, by omega, h⟩, fun h => h.2.2.2.2⟩
theorem hb_bs {c r p : Nat} (hc0 : 0 < c) (hc8 : c ≤ 8) (hr0 : 0 < r) (hr8 : r ≤ 8) (hp : p < c * r) (dg : Int32) (q : Nat) : hb (bsV c r p dg) q = true ↔ (q < c * r ∧ nbr c dg p q) := by
  have hy : p / c < r := Nat.div_lt_of_lt_mul hp
  have hx : p % c < c := Nat.mod_lt _ hc0
  unfold bsV
  rw [show itr (bsS c r p dg) 9 0 = itr (fun k s => s ||| bsO c r p dg k) 9 0 from rfl, hb_or_itr]
  constructor
  · rintro ⟨k, hk, h⟩
    obtain ⟨h1, h2, ⟨h3, h4⟩, ⟨h5, h6⟩, h7⟩ := (hb_bsO hc0 hc8 hr0 hr8 hp dg hk q).mp h
    have e1 : q % c = p % c + k % 3 - 1 := by rw [h7, Nat.mul_add_mod, Nat.mod_eq_of_lt h4]
    have e2 : q / c = p / c + k / 3 - 1 := by rw [h7, Nat.mul_add_div hc0, Nat.div_eq_of_lt h4, Nat.add_zero]
    refine ⟨?_, ?_, ?_, ?_, ?_⟩
    · have h8 : c * (p / c + k / 3 - 1 + 1) ≤ c * r := Nat.mul_le_mul_left _ h6
      rw [Nat.mul_succ] at h8
      omega
    · intro e; subst e; omega
    · omega
    · omega
    · rcases h2 with h2 | h2
      · exact Or.inr (by omega)
      · exact Or.inl h2
  · rintro ⟨h1, h2, ⟨h3, h4⟩, ⟨h5, h6⟩, h7⟩
    have hy2 : q / c < r := Nat.div_lt_of_lt_mul h1
    have hx2 : q % c < c := Nat.mod_lt _ hc0
    have hq : q = c * (q / c) + q % c := (Nat.div_add_mod q c).symm
    have hpp : p = c * (p / c) + p % c := (Nat.div_add_mod p c).symm
    have hk9 : 3 * (q / c + 1 - p / c) + (q % c + 1 - p % c) < 9 := by omega
    have hk3 : (3 * (q / c + 1 - p / c) + (q % c + 1 - p % c)) / 3 = q / c + 1 - p / c := by omega
    have hk0 : (3 * (q / c + 1 - p / c) + (q % c + 1 - p % c)) % 3 = q % c + 1 - p % c := by omega
    refine ⟨3 * (q / c + 1 - p / c) + (q % c + 1 - p % c), hk9, (hb_bsO hc0 hc8 hr0 hr8 hp dg hk9 q).mpr ⟨?_, ?_, by rw [hk0]; omega, by rw [hk3]; generalize q / c = y2 at *; generalize p / c = y1 at *; omega, ?_⟩⟩
    · intro e
      apply h2
      rw [hq, hpp, show q / c = p / c by omega, show q % c = p % c by omega]
    · rcases h7 with h7 | h7 | h7
      · exact Or.inr h7
      · by_cases e : p / c = q / c
        · exact absurd (by rw [hq, hpp, h7, e]) h2
        · left; omega
      · by_cases e : p % c = q % c
        · exact absurd (by rw [hq, hpp, h7, e]) h2
        · left; omega
    · rw [hk3, hk0, show p / c + (q / c + 1 - p / c) - 1 = q / c by generalize q / c = y2 at *; generalize p / c = y1 at *; omega, show p % c + (q % c + 1 - p % c) - 1 = q % c by omega]
      exact hq
/-- one sweep of the model's spreading -/
def spS (c r : Nat) (dg : Int32) (S : Int64) (j : Nat) (s : Int64) : Int64 := s ||| (if hasM s (nI j) = 0 then 0 else bsV c r j dg &&& S)
theorem spS_eq (c r : Nat) (dg : Int32) (S : Int64) (j : Nat) (s : Int64) : spS c r dg S j s = s ||| (if hasM s (nI j) = 0 then 0 else bsV c r j dg &&& S) := rfl
def spR (c r n : Nat) (dg : Int32) (S s : Int64) : Int64 := itr (spS c r dg S) n s
theorem sp_sub (c r : Nat) (dg : Int32) (S : Int64) {s : Int64} {q : Nat} (h : hb s q = true) : ∀ m, hb (itr (spS c r dg S) m s) q = true
  | 0 => h
  | m + 1 => by rw [itr_s, spS_eq, hb_or, sp_sub c r dg S h m]; rfl
theorem sp_in {c r : Nat} (hc0 : 0 < c) (hc8 : c ≤ 8) (hr0 : 0 < r) (hr8 : r ≤ 8) (dg : Int32) (S : Int64) {p : Nat} {s : Int64} (h : ∀ q, hb s q = true → hb S q = true ∧ rch (nbr c dg) (fun q => hb S q = true) p q) : ∀ m, m ≤ c * r → ∀ q, hb (itr (spS c r dg S) m s) q = true → hb S q = true ∧ rch (nbr c dg) (fun q => hb S q = true) p q
  | 0, _, q, hq => h q hq
  | m + 1, hm, q, hq => by
    have h64 : c * r ≤ 64 := Nat.mul_le_mul hc8 hr8
    have ih := sp_in hc0 hc8 hr0 hr8 dg S h m (by omega)
    rw [itr_s, spS_eq, hb_or, Bool.or_eq_true] at hq
    rcases hq with hq | hq
    · exact ih q hq
    · by_cases e : hasM (itr (spS c r dg S) m s) (nI m) = 0
      · rw [if_pos e, hb_0] at hq
        exact absurd hq (by decide)
      · rw [if_neg e, hb_and, Bool.and_eq_true] at hq
        have hm1 : hb (itr (spS c r dg S) m s) m = true := by
          cases h1 : hb (itr (spS c r dg S) m s) m
          · exact (e ((hasM0 _ (by omega)).mpr h1)).elim
          · rfl
        exact ⟨hq.2, rch_st (ih m hm1).2 ((hb_bs hc0 hc8 hr0 hr8 (by omega) dg q).mp hq.1).2 hq.2⟩
theorem sp_cl {c r : Nat} (hc0 : 0 < c) (hc8 : c ≤ 8) (hr0 : 0 < r) (hr8 : r ≤ 8) (dg : Int32) (S : Int64) (hS : ∀ q, hb S q = true → q < c * r) {s : Int64} {a b : Nat} (ha : hb s a = true) (hab : nbr c dg a b) (hb2 : hb S b = true) : ∀ m, m ≤ c * r → a < m → hb (itr (spS c r dg S) m s) b = true
  | 0, _, h => by omega
  | m + 1, hm, h => by
    have h64 : c * r ≤ 64 := Nat.mul_le_mul hc8 hr8
    rw [itr_s, spS_eq, hb_or, Bool.or_eq_true]
    rcases Nat.lt_or_eq_of_le (Nat.le_of_lt_succ h) with e | e
    · exact Or.inl (sp_cl hc0 hc8 hr0 hr8 dg S hS ha hab hb2 m (by omega) e)
    · subst e
      right
      rw [if_neg (fun z => by
        rw [hasM0 _ (by omega), sp_sub c r dg S ha a] at z
        exact absurd z (by decide)), hb_and, hb2, Bool.and_true]
      exact (hb_bs hc0 hc8 hr0 hr8 (by omega) dg b).mpr ⟨hS b hb2, hab⟩
theorem m_spread {c r n p : Nat} {dg : Int32} {S : Int64} {A : xA} {B : xB} {D : xD} (h : mG A c r n) (hS : ∀ q, hb S q = true → q < n) (hp : hb S p = true) : does0 mX8_spread [.ref 76, .int (nI p), .long S, .int dg] A B D (eqQ (some (.long (cpV c r dg S p))) A B D) nx := by
  refine does_go (by decide) rfl (Nat.le_of_ble_eq_true rfl) rfl ?_
  obtain ⟨hn, hn0, hn64⟩ := h.n
  have hG := h
  obtain ⟨hc, hr, hc0, hc8, hr0, hr8, hcr⟩ := hG
  subst hcr
  have hp64 := hb_lt hp
  generalize hR : cpV c r dg S p = R
  have hRq : ∀ q, hb R q = true ↔ rch (nbr c dg) (fun q => hb S q = true) p q := fun q => by rw [← hR]; exact cp_rch hc0 hc8 hr8 hS dg hp q
  have loop : ∀ d, ∀ s old : Int64, 64 ≤ cd s 64 + d → hb s p = true → (∀ q, hb s q = true → hb S q = true ∧ rch (nbr c dg) (fun q => hb S q = true) p q) → (s = old → ∀ a b, hb s a = true → nbr c dg a b → hb S b = true → hb s b = true) → go0 mX8_spread (eqQ (some (.long R)) A B D) nx 0 0 8 [(0, .ref 76), (1, .int (nI p)), (2, .long S), (4, .int dg), (5, .long s), (7, .long old)] [] A B D := by
    intro d
    induction d with
    | zero =>
      intro s old hd hsp hsi hso
      have hf := cd_full 64 (show cd s 64 = 64 by have := cd_le s 64; omega)
      have inner : ∀ j, j ≤ c * r → ∀ q, q = itr (spS c r dg S) j s → go0 mX8_spread (eqQ (some (.long R)) A B D) nx 0 0 23 [(0, .ref 76), (1, .int (nI p)), (2, .long S), (4, .int dg), (5, .long q), (7, .long s), (9, .int (nI j))] [] A B D := by
        refine up_ind (fun j hj ih q hq => ?_)
        have hqs : q = s := by
          refine hb_ext (fun i hi => ?_)
          rw [hf i hi, hq, sp_sub c r dg S (hf i hi) j]
        refine xi_iload dX8_spread_23 rfl ?_
        refine xi_aload_n dX8_spread_25 rfl rfl ?_
        refine cV1 (av := []) dX8_spread_26 lX8_76 rfl ⟨rfl, rfl⟩ rfl ⟨(Nat.le_of_ble_eq_true rfl), (Nat.le_of_ble_eq_true rfl)⟩ ⟨(Nat.le_of_ble_eq_true rfl), (Nat.le_of_ble_eq_true rfl)⟩ (Nat.le_of_ble_eq_true rfl) g76 rfl rfl (m_pixels) ?_
        rw [hn]
        refine xi_icmp_ge (tgt := 67) dX8_spread_29 rfl (fun h29 => ?_) (fun h29 => ?_)
        · have e : j = c * r := ge_eq hj (by omega) h29
          subst e
          refine xi_goto (tgt := 8) dX8_spread_67 rfl ?_
          subst hqs
          refine xi_lload dX8_spread_8 rfl ?_
          refine xi_lload dX8_spread_10 rfl ?_
          refine xi_lcmpeq (tgt := 70) dX8_spread_12 dX8_spread_13 rfl (fun h13 => ?_) (fun h13 => absurd rfl h13)
          refine xi_lload dX8_spread_70 rfl ?_
          refine go_ret (r := some (.long _)) dX8_spread_72 (Nat.le_of_ble_eq_true rfl) (Nat.le_of_ble_eq_true rfl) ?_
          refine ⟨?_, rfl, rfl, rfl⟩
          rw [show q = R from hb_ext (fun i hi => by
            have h1 := (hRq i)
            have h2 := rch_is (N := nbr c dg) (S := fun q => hb S q = true) (X := fun i => hb q i = true) hsp (fun i hi => (hsi i hi).2) (fun a b _ _ hb2 => hf b (hb_lt hb2)) i
            exact bq h2 h1)]
        · have hl : j < c * r := nge_lt hj (by omega) h29
          refine xi_lload dX8_spread_32 rfl ?_
          refine xi_lload dX8_spread_34 rfl ?_
          refine xi_iload dX8_spread_36 rfl ?_
          refine cS1 (av := [_, _]) dX8_spread_38 lX8_151 rfl ⟨rfl, rfl⟩ rfl ⟨(Nat.le_of_ble_eq_true rfl), (Nat.le_of_ble_eq_true rfl)⟩ ⟨(Nat.le_of_ble_eq_true rfl), (Nat.le_of_ble_eq_true rfl)⟩ (Nat.le_of_ble_eq_true rfl) (m_has) ?_
          refine xi_if_eq (tgt := 57) dX8_spread_41 rfl (fun h41 => ?_) (fun h41 => ?_)
          · refine xi_lconst (v := 0) dX8_spread_57 (by decide) ?_
            refine xi_lor dX8_spread_58 ?_
            refine xi_lstore dX8_spread_59 (Nat.le_of_ble_eq_true rfl) ?_
            refine xi_iinc (v := 1) dX8_spread_61 rfl (by decide) (Nat.le_of_ble_eq_true rfl) ?_
            refine xi_goto (tgt := 23) dX8_spread_64 rfl ?_
            refine xgo_pick [0, 1, 2, 4, 5, 7, 9] rfl ?_
            rw [nI_1]
            exact ih hl _ (by rw [itr_s, ← hq]; unfold spS; simp only [h41, if_true, if_false])
          · refine xi_aload_n dX8_spread_44 rfl rfl ?_
            refine xi_iload dX8_spread_45 rfl ?_
            refine xi_iload dX8_spread_47 rfl ?_
            refine cV1 (av := [_, _]) dX8_spread_49 lX8_155 rfl ⟨rfl, rfl⟩ rfl ⟨(Nat.le_of_ble_eq_true rfl), (Nat.le_of_ble_eq_true rfl)⟩ ⟨(Nat.le_of_ble_eq_true rfl), (Nat.le_of_ble_eq_true rfl)⟩ (Nat.le_of_ble_eq_true rfl) g76 rfl rfl (m_beside h hl) ?_
            refine xi_lload_n dX8_spread_52 rfl rfl ?_
            refine xi_land dX8_spread_53 ?_
            refine xi_goto (tgt := 58) dX8_spread_54 rfl ?_
            refine xi_lor dX8_spread_58 ?_
            refine xi_lstore dX8_spread_59 (Nat.le_of_ble_eq_true rfl) ?_
            refine xi_iinc (v := 1) dX8_spread_61 rfl (by decide) (Nat.le_of_ble_eq_true rfl) ?_
            refine xi_goto (tgt := 23) dX8_spread_64 rfl ?_
            refine xgo_pick [0, 1, 2, 4, 5, 7, 9] rfl ?_
            rw [nI_1]
            exact ih hl _ (by rw [itr_s, ← hq]; unfold spS; simp only [h41, if_true, if_false])
      refine xi_lload dX8_spread_8 rfl ?_
      refine xi_lload dX8_spread_10 rfl ?_
      refine xi_lcmpeq (tgt := 70) dX8_spread_12 dX8_spread_13 rfl (fun h13 => ?_) (fun h13 => ?_)
      · refine xi_lload dX8_spread_70 rfl ?_
        refine go_ret (r := some (.long _)) dX8_spread_72 (Nat.le_of_ble_eq_true rfl) (Nat.le_of_ble_eq_true rfl) ?_
        refine ⟨?_, rfl, rfl, rfl⟩
        rw [show s = R from hb_ext (fun i hi => by
          have h1 := (hRq i)
          have h2 := rch_is (N := nbr c dg) (S := fun q => hb S q = true) (X := fun i => hb s i = true) hsp (fun i hi => (hsi i hi).2) (hso h13) i
          exact bq h2 h1)]
      · refine xi_lload dX8_spread_16 rfl ?_
        refine xi_lstore dX8_spread_18 (Nat.le_of_ble_eq_true rfl) ?_
        refine xi_iconst (v := 0) dX8_spread_20 (by decide) ?_
        refine xi_istore dX8_spread_21 (Nat.le_of_ble_eq_true rfl) ?_
        refine xgo_pick [0, 1, 2, 4, 5, 7, 9] rfl ?_
        exact inner 0 (Nat.zero_le _) s rfl
    | succ d ihd =>
      intro s old hd hsp hsi hso
      have inner : ∀ j, j ≤ c * r → ∀ q, q = itr (spS c r dg S) j s → go0 mX8_spread (eqQ (some (.long R)) A B D) nx 0 0 23 [(0, .ref 76), (1, .int (nI p)), (2, .long S), (4, .int dg), (5, .long q), (7, .long s), (9, .int (nI j))] [] A B D := by
        refine up_ind (fun j hj ih q hq => ?_)
        refine xi_iload dX8_spread_23 rfl ?_
        refine xi_aload_n dX8_spread_25 rfl rfl ?_
        refine cV1 (av := []) dX8_spread_26 lX8_76 rfl ⟨rfl, rfl⟩ rfl ⟨(Nat.le_of_ble_eq_true rfl), (Nat.le_of_ble_eq_true rfl)⟩ ⟨(Nat.le_of_ble_eq_true rfl), (Nat.le_of_ble_eq_true rfl)⟩ (Nat.le_of_ble_eq_true rfl) g76 rfl rfl (m_pixels) ?_
        rw [hn]
        refine xi_icmp_ge (tgt := 67) dX8_spread_29 rfl (fun h29 => ?_) (fun h29 => ?_)
        · have e : j = c * r := ge_eq hj (by omega) h29
          subst e
          refine xi_goto (tgt := 8) dX8_spread_67 rfl ?_
          refine xgo_pick [0, 1, 2, 4, 5, 7] rfl ?_
          have hsub : ∀ i, hb s i = true → hb q i = true := fun i hi => by rw [hq]; exact sp_sub c r dg S hi _
          by_cases e : q = s
          · subst e
            have hcl : ∀ a b, hb q a = true → nbr c dg a b → hb S b = true → hb q b = true := fun a b ha hab hb2 => by
              have := sp_cl hc0 hc8 hr0 hr8 dg S hS ha hab hb2 (c * r) (Nat.le_refl _) (hS a (hsi a ha).1)
              rwa [← hq] at this
            refine xi_lload dX8_spread_8 rfl ?_
            refine xi_lload dX8_spread_10 rfl ?_
            refine xi_lcmpeq (tgt := 70) dX8_spread_12 dX8_spread_13 rfl (fun h13 => ?_) (fun h13 => absurd rfl h13)
            refine xi_lload dX8_spread_70 rfl ?_
            refine go_ret (r := some (.long _)) dX8_spread_72 (Nat.le_of_ble_eq_true rfl) (Nat.le_of_ble_eq_true rfl) ?_
            refine ⟨?_, rfl, rfl, rfl⟩
            rw [show q = R from hb_ext (fun i hi => by
              have h1 := (hRq i)
              have h2 := rch_is (N := nbr c dg) (S := fun q => hb S q = true) (X := fun i => hb q i = true) hsp (fun i hi => (hsi i hi).2) hcl i
              exact bq h2 h1)]
          · obtain ⟨q0, hq0, e1, e2⟩ := hb_ne hsub e
            have := cd_st hsub e1 e2 64 hq0
            exact ihd q s (by omega) (hsub p hsp) (fun i hi => by rw [hq] at hi; exact sp_in hc0 hc8 hr0 hr8 dg S hsi (c * r) (Nat.le_refl _) i hi) (fun z => (e z).elim)
        · have hl : j < c * r := nge_lt hj (by omega) h29
          refine xi_lload dX8_spread_32 rfl ?_
          refine xi_lload dX8_spread_34 rfl ?_
          refine xi_iload dX8_spread_36 rfl ?_
          refine cS1 (av := [_, _]) dX8_spread_38 lX8_151 rfl ⟨rfl, rfl⟩ rfl ⟨(Nat.le_of_ble_eq_true rfl), (Nat.le_of_ble_eq_true rfl)⟩ ⟨(Nat.le_of_ble_eq_true rfl), (Nat.le_of_ble_eq_true rfl)⟩ (Nat.le_of_ble_eq_true rfl) (m_has) ?_
          refine xi_if_eq (tgt := 57) dX8_spread_41 rfl (fun h41 => ?_) (fun h41 => ?_)
          · refine xi_lconst (v := 0) dX8_spread_57 (by decide) ?_
            refine xi_lor dX8_spread_58 ?_
            refine xi_lstore dX8_spread_59 (Nat.le_of_ble_eq_true rfl) ?_
            refine xi_iinc (v := 1) dX8_spread_61 rfl (by decide) (Nat.le_of_ble_eq_true rfl) ?_
            refine xi_goto (tgt := 23) dX8_spread_64 rfl ?_
            refine xgo_pick [0, 1, 2, 4, 5, 7, 9] rfl ?_
            rw [nI_1]
            exact ih hl _ (by rw [itr_s, ← hq]; unfold spS; simp only [h41, if_true, if_false])
          · refine xi_aload_n dX8_spread_44 rfl rfl ?_
            refine xi_iload dX8_spread_45 rfl ?_
            refine xi_iload dX8_spread_47 rfl ?_
            refine cV1 (av := [_, _]) dX8_spread_49 lX8_155 rfl ⟨rfl, rfl⟩ rfl ⟨(Nat.le_of_ble_eq_true rfl), (Nat.le_of_ble_eq_true rfl)⟩ ⟨(Nat.le_of_ble_eq_true rfl), (Nat.le_of_ble_eq_true rfl)⟩ (Nat.le_of_ble_eq_true rfl) g76 rfl rfl (m_beside h hl) ?_
            refine xi_lload_n dX8_spread_52 rfl rfl ?_
            refine xi_land dX8_spread_53 ?_
            refine xi_goto (tgt := 58) dX8_spread_54 rfl ?_
            refine xi_lor dX8_spread_58 ?_
            refine xi_lstore dX8_spread_59 (Nat.le_of_ble_eq_true rfl) ?_
            refine xi_iinc (v := 1) dX8_spread_61 rfl (by decide) (Nat.le_of_ble_eq_true rfl) ?_
            refine xi_goto (tgt := 23) dX8_spread_64 rfl ?_
            refine xgo_pick [0, 1, 2, 4, 5, 7, 9] rfl ?_
            rw [nI_1]
            exact ih hl _ (by rw [itr_s, ← hq]; unfold spS; simp only [h41, if_true, if_false])
      refine xi_lload dX8_spread_8 rfl ?_
      refine xi_lload dX8_spread_10 rfl ?_
      refine xi_lcmpeq (tgt := 70) dX8_spread_12 dX8_spread_13 rfl (fun h13 => ?_) (fun h13 => ?_)
      · refine xi_lload dX8_spread_70 rfl ?_
        refine go_ret (r := some (.long _)) dX8_spread_72 (Nat.le_of_ble_eq_true rfl) (Nat.le_of_ble_eq_true rfl) ?_
        refine ⟨?_, rfl, rfl, rfl⟩
        rw [show s = R from hb_ext (fun i hi => by
          have h1 := (hRq i)
          have h2 := rch_is (N := nbr c dg) (S := fun q => hb S q = true) (X := fun i => hb s i = true) hsp (fun i hi => (hsi i hi).2) (hso h13) i
          exact bq h2 h1)]
      · refine xi_lload dX8_spread_16 rfl ?_
        refine xi_lstore dX8_spread_18 (Nat.le_of_ble_eq_true rfl) ?_
        refine xi_iconst (v := 0) dX8_spread_20 (by decide) ?_
        refine xi_istore dX8_spread_21 (Nat.le_of_ble_eq_true rfl) ?_
        refine xgo_pick [0, 1, 2, 4, 5, 7, 9] rfl ?_
        exact inner 0 (Nat.zero_le _) s rfl
  have hb1 : hb (shlL 1 (nI p)) p = true := by rw [hb_bit hp64]; simp
  refine xi_lconst (v := 1) dX8_spread_0 (by decide) ?_
  refine xi_iload_n dX8_spread_1 rfl rfl ?_
  refine xi_lshl dX8_spread_2 ?_
  refine xi_lstore dX8_spread_3 (Nat.le_of_ble_eq_true rfl) ?_
  refine xi_lconst (v := 0) dX8_spread_5 (by decide) ?_
  refine xi_lstore dX8_spread_6 (Nat.le_of_ble_eq_true rfl) ?_
  refine xgo_pick [0, 1, 2, 4, 5, 7] rfl ?_
  exact loop 64 _ _ (by omega) hb1 (fun q hq => by
    rw [hb_bit hp64] at hq
    have : q = p := by simpa using hq
    subst this
    exact ⟨hp, rch_rf q⟩) (fun z => by rw [show shlL 1 (nI p) = 0 from z, hb_0] at hb1; exact absurd hb1 (by decide))

