/-! the model: laying the tree -/
abbrev tT : Type := Nat × (Nat → Int64) × (Nat → Int32)
/-- the tree on the heap: m nodes, ranks, nodeAt -/
def tA (A : xA) (m : Nat) (rk f : Nat → Int32) : xA := setA (setA (updA A 76 19 (nI m)) 85 rk) 88 f
theorem tA_o {A : xA} {m : Nat} {rk f : Nat → Int32} {k j : Nat} (h1 : k ≠ 85) (h2 : k ≠ 88) (h3 : k = 76 → j ≠ 19) : tA A m rk f k j = A k j := by
  unfold tA
  rw [setA_n _ _ h2, setA_n _ _ h1, updA_get, if_neg (fun z => h3 z.1 z.2)]
def lrC (c r : Nat) (dg : Int32) (ins : Int64) (p : Nat) : Int64 := if hasM ins (nI p) = 0 then 0 else cpV c r dg ins p
def lrS (c r : Nat) (dg : Int32) (ins lef : Int64) (t : Int32) (p : Nat) (q : tT) : tT := if (lrC c r dg ins p &&& (shlL 1 (nI p) - 1)) = 0 then (if (lrC c r dg ins p &&& lef) = 0 then q else (q.1 + 1, vp_updL q.2.1 q.1 (lrC c r dg ins p), upd q.2.2 q.1 t)) else q
theorem lrS_le (c r : Nat) (dg : Int32) (ins lef : Int64) (t : Int32) (p : Nat) (q : tT) : q.1 ≤ (lrS c r dg ins lef t p q).1 := by
  unfold lrS; (repeat' split) <;> simp
theorem itr_le {σ : Type} {f : Nat → σ → σ} {g : σ → Nat} (h : ∀ p q, g q ≤ g (f p q)) (s : σ) : ∀ {a b : Nat}, a ≤ b → g (itr f a s) ≤ g (itr f b s) := by
  intro a b hab
  induction b with
  | zero => have : a = 0 := by omega
            subst this; exact Nat.le_refl _
  | succ b ih =>
    rcases Nat.lt_or_eq_of_le hab with e | e
    · exact Nat.le_trans (ih (by omega)) (h b _)
    · subst e; exact Nat.le_refl _
def naK (se : Nat → Int64) (rk : Nat → Int32) (t : Int32) (p : Nat) (k : Nat) (x : Int32) : Int32 := if rk k = t then (if hasM (se k) (nI p) = 0 then x else nI k) else x
def naS (m : Nat) (se : Nat → Int64) (rk : Nat → Int32) (lef : Int64) (t : Int32) (p : Nat) (f : Nat → Int32) : Nat → Int32 := if hasM lef (nI p) = 0 then f else upd f p (itr (naK se rk t p) m (f p))
def lrV (c r n : Nat) (dg : Int32) (ins lef : Int64) (t : Int32) (q : tT) : tT := itr (lrS c r dg ins lef t) n q
def naV (n : Nat) (lef : Int64) (t : Int32) (q : tT) (f : Nat → Int32) : Nat → Int32 := itr (naS q.1 q.2.1 q.2.2 lef t) n f
theorem upd_self (f : Nat → Int32) (j : Nat) : upd f j (f j) = f := by funext i; unfold upd; split <;> simp_all
theorem upd_upd (f : Nat → Int32) (j : Nat) (x y : Int32) : upd (upd f j x) j y = upd f j y := by funext i; unfold upd; split <;> rfl
theorem setB_u (B : xB) (k : Nat) (f : Nat → Int64) (j : Nat) (v : Int64) : updB (setB B k f) k j v = setB B k (vp_updL f j v) := by
  funext k' i
  unfold updB setB vp_updL
  by_cases h : k' = k
  · subst h; simp
  · simp [h]
theorem setB_self (B : xB) (k : Nat) : setB B k (B k) = B := by
  funext k' i
  rw [setB_get]
  split
  · rename_i h; rw [h]
  · rfl
theorem m_layRank {c r n : Nat} {t dg : Int32} {ins abv : Int64} {q0 : tT} {f : Nat → Int32} {A : xA} {B : xB} {D : xD} (hdg : A 76 6 = dg) (h : mG A c r n) (hins : ∀ q, hb ins q = true → q < n) (hM : (lrV c r n dg ins (ins &&& (abv ^^^ -1)) t q0).1 ≤ 64) : does0 mX8_layRank [.ref 76, .int t, .long ins, .long abv] (tA A q0.1 q0.2.2 f) (setB B 84 q0.2.1) D (eqQ none (tA A (lrV c r n dg ins (ins &&& (abv ^^^ -1)) t q0).1 (lrV c r n dg ins (ins &&& (abv ^^^ -1)) t q0).2.2 (naV n (ins &&& (abv ^^^ -1)) t (lrV c r n dg ins (ins &&& (abv ^^^ -1)) t q0) f)) (setB B 84 (lrV c r n dg ins (ins &&& (abv ^^^ -1)) t q0).2.1) D) nx := by
  refine does_go (by decide) rfl (Nat.le_of_ble_eq_true rfl) rfl ?_
  obtain ⟨hn, hn0, hn64⟩ := h.n
  have hgA : ∀ m rk f, mG (tA A m rk f) c r n := fun m rk f => h.o (tA_o (by decide) (by decide) (by decide)) (tA_o (by decide) (by decide) (by decide))
  have hnA : ∀ m rk f, tA A m rk f 76 1 * tA A m rk f 76 2 = nI n := fun m rk f => (hgA m rk f).n.1
  have h19 : ∀ m rk f, tA A m rk f 76 19 = nI m := fun m rk f => rfl
  have h6 : ∀ m rk f, tA A m rk f 76 6 = dg := fun m rk f => hdg
  generalize hlef : (ins &&& (abv ^^^ -1)) = lef at hM ⊢
  have hmo : ∀ j, j ≤ n → (itr (lrS c r dg ins lef t) j q0).1 ≤ 64 := fun j hj => Nat.le_trans (itr_le (g := fun q : tT => q.1) (lrS_le c r dg ins lef t) q0 hj) hM
  have hR2 : ∃ T, lrV c r n dg ins lef t q0 = T := ⟨_, rfl⟩
  obtain ⟨T, hT⟩ := hR2
  rw [hT] at hM ⊢
  have loop2 := up_ind (n := n) (P := fun j => ∀ g, g = itr (naS T.1 T.2.1 T.2.2 lef t) j f → go0 mX8_layRank (eqQ none (tA A T.1 T.2.2 (naV n lef t T f)) (setB B 84 T.2.1) D) nx 0 0 112 [(0, .ref 76), (1, .int t), (6, .long lef), (8, .int (nI j))] [] (tA A T.1 T.2.2 g) (setB B 84 T.2.1) D) (fun j hj ih g hg => by
    have inner : j < n → ∀ k, k ≤ T.1 → ∀ x, (k = 0 ∨ ¬ hasM lef (nI j) = 0) → x = itr (naK T.2.1 T.2.2 t j) k (g j) → go0 mX8_layRank (eqQ none (tA A T.1 T.2.2 (naV n lef t T f)) (setB B 84 T.2.1) D) nx 0 0 124 [(0, .ref 76), (1, .int t), (6, .long lef), (8, .int (nI j)), (9, .int (nI k))] [] (tA A T.1 T.2.2 (upd g j x)) (setB B 84 T.2.1) D := by
      intro hl
      refine up_ind (fun k hk ihk x hkx hx => ?_)
      refine xi_iload dX8_layRank_124 rfl ?_
      refine xi_aload_n dX8_layRank_126 rfl rfl ?_
      refine xi_getfield0 dX8_layRank_127 fX8_116 g76 ?_
      rw [h19]
      refine xi_icmp_ge (tgt := 194) dX8_layRank_130 rfl (fun h130 => ?_) (fun h130 => ?_)
      · have e : k = T.1 := ge_eq hk (by omega) h130
        refine xi_iinc (v := 1) dX8_layRank_194 rfl (by decide) (Nat.le_of_ble_eq_true rfl) ?_
        refine xi_goto (tgt := 112) dX8_layRank_197 rfl ?_
        refine xgo_pick [0, 1, 6, 8] rfl ?_
        rw [nI_1]
        refine ih hl _ ?_
        rw [itr_s, ← hg]
        unfold naS
        by_cases e0 : hasM lef (nI j) = 0
        · rw [if_pos e0]
          rcases hkx with e1 | e1
          · rw [hx, e1]; exact upd_self _ _
          · exact (e1 e0).elim
        · rw [if_neg e0, hx, e]
      · have hkl : k < T.1 := nge_lt hk (by omega) h130
        refine xi_lload dX8_layRank_133 rfl ?_
        refine xi_iload dX8_layRank_135 rfl ?_
        refine cS1 (av := [_, _]) dX8_layRank_137 lX8_151 rfl ⟨rfl, rfl⟩ rfl ⟨(Nat.le_of_ble_eq_true rfl), (Nat.le_of_ble_eq_true rfl)⟩ ⟨(Nat.le_of_ble_eq_true rfl), (Nat.le_of_ble_eq_true rfl)⟩ (Nat.le_of_ble_eq_true rfl) (m_has) ?_
        refine xi_if_eq (tgt := 194) dX8_layRank_140 rfl (fun h140 => ?_) (fun h140 => ?_)
        · refine xi_iinc (v := 1) dX8_layRank_194 rfl (by decide) (Nat.le_of_ble_eq_true rfl) ?_
          refine xi_goto (tgt := 112) dX8_layRank_197 rfl ?_
          refine xgo_pick [0, 1, 6, 8] rfl ?_
          rw [nI_1]
          refine ih hl _ ?_
          rw [itr_s, ← hg]
          unfold naS
          rw [if_pos h140]
          rcases hkx with e1 | e1
          · rw [hx, e1]; exact upd_self _ _
          · exact (e1 h140).elim
        · refine xi_aload_n dX8_layRank_143 rfl rfl ?_
          refine xi_getfield3 dX8_layRank_144 fX8_51 g76 r76_24 ?_
          refine xi_iload dX8_layRank_147 rfl ?_
          refine xi_aload_n dX8_layRank_149 rfl rfl ?_
          refine xi_getfield3 dX8_layRank_150 fX8_42 g76 r76_21 ?_
          refine xi_iload dX8_layRank_153 rfl ?_
          refine ia dX8_layRank_155 g85 s85 rfl (by omega) (Nat.le_of_ble_eq_true rfl) ?_
          refine xi_iload_n dX8_layRank_156 rfl rfl ?_
          rw [show tA A T.1 T.2.2 (upd g j x) 85 k = T.2.2 k from rfl]
          refine xi_icmpne (tgt := 180) dX8_layRank_157 rfl (fun h157 => ?_) (fun h157 => ?_)
          · refine xi_aload_n dX8_layRank_180 rfl rfl ?_
            refine xi_getfield3 dX8_layRank_181 fX8_51 g76 r76_24 ?_
            refine xi_iload dX8_layRank_184 rfl ?_
            refine ia dX8_layRank_186 g88 s88 rfl (by omega) (Nat.le_of_ble_eq_true rfl) ?_
            refine is dX8_layRank_187 g88 s88 rfl (by omega) (Nat.le_of_ble_eq_true rfl) ?_
            refine xi_iinc (v := 1) dX8_layRank_188 rfl (by decide) (Nat.le_of_ble_eq_true rfl) ?_
            refine xi_goto (tgt := 124) dX8_layRank_191 rfl ?_
            refine xgo_pick [0, 1, 6, 8, 9] rfl ?_
            rw [nI_1]
            unfold tA
            rw [setA_u, show setA (setA (updA A 76 19 (nI T.1)) 85 T.2.2) 88 (upd g j x) 88 j = x from by rw [setA_s, up_s], upd_upd]
            exact ihk hkl x (Or.inr h140) (by rw [itr_s, ← hx]; unfold naK; rw [if_neg h157])
          · refine xi_aload_n dX8_layRank_160 rfl rfl ?_
            refine xi_getfield3 dX8_layRank_161 fX8_38 g76 r76_20 ?_
            refine xi_iload dX8_layRank_164 rfl ?_
            refine la dX8_layRank_166 g84 s84 rfl (by omega) (Nat.le_of_ble_eq_true rfl) ?_
            refine xi_iload dX8_layRank_167 rfl ?_
            rw [setB_s]
            refine cS1 (av := [_, _]) dX8_layRank_169 lX8_151 rfl ⟨rfl, rfl⟩ rfl ⟨(Nat.le_of_ble_eq_true rfl), (Nat.le_of_ble_eq_true rfl)⟩ ⟨(Nat.le_of_ble_eq_true rfl), (Nat.le_of_ble_eq_true rfl)⟩ (Nat.le_of_ble_eq_true rfl) (m_has) ?_
            refine xi_if_eq (tgt := 180) dX8_layRank_172 rfl (fun h172 => ?_) (fun h172 => ?_)
            · refine xi_aload_n dX8_layRank_180 rfl rfl ?_
              refine xi_getfield3 dX8_layRank_181 fX8_51 g76 r76_24 ?_
              refine xi_iload dX8_layRank_184 rfl ?_
              refine ia dX8_layRank_186 g88 s88 rfl (by omega) (Nat.le_of_ble_eq_true rfl) ?_
              refine is dX8_layRank_187 g88 s88 rfl (by omega) (Nat.le_of_ble_eq_true rfl) ?_
              refine xi_iinc (v := 1) dX8_layRank_188 rfl (by decide) (Nat.le_of_ble_eq_true rfl) ?_
              refine xi_goto (tgt := 124) dX8_layRank_191 rfl ?_
              refine xgo_pick [0, 1, 6, 8, 9] rfl ?_
              rw [nI_1]
              unfold tA
              rw [setA_u, show setA (setA (updA A 76 19 (nI T.1)) 85 T.2.2) 88 (upd g j x) 88 j = x from by rw [setA_s, up_s], upd_upd]
              exact ihk hkl x (Or.inr h140) (by rw [itr_s, ← hx]; unfold naK; rw [if_pos h157, if_pos h172])
            · refine xi_iload dX8_layRank_175 rfl ?_
              refine xi_goto (tgt := 187) dX8_layRank_177 rfl ?_
              refine is dX8_layRank_187 g88 s88 rfl (by omega) (Nat.le_of_ble_eq_true rfl) ?_
              refine xi_iinc (v := 1) dX8_layRank_188 rfl (by decide) (Nat.le_of_ble_eq_true rfl) ?_
              refine xi_goto (tgt := 124) dX8_layRank_191 rfl ?_
              refine xgo_pick [0, 1, 6, 8, 9] rfl ?_
              rw [nI_1]
              unfold tA
              rw [setA_u, upd_upd]
              exact ihk hkl _ (Or.inr h140) (by rw [itr_s, ← hx]; unfold naK; rw [if_pos h157, if_neg h172])
    refine xi_iload dX8_layRank_112 rfl ?_
    refine xi_aload_n dX8_layRank_114 rfl rfl ?_
    refine cV1 (av := []) dX8_layRank_115 lX8_76 rfl ⟨rfl, rfl⟩ rfl ⟨(Nat.le_of_ble_eq_true rfl), (Nat.le_of_ble_eq_true rfl)⟩ ⟨(Nat.le_of_ble_eq_true rfl), (Nat.le_of_ble_eq_true rfl)⟩ (Nat.le_of_ble_eq_true rfl) g76 rfl rfl (m_pixels) ?_
    rw [hnA]
    refine xi_icmp_ge (tgt := 200) dX8_layRank_118 rfl (fun h118 => ?_) (fun h118 => ?_)
    · have e : j = n := ge_eq hj (by omega) h118
      subst e
      refine go_ret (r := none) dX8_layRank_200 (Nat.le_of_ble_eq_true rfl) (Nat.le_of_ble_eq_true rfl) ?_
      exact ⟨rfl, by rw [hg]; rfl, rfl, rfl⟩
    · have hl : j < n := nge_lt hj (by omega) h118
      refine xi_iconst (v := 0) dX8_layRank_121 (by decide) ?_
      refine xi_istore dX8_layRank_122 (Nat.le_of_ble_eq_true rfl) ?_
      refine xgo_pick [0, 1, 6, 8, 9] rfl ?_
      have l0 := inner hl 0 (Nat.zero_le _) (g j) (Or.inl rfl) rfl
      rw [upd_self] at l0
      exact l0
    )
  have loop1 := up_ind (n := n) (P := fun j => ∀ q : tT, q = itr (lrS c r dg ins lef t) j q0 → go0 mX8_layRank (eqQ none (tA A T.1 T.2.2 (naV n lef t T f)) (setB B 84 T.2.1) D) nx 0 0 13 [(0, .ref 76), (1, .int t), (2, .long ins), (6, .long lef), (8, .int (nI j))] [] (tA A q.1 q.2.2 f) (setB B 84 q.2.1) D) (fun j hj ih q hq => by
    have K : j < n → ∀ C, C = lrC c r dg ins j → go0 mX8_layRank (eqQ none (tA A T.1 T.2.2 (naV n lef t T f)) (setB B 84 T.2.1) D) nx 0 0 46 [(0, .ref 76), (1, .int t), (2, .long ins), (6, .long lef), (8, .int (nI j))] [.long C] (tA A q.1 q.2.2 f) (setB B 84 q.2.1) D := by
      intro hl C hC
      have hnx := hmo (j + 1) (by omega)
      have ih1 := ih hl
      rw [itr_s, ← hq] at ih1 hnx
      unfold lrS at ih1 hnx
      rw [← hC] at ih1 hnx
      refine xi_lstore dX8_layRank_46 (Nat.le_of_ble_eq_true rfl) ?_
      refine xi_lload dX8_layRank_48 rfl ?_
      refine xi_lconst (v := 1) dX8_layRank_50 (by decide) ?_
      refine xi_iload dX8_layRank_51 rfl ?_
      refine xi_lshl dX8_layRank_53 ?_
      refine xi_lconst (v := 1) dX8_layRank_54 (by decide) ?_
      refine xi_lsub dX8_layRank_55 ?_
      refine xi_land dX8_layRank_56 ?_
      refine xi_lconst (v := 0) dX8_layRank_57 (by decide) ?_
      refine xi_lcmpne (tgt := 103) dX8_layRank_58 dX8_layRank_59 rfl (fun h59 => ?_) (fun h59 => ?_)
      · refine xi_iinc (v := 1) dX8_layRank_103 rfl (by decide) (Nat.le_of_ble_eq_true rfl) ?_
        refine xi_goto (tgt := 13) dX8_layRank_106 rfl ?_
        refine xgo_pick [0, 1, 2, 6, 8] rfl ?_
        rw [nI_1]
        exact ih1 q (by rw [if_neg h59])
      · refine xi_lload dX8_layRank_62 rfl ?_
        refine xi_lload dX8_layRank_64 rfl ?_
        refine xi_land dX8_layRank_66 ?_
        refine xi_lconst (v := 0) dX8_layRank_67 (by decide) ?_
        refine xi_lcmpeq (tgt := 103) dX8_layRank_68 dX8_layRank_69 rfl (fun h69 => ?_) (fun h69 => ?_)
        · refine xi_iinc (v := 1) dX8_layRank_103 rfl (by decide) (Nat.le_of_ble_eq_true rfl) ?_
          refine xi_goto (tgt := 13) dX8_layRank_106 rfl ?_
          refine xgo_pick [0, 1, 2, 6, 8] rfl ?_
          rw [nI_1]
          exact ih1 q (by rw [if_pos h59, if_pos h69])
        · rw [if_pos h59, if_neg h69] at ih1 hnx
          simp only at hnx
          refine xi_aload_n dX8_layRank_72 rfl rfl ?_
          refine xi_getfield3 dX8_layRank_73 fX8_38 g76 r76_20 ?_
          refine xi_aload_n dX8_layRank_76 rfl rfl ?_
          refine xi_getfield0 dX8_layRank_77 fX8_116 g76 ?_
          rw [h19]
          refine xi_lload dX8_layRank_80 rfl ?_
          refine ls dX8_layRank_82 g84 s84 rfl (by omega) (Nat.le_of_ble_eq_true rfl) ?_
          refine xi_aload_n dX8_layRank_83 rfl rfl ?_
          refine xi_getfield3 dX8_layRank_84 fX8_42 g76 r76_21 ?_
          refine xi_aload_n dX8_layRank_87 rfl rfl ?_
          refine xi_getfield0 dX8_layRank_88 fX8_116 g76 ?_
          rw [h19]
          refine xi_iload_n dX8_layRank_91 rfl rfl ?_
          refine is dX8_layRank_92 g85 s85 rfl (by omega) (Nat.le_of_ble_eq_true rfl) ?_
          refine xi_aload_n dX8_layRank_93 rfl rfl ?_
          refine xi_dup dX8_layRank_94 rfl ?_
          refine xi_getfield0 dX8_layRank_95 fX8_116 g76 ?_
          rw [show updA (tA A q.1 q.2.2 f) 85 q.1 t 76 19 = nI q.1 from rfl]
          refine xi_iconst (v := 1) dX8_layRank_98 (by decide) ?_
          refine xi_iadd dX8_layRank_99 ?_
          rw [nI_1]
          refine xi_putfield0 dX8_layRank_100 fX8_116 g76 pX8_116 ?_
          refine xi_iinc (v := 1) dX8_layRank_103 rfl (by decide) (Nat.le_of_ble_eq_true rfl) ?_
          refine xi_goto (tgt := 13) dX8_layRank_106 rfl ?_
          refine xgo_pick [0, 1, 2, 6, 8] rfl ?_
          rw [nI_1, setB_u]
          have e := ih1 _ rfl
          rw [show tA A (q.1 + 1) (upd q.2.2 q.1 t) f = updA (updA (tA A q.1 q.2.2 f) 85 q.1 t) 76 19 (nI (q.1 + 1)) by clear ih ih1 e loop2; funext k' i; simp only [tA, updA_get, setA_get, upd]; grind (splits := 40)] at e
          exact e
    refine xi_iload dX8_layRank_13 rfl ?_
    refine xi_aload_n dX8_layRank_15 rfl rfl ?_
    refine cV1 (av := []) dX8_layRank_16 lX8_76 rfl ⟨rfl, rfl⟩ rfl ⟨(Nat.le_of_ble_eq_true rfl), (Nat.le_of_ble_eq_true rfl)⟩ ⟨(Nat.le_of_ble_eq_true rfl), (Nat.le_of_ble_eq_true rfl)⟩ (Nat.le_of_ble_eq_true rfl) g76 rfl rfl (m_pixels) ?_
    rw [hnA]
    refine xi_icmp_ge (tgt := 109) dX8_layRank_19 rfl (fun h19 => ?_) (fun h19 => ?_)
    · have e : j = n := ge_eq hj (by omega) h19
      subst e
      refine xi_iconst (v := 0) dX8_layRank_109 (by decide) ?_
      refine xi_istore dX8_layRank_110 (Nat.le_of_ble_eq_true rfl) ?_
      refine xgo_pick [0, 1, 6, 8] rfl ?_
      have e : q = T := by rw [hq]; exact hT
      subst e
      exact loop2 0 (Nat.zero_le _) f rfl
    · have hl : j < n := nge_lt hj (by omega) h19
      refine xi_lload_n dX8_layRank_22 rfl rfl ?_
      refine xi_iload dX8_layRank_23 rfl ?_
      refine cS1 (av := [_, _]) dX8_layRank_25 lX8_151 rfl ⟨rfl, rfl⟩ rfl ⟨(Nat.le_of_ble_eq_true rfl), (Nat.le_of_ble_eq_true rfl)⟩ ⟨(Nat.le_of_ble_eq_true rfl), (Nat.le_of_ble_eq_true rfl)⟩ (Nat.le_of_ble_eq_true rfl) (m_has) ?_
      refine xi_if_eq (tgt := 45) dX8_layRank_28 rfl (fun h28 => ?_) (fun h28 => ?_)
      · have hK := K hl 0 (by unfold lrC; rw [if_pos h28])
        refine xi_lconst (v := 0) dX8_layRank_45 (by decide) ?_
        refine xgo_pick [0, 1, 2, 6, 8] rfl ?_
        exact hK
      · have hK := K hl _ (show cpV c r dg ins j = lrC c r dg ins j by unfold lrC; rw [if_neg h28])
        refine xi_aload_n dX8_layRank_31 rfl rfl ?_
        refine xi_iload dX8_layRank_32 rfl ?_
        refine xi_lload_n dX8_layRank_34 rfl rfl ?_
        refine xi_aload_n dX8_layRank_35 rfl rfl ?_
        refine xi_getfield1 dX8_layRank_36 fX8_123 g76 ?_
        rw [h6]
        refine cV1 (av := [_, _, _]) dX8_layRank_39 lX8_177 rfl ⟨rfl, rfl⟩ rfl ⟨(Nat.le_of_ble_eq_true rfl), (Nat.le_of_ble_eq_true rfl)⟩ ⟨(Nat.le_of_ble_eq_true rfl), (Nat.le_of_ble_eq_true rfl)⟩ (Nat.le_of_ble_eq_true rfl) g76 rfl rfl (m_spread (hgA _ _ _) hins (by cases e : hb ins j; exact (h28 ((hasM0 _ (by omega)).mpr e)).elim; rfl)) ?_
        refine xi_goto (tgt := 46) dX8_layRank_42 rfl ?_
        refine xgo_pick [0, 1, 2, 6, 8] rfl ?_
        exact hK
    )
  refine xi_lload_n dX8_layRank_0 rfl rfl ?_
  refine xi_lload dX8_layRank_1 rfl ?_
  refine xi_ldc2_w dX8_layRank_3 kX8_88 ?_
  refine xi_lxor dX8_layRank_6 ?_
  refine xi_land dX8_layRank_7 ?_
  rw [show (ins &&& (abv ^^^ -1)) = lef from hlef]
  refine xi_lstore dX8_layRank_8 (Nat.le_of_ble_eq_true rfl) ?_
  refine xi_iconst (v := 0) dX8_layRank_10 (by decide) ?_
  refine xi_istore dX8_layRank_11 (Nat.le_of_ble_eq_true rfl) ?_
  refine xgo_pick [0, 1, 2, 6, 8] rfl ?_
  exact loop1 0 (Nat.zero_le _) q0 rfl
/-- up from x until a node holds a higher leaf than lf -/
def pwV (pa rk ch : Nat → Int32) (se : Nat → Int64) (m lf : Nat) : Nat → Int32 → Int32
  | 0, x => x
  | d + 1, x => if x = -1 then x else if hhV rk ch se m x.toNatClampNeg lf = 0 then pwV pa rk ch se m lf d (pa x.toNatClampNeg) else x
def prV (pa rk ch : Nat → Int32) (se : Nat → Int64) (m v : Nat) : Int32 := if pwV pa rk ch se m v v (pa v) = -1 then rk v + 1 else rk v - rk (pwV pa rk ch se m v v (pa v)).toNatClampNeg
theorem m_prominenceOf {v m : Nat} (hv : v < m) (hm64 : m ≤ 64) {A : xA} {B : xB} {D : xD} (hm : A 76 19 = nI m) (hpa : paOK (A 86) m) : does0 mX8_prominenceOf [.ref 76, .int (nI v)] A B D (eqQ (some (.int (prV (A 86) (A 85) (A 87) (B 84) m v))) A B D) nx := by
  refine does_go (by decide) rfl (Nat.le_of_ble_eq_true rfl) rfl ?_
  unfold prV
  generalize hR : pwV (A 86) (A 85) (A 87) (B 84) m v v (A 86 v) = R
  have loop : ∀ d, ∀ x : Int32, ndOK x d → d ≤ v → pwV (A 86) (A 85) (A 87) (B 84) m v d x = R → go0 mX8_prominenceOf (eqQ (some (.int (if R = -1 then A 85 v + 1 else A 85 v - A 85 R.toNatClampNeg))) A B D) nx 0 0 7 [(0, .ref 76), (1, .int (nI v)), (2, .int x)] [] A B D := by
    intro d
    induction d with
    | zero =>
      intro x hx hd hk
      have hx1 : x = -1 := hx.elim id (fun ⟨a, ha, _⟩ => by omega)
      subst hx1
      unfold pwV at hk
      refine xi_iload_n dX8_prominenceOf_7 rfl rfl ?_
      refine xi_iconst (v := (-1)) dX8_prominenceOf_8 (by decide) ?_
      refine xi_icmp_eq (tgt := 31) dX8_prominenceOf_9 rfl (fun h9 => ?_) (fun h9 => ?_)
      · refine xi_iload_n dX8_prominenceOf_31 rfl rfl ?_
        refine xi_iconst (v := (-1)) dX8_prominenceOf_32 (by decide) ?_
        refine xi_icmpne (tgt := 47) dX8_prominenceOf_33 rfl (fun h33 => ?_) (fun h33 => ?_)
        · exact absurd rfl h33
        · refine xi_aload_n dX8_prominenceOf_36 rfl rfl ?_
          refine xi_getfield3 dX8_prominenceOf_37 fX8_42 g76 r76_21 ?_
          refine xi_iload_n dX8_prominenceOf_40 rfl rfl ?_
          refine ia dX8_prominenceOf_41 g85 s85 rfl (by omega) (Nat.le_of_ble_eq_true rfl) ?_
          refine xi_iconst (v := 1) dX8_prominenceOf_42 (by decide) ?_
          refine xi_iadd dX8_prominenceOf_43 ?_
          refine xi_goto (tgt := 60) dX8_prominenceOf_44 rfl ?_
          refine go_ret (r := some (.int _)) dX8_prominenceOf_60 (Nat.le_of_ble_eq_true rfl) (Nat.le_of_ble_eq_true rfl) ?_
          exact ⟨by rw [← hk, if_pos rfl], rfl, rfl, rfl⟩
      · exact absurd rfl h9
    | succ d ih =>
      intro x hx hd hk
      unfold pwV at hk
      refine xi_iload_n dX8_prominenceOf_7 rfl rfl ?_
      refine xi_iconst (v := (-1)) dX8_prominenceOf_8 (by decide) ?_
      refine xi_icmp_eq (tgt := 31) dX8_prominenceOf_9 rfl (fun h9 => ?_) (fun h9 => ?_)
      · rw [if_pos h9] at hk
        refine xi_iload_n dX8_prominenceOf_31 rfl rfl ?_
        refine xi_iconst (v := (-1)) dX8_prominenceOf_32 (by decide) ?_
        refine xi_icmpne (tgt := 47) dX8_prominenceOf_33 rfl (fun h33 => ?_) (fun h33 => ?_)
        · exact absurd h9 h33
        · refine xi_aload_n dX8_prominenceOf_36 rfl rfl ?_
          refine xi_getfield3 dX8_prominenceOf_37 fX8_42 g76 r76_21 ?_
          refine xi_iload_n dX8_prominenceOf_40 rfl rfl ?_
          refine ia dX8_prominenceOf_41 g85 s85 rfl (by omega) (Nat.le_of_ble_eq_true rfl) ?_
          refine xi_iconst (v := 1) dX8_prominenceOf_42 (by decide) ?_
          refine xi_iadd dX8_prominenceOf_43 ?_
          refine xi_goto (tgt := 60) dX8_prominenceOf_44 rfl ?_
          refine go_ret (r := some (.int _)) dX8_prominenceOf_60 (Nat.le_of_ble_eq_true rfl) (Nat.le_of_ble_eq_true rfl) ?_
          exact ⟨by rw [← hk, if_pos h9], rfl, rfl, rfl⟩
      · obtain ⟨a, ha, rfl⟩ : ∃ a, a < d + 1 ∧ x = nI a := hx.elim (fun z => (h9 z).elim) id
        rw [if_neg h9, nI_clamp (by omega)] at hk
        refine xi_aload_n dX8_prominenceOf_12 rfl rfl ?_
        refine xi_iload_n dX8_prominenceOf_13 rfl rfl ?_
        refine xi_iload_n dX8_prominenceOf_14 rfl rfl ?_
        refine cV1 (av := [_, _]) dX8_prominenceOf_15 lX8_181 rfl ⟨rfl, rfl⟩ rfl ⟨(Nat.le_of_ble_eq_true rfl), (Nat.le_of_ble_eq_true rfl)⟩ ⟨(Nat.le_of_ble_eq_true rfl), (Nat.le_of_ble_eq_true rfl)⟩ (Nat.le_of_ble_eq_true rfl) g76 rfl rfl (m_holdsHigher (by omega) (by omega) hm hm64) ?_
        refine xi_ifne (tgt := 31) dX8_prominenceOf_18 rfl (fun h18 => ?_) (fun h18 => ?_)
        · rw [if_neg h18] at hk
          refine xi_iload_n dX8_prominenceOf_31 rfl rfl ?_
          refine xi_iconst (v := (-1)) dX8_prominenceOf_32 (by decide) ?_
          refine xi_icmpne (tgt := 47) dX8_prominenceOf_33 rfl (fun h33 => ?_) (fun h33 => ?_)
          · refine xi_aload_n dX8_prominenceOf_47 rfl rfl ?_
            refine xi_getfield3 dX8_prominenceOf_48 fX8_42 g76 r76_21 ?_
            refine xi_iload_n dX8_prominenceOf_51 rfl rfl ?_
            refine ia dX8_prominenceOf_52 g85 s85 rfl (by omega) (Nat.le_of_ble_eq_true rfl) ?_
            refine xi_aload_n dX8_prominenceOf_53 rfl rfl ?_
            refine xi_getfield3 dX8_prominenceOf_54 fX8_42 g76 r76_21 ?_
            refine xi_iload_n dX8_prominenceOf_57 rfl rfl ?_
            refine ia dX8_prominenceOf_58 g85 s85 rfl (by omega) (Nat.le_of_ble_eq_true rfl) ?_
            refine xi_isub dX8_prominenceOf_59 ?_
            refine go_ret (r := some (.int _)) dX8_prominenceOf_60 (Nat.le_of_ble_eq_true rfl) (Nat.le_of_ble_eq_true rfl) ?_
            exact ⟨by rw [← hk, if_neg h9, nI_clamp (by omega)], rfl, rfl, rfl⟩
          · exact absurd h33 h9
        · rw [if_pos h18] at hk
          refine xi_aload_n dX8_prominenceOf_21 rfl rfl ?_
          refine xi_getfield3 dX8_prominenceOf_22 fX8_45 g76 r76_22 ?_
          refine xi_iload_n dX8_prominenceOf_25 rfl rfl ?_
          refine ia dX8_prominenceOf_26 g86 s86 rfl (by omega) (Nat.le_of_ble_eq_true rfl) ?_
          refine xi_istore_n dX8_prominenceOf_27 rfl (Nat.le_of_ble_eq_true rfl) ?_
          refine xi_goto (tgt := 7) dX8_prominenceOf_28 rfl ?_
          refine xgo_pick [0, 1, 2] rfl ?_
          exact ih _ ((hpa a (by omega)).imp id (fun ⟨b, hb1, hb2⟩ => ⟨b, by omega, hb2⟩)) (by omega) hk
  refine xi_aload_n dX8_prominenceOf_0 rfl rfl ?_
  refine xi_getfield3 dX8_prominenceOf_1 fX8_45 g76 r76_22 ?_
  refine xi_iload_n dX8_prominenceOf_4 rfl rfl ?_
  refine ia dX8_prominenceOf_5 g86 s86 rfl (by omega) (Nat.le_of_ble_eq_true rfl) ?_
  refine xi_istore_n dX8_prominenceOf_6 rfl (Nat.le_of_ble_eq_true rfl) ?_
  refine xgo_pick [0, 1, 2] rfl ?_
  exact loop v _ (hpa v hv) (Nat.le_refl _) hR

