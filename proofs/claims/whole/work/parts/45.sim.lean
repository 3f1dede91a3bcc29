/-! the class's building runs beside the model's -/
/-- the last one of the first k for which f isn't 0 -/
def lastV (f : Nat → Int32) (k : Nat) : Int32 := itr (fun u x => if f u = 0 then x else nI u) k (-1)
theorem lastV_s (f : Nat → Int32) (k : Nat) : lastV f (k + 1) = if f k = 0 then lastV f k else nI k := rfl
theorem lastV_cg {f g : Nat → Int32} (k : Nat) (h : ∀ u, u < k → (f u = 0 ↔ g u = 0)) : lastV f k = lastV g k := by
  unfold lastV
  refine itr_cg k (-1) (fun u x hu => ?_)
  by_cases e : f u = 0
  · rw [if_pos e, if_pos ((h u hu).mp e)]
  · rw [if_neg e, if_neg (fun z => e ((h u hu).mpr z))]
theorem lastV_ok (f : Nat → Int32) : ∀ k, ndOK (lastV f k) k
  | 0 => Or.inl rfl
  | k + 1 => by
    rw [lastV_s]
    split
    · exact (lastV_ok f k).imp id (fun ⟨a, h1, h2⟩ => ⟨a, by omega, h2⟩)
    · exact Or.inr ⟨k, by omega, rfl⟩
theorem nI_nm1 {a : Nat} (h : a < 2 ^ 31) : ¬ nI a = -1 := fun z => by
  have := nI_pos h
  rw [z] at this
  exact this (by decide)
theorem isum_cg {f g : Nat → Int32} : ∀ k, (∀ u, u < k → f u = g u) → isum f k = isum g k
  | 0, _ => rfl
  | k + 1, h => by unfold isum; rw [isum_cg k (fun u hu => h u (by omega)), h k (by omega)]
theorem isum_0 {f : Nat → Int32} : ∀ k, (∀ u, u < k → f u = 0) → isum f k = 0
  | 0, _ => rfl
  | k + 1, h => by unfold isum; rw [isum_0 k (fun u hu => h u (by omega)), h k (by omega)]; rfl
theorem hb_wr (rk : Nat → Nat) (t : Nat) : ∀ n, n ≤ 64 → ∀ q, hb (wrV rk t n) q = true ↔ (q < n ∧ rk q = t)
  | 0, _, q => by unfold wrV; rw [hb_0]; exact ⟨fun h => absurd h (by decide), fun h => by omega⟩
  | n + 1, hn, q => by
    have ih := hb_wr rk t n (by omega) q
    unfold wrV
    by_cases e : rk n = t
    · rw [if_pos e, hb_or, Bool.or_eq_true, ih, hb_bit (by omega), decide_eq_true_eq]
      constructor
      · rintro (⟨h1, h2⟩ | h1)
        · exact ⟨by omega, h2⟩
        · subst h1; exact ⟨by omega, e⟩
      · rintro ⟨h1, h2⟩
        rcases Nat.lt_or_eq_of_le (Nat.le_of_lt_succ h1) with z | z
        · exact Or.inl ⟨z, h2⟩
        · exact Or.inr z
    · rw [if_neg e, ih]
      constructor
      · rintro ⟨h1, h2⟩; exact ⟨by omega, h2⟩
      · rintro ⟨h1, h2⟩
        rcases Nat.lt_or_eq_of_le (Nat.le_of_lt_succ h1) with z | z
        · exact ⟨z, h2⟩
        · subst z; exact (e h2).elim
/-- what the class's arrays of nodes k hold, by the model's table -/
def CI (k n : Nat) (A : xA) (B : xB) (T : tT) : Prop :=
  A k 2 = nI T.1 ∧ (∀ v, v < T.1 → B (k + 2) v = T.2.1 v ∧ A (k + 3) v = T.2.2 v) ∧
  (∀ p, p < n → A (k + 7) p = lastV (fun u => hasV (T.2.1 u) p) T.1) ∧
  (∀ v, v < T.1 → A (k + 5) v = lastV (fun u => subV (T.2.1 v) (T.2.1 u)) v) ∧
  (∀ v, v < T.1 → A (k + 6) v = isum (fun u => if A (k + 5) u = nI v then 1 else 0) T.1) ∧
  (∀ v, v < T.1 → A (k + 4) v = bcL (T.2.1 v &&& B (k + 9) (T.2.2 v).toNatClampNeg)) ∧
  (∀ v, v < T.1 → A (k + 8) v = if A (k + 5) v = -1 then 1 else A (k + 8) (A (k + 5) v).toNatClampNeg + 1) ∧
  A k 4 = itr (fun v x => imax x (A (k + 8) v)) T.1 0
/-- what stays -/
def FR (k c r n : Nat) (ei : Int32) (rk : Nat → Nat) (A0 : xA) (B0 : xB) (A : xA) (B : xB) : Prop :=
  (A (k + 1) 0 = nI c ∧ A (k + 1) 1 = nI r ∧ A (k + 1) 2 = nI n ∧ A k 1 = ei) ∧ (B (k + 1) 4 = gL c r ∧ B (k + 1) 5 = gR c r ∧ ∀ t, t < 16 → B (k + 9) t = wrV rk t n) ∧
  (∀ k', (k' < k ∨ k + 8 < k' ∨ k' = k + 1 ∨ k' = k + 2) → A k' = A0 k') ∧ (∀ k', k' ≠ k + 2 → B k' = B0 k') ∧ ∀ j, j ≠ 2 → j ≠ 4 → A k j = A0 k j
theorem imax_itr {f g : Nat → Int32} {m : Nat} (h : ∀ v, v < m → f v = g v) : itr (fun v x => imax x (f v)) m 0 = itr (fun v x => imax x (g v)) m 0 := itr_cg m 0 (fun p q hp => by rw [h p hp])
/-- a node is added on both sides -/
theorem CI_add {c r n k t j m : Nat} {ei : Int32} {rk : Nat → Nat} {A0 : xA} {B0 : xB} (hg : gOK c r n) (hr : rOK rk n) {A : xA} {B : xB} {se : Nat → Int64} {kr : Nat → Int32} (ht : t < 16) (hj : j < n) (hm : m < 64) (hF : FR k c r n ei rk A0 B0 A B) (hC : CI k n A B (m, se, kr)) {tn pn : Nat → Nat} (hN : NT c r n ei rk t j m se kr tn pn) (hc : cand c n ei rk t j) :
    CI k n (adA A k m j n (nI t) (Cp c r n ei rk t j) (B (k + 9) t)) (updB B (k + 2) m (Cp c r n ei rk t j)) (m + 1, vp_updL se m (Cp c r n ei rk t j), upd kr m (nI t)) ∧ FR k c r n ei rk A0 B0 (adA A k m j n (nI t) (Cp c r n ei rk t j) (B (k + 9) t)) (updB B (k + 2) m (Cp c r n ei rk t j)) := by
  have h64 := hg.n.2
  obtain ⟨c1, c2, c3, c4, c5, c6, c7, c8⟩ := hC
  simp only at c1 c2 c3 c4 c5 c6 c7 c8
  generalize hf : Cp c r n ei rk t j = f
  have hfq : ∀ q, hb f q = true ↔ cn c n ei rk t j q := fun q => by rw [← hf]; exact hb_Cp hg hr (by omega) hc.1 q
  have sn : ∀ u, u < m → vp_updL se m f u = se u := fun u hu => by simp [vp_updL, Nat.ne_of_lt hu]
  have sm : vp_updL se m f m = f := by simp [vp_updL]
  have kn : ∀ u, u < m → upd kr m (nI t) u = kr u := fun u hu => by simp [upd, Nat.ne_of_lt hu]
  have km : upd kr m (nI t) m = nI t := by simp [upd]
  have bn : ∀ k', k' ≠ k + 2 → updB B (k + 2) m f k' = B k' := fun k' hk' => by funext i; rw [updB_get, if_neg (fun z => hk' z.1)]
  have lo : A (k + 7) j = lastV (fun u => subV f (se u)) m := by
    rw [c3 j hj]
    refine lastV_cg m (fun u hu => ?_)
    obtain ⟨b1, b2, b3, b4, b5⟩ := hN.1 u hu
    rw [hasV0 _ (by omega)]
    constructor
    · intro e
      rcases subV01 f (se u) with z | z
      · exact z
      · rw [(subV1 f (se u)).mp z j ((hfq j).mpr (rch_rf j))] at e
        exact absurd e (by decide)
    · intro e
      cases e2 : hb (se u) j
      · rfl
      · exfalso
        rw [b3, hb_Cp hg hr (by omega) b4.1] at e2
        have : subV f (se u) = 1 := (subV1 f (se u)).mpr (fun q hq => by
          rw [b3, hb_Cp hg hr (by omega) b4.1]
          exact rch_tr e2 (cn_mo (by rcases b5 with z | z <;> omega) ((hfq q).mp hq)))
        rw [this] at e
        exact absurd e (by decide)
  have lok := lastV_ok (fun u => subV f (se u)) m
  rw [← lo] at lok
  have e5m : adA A k m j n (nI t) f (B (k + 9) t) (k + 5) m = A (k + 7) j := by unfold adA; simp
  have e5 : ∀ v, v < m → adA A k m j n (nI t) f (B (k + 9) t) (k + 5) v = A (k + 5) v := fun v hv => by unfold adA; simp [Nat.ne_of_lt hv]
  have e8 : ∀ v, v < m → adA A k m j n (nI t) f (B (k + 9) t) (k + 8) v = A (k + 8) v := fun v hv => by unfold adA; simp [Nat.ne_of_lt hv]
  have e8m : adA A k m j n (nI t) f (B (k + 9) t) (k + 8) m = if A (k + 7) j = -1 then 1 else A (k + 8) (A (k + 7) j).toNatClampNeg + 1 := by unfold adA; simp
  refine ⟨⟨?_, ?_, ?_, ?_, ?_, ?_, ?_, ?_⟩, ?_⟩
  · show adA A k m j n (nI t) f (B (k + 9) t) k 2 = nI (m + 1)
    unfold adA
    rw [if_pos rfl, if_pos rfl, c1, nI_1]
  · intro v hv
    simp only at hv ⊢
    rcases Nat.lt_or_eq_of_le (Nat.le_of_lt_succ hv) with e | e
    · rw [sn v e, kn v e, updB_get, if_neg (fun z => by omega)]
      refine ⟨(c2 v e).1, ?_⟩
      rw [← (c2 v e).2]
      unfold adA; simp [Nat.ne_of_lt e]
    · subst e
      rw [sm, km, updB_get, if_pos ⟨rfl, rfl⟩]
      exact ⟨rfl, by unfold adA; simp⟩
  · intro p hp
    simp only
    rw [lastV_s, sm, lastV_cg (g := fun u => hasV (se u) p) m (fun u hu => by rw [sn u hu]), ← c3 p hp]
    have hz : adA A k m j n (nI t) f (B (k + 9) t) (k + 7) p = if j ≤ p ∧ p < n ∧ hasV f p ≠ 0 then nI m else A (k + 7) p := by unfold adA; simp
    rw [hz]
    by_cases e : hasV f p = 0
    · rw [if_pos e, if_neg (fun z => z.2.2 e)]
    · have hjp : j ≤ p := by
        rcases Nat.lt_or_ge p j with z | z
        · exfalso
          apply e
          rw [hasV0 _ (by omega)]
          cases e2 : hb f p
          · rfl
          · exact (hc.2.1 p z ((hfq p).mp e2)).elim
        · exact z
      rw [if_neg e, if_pos ⟨hjp, hp, e⟩]
  · intro v hv
    simp only at hv ⊢
    rcases Nat.lt_or_eq_of_le (Nat.le_of_lt_succ hv) with e | e
    · rw [e5 v e, c4 v e, sn v e]
      exact lastV_cg v (fun u hu => by rw [sn u (by omega)])
    · subst e
      rw [e5m, lo, sm]
      exact lastV_cg v (fun u hu => by rw [sn u hu])
  · intro v hv
    simp only at hv ⊢
    have e6 : adA A k m j n (nI t) f (B (k + 9) t) (k + 6) v = if v = m then 0 else if A (k + 7) j ≠ -1 ∧ v = (A (k + 7) j).toNatClampNeg then A (k + 6) v + 1 else A (k + 6) v := by unfold adA; simp
    rw [e6]
    unfold isum
    rw [e5m, isum_cg (g := fun u => if A (k + 5) u = nI v then 1 else 0) m (fun u hu => by rw [e5 u hu])]
    rcases Nat.lt_or_eq_of_le (Nat.le_of_lt_succ hv) with e | e
    · rw [if_neg (Nat.ne_of_lt e), ← c5 v e]
      rcases lok with z | ⟨a, ha, z⟩
      · rw [z, if_neg (fun w => w.1 rfl), if_neg (fun w => nI_nm1 (by omega) w.symm), Int32.add_zero]
      · rw [z, nI_clamp (by omega)]
        by_cases e2 : v = a
        · subst e2
          rw [if_pos ⟨nI_nm1 (by omega), rfl⟩, if_pos rfl]
        · rw [if_neg (fun w => e2 w.2), if_neg (fun w => e2 ((nI_eq (by omega) (by omega)).mp w).symm), Int32.add_zero]
    · subst e
      rw [if_pos rfl, isum_0 v (fun u hu => ?_), if_neg ?_]
      · rfl
      · rcases lok with z | ⟨a, ha, z⟩
        · rw [z]; exact fun w => nI_nm1 (by omega) w.symm
        · rw [z]; exact fun w => by have := (nI_eq (by omega) (by omega)).mp w; omega
      · rw [if_neg]
        rw [c4 u hu]
        rcases lastV_ok (fun w => subV (se u) (se w)) u with z | ⟨a, ha, z⟩
        · rw [z]; exact fun w => nI_nm1 (by omega) w.symm
        · rw [z]; exact fun w => by have := (nI_eq (by omega) (by omega)).mp w; omega
  · intro v hv
    simp only at hv ⊢
    have e4 : adA A k m j n (nI t) f (B (k + 9) t) (k + 4) v = if v = m then bcL (f &&& B (k + 9) t) else A (k + 4) v := by unfold adA; simp
    rw [e4, bn (k + 9) (by omega)]
    rcases Nat.lt_or_eq_of_le (Nat.le_of_lt_succ hv) with e | e
    · rw [if_neg (Nat.ne_of_lt e), sn v e, kn v e, c6 v e]
    · subst e
      rw [if_pos rfl, sm, km, nI_clamp (by omega)]
  · intro v hv
    simp only at hv ⊢
    rcases Nat.lt_or_eq_of_le (Nat.le_of_lt_succ hv) with e | e
    · rw [e8 v e, e5 v e, c7 v e]
      rcases lastV_ok (fun w => subV (se v) (se w)) v with z | ⟨a, ha, z⟩
      · rw [c4 v e, z, if_pos rfl, if_pos rfl]
      · rw [c4 v e, z, if_neg (nI_nm1 (by omega)), if_neg (nI_nm1 (by omega)), nI_clamp (by omega), e8 a (by omega)]
    · subst e
      rw [e8m, e5m]
      rcases lok with z | ⟨a, ha, z⟩
      · rw [z, if_pos rfl, if_pos rfl]
      · rw [z, if_neg (nI_nm1 (by omega)), if_neg (nI_nm1 (by omega)), nI_clamp (by omega), e8 a ha]
  · show adA A k m j n (nI t) f (B (k + 9) t) k 4 = _
    rw [itr_s, e8m, imax_itr (g := fun v => A (k + 8) v) e8, ← c8]
    unfold adA
    rw [if_pos rfl, if_neg (by decide), if_pos rfl]
  · obtain ⟨⟨f1, f2, f3, f4⟩, ⟨f5, f6, f7⟩, f8, f9, f10⟩ := hF
    have a1 : ∀ i, adA A k m j n (nI t) f (B (k + 9) t) (k + 1) i = A (k + 1) i := fun i => adA_o (by omega)
    refine ⟨⟨by rw [a1]; exact f1, by rw [a1]; exact f2, by rw [a1]; exact f3, ?_⟩, ⟨by rw [bn _ (by omega)]; exact f5, by rw [bn _ (by omega)]; exact f6, fun t' ht' => by rw [bn _ (by omega)]; exact f7 t' ht'⟩, fun k' hk' => ?_, fun k' hk' => by rw [bn _ hk']; exact f9 k' hk', fun i h1 h2 => ?_⟩
    · rw [← f4]; unfold adA; simp
    · rw [← f8 k' hk']; funext i; exact adA_o hk'
    · rw [← f10 i h1 h2]; unfold adA; simp [h1, h2]
/-- the rest of a rank: what no earlier pixel's component has taken -/
def RI (c n : Nat) (ei : Int32) (rk : Nat → Nat) (t j : Nat) (re : Int64) : Prop := ∀ x, hb re x = true ↔ (inS rk n t x ∧ ∀ p, p < j → inS rk n t p → ¬ cn c n ei rk t p x)
/-- within the rest, a component is the same as within all -/
theorem cn_rest {c r n t j : Nat} {ei : Int32} {rk : Nat → Nat} (hg : gOK c r n) (hr : rOK rk n) (ht : t < 16) {re : Int64} (hR : RI c n ei rk t j re) (hj : hb re j = true) : cpV c r ei re j = Cp c r n ei rk t j := by
  obtain ⟨hjS, hjl⟩ := (hR j).mp hj
  have hS : ∀ q, hb re q = true → q < c * r := fun q h => by rw [hg.2.2.2.2]; exact ((hR q).mp h).1.1
  refine hb_ext (fun x hx => bq (cp_rch hg.1 hg.2.1 hg.2.2.2.1 hS ei hj x) ?_)
  rw [hb_Cp hg hr (by omega) hjS]
  constructor
  · intro h
    have h2 : rch (nbr c ei) (fun q => hb re q = true) j x ∧ cn c n ei rk t j x := h (fun y => rch (nbr c ei) (fun q => hb re q = true) j y ∧ cn c n ei rk t j y) ⟨rch_rf j, rch_rf j⟩ (fun a b ya hab sb => by
      have hb2 : cn c n ei rk t j b := rch_st ya.2 hab sb
      refine ⟨rch_st ya.1 hab ((hR b).mpr ⟨sb, fun p hp hpS hpb => ?_⟩), hb2⟩
      exact hjl p hp hpS (rch_tr hpb (cn_sy hjS hb2)))
    exact h2.1
  · intro h
    exact rch_mo (fun q hq => ((hR q).mp hq).1) h
/-- one pixel on both sides -/
theorem add_sim {c r n k t j : Nat} {ei : Int32} {rk : Nat → Nat} {A0 : xA} {B0 : xB} (hg : gOK c r n) (hr : rOK rk n) {q : xA × xB × Int64} {T : tT} (ht : t < 16) (hj : j < n) (hF : FR k c r n ei rk A0 B0 q.1 q.2.1) (hC : CI k n q.1 q.2.1 T) (hN : ∃ tn pn, NT c r n ei rk t j T.1 T.2.1 T.2.2 tn pn) (hR : T.1 < 64 → RI c n ei rk t j q.2.2) :
    FR k c r n ei rk A0 B0 (addS k n t j q).1 (addS k n t j q).2.1 ∧ CI k n (addS k n t j q).1 (addS k n t j q).2.1 (lrS c r ei (Sg rk n t) (Sl rk n t) (nI t) j T) ∧ ((lrS c r ei (Sg rk n t) (Sl rk n t) (nI t) j T).1 < 64 → RI c n ei rk t (j + 1) (addS k n t j q).2.2) := by
  have h64 := hg.n.2
  obtain ⟨tn, pn, hN⟩ := hN
  have hm64 := NT_64 hg hr hN
  have hq2 : q.1 k 2 = nI T.1 := hC.1
  rcases Nat.lt_or_eq_of_le hm64 with hm | hm
  · have hne : ¬ 64 ≤ q.1 k 2 := fun z => by
      rw [hq2] at z
      have := (nI_leI (a := 64) (b := T.1) (by decide) (by omega)).mp z
      omega
    have hRI := hR hm
    by_cases h1 : (q.2.2 &&& shlL 1 (nI j)) = 0
    · rw [addS1 h1]
      rw [and0p (by omega)] at h1
      have hno : ¬ (inS rk n t j ∧ ∀ p, p < j → inS rk n t p → ¬ cn c n ei rk t p j) := fun z => by
        rw [(hRI j).mpr z] at h1
        exact absurd h1 (by decide)
      have hnc : ¬ cand c n ei rk t j := fun z => hno ⟨z.1, fun p hp hpS hpj => z.2.1 p hp (cn_sy hpS hpj)⟩
      rw [lr_ncand hg hr ht hj _ hnc]
      refine ⟨hF, hC, fun _ x => ?_⟩
      rw [hRI x]
      constructor
      · rintro ⟨a1, a2⟩
        refine ⟨a1, fun p hp hpS hpx => ?_⟩
        rcases Nat.lt_or_eq_of_le (Nat.le_of_lt_succ hp) with e | e
        · exact a2 p e hpS hpx
        · subst e
          exact hno ⟨hpS, fun p' hp' hpS' hpj => a2 p' hp' hpS' (rch_tr hpj hpx)⟩
      · rintro ⟨a1, a2⟩
        exact ⟨a1, fun p hp => a2 p (by omega)⟩
    · have hjb : hb q.2.2 j = true := by
        cases e : hb q.2.2 j
        · exact (h1 ((and0p (by omega)).mpr e)).elim
        · rfl
      obtain ⟨hjS, hjl⟩ := (hRI j).mp hjb
      have hcn : cnV q.1 q.2.1 k j q.2.2 = Cp c r n ei rk t j := by
        unfold cnV
        rw [hF.1.1, hF.2.1.1, hF.2.1.2.1, hF.1.2.2.2]
        exact cn_rest hg hr ht hRI hjb
      have hRn : RI c n ei rk t (j + 1) (q.2.2 &&& (Cp c r n ei rk t j ^^^ -1)) := fun x => by
        rw [hb_and, Bool.and_eq_true, hRI x, hb_not, Bool.and_eq_true, decide_eq_true_eq, Bool.not_eq_true']
        have e1 := hb_Cp (ei := ei) hg hr (show t ≤ 16 by omega) hjS x
        constructor
        · rintro ⟨⟨a1, a2⟩, a3, a4⟩
          refine ⟨a1, fun p hp hpS hpx => ?_⟩
          rcases Nat.lt_or_eq_of_le (Nat.le_of_lt_succ hp) with e | e
          · exact a2 p e hpS hpx
          · subst e; rw [e1.mpr hpx] at a4; exact absurd a4 (by decide)
        · rintro ⟨a1, a2⟩
          refine ⟨⟨a1, fun p hp => a2 p (by omega)⟩, by have := a1.1; omega, ?_⟩
          cases e : hb (Cp c r n ei rk t j) x
          · rfl
          · exact (a2 j (by omega) hjS (e1.mp e)).elim
      have hlow : ∀ p, p < j → ¬ cn c n ei rk t j p := fun p hp hjp => hjl p hp (cn_in hjS hjp) (cn_sy hjS hjp)
      by_cases h2 : (cnV q.1 q.2.1 k j q.2.2 &&& q.2.1 (k + 9) t) = 0
      · rw [addS2 hne h1 h2, hcn]
        rw [hcn, hF.2.1.2.2 t ht, and0] at h2
        have hnc : ¬ cand c n ei rk t j := fun ⟨_, _, q0, z1, z2⟩ => h2 q0 ((hb_Cp hg hr (by omega) hjS q0).mpr z1) ((hb_wr rk t n h64 q0).mpr ⟨(cn_in hjS z1).1, z2⟩)
        rw [lr_ncand hg hr ht hj _ hnc]
        exact ⟨hF, hC, fun _ => hRn⟩
      · rw [addS3 (m := T.1) hne h1 h2 hq2 hm64, hcn]
        rw [hcn, hF.2.1.2.2 t ht] at h2
        have hc : cand c n ei rk t j := by
          refine ⟨hjS, hlow, Classical.byContradiction (fun z => h2 (and0.mpr (fun x a1 a2 => z ⟨x, (hb_Cp hg hr (by omega) hjS x).mp a1, ((hb_wr rk t n h64 x).mp a2).2⟩)))⟩
        rw [lr_cand hg hr ht hj _ hc]
        obtain ⟨r1, r2⟩ := CI_add (A0 := A0) (B0 := B0) hg hr ht hj hm hF hC hN hc
        exact ⟨r2, r1, fun _ => hRn⟩
  · have h0 : 64 ≤ q.1 k 2 := by rw [hq2, hm]; decide
    rw [addS0 h0]
    have hnc : ¬ cand c n ei rk t j := fun z => by have := NT_64 hg hr (NT_add ht hN z); omega
    rw [lr_ncand hg hr ht hj _ hnc]
    exact ⟨hF, hC, fun z => by omega⟩
/-- all pixels of a rank -/
theorem rank_sim {c r n k t : Nat} {ei : Int32} {rk : Nat → Nat} {A0 : xA} {B0 : xB} (hg : gOK c r n) (hr : rOK rk n) {q : xA × xB × Int64} {T : tT} (ht : t < 16) (hF : FR k c r n ei rk A0 B0 q.1 q.2.1) (hC : CI k n q.1 q.2.1 T) (hN : ∃ tn pn, NT c r n ei rk t 0 T.1 T.2.1 T.2.2 tn pn) (hS : ∀ x, hb q.2.2 x = true ↔ inS rk n t x) : ∀ j, j ≤ n →
    FR k c r n ei rk A0 B0 (itr (addS k n t) j q).1 (itr (addS k n t) j q).2.1 ∧ CI k n (itr (addS k n t) j q).1 (itr (addS k n t) j q).2.1 (itr (lrS c r ei (Sg rk n t) (Sl rk n t) (nI t)) j T) ∧ ((itr (lrS c r ei (Sg rk n t) (Sl rk n t) (nI t)) j T).1 < 64 → RI c n ei rk t j (itr (addS k n t) j q).2.2)
  | 0, _ => ⟨hF, hC, fun _ x => by rw [show (itr (addS k n t) 0 q).2.2 = q.2.2 from rfl, hS x]; exact ⟨fun h => ⟨h, fun p hp => by omega⟩, fun h => h.1⟩⟩
  | j + 1, hj => by
    obtain ⟨i1, i2, i3⟩ := rank_sim hg hr ht hF hC hN hS j (by omega)
    rw [itr_s, itr_s]
    exact add_sim hg hr ht (by omega) i1 i2 (lr_NT hg hr ht hN j (by omega)) i3
/-- all ranks -/
theorem bld_sim {c r n k : Nat} {ei : Int32} {rk : Nat → Nat} {A0 : xA} {B0 : xB} (hg : gOK c r n) (hr : rOK rk n) {q0 : xA × xB × Int64} {s0 : tT × (Nat → Int32)} (hs0 : s0.1.1 = 0) (hF : FR k c r n ei rk A0 B0 q0.1 q0.2.1) (hC : CI k n q0.1 q0.2.1 s0.1) (hS : ∀ x, hb q0.2.2 x = true ↔ x < n) : ∀ t, t ≤ 16 →
    FR k c r n ei rk A0 B0 (itr (bldS k n) t q0).1 (itr (bldS k n) t q0).2.1 ∧ CI k n (itr (bldS k n) t q0).1 (itr (bldS k n) t q0).2.1 (tre c r n ei rk s0 t).1 ∧ ∀ x, hb (itr (bldS k n) t q0).2.2 x = true ↔ inS rk n t x
  | 0, _ => ⟨hF, hC, fun x => by rw [show (itr (bldS k n) 0 q0).2.2 = q0.2.2 from rfl, hS x]; exact ⟨fun h => ⟨h, Nat.zero_le _⟩, fun h => h.1⟩⟩
  | t + 1, ht => by
    have h64 := hg.n.2
    obtain ⟨i1, i2, i3⟩ := bld_sim hg hr hs0 hF hC hS t (by omega)
    have hN := tre_NT (ei := ei) hg hr hs0 t (by omega)
    obtain ⟨r1, r2, r3⟩ := rank_sim hg hr (show t < 16 by omega) i1 i2 hN i3 n (Nat.le_refl _)
    have eT : (tre c r n ei rk s0 (t + 1)).1 = itr (lrS c r ei (Sg rk n t) (Sl rk n t) (nI t)) n (tre c r n ei rk s0 t).1 := rfl
    rw [itr_s, eT]
    generalize itr (bldS k n) t q0 = q at *
    have hnl : ∀ x, hb (q.2.2 &&& (wrV rk t n ^^^ -1)) x = true ↔ inS rk n (t + 1) x := fun x => by
      rw [hb_and, Bool.and_eq_true, i3 x, hb_not, Bool.and_eq_true, decide_eq_true_eq, Bool.not_eq_true']
      have e1 := hb_wr rk t n h64 x
      constructor
      · rintro ⟨⟨a1, a2⟩, a3, a4⟩
        refine ⟨a1, ?_⟩
        rcases Nat.lt_or_eq_of_le a2 with z | z
        · exact z
        · rw [e1.mpr ⟨a1, z.symm⟩] at a4; exact absurd a4 (by decide)
      · rintro ⟨a1, a2⟩
        refine ⟨⟨a1, by omega⟩, by omega, ?_⟩
        cases e : hb (wrV rk t n) x
        · rfl
        · have := (e1.mp e).2; omega
    by_cases h0 : q.2.1 (k + 9) t = 0
    · rw [bldS1 h0]
      have hnc : ∀ p, ¬ cand c n ei rk t p := fun p ⟨z0, _, q0, z1, z2⟩ => by
        have := (hb_wr rk t n h64 q0).mpr ⟨(cn_in z0 z1).1, z2⟩
        rw [← i1.2.1.2.2 t (by omega), h0, hb_0] at this
        exact absurd this (by decide)
      have hsame : ∀ j, j ≤ n → itr (lrS c r ei (Sg rk n t) (Sl rk n t) (nI t)) j (tre c r n ei rk s0 t).1 = (tre c r n ei rk s0 t).1 := by
        intro j
        induction j with
        | zero => intro _; rfl
        | succ j ih => intro hj; rw [itr_s, ih (by omega), lr_ncand hg hr (by omega) (by omega) _ (hnc j)]
      rw [hsame n (Nat.le_refl _)]
      refine ⟨i1, i2, ?_⟩
      rw [i1.2.1.2.2 t (by omega)]
      exact hnl
    · rw [bldS2 h0]
      refine ⟨r1, r2, ?_⟩
      rw [r1.2.1.2.2 t (by omega)]
      exact hnl

