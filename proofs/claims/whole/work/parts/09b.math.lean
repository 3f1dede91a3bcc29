/-! rows for Math and System.arraycopy -/
def imax (x y : Int32) : Int32 := if x < y then y else x
def imin (x y : Int32) : Int32 := if y < x then y else x
def iabs (x : Int32) : Int32 := if 0 ≤ x then x else 0 - x
/-- the first 64 of k0 are copied to k1 -/
def cpA (A : xA) (k0 k1 : Nat) : xA := fun k => if k = k1 then va_cpy (A k0) (A k1) 0 0 64 else A k
theorem cpA_s (A : xA) (k0 k1 : Nat) {j : Nat} (h : j < 64) : cpA A k0 k1 k1 j = A k0 j := by
  unfold cpA
  rw [if_pos rfl, pk_cpy_in (Nat.zero_le _) (by omega)]
  rw [show 0 + (j - 0) = j by omega]
theorem cpA_n (A : xA) (k0 : Nat) {k1 k : Nat} (h : k ≠ k1) : cpA A k0 k1 k = A k := if_neg h
section XM
variable {M : xMI} {N0 : Nat} {Q : xQ} {QX : xQX} {cs sl pc : Nat} {lv : xLV} {st : List Value} {N : Nat} {G : xG} {A : xA} {B : xB} {D : xD}
theorem xcat (ad : Nat → Nat) (st : List Value) : (List.map (fun v => v.category) (st.map (xtr ad))) = st.map fun v => v.category := by rw [List.map_map]; exact List.map_congr_left fun v _ => xtr_cat ad v
theorem xi_mmax {idx : Nat} {x y : Int32} (hd : decode (mC M) pc = .ok (.invokestatic idx, 3)) (hw : Cond.methodLink (mY M).cls idx Lib.Math.max.name ∈ xT ∧ Cond.static Lib.Math.max.name ∈ xT ∧ Cond.initialized "java/lang/Math" ∈ xT ∧ Cond.code Lib.Math.max.name Lib.Math.max.code 2 (some .int) ∈ xT) (hR : 1 ≤ (mO M).frames ∧ (st.map fun v => v.category).sum + 13 ≤ (mO M).locals) (hc : cs ≤ (mO M).cells ∧ sl ≤ (mO M).slots) (k : xgo M N0 Q QX cs sl (pc + 3) lv (.int (imax x y) :: st) N G A B D) : xgo M N0 Q QX cs sl pc lv (.int y :: .int x :: st) N G A B D := by
  intro p l e s m args below meth c Dg cT As ad0 ad H locs ls Z hS hV hr he
  obtain ⟨hx, hb, hml, hrt, hlk, hnm, hown, hts, hst, htb, hK, hMv, hZ, hA⟩ := id hS
  exact va_mmax hx hb (hml.trans hV.2.2.2.2.2.1.symm) hown (hts _ hw.1) (hts _ hw.2.1) (hts _ hw.2.2.1) (hts _ hw.2.2.2) hR.1 (by rw [xcat]; exact hR.2) hc.1 hc.2 hd (k p l e s m args below meth c Dg cT As ad0 ad H locs ls Z hS hV hr he)
theorem xi_mmin {idx : Nat} {x y : Int32} (hd : decode (mC M) pc = .ok (.invokestatic idx, 3)) (hw : Cond.methodLink (mY M).cls idx Lib.Math.min.name ∈ xT ∧ Cond.static Lib.Math.min.name ∈ xT ∧ Cond.initialized "java/lang/Math" ∈ xT ∧ Cond.code Lib.Math.min.name Lib.Math.min.code 2 (some .int) ∈ xT) (hR : 1 ≤ (mO M).frames ∧ (st.map fun v => v.category).sum + 13 ≤ (mO M).locals) (hc : cs ≤ (mO M).cells ∧ sl ≤ (mO M).slots) (k : xgo M N0 Q QX cs sl (pc + 3) lv (.int (imin x y) :: st) N G A B D) : xgo M N0 Q QX cs sl pc lv (.int y :: .int x :: st) N G A B D := by
  intro p l e s m args below meth c Dg cT As ad0 ad H locs ls Z hS hV hr he
  obtain ⟨hx, hb, hml, hrt, hlk, hnm, hown, hts, hst, htb, hK, hMv, hZ, hA⟩ := id hS
  exact va_mmin hx hb (hml.trans hV.2.2.2.2.2.1.symm) hown (hts _ hw.1) (hts _ hw.2.1) (hts _ hw.2.2.1) (hts _ hw.2.2.2) hR.1 (by rw [xcat]; exact hR.2) hc.1 hc.2 hd (k p l e s m args below meth c Dg cT As ad0 ad H locs ls Z hS hV hr he)
theorem xi_mabs {idx : Nat} {x : Int32} (hd : decode (mC M) pc = .ok (.invokestatic idx, 3)) (hw : Cond.methodLink (mY M).cls idx Lib.Math.abs.name ∈ xT ∧ Cond.static Lib.Math.abs.name ∈ xT ∧ Cond.initialized "java/lang/Math" ∈ xT ∧ Cond.code Lib.Math.abs.name Lib.Math.abs.code 1 (some .int) ∈ xT) (hR : 1 ≤ (mO M).frames ∧ (st.map fun v => v.category).sum + 13 ≤ (mO M).locals) (hc : cs ≤ (mO M).cells ∧ sl ≤ (mO M).slots) (k : xgo M N0 Q QX cs sl (pc + 3) lv (.int (iabs x) :: st) N G A B D) : xgo M N0 Q QX cs sl pc lv (.int x :: st) N G A B D := by
  intro p l e s m args below meth c Dg cT As ad0 ad H locs ls Z hS hV hr he
  obtain ⟨hx, hb, hml, hrt, hlk, hnm, hown, hts, hst, htb, hK, hMv, hZ, hA⟩ := id hS
  exact va_mabs hx hb (hml.trans hV.2.2.2.2.2.1.symm) hown (hts _ hw.1) (hts _ hw.2.1) (hts _ hw.2.2.1) (hts _ hw.2.2.2) hR.1 (by rw [xcat]; exact hR.2) hc.1 hc.2 hd (k p l e s m args below meth c Dg cT As ad0 ad H locs ls Z hS hV hr he)
theorem xi_copy {idx k0 k1 : Nat} (hd : decode (mC M) pc = .ok (.invokestatic idx, 3)) (hw : Cond.methodLink (mY M).cls idx arraycopyName ∈ xT ∧ Cond.native arraycopyName ∈ xT ∧ Cond.static arraycopyName ∈ xT ∧ Cond.initialized "java/lang/System" ∈ xT) (hR : 1 ≤ (mO M).frames ∧ (st.map fun v => v.category).sum + (nativeFrameWords "java/lang/System" "arraycopy" 5 + 11) ≤ (mO M).locals)
    (hg0 : (G k0).1 = 1) (hn0 : (G k0).2.1 = 64) (hg1 : (G k1).1 = 1) (hn1 : (G k1).2.1 = 64) (k : xgo M N0 Q QX cs sl (pc + 3) lv st N G (cpA A k0 k1) B D) : xgo M N0 Q QX cs sl pc lv (.int 64 :: .int 0 :: .ref k1 :: .int 0 :: .ref k0 :: st) N G A B D := by
  intro p l e s m args below meth c Dg cT As ad0 ad H locs ls Z hS hV hr he
  obtain ⟨hx, hb, hml, hrt, hlk, hnm, hown, hts, hst, htb, hK, hMv, hZ, hA⟩ := id hS
  obtain ⟨v1, v2, v3, v4, v5, v6⟩ := hV
  have hk0 : k0 < N := v4 k0 (by rw [hg0]; decide)
  have hk1 : k1 < N := v4 k1 (by rw [hg1]; decide)
  have hw0 : (xwl ad cT N G A B D)[k0]? = some (ad k0, .inl (cT 0, 64, .inl (A k0))) := by rw [xwl_get hk0]; unfold xent; rw [hg0, hn0]; rfl
  have hw1 : (xwl ad cT N G A B D)[k1]? = some (ad k1, .inl (cT 0, 64, .inl (A k1))) := by rw [xwl_get hk1]; unfold xent; rw [hg1, hn1]; rfl
  refine va_copyi hx hb (hml.trans v6.1.symm) hown (hts _ hw.1) (hts _ hw.2.1) (hts _ hw.2.2.1) (hts _ hw.2.2.2) hK v2 (xdom_D v3) v1 k0 k1 0 0 hw0 hw1 rfl rfl rfl (by decide) (by decide) (by decide) (by decide) (by decide) (fun i _ => rfl) hR.1 (by rw [xcat]; exact hR.2) hd (fun H1 locs1 hP hD1 hS1 => ?_)
  rw [xwl_set (G' := G) (A' := cpA A k0 k1) (B' := B) (D' := D) hk1 (fun j hj => ⟨rfl, cpA_n A k0 hj, rfl, rfl⟩) (by unfold xent; rw [hg1, hn1]; unfold cpA; rw [if_pos rfl]; rfl)] at hP
  exact k p l e s m args below meth c Dg cT As ad0 ad H1 locs1 ls Z hS ⟨hS1, hP, v3, v4, v5, v6⟩ hr he
end XM
theorem eX0_62 : Cond.methodLink RX0 62 Lib.Math.max.name ∈ xT ∧ Cond.static Lib.Math.max.name ∈ xT ∧ Cond.initialized "java/lang/Math" ∈ xT ∧ Cond.code Lib.Math.max.name Lib.Math.max.code 2 (some .int) ∈ xT := ⟨xT_mem (List.mem_of_getElem? (i := 540) (by decide +kernel)) rfl, xT_mem (List.mem_of_getElem? (i := 424) (by decide +kernel)) rfl, xT_mem (List.mem_of_getElem? (i := 89) (by decide +kernel)) rfl, xT_mem (List.mem_of_getElem? (i := 425) (by decide +kernel)) rfl⟩
theorem eX0_68 : Cond.methodLink RX0 68 Lib.Math.min.name ∈ xT ∧ Cond.static Lib.Math.min.name ∈ xT ∧ Cond.initialized "java/lang/Math" ∈ xT ∧ Cond.code Lib.Math.min.name Lib.Math.min.code 2 (some .int) ∈ xT := ⟨xT_mem (List.mem_of_getElem? (i := 541) (by decide +kernel)) rfl, xT_mem (List.mem_of_getElem? (i := 364) (by decide +kernel)) rfl, xT_mem (List.mem_of_getElem? (i := 89) (by decide +kernel)) rfl, xT_mem (List.mem_of_getElem? (i := 365) (by decide +kernel)) rfl⟩
theorem eX0_74 : Cond.methodLink RX0 74 Lib.Math.abs.name ∈ xT ∧ Cond.static Lib.Math.abs.name ∈ xT ∧ Cond.initialized "java/lang/Math" ∈ xT ∧ Cond.code Lib.Math.abs.name Lib.Math.abs.code 1 (some .int) ∈ xT := ⟨xT_mem (List.mem_of_getElem? (i := 618) (by decide +kernel)) rfl, xT_mem (List.mem_of_getElem? (i := 497) (by decide +kernel)) rfl, xT_mem (List.mem_of_getElem? (i := 89) (by decide +kernel)) rfl, xT_mem (List.mem_of_getElem? (i := 498) (by decide +kernel)) rfl⟩
theorem eX2_29 : Cond.methodLink RX2 29 Lib.Math.min.name ∈ xT ∧ Cond.static Lib.Math.min.name ∈ xT ∧ Cond.initialized "java/lang/Math" ∈ xT ∧ Cond.code Lib.Math.min.name Lib.Math.min.code 2 (some .int) ∈ xT := ⟨xT_mem (List.mem_of_getElem? (i := 363) (by decide +kernel)) rfl, xT_mem (List.mem_of_getElem? (i := 364) (by decide +kernel)) rfl, xT_mem (List.mem_of_getElem? (i := 89) (by decide +kernel)) rfl, xT_mem (List.mem_of_getElem? (i := 365) (by decide +kernel)) rfl⟩
theorem eX5_120 : Cond.methodLink RX5 120 Lib.Math.max.name ∈ xT ∧ Cond.static Lib.Math.max.name ∈ xT ∧ Cond.initialized "java/lang/Math" ∈ xT ∧ Cond.code Lib.Math.max.name Lib.Math.max.code 2 (some .int) ∈ xT := ⟨xT_mem (List.mem_of_getElem? (i := 423) (by decide +kernel)) rfl, xT_mem (List.mem_of_getElem? (i := 424) (by decide +kernel)) rfl, xT_mem (List.mem_of_getElem? (i := 89) (by decide +kernel)) rfl, xT_mem (List.mem_of_getElem? (i := 425) (by decide +kernel)) rfl⟩
theorem eX6_31 : Cond.methodLink RX6 31 arraycopyName ∈ xT ∧ Cond.native arraycopyName ∈ xT ∧ Cond.static arraycopyName ∈ xT ∧ Cond.initialized "java/lang/System" ∈ xT := ⟨xT_mem (List.mem_of_getElem? (i := 360) (by decide +kernel)) rfl, xT_mem (List.mem_of_getElem? (i := 362) (by decide +kernel)) rfl, xT_mem (List.mem_of_getElem? (i := 361) (by decide +kernel)) rfl, xT_mem (List.mem_of_getElem? (i := 88) (by decide +kernel)) rfl⟩
theorem eX6_44 : Cond.methodLink RX6 44 Lib.Math.min.name ∈ xT ∧ Cond.static Lib.Math.min.name ∈ xT ∧ Cond.initialized "java/lang/Math" ∈ xT ∧ Cond.code Lib.Math.min.name Lib.Math.min.code 2 (some .int) ∈ xT := ⟨xT_mem (List.mem_of_getElem? (i := 756) (by decide +kernel)) rfl, xT_mem (List.mem_of_getElem? (i := 364) (by decide +kernel)) rfl, xT_mem (List.mem_of_getElem? (i := 89) (by decide +kernel)) rfl, xT_mem (List.mem_of_getElem? (i := 365) (by decide +kernel)) rfl⟩
theorem eX6_50 : Cond.methodLink RX6 50 Lib.Math.max.name ∈ xT ∧ Cond.static Lib.Math.max.name ∈ xT ∧ Cond.initialized "java/lang/Math" ∈ xT ∧ Cond.code Lib.Math.max.name Lib.Math.max.code 2 (some .int) ∈ xT := ⟨xT_mem (List.mem_of_getElem? (i := 757) (by decide +kernel)) rfl, xT_mem (List.mem_of_getElem? (i := 424) (by decide +kernel)) rfl, xT_mem (List.mem_of_getElem? (i := 89) (by decide +kernel)) rfl, xT_mem (List.mem_of_getElem? (i := 425) (by decide +kernel)) rfl⟩
theorem eX7_112 : Cond.methodLink RX7 112 Lib.Math.abs.name ∈ xT ∧ Cond.static Lib.Math.abs.name ∈ xT ∧ Cond.initialized "java/lang/Math" ∈ xT ∧ Cond.code Lib.Math.abs.name Lib.Math.abs.code 1 (some .int) ∈ xT := ⟨xT_mem (List.mem_of_getElem? (i := 496) (by decide +kernel)) rfl, xT_mem (List.mem_of_getElem? (i := 497) (by decide +kernel)) rfl, xT_mem (List.mem_of_getElem? (i := 89) (by decide +kernel)) rfl, xT_mem (List.mem_of_getElem? (i := 498) (by decide +kernel)) rfl⟩
theorem eX7_218 : Cond.methodLink RX7 218 Lib.Math.max.name ∈ xT ∧ Cond.static Lib.Math.max.name ∈ xT ∧ Cond.initialized "java/lang/Math" ∈ xT ∧ Cond.code Lib.Math.max.name Lib.Math.max.code 2 (some .int) ∈ xT := ⟨xT_mem (List.mem_of_getElem? (i := 988) (by decide +kernel)) rfl, xT_mem (List.mem_of_getElem? (i := 424) (by decide +kernel)) rfl, xT_mem (List.mem_of_getElem? (i := 89) (by decide +kernel)) rfl, xT_mem (List.mem_of_getElem? (i := 425) (by decide +kernel)) rfl⟩
theorem eX7_221 : Cond.methodLink RX7 221 Lib.Math.min.name ∈ xT ∧ Cond.static Lib.Math.min.name ∈ xT ∧ Cond.initialized "java/lang/Math" ∈ xT ∧ Cond.code Lib.Math.min.name Lib.Math.min.code 2 (some .int) ∈ xT := ⟨xT_mem (List.mem_of_getElem? (i := 996) (by decide +kernel)) rfl, xT_mem (List.mem_of_getElem? (i := 364) (by decide +kernel)) rfl, xT_mem (List.mem_of_getElem? (i := 89) (by decide +kernel)) rfl, xT_mem (List.mem_of_getElem? (i := 365) (by decide +kernel)) rfl⟩
theorem ge_eq {j n : Nat} (hj : j ≤ n) (hn : n < 2 ^ 31) (h : nI n ≤ nI j) : j = n := by
  have := (nI_leI hn (Nat.lt_of_le_of_lt hj hn)).mp h
  omega
theorem nge_lt {j n : Nat} (hj : j ≤ n) (hn : n < 2 ^ 31) (h : ¬ nI n ≤ nI j) : j < n := by
  rcases Nat.lt_or_ge j n with q | q
  · exact q
  · exact absurd ((nI_leI hn (Nat.lt_of_le_of_lt hj hn)).mpr q) h
/-- a whole array is put in -/
def setA (A : xA) (k : Nat) (f : Nat → Int32) : xA := fun k' => if k' = k then f else A k'
def setB (B : xB) (k : Nat) (f : Nat → Int64) : xB := fun k' => if k' = k then f else B k'
theorem setA_s (A : xA) (k : Nat) (f : Nat → Int32) : setA A k f k = f := if_pos rfl
theorem setA_n (A : xA) {k k' : Nat} (f : Nat → Int32) (h : k' ≠ k) : setA A k f k' = A k' := if_neg h
theorem setB_s (A : xB) (k : Nat) (f : Nat → Int64) : setB A k f k = f := if_pos rfl
theorem setB_n (A : xB) {k k' : Nat} (f : Nat → Int64) (h : k' ≠ k) : setB A k f k' = A k' := if_neg h
/-- the first n places of array k get v -/
def filA (A : xA) (k n : Nat) (v : Int32) : xA := setA A k (fun j => if j < n then v else A k j)
def filB (B : xB) (k n : Nat) (v : Int64) : xB := setB B k (fun j => if j < n then v else B k j)
theorem filA_0 (A : xA) (k : Nat) (v : Int32) : filA A k 0 v = A := by
  funext k' j
  unfold filA setA
  by_cases h : k' = k
  · subst h; simp
  · simp [h]
theorem filB_0 (A : xB) (k : Nat) (v : Int64) : filB A k 0 v = A := by
  funext k' j
  unfold filB setB
  by_cases h : k' = k
  · subst h; simp
  · simp [h]
theorem filA_1 (A : xA) (k n : Nat) (v : Int32) : updA (filA A k n v) k n v = filA A k (n + 1) v := by
  funext k' j
  unfold filA setA updA upd
  by_cases h : k' = k
  · subst h
    simp only [if_true]
    by_cases h1 : j = n
    · subst h1; simp
    · by_cases h2 : j < n
      · simp [h1, h2, Nat.lt_succ_of_lt h2]
      · simp [h1, h2, show ¬ j < n + 1 by omega]
  · simp [h]
theorem filB_1 (A : xB) (k n : Nat) (v : Int64) : updB (filB A k n v) k n v = filB A k (n + 1) v := by
  funext k' j
  unfold filB setB updB vp_updL
  by_cases h : k' = k
  · subst h
    simp only [if_true]
    by_cases h1 : j = n
    · subst h1; simp
    · by_cases h2 : j < n
      · simp [h1, h2, Nat.lt_succ_of_lt h2]
      · simp [h1, h2, show ¬ j < n + 1 by omega]
  · simp [h]
/-- a loop's state behind n turns -/
def itr {σ : Type} (f : Nat → σ → σ) : Nat → σ → σ
  | 0, s => s
  | n + 1, s => f n (itr f n s)
theorem itr_s {σ : Type} (f : Nat → σ → σ) (n : Nat) (s : σ) : itr f (n + 1) s = f n (itr f n s) := rfl
theorem nI_ne {a b : Nat} (ha : a < 2 ^ 31) (hb : b < 2 ^ 31) : nI a ≠ nI b ↔ a ≠ b := not_congr (nI_eq ha hb)
theorem updA_ss (A : xA) (k j : Nat) (v : Int32) : updA A k j v k j = v := by simp [updA, upd]
theorem updA_sj (A : xA) (k : Nat) {j i : Nat} (v : Int32) (h : i ≠ j) : updA A k j v k i = A k i := by simp [updA, upd, h]
theorem updA_get (A : xA) (k j : Nat) (v : Int32) (k' j' : Nat) : updA A k j v k' j' = if k' = k ∧ j' = j then v else A k' j' := by
  unfold updA upd
  by_cases h : k' = k
  · subst h; by_cases h2 : j' = j <;> simp [h2]
  · simp [h]
theorem updA_uu (A : xA) (k j : Nat) (v w : Int32) : updA (updA A k j v) k j w = updA A k j w := by
  funext k' j'
  simp only [updA_get]
  by_cases h : k' = k ∧ j' = j <;> simp [h]
theorem updB_ss (A : xB) (k j : Nat) (v : Int64) : updB A k j v k j = v := by simp [updB, vp_updL]
theorem updB_sj (A : xB) (k : Nat) {j i : Nat} (v : Int64) (h : i ≠ j) : updB A k j v k i = A k i := by simp [updB, vp_updL, h]
theorem updB_get (A : xB) (k j : Nat) (v : Int64) (k' j' : Nat) : updB A k j v k' j' = if k' = k ∧ j' = j then v else A k' j' := by
  unfold updB vp_updL
  by_cases h : k' = k
  · subst h; by_cases h2 : j' = j <;> simp [h2]
  · simp [h]
theorem updB_uu (A : xB) (k j : Nat) (v w : Int64) : updB (updB A k j v) k j w = updB A k j w := by
  funext k' j'
  simp only [updB_get]
  by_cases h : k' = k ∧ j' = j <;> simp [h]
theorem lgc (x y : Int64) : lg_cmp x y = 0 ↔ x = y := by
  unfold lg_cmp
  by_cases h1 : y < x
  · simp only [h1, if_true]
    exact ⟨fun h => absurd h (by decide), fun h => by subst h; exact absurd h1 (Int64.lt_irrefl)⟩
  · by_cases h2 : x = y
    · simp [h2]
    · simp only [h1, h2, if_false]
      exact ⟨fun h => absurd h (by decide), fun h => h.elim⟩
section XL
variable {M : xMI} {N0 : Nat} {Q : xQ} {QX : xQX} {cs sl pc : Nat} {lv : xLV} {st : List Value} {N : Nat} {G : xG} {A : xA} {B : xB} {D : xD}
theorem xi_lcmpeq {x y : Int64} {off : Int} {tgt : Nat} (hd : decode (mC M) pc = .ok (.lcmp, 1)) (hd2 : decode (mC M) (pc + 1) = .ok (.ifCond .eq off, 3)) (ht : ((pc + 1 : Nat) : Int) + off = (tgt : Int)) (kt : x = y → xgo M N0 Q QX cs sl tgt lv st N G A B D) (kf : ¬ x = y → xgo M N0 Q QX cs sl (pc + 1 + 3) lv st N G A B D) : xgo M N0 Q QX cs sl pc lv (.long y :: .long x :: st) N G A B D :=
  xi_lcmp hd (xi_if_eq hd2 ht (fun h => kt ((lgc x y).mp h)) (fun h => kf (fun q => h ((lgc x y).mpr q))))
theorem xi_lcmpne {x y : Int64} {off : Int} {tgt : Nat} (hd : decode (mC M) pc = .ok (.lcmp, 1)) (hd2 : decode (mC M) (pc + 1) = .ok (.ifCond .ne off, 3)) (ht : ((pc + 1 : Nat) : Int) + off = (tgt : Int)) (kt : ¬ x = y → xgo M N0 Q QX cs sl tgt lv st N G A B D) (kf : x = y → xgo M N0 Q QX cs sl (pc + 1 + 3) lv st N G A B D) : xgo M N0 Q QX cs sl pc lv (.long y :: .long x :: st) N G A B D :=
  xi_lcmp hd (xi_if_ne hd2 ht (fun h => kt (fun q => h ((lgc x y).mpr q))) (fun h => kf ((lgc x y).mp (Classical.not_not.mp h))))
theorem xi_ifne {x : Int32} {off : Int} {tgt : Nat} (hd : decode (mC M) pc = .ok (.ifCond .ne off, 3)) (ht : (pc : Int) + off = (tgt : Int)) (kt : ¬ x = 0 → xgo M N0 Q QX cs sl tgt lv st N G A B D) (kf : x = 0 → xgo M N0 Q QX cs sl (pc + 3) lv st N G A B D) : xgo M N0 Q QX cs sl pc lv (.int x :: st) N G A B D :=
  xi_if_ne hd ht kt (fun h => kf (Classical.not_not.mp h))
theorem xi_icmpne {x y : Int32} {off : Int} {tgt : Nat} (hd : decode (mC M) pc = .ok (.if_icmp .ne off, 3)) (ht : (pc : Int) + off = (tgt : Int)) (kt : ¬ x = y → xgo M N0 Q QX cs sl tgt lv st N G A B D) (kf : x = y → xgo M N0 Q QX cs sl (pc + 3) lv st N G A B D) : xgo M N0 Q QX cs sl pc lv (.int y :: .int x :: st) N G A B D :=
  xi_icmp_ne hd ht kt (fun h => kf (Classical.not_not.mp h))
end XL
/-- a loop that counts down to 1: m first -/
def dit {σ : Type} (f : Nat → σ → σ) : Nat → σ → σ
  | 0, s => s
  | v + 1, s => dit f v (f (v + 1) s)
theorem setA_u (A : xA) (k : Nat) (f : Nat → Int32) (j : Nat) (v : Int32) : updA (setA A k f) k j v = setA A k (upd f j v) := by
  funext k' i
  unfold updA setA upd
  by_cases h : k' = k
  · subst h; simp
  · simp [h]
theorem setA_self (A : xA) (k : Nat) : setA A k (A k) = A := by
  funext k' i
  unfold setA
  by_cases h : k' = k
  · subst h; simp
  · simp [h]
theorem setA_A (A : xA) (k j : Nat) (v : Int32) : updA A k j v = setA A k (upd (A k) j v) := rfl
theorem setA_setA (A : xA) (k : Nat) (f g : Nat → Int32) : setA (setA A k f) k g = setA A k g := by
  funext k' i
  unfold setA
  by_cases h : k' = k <;> simp [h]
theorem up_s (f : Nat → Int32) (j : Nat) (v : Int32) : upd f j v j = v := if_pos rfl
theorem up_n (f : Nat → Int32) {j i : Nat} (v : Int32) (h : i ≠ j) : upd f j v i = f i := if_neg h
