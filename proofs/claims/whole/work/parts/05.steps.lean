/-! CORE, 3: a method's data, where it stands, and the judgement 'from here it comes to a return with Q, or throws with QX' -/
abbrev xMI : Type := MethodName × ByteArray × Nat × Option FieldType × Room × List (Nat × Nat × Nat × Nat)
abbrev mY (M : xMI) : MethodName := M.1
abbrev mC (M : xMI) : ByteArray := M.2.1
abbrev mL (M : xMI) : Nat := M.2.2.1
abbrev mR (M : xMI) : Option FieldType := M.2.2.2.1
abbrev mO (M : xMI) : Room := M.2.2.2.2.1
abbrev mH (M : xMI) : List (Nat × Nat × Nat × Nat) := M.2.2.2.2.2
abbrev xQ : Type := Option Value → Nat → xG → xA → xB → xD → Prop
abbrev xQX : Type := String → Nat → xG → xA → xB → xD → Prop
def xS (M : xMI) (p : Program) (l : Launch) (s : State) (m : MethodId) (args : Array Value) (meth : Method) (c : Code) (Dg : va_G) (cT : Nat → ClassId) (As : Nat → Prop) : Prop :=
  p.tables.exec = Jvm.exec ∧ c.code = mC M ∧ c.maxLocals = mL M ∧ meth.sig.returnType = mR M ∧ meth.locks = false ∧ meth.name = (mY M).name ∧ s.vm.findClass (mY M).cls = some m.cls ∧ (∀ w ∈ xT, w.before args s = true) ∧ l.stackTraces = false ∧ c.exceptionTable.toList = tableOf (mH M) ∧ va_K Dg vwCl (xty cT) s ∧ xMov s ∧ xZ As s s.heap ∧ (∀ q, s.heap.size ≤ q → As q)
def xlv (ad : Nat → Nat) (lv : xLV) : xLV := lv.map fun q => (q.1, xtr ad q.2)
def xV (M : xMI) (s : State) (Dg : va_G) (cT : Nat → ClassId) (As : Nat → Prop) (ad0 ad : Nat → Nat) (H : Heap) (locs : List Loc) (ls : Array Slot) (lv : xLV) (N0 N : Nat) (G : xG) (A : xA) (B : xB) (D : xD) : Prop :=
  va_S As s.heap H locs ∧ va_P Dg vwCl (xwl ad cT N G A B D) H ∧ xdom As ad N ∧ (∀ k, (G k).1 ≠ 0 → k < N) ∧ (N0 ≤ N ∧ ∀ k, k < N0 ∨ N ≤ k → ad k = ad0 k) ∧ lv_has ls (mL M) (xlv ad lv)
/-- the instruction that gives r back -/
def xret (M : xMI) (pc : Nat) (r : Option Value) : Prop := match mR M, r with
  | none, none => decode (mC M) pc = .ok (.return_, 1)
  | some .int, some (.int _) => decode (mC M) pc = .ok (.ireturn, 1)
  | some .boolean, some (.int v) => decode (mC M) pc = .ok (.ireturn, 1) ∧ (v = 0 ∨ v = 1)
  | some .long, some (.long _) => decode (mC M) pc = .ok (.lreturn, 1)
  | some .double, some (.double _) => decode (mC M) pc = .ok (.dreturn, 1)
  | _, _ => False
def xKr (M : xMI) (N0 : Nat) (Q : xQ) (p : Program) (l : Launch) (e : Env) (s : State) (m : MethodId) (args : Array Value) (below : List Frame) (meth : Method) (c : Code) (Dg : va_G) (cT : Nat → ClassId) (As : Nat → Prop) (ad0 : Nat → Nat) (Z : State → Prop) : Prop :=
  ∀ (r : Option Value) (N : Nat) (G : xG) (A : xA) (B : xB) (D : xD) (ad : Nat → Nat) (H : Heap) (locs : List Loc) (ls : Array Slot) (pc cs sl : Nat), Q r N G A B D → xV M s Dg cT As ad0 ad H locs ls [] N0 N G A B D → cs ≤ (mO M).cells → sl ≤ (mO M).slots → xret M pc r →
    W p l e (mO M) s m args below meth c H locs cs sl Z (F0 m pc ls (r.toList.map (xtr ad)))
def xKx (M : xMI) (N0 : Nat) (QX : xQX) (p : Program) (l : Launch) (e : Env) (s : State) (m : MethodId) (args : Array Value) (below : List Frame) (meth : Method) (c : Code) (Dg : va_G) (cT : Nat → ClassId) (As : Nat → Prop) (ad0 : Nat → Nat) (Z : State → Prop) : Prop :=
  ∀ (E : String) (ce : Cell) (q : Addr) (N : Nat) (G : xG) (A : xA) (B : xB) (D : xD) (ad : Nat → Nat) (H : Heap) (locs : List Loc) (ls : Array Slot) (st : List Value) (pc cs sl : Nat), QX E N G A B D → xV M s Dg cT As ad0 ad H locs ls [] N0 N G A B D → cs ≤ (mO M).cells → sl ≤ (mO M).slots → (∀ x ∈ tableOf (mH M), covers x pc = false) → H[q]? = some ce → ce.vm = .none → s.vm.findClass E = some ce.cls →
    vx_W p l e (mO M) s m args below meth c H locs cs sl Z (F0 m pc ls st) q
def xgo (M : xMI) (N0 : Nat) (Q : xQ) (QX : xQX) (cs sl pc : Nat) (lv : xLV) (st : List Value) (N : Nat) (G : xG) (A : xA) (B : xB) (D : xD) : Prop :=
  ∀ (p : Program) (l : Launch) (e : Env) (s : State) (m : MethodId) (args : Array Value) (below : List Frame) (meth : Method) (c : Code) (Dg : va_G) (cT : Nat → ClassId) (As : Nat → Prop) (ad0 ad : Nat → Nat) (H : Heap) (locs : List Loc) (ls : Array Slot) (Z : State → Prop),
    xS M p l s m args meth c Dg cT As → xV M s Dg cT As ad0 ad H locs ls lv N0 N G A B D → xKr M N0 Q p l e s m args below meth c Dg cT As ad0 Z → xKx M N0 QX p l e s m args below meth c Dg cT As ad0 Z →
    W p l e (mO M) s m args below meth c H locs cs sl Z (F0 m pc ls (st.map (xtr ad)))
/-- a local variable by its number -/
def xlk : xLV → Nat → Option Value
  | [], _ => none
  | (j, v) :: l, i => if j = i then some v else xlk l i
theorem xlk_mem : ∀ {lv : xLV} {i : Nat} {v : Value}, xlk lv i = some v → (i, v) ∈ lv
  | [], _, _, h => by simp [xlk] at h
  | (j, w) :: l, i, v, h => by
    unfold xlk at h
    by_cases e : j = i
    · rw [if_pos e] at h
      cases h
      subst e
      exact List.mem_cons_self
    · rw [if_neg e] at h
      exact List.mem_cons_of_mem _ (xlk_mem h)
theorem xlv_at {ad : Nat → Nat} {ls : Array Slot} {n : Nat} {lv : xLV} {i : Nat} {v : Value} (h : lv_has ls n (xlv ad lv)) (hk : xlk lv i = some v) : ls[i]? = some (.val (xtr ad v)) :=
  h.2.2 (i, xtr ad v) (List.mem_map.mpr ⟨(i, v), xlk_mem hk, rfl⟩)
def xst1 (i : Nat) (v : Value) (lv : xLV) : xLV := (i, v) :: lv.filter (fun q => !(q.1 == i) && !(q.1 + 1 == i && q.2.category == 2))
def xst2 (i : Nat) (v : Value) (lv : xLV) : xLV := (i, v) :: lv.filter (fun q => !(q.1 == i) && (!(q.1 == i + 1) && !(q.1 + 1 == i && q.2.category == 2)))
theorem xlv_filter (ad : Nat → Nat) (f : Nat → Nat → Bool) (lv : xLV) : (xlv ad lv).filter (fun q => f q.1 q.2.category) = xlv ad (lv.filter (fun q => f q.1 q.2.category)) := by
  induction lv with
  | nil => rfl
  | cons a l ih =>
    simp only [xlv, List.map_cons, List.filter_cons, xtr_cat] at ih ⊢
    by_cases h : f a.1 a.2.category = true
    · rw [if_pos h, if_pos h, List.map_cons, ih]
    · rw [if_neg h, if_neg h, ih]
theorem xst1_eq (ad : Nat → Nat) (i : Nat) (v : Value) (lv : xLV) : (i, xtr ad v) :: (xlv ad lv).filter (fun q => !(q.1 == i) && !(q.1 + 1 == i && q.2.category == 2)) = xlv ad (xst1 i v lv) := by
  rw [xlv_filter ad (fun a b => !(a == i) && !(a + 1 == i && b == 2)) lv]; rfl
theorem xst2_eq (ad : Nat → Nat) (i : Nat) (v : Value) (lv : xLV) : (i, xtr ad v) :: (xlv ad lv).filter (fun q => !(q.1 == i) && (!(q.1 == i + 1) && !(q.1 + 1 == i && q.2.category == 2))) = xlv ad (xst2 i v lv) := by
  rw [xlv_filter ad (fun a b => !(a == i) && (!(a == i + 1) && !(a + 1 == i && b == 2))) lv]; rfl
/-- fewer locals, in another order -/
def xpick (lv : xLV) : List Nat → xLV
  | [] => []
  | i :: is => match xlk lv i with
    | some v => (i, v) :: xpick lv is
    | none => xpick lv is
theorem xpick_mem {lv : xLV} : ∀ {is : List Nat} {q : Nat × Value}, q ∈ xpick lv is → q ∈ lv
  | [], _, h => by simp [xpick] at h
  | i :: is, q, h => by
    unfold xpick at h
    cases hv : xlk lv i with
    | none => rw [hv] at h; exact xpick_mem h
    | some v =>
      rw [hv] at h
      rcases List.mem_cons.mp h with rfl | h
      · exact xlk_mem hv
      · exact xpick_mem h
theorem xlv_sub {ad : Nat → Nat} {ls : Array Slot} {n : Nat} {lv lv' : xLV} (h : lv_has ls n (xlv ad lv)) (hs : ∀ q, q ∈ lv' → q ∈ lv) : lv_has ls n (xlv ad lv') :=
  ⟨h.1, h.2.1, fun q hq => by
    obtain ⟨a, ha, rfl⟩ := List.mem_map.mp hq
    exact h.2.2 _ (List.mem_map.mpr ⟨a, hs a ha, rfl⟩)⟩
def updA (A : xA) (k j : Nat) (v : Int32) : xA := fun k' => if k' = k then upd (A k) j v else A k'
def updB (B : xB) (k j : Nat) (v : Int64) : xB := fun k' => if k' = k then vp_updL (B k) j v else B k'
def updD (D : xD) (k j : Nat) (v : UInt64) : xD := fun k' => if k' = k then vf_upd (D k) j v else D k'
theorem updA_s (A : xA) (k j : Nat) (v : Int32) : updA A k j v k = upd (A k) j v := if_pos rfl
theorem updB_s (A : xB) (k j : Nat) (v : Int64) : updB A k j v k = vp_updL (A k) j v := if_pos rfl
theorem updD_s (A : xD) (k j : Nat) (v : UInt64) : updD A k j v k = vf_upd (A k) j v := if_pos rfl
theorem updA_n (A : xA) {k i : Nat} (j : Nat) (v : Int32) (h : i ≠ k) : updA A k j v i = A i := if_neg h
theorem updB_n (A : xB) {k i : Nat} (j : Nat) (v : Int64) (h : i ≠ k) : updB A k j v i = A i := if_neg h
theorem updD_n (A : xD) {k i : Nat} (j : Nat) (v : UInt64) (h : i ≠ k) : updD A k j v i = A i := if_neg h
theorem xin (ci : Nat) {C : String} {T : u_T} {n : Nat} (h : vwCl[ci]? = some (C, T, n)) : ∀ w ∈ u_ws C T n, w ∈ xT := by
  have go : ∀ {R : String} {T : u_T} {n : Nat}, (∀ w ∈ u_ws R T n, w ∈ lw_tbl) → ∀ w ∈ u_ws R T n, w ∈ xT := by
    intro R T n h w hw
    refine xT_mem (h w hw) ?_
    obtain ⟨k, -, rfl⟩ := List.mem_map.mp hw
    unfold u_lay
    split <;> rfl
  match ci, h with
  | 0, h => cases h; exact go inX0
  | 1, h => cases h; exact go inX1
  | 2, h => cases h; exact go inX2
  | 3, h => cases h; exact go inX3
  | 4, h => cases h; exact go inX4
  | 5, h => cases h; exact go inX5
  | 6, h => cases h; exact go inX6
  | 7, h => cases h; exact go inX7
  | 8, h => cases h; exact go inX8
theorem xtyok (ci : Nat) {C : String} {T : u_T} {n : Nat} (h : vwCl[ci]? = some (C, T, n)) : ∃ ty0 : Nat → FieldType, (∀ k, k < n → parseFieldDescriptor (T k).2.2.1 = some (ty0 k)) ∧ ∀ a, a < n → ∀ b, b < n → a ≠ b → (T a).2.1 ≠ (T b).2.1 := by
  match ci, h with
  | 0, h => cases h; exact ⟨_, tyX0_ok, nmX0⟩
  | 1, h => cases h; exact ⟨_, tyX1_ok, nmX1⟩
  | 2, h => cases h; exact ⟨_, tyX2_ok, nmX2⟩
  | 3, h => cases h; exact ⟨_, tyX3_ok, nmX3⟩
  | 4, h => cases h; exact ⟨_, tyX4_ok, nmX4⟩
  | 5, h => cases h; exact ⟨_, tyX5_ok, nmX5⟩
  | 6, h => cases h; exact ⟨_, tyX6_ok, nmX6⟩
  | 7, h => cases h; exact ⟨_, tyX7_ok, nmX7⟩
  | 8, h => cases h; exact ⟨_, tyX8_ok, nmX8⟩
section XROWS
variable {M : xMI} {N0 : Nat} {Q : xQ} {QX : xQX} {cs sl pc : Nat} {lv : xLV} {st : List Value} {N : Nat} {G : xG} {A : xA} {B : xB} {D : xD}
theorem xgo_sub {lv' : xLV} (hs : ∀ q, q ∈ lv' → q ∈ lv) (k : xgo M N0 Q QX cs sl pc lv' st N G A B D) : xgo M N0 Q QX cs sl pc lv st N G A B D := by
  intro p l e s m args below meth c Dg cT As ad0 ad H locs ls Z hS hV hr he
  obtain ⟨v1, v2, v3, v4, v5, v6⟩ := hV
  exact k p l e s m args below meth c Dg cT As ad0 ad H locs ls Z hS ⟨v1, v2, v3, v4, v5, xlv_sub v6 hs⟩ hr he
theorem xgo_pick {lv' : xLV} (is : List Nat) (hs : xpick lv is = lv') (k : xgo M N0 Q QX cs sl pc lv' st N G A B D) : xgo M N0 Q QX cs sl pc lv st N G A B D :=
  xgo_sub (fun q hq => by rw [← hs] at hq; exact xpick_mem hq) k
theorem xi_iconst {n : Int} {v : Int32} (hd : decode (mC M) pc = .ok (.iconst n, 1)) (hv : Int32.ofInt n = v) (k : xgo M N0 Q QX cs sl (pc + 1) lv (.int v :: st) N G A B D) : xgo M N0 Q QX cs sl pc lv (st) N G A B D := by
  intro p l e s m args below meth c Dg cT As ad0 ad H locs ls Z hS hV hr he
  obtain ⟨hx, hb, hml, hrt, hlk, hnm, hown, hts, hst, htb, hK, hMv, hZ, hA⟩ := id hS
  exact lv_iconst hx hb hd hv (k p l e s m args below meth c Dg cT As ad0 ad H locs ls Z hS hV hr he)
theorem xi_bipush {n : Int} {v : Int32} (hd : decode (mC M) pc = .ok (.bipush n, 2)) (hv : (Int8.ofInt n).toInt32 = v) (k : xgo M N0 Q QX cs sl (pc + 2) lv (.int v :: st) N G A B D) : xgo M N0 Q QX cs sl pc lv (st) N G A B D := by
  intro p l e s m args below meth c Dg cT As ad0 ad H locs ls Z hS hV hr he
  obtain ⟨hx, hb, hml, hrt, hlk, hnm, hown, hts, hst, htb, hK, hMv, hZ, hA⟩ := id hS
  exact lv_bipush hx hb hd hv (k p l e s m args below meth c Dg cT As ad0 ad H locs ls Z hS hV hr he)
theorem xi_sipush {n : Int} {v : Int32} (hd : decode (mC M) pc = .ok (.sipush n, 3)) (hv : (Int16.ofInt n).toInt32 = v) (k : xgo M N0 Q QX cs sl (pc + 3) lv (.int v :: st) N G A B D) : xgo M N0 Q QX cs sl pc lv (st) N G A B D := by
  intro p l e s m args below meth c Dg cT As ad0 ad H locs ls Z hS hV hr he
  obtain ⟨hx, hb, hml, hrt, hlk, hnm, hown, hts, hst, htb, hK, hMv, hZ, hA⟩ := id hS
  exact lv_sipush hx hb hd hv (k p l e s m args below meth c Dg cT As ad0 ad H locs ls Z hS hV hr he)
theorem xi_lconst {n : Fin 2} {v : Int64} (hd : decode (mC M) pc = .ok (.lconst n, 1)) (hv : Int64.ofNat (n : Nat) = v) (k : xgo M N0 Q QX cs sl (pc + 1) lv (.long v :: st) N G A B D) : xgo M N0 Q QX cs sl pc lv (st) N G A B D := by
  intro p l e s m args below meth c Dg cT As ad0 ad H locs ls Z hS hV hr he
  obtain ⟨hx, hb, hml, hrt, hlk, hnm, hown, hts, hst, htb, hK, hMv, hZ, hA⟩ := id hS
  exact lv_lconst hx hb hd hv (k p l e s m args below meth c Dg cT As ad0 ad H locs ls Z hS hV hr he)
theorem xi_ldc_w {n : Nat} {v : Int32} (hd : decode (mC M) pc = .ok (.ldc_w n, 3)) (hv : Cond.constant (mY M).cls n v ∈ xT) (k : xgo M N0 Q QX cs sl (pc + 3) lv (.int v :: st) N G A B D) : xgo M N0 Q QX cs sl pc lv (st) N G A B D := by
  intro p l e s m args below meth c Dg cT As ad0 ad H locs ls Z hS hV hr he
  obtain ⟨hx, hb, hml, hrt, hlk, hnm, hown, hts, hst, htb, hK, hMv, hZ, hA⟩ := id hS
  exact lv_ldcw hx hb hown (hts _ hv) hd (k p l e s m args below meth c Dg cT As ad0 ad H locs ls Z hS hV hr he)
theorem xi_ldc2_w {n : Nat} {v : Int64} (hd : decode (mC M) pc = .ok (.ldc2_w n, 3)) (hv : Cond.constantLong (mY M).cls n v ∈ xT) (k : xgo M N0 Q QX cs sl (pc + 3) lv (.long v :: st) N G A B D) : xgo M N0 Q QX cs sl pc lv (st) N G A B D := by
  intro p l e s m args below meth c Dg cT As ad0 ad H locs ls Z hS hV hr he
  obtain ⟨hx, hb, hml, hrt, hlk, hnm, hown, hts, hst, htb, hK, hMv, hZ, hA⟩ := id hS
  exact lv_ldc2 hx hb hown (hts _ hv) hd (k p l e s m args below meth c Dg cT As ad0 ad H locs ls Z hS hV hr he)
theorem xi_iload_n {n : Fin 4} {i : Nat} {x : Int32} (hd : decode (mC M) pc = .ok (.iload_n n, 1)) (hi : (n : Nat) = i) (hl : xlk lv i = some (.int x)) (k : xgo M N0 Q QX cs sl (pc + 1) lv (.int x :: st) N G A B D) : xgo M N0 Q QX cs sl pc lv (st) N G A B D := by
  intro p l e s m args below meth c Dg cT As ad0 ad H locs ls Z hS hV hr he
  obtain ⟨hx, hb, hml, hrt, hlk, hnm, hown, hts, hst, htb, hK, hMv, hZ, hA⟩ := id hS
  exact lv_iload_n hx hb hd hi (xlv_at hV.2.2.2.2.2 hl) (k p l e s m args below meth c Dg cT As ad0 ad H locs ls Z hS hV hr he)
theorem xi_iload {i : Nat} {x : Int32} (hd : decode (mC M) pc = .ok (.iload i, 2)) (hl : xlk lv i = some (.int x)) (k : xgo M N0 Q QX cs sl (pc + 2) lv (.int x :: st) N G A B D) : xgo M N0 Q QX cs sl pc lv (st) N G A B D := by
  intro p l e s m args below meth c Dg cT As ad0 ad H locs ls Z hS hV hr he
  obtain ⟨hx, hb, hml, hrt, hlk, hnm, hown, hts, hst, htb, hK, hMv, hZ, hA⟩ := id hS
  exact lv_iload hx hb hd (xlv_at hV.2.2.2.2.2 hl) (k p l e s m args below meth c Dg cT As ad0 ad H locs ls Z hS hV hr he)
theorem xi_lload_n {n : Fin 4} {i : Nat} {x : Int64} (hd : decode (mC M) pc = .ok (.lload_n n, 1)) (hi : (n : Nat) = i) (hl : xlk lv i = some (.long x)) (k : xgo M N0 Q QX cs sl (pc + 1) lv (.long x :: st) N G A B D) : xgo M N0 Q QX cs sl pc lv (st) N G A B D := by
  intro p l e s m args below meth c Dg cT As ad0 ad H locs ls Z hS hV hr he
  obtain ⟨hx, hb, hml, hrt, hlk, hnm, hown, hts, hst, htb, hK, hMv, hZ, hA⟩ := id hS
  exact lv_lload_n hx hb hd hi (xlv_at hV.2.2.2.2.2 hl) (k p l e s m args below meth c Dg cT As ad0 ad H locs ls Z hS hV hr he)
theorem xi_lload {i : Nat} {x : Int64} (hd : decode (mC M) pc = .ok (.lload i, 2)) (hl : xlk lv i = some (.long x)) (k : xgo M N0 Q QX cs sl (pc + 2) lv (.long x :: st) N G A B D) : xgo M N0 Q QX cs sl pc lv (st) N G A B D := by
  intro p l e s m args below meth c Dg cT As ad0 ad H locs ls Z hS hV hr he
  obtain ⟨hx, hb, hml, hrt, hlk, hnm, hown, hts, hst, htb, hK, hMv, hZ, hA⟩ := id hS
  exact lv_lload hx hb hd (xlv_at hV.2.2.2.2.2 hl) (k p l e s m args below meth c Dg cT As ad0 ad H locs ls Z hS hV hr he)
theorem xi_dload_n {n : Fin 4} {i : Nat} {x : UInt64} (hd : decode (mC M) pc = .ok (.dload_n n, 1)) (hi : (n : Nat) = i) (hl : xlk lv i = some (.double x)) (k : xgo M N0 Q QX cs sl (pc + 1) lv (.double x :: st) N G A B D) : xgo M N0 Q QX cs sl pc lv (st) N G A B D := by
  intro p l e s m args below meth c Dg cT As ad0 ad H locs ls Z hS hV hr he
  obtain ⟨hx, hb, hml, hrt, hlk, hnm, hown, hts, hst, htb, hK, hMv, hZ, hA⟩ := id hS
  exact lv_dload_n hx hb hd hi (xlv_at hV.2.2.2.2.2 hl) (k p l e s m args below meth c Dg cT As ad0 ad H locs ls Z hS hV hr he)
theorem xi_dload {i : Nat} {x : UInt64} (hd : decode (mC M) pc = .ok (.dload i, 2)) (hl : xlk lv i = some (.double x)) (k : xgo M N0 Q QX cs sl (pc + 2) lv (.double x :: st) N G A B D) : xgo M N0 Q QX cs sl pc lv (st) N G A B D := by
  intro p l e s m args below meth c Dg cT As ad0 ad H locs ls Z hS hV hr he
  obtain ⟨hx, hb, hml, hrt, hlk, hnm, hown, hts, hst, htb, hK, hMv, hZ, hA⟩ := id hS
  exact lv_dload hx hb hd (xlv_at hV.2.2.2.2.2 hl) (k p l e s m args below meth c Dg cT As ad0 ad H locs ls Z hS hV hr he)
theorem xi_aload_n {n : Fin 4} {i : Nat} {x : Nat} (hd : decode (mC M) pc = .ok (.aload_n n, 1)) (hi : (n : Nat) = i) (hl : xlk lv i = some (.ref x)) (k : xgo M N0 Q QX cs sl (pc + 1) lv (.ref x :: st) N G A B D) : xgo M N0 Q QX cs sl pc lv (st) N G A B D := by
  intro p l e s m args below meth c Dg cT As ad0 ad H locs ls Z hS hV hr he
  obtain ⟨hx, hb, hml, hrt, hlk, hnm, hown, hts, hst, htb, hK, hMv, hZ, hA⟩ := id hS
  exact lv_aload_n hx hb hd hi (xlv_at hV.2.2.2.2.2 hl) (k p l e s m args below meth c Dg cT As ad0 ad H locs ls Z hS hV hr he)
theorem xi_aload {i : Nat} {x : Nat} (hd : decode (mC M) pc = .ok (.aload i, 2)) (hl : xlk lv i = some (.ref x)) (k : xgo M N0 Q QX cs sl (pc + 2) lv (.ref x :: st) N G A B D) : xgo M N0 Q QX cs sl pc lv (st) N G A B D := by
  intro p l e s m args below meth c Dg cT As ad0 ad H locs ls Z hS hV hr he
  obtain ⟨hx, hb, hml, hrt, hlk, hnm, hown, hts, hst, htb, hK, hMv, hZ, hA⟩ := id hS
  exact lv_aload hx hb hd (xlv_at hV.2.2.2.2.2 hl) (k p l e s m args below meth c Dg cT As ad0 ad H locs ls Z hS hV hr he)
theorem xi_istore_n {n : Fin 4} {i : Nat} {x : Int32} (hd : decode (mC M) pc = .ok (.istore_n n, 1)) (hi : (n : Nat) = i) (hn : i < mL M) (k : xgo M N0 Q QX cs sl (pc + 1) (xst1 i (Value.int x) lv) st N G A B D) : xgo M N0 Q QX cs sl pc lv (.int x :: st) N G A B D := by
  intro p l e s m args below meth c Dg cT As ad0 ad H locs ls Z hS hV hr he
  obtain ⟨hx, hb, hml, hrt, hlk, hnm, hown, hts, hst, htb, hK, hMv, hZ, hA⟩ := id hS
  obtain ⟨v1, v2, v3, v4, v5, v6⟩ := hV
  exact lv_istore_n hx hb hd hi v6 hn (xst1_eq ad i (Value.int x) lv) (fun ls' h' => k p l e s m args below meth c Dg cT As ad0 ad H locs ls' Z hS ⟨v1, v2, v3, v4, v5, h'⟩ hr he)
theorem xi_istore {i : Nat} {x : Int32} (hd : decode (mC M) pc = .ok (.istore i, 2)) (hn : i < mL M) (k : xgo M N0 Q QX cs sl (pc + 2) (xst1 i (Value.int x) lv) st N G A B D) : xgo M N0 Q QX cs sl pc lv (.int x :: st) N G A B D := by
  intro p l e s m args below meth c Dg cT As ad0 ad H locs ls Z hS hV hr he
  obtain ⟨hx, hb, hml, hrt, hlk, hnm, hown, hts, hst, htb, hK, hMv, hZ, hA⟩ := id hS
  obtain ⟨v1, v2, v3, v4, v5, v6⟩ := hV
  exact lv_istore hx hb hd v6 hn (xst1_eq ad i (Value.int x) lv) (fun ls' h' => k p l e s m args below meth c Dg cT As ad0 ad H locs ls' Z hS ⟨v1, v2, v3, v4, v5, h'⟩ hr he)
theorem xi_lstore_n {n : Fin 4} {i : Nat} {x : Int64} (hd : decode (mC M) pc = .ok (.lstore_n n, 1)) (hi : (n : Nat) = i) (hn : i + 1 < mL M) (k : xgo M N0 Q QX cs sl (pc + 1) (xst2 i (Value.long x) lv) st N G A B D) : xgo M N0 Q QX cs sl pc lv (.long x :: st) N G A B D := by
  intro p l e s m args below meth c Dg cT As ad0 ad H locs ls Z hS hV hr he
  obtain ⟨hx, hb, hml, hrt, hlk, hnm, hown, hts, hst, htb, hK, hMv, hZ, hA⟩ := id hS
  obtain ⟨v1, v2, v3, v4, v5, v6⟩ := hV
  exact lv_lstore_n hx hb hd hi v6 hn (xst2_eq ad i (Value.long x) lv) (fun ls' h' => k p l e s m args below meth c Dg cT As ad0 ad H locs ls' Z hS ⟨v1, v2, v3, v4, v5, h'⟩ hr he)
theorem xi_lstore {i : Nat} {x : Int64} (hd : decode (mC M) pc = .ok (.lstore i, 2)) (hn : i + 1 < mL M) (k : xgo M N0 Q QX cs sl (pc + 2) (xst2 i (Value.long x) lv) st N G A B D) : xgo M N0 Q QX cs sl pc lv (.long x :: st) N G A B D := by
  intro p l e s m args below meth c Dg cT As ad0 ad H locs ls Z hS hV hr he
  obtain ⟨hx, hb, hml, hrt, hlk, hnm, hown, hts, hst, htb, hK, hMv, hZ, hA⟩ := id hS
  obtain ⟨v1, v2, v3, v4, v5, v6⟩ := hV
  exact lv_lstore hx hb hd v6 hn (xst2_eq ad i (Value.long x) lv) (fun ls' h' => k p l e s m args below meth c Dg cT As ad0 ad H locs ls' Z hS ⟨v1, v2, v3, v4, v5, h'⟩ hr he)
theorem xi_dstore_n {n : Fin 4} {i : Nat} {x : UInt64} (hd : decode (mC M) pc = .ok (.dstore_n n, 1)) (hi : (n : Nat) = i) (hn : i + 1 < mL M) (k : xgo M N0 Q QX cs sl (pc + 1) (xst2 i (Value.double x) lv) st N G A B D) : xgo M N0 Q QX cs sl pc lv (.double x :: st) N G A B D := by
  intro p l e s m args below meth c Dg cT As ad0 ad H locs ls Z hS hV hr he
  obtain ⟨hx, hb, hml, hrt, hlk, hnm, hown, hts, hst, htb, hK, hMv, hZ, hA⟩ := id hS
  obtain ⟨v1, v2, v3, v4, v5, v6⟩ := hV
  exact lv_dstore_n hx hb hd hi v6 hn (xst2_eq ad i (Value.double x) lv) (fun ls' h' => k p l e s m args below meth c Dg cT As ad0 ad H locs ls' Z hS ⟨v1, v2, v3, v4, v5, h'⟩ hr he)
theorem xi_dstore {i : Nat} {x : UInt64} (hd : decode (mC M) pc = .ok (.dstore i, 2)) (hn : i + 1 < mL M) (k : xgo M N0 Q QX cs sl (pc + 2) (xst2 i (Value.double x) lv) st N G A B D) : xgo M N0 Q QX cs sl pc lv (.double x :: st) N G A B D := by
  intro p l e s m args below meth c Dg cT As ad0 ad H locs ls Z hS hV hr he
  obtain ⟨hx, hb, hml, hrt, hlk, hnm, hown, hts, hst, htb, hK, hMv, hZ, hA⟩ := id hS
  obtain ⟨v1, v2, v3, v4, v5, v6⟩ := hV
  exact lv_dstore hx hb hd v6 hn (xst2_eq ad i (Value.double x) lv) (fun ls' h' => k p l e s m args below meth c Dg cT As ad0 ad H locs ls' Z hS ⟨v1, v2, v3, v4, v5, h'⟩ hr he)
theorem xi_astore_n {n : Fin 4} {i : Nat} {x : Nat} (hd : decode (mC M) pc = .ok (.astore_n n, 1)) (hi : (n : Nat) = i) (hn : i < mL M) (k : xgo M N0 Q QX cs sl (pc + 1) (xst1 i (Value.ref x) lv) st N G A B D) : xgo M N0 Q QX cs sl pc lv (.ref x :: st) N G A B D := by
  intro p l e s m args below meth c Dg cT As ad0 ad H locs ls Z hS hV hr he
  obtain ⟨hx, hb, hml, hrt, hlk, hnm, hown, hts, hst, htb, hK, hMv, hZ, hA⟩ := id hS
  obtain ⟨v1, v2, v3, v4, v5, v6⟩ := hV
  exact lv_astore_n hx hb hd hi v6 hn (xst1_eq ad i (Value.ref x) lv) (fun ls' h' => k p l e s m args below meth c Dg cT As ad0 ad H locs ls' Z hS ⟨v1, v2, v3, v4, v5, h'⟩ hr he)
theorem xi_astore {i : Nat} {x : Nat} (hd : decode (mC M) pc = .ok (.astore i, 2)) (hn : i < mL M) (k : xgo M N0 Q QX cs sl (pc + 2) (xst1 i (Value.ref x) lv) st N G A B D) : xgo M N0 Q QX cs sl pc lv (.ref x :: st) N G A B D := by
  intro p l e s m args below meth c Dg cT As ad0 ad H locs ls Z hS hV hr he
  obtain ⟨hx, hb, hml, hrt, hlk, hnm, hown, hts, hst, htb, hK, hMv, hZ, hA⟩ := id hS
  obtain ⟨v1, v2, v3, v4, v5, v6⟩ := hV
  exact lv_astore hx hb hd v6 hn (xst1_eq ad i (Value.ref x) lv) (fun ls' h' => k p l e s m args below meth c Dg cT As ad0 ad H locs ls' Z hS ⟨v1, v2, v3, v4, v5, h'⟩ hr he)
theorem xi_iinc {i : Nat} {n : Int} {x v : Int32} (hd : decode (mC M) pc = .ok (.iinc i n, 3)) (hl : xlk lv i = some (.int x)) (hv : Int32.ofInt n = v) (hn : i < mL M) (k : xgo M N0 Q QX cs sl (pc + 3) (xst1 i (.int (x + v)) lv) st N G A B D) : xgo M N0 Q QX cs sl pc lv st N G A B D := by
  intro p l e s m args below meth c Dg cT As ad0 ad H locs ls Z hS hV hr he
  obtain ⟨hx, hb, hml, hrt, hlk, hnm, hown, hts, hst, htb, hK, hMv, hZ, hA⟩ := id hS
  obtain ⟨v1, v2, v3, v4, v5, v6⟩ := hV
  obtain ⟨kk, hkk⟩ := List.getElem?_of_mem (List.mem_map.mpr ⟨(i, .int x), xlk_mem hl, rfl⟩ : (i, xtr ad (.int x)) ∈ xlv ad lv)
  subst hv
  exact lv_iinc hx hb hd v6 hkk rfl hn (xst1_eq ad i (.int (x + Int32.ofInt n)) lv) (fun ls' h' => k p l e s m args below meth c Dg cT As ad0 ad H locs ls' Z hS ⟨v1, v2, v3, v4, v5, h'⟩ hr he)
theorem xi_iadd {x y : Int32} (hd : decode (mC M) pc = .ok (.iadd, 1)) (k : xgo M N0 Q QX cs sl (pc + 1) lv (.int (x + y) :: st) N G A B D) : xgo M N0 Q QX cs sl pc lv (.int y :: .int x :: st) N G A B D := by
  intro p l e s m args below meth c Dg cT As ad0 ad H locs ls Z hS hV hr he
  obtain ⟨hx, hb, hml, hrt, hlk, hnm, hown, hts, hst, htb, hK, hMv, hZ, hA⟩ := id hS
  exact lv_iadd hx hb hd (k p l e s m args below meth c Dg cT As ad0 ad H locs ls Z hS hV hr he)
theorem xi_isub {x y : Int32} (hd : decode (mC M) pc = .ok (.isub, 1)) (k : xgo M N0 Q QX cs sl (pc + 1) lv (.int (x - y) :: st) N G A B D) : xgo M N0 Q QX cs sl pc lv (.int y :: .int x :: st) N G A B D := by
  intro p l e s m args below meth c Dg cT As ad0 ad H locs ls Z hS hV hr he
  obtain ⟨hx, hb, hml, hrt, hlk, hnm, hown, hts, hst, htb, hK, hMv, hZ, hA⟩ := id hS
  exact lv_isub hx hb hd (k p l e s m args below meth c Dg cT As ad0 ad H locs ls Z hS hV hr he)
theorem xi_imul {x y : Int32} (hd : decode (mC M) pc = .ok (.imul, 1)) (k : xgo M N0 Q QX cs sl (pc + 1) lv (.int (x * y) :: st) N G A B D) : xgo M N0 Q QX cs sl pc lv (.int y :: .int x :: st) N G A B D := by
  intro p l e s m args below meth c Dg cT As ad0 ad H locs ls Z hS hV hr he
  obtain ⟨hx, hb, hml, hrt, hlk, hnm, hown, hts, hst, htb, hK, hMv, hZ, hA⟩ := id hS
  exact lv_imul hx hb hd (k p l e s m args below meth c Dg cT As ad0 ad H locs ls Z hS hV hr he)
theorem xi_iand {x y : Int32} (hd : decode (mC M) pc = .ok (.iand, 1)) (k : xgo M N0 Q QX cs sl (pc + 1) lv (.int (x &&& y) :: st) N G A B D) : xgo M N0 Q QX cs sl pc lv (.int y :: .int x :: st) N G A B D := by
  intro p l e s m args below meth c Dg cT As ad0 ad H locs ls Z hS hV hr he
  obtain ⟨hx, hb, hml, hrt, hlk, hnm, hown, hts, hst, htb, hK, hMv, hZ, hA⟩ := id hS
  exact lv_iand hx hb hd (k p l e s m args below meth c Dg cT As ad0 ad H locs ls Z hS hV hr he)
theorem xi_ior {x y : Int32} (hd : decode (mC M) pc = .ok (.ior, 1)) (k : xgo M N0 Q QX cs sl (pc + 1) lv (.int (x ||| y) :: st) N G A B D) : xgo M N0 Q QX cs sl pc lv (.int y :: .int x :: st) N G A B D := by
  intro p l e s m args below meth c Dg cT As ad0 ad H locs ls Z hS hV hr he
  obtain ⟨hx, hb, hml, hrt, hlk, hnm, hown, hts, hst, htb, hK, hMv, hZ, hA⟩ := id hS
  exact lv_ior hx hb hd (k p l e s m args below meth c Dg cT As ad0 ad H locs ls Z hS hV hr he)
theorem xi_ixor {x y : Int32} (hd : decode (mC M) pc = .ok (.ixor, 1)) (k : xgo M N0 Q QX cs sl (pc + 1) lv (.int (x ^^^ y) :: st) N G A B D) : xgo M N0 Q QX cs sl pc lv (.int y :: .int x :: st) N G A B D := by
  intro p l e s m args below meth c Dg cT As ad0 ad H locs ls Z hS hV hr he
  obtain ⟨hx, hb, hml, hrt, hlk, hnm, hown, hts, hst, htb, hK, hMv, hZ, hA⟩ := id hS
  exact lv_ixor hx hb hd (k p l e s m args below meth c Dg cT As ad0 ad H locs ls Z hS hV hr he)
theorem xi_ladd {x y : Int64} (hd : decode (mC M) pc = .ok (.ladd, 1)) (k : xgo M N0 Q QX cs sl (pc + 1) lv (.long (x + y) :: st) N G A B D) : xgo M N0 Q QX cs sl pc lv (.long y :: .long x :: st) N G A B D := by
  intro p l e s m args below meth c Dg cT As ad0 ad H locs ls Z hS hV hr he
  obtain ⟨hx, hb, hml, hrt, hlk, hnm, hown, hts, hst, htb, hK, hMv, hZ, hA⟩ := id hS
  exact lv_ladd hx hb hd (k p l e s m args below meth c Dg cT As ad0 ad H locs ls Z hS hV hr he)
theorem xi_lsub {x y : Int64} (hd : decode (mC M) pc = .ok (.lsub, 1)) (k : xgo M N0 Q QX cs sl (pc + 1) lv (.long (x - y) :: st) N G A B D) : xgo M N0 Q QX cs sl pc lv (.long y :: .long x :: st) N G A B D := by
  intro p l e s m args below meth c Dg cT As ad0 ad H locs ls Z hS hV hr he
  obtain ⟨hx, hb, hml, hrt, hlk, hnm, hown, hts, hst, htb, hK, hMv, hZ, hA⟩ := id hS
  exact lv_lsub hx hb hd (k p l e s m args below meth c Dg cT As ad0 ad H locs ls Z hS hV hr he)
theorem xi_lmul {x y : Int64} (hd : decode (mC M) pc = .ok (.lmul, 1)) (k : xgo M N0 Q QX cs sl (pc + 1) lv (.long (x * y) :: st) N G A B D) : xgo M N0 Q QX cs sl pc lv (.long y :: .long x :: st) N G A B D := by
  intro p l e s m args below meth c Dg cT As ad0 ad H locs ls Z hS hV hr he
  obtain ⟨hx, hb, hml, hrt, hlk, hnm, hown, hts, hst, htb, hK, hMv, hZ, hA⟩ := id hS
  exact lv_lmul hx hb hd (k p l e s m args below meth c Dg cT As ad0 ad H locs ls Z hS hV hr he)
theorem xi_land {x y : Int64} (hd : decode (mC M) pc = .ok (.land, 1)) (k : xgo M N0 Q QX cs sl (pc + 1) lv (.long (x &&& y) :: st) N G A B D) : xgo M N0 Q QX cs sl pc lv (.long y :: .long x :: st) N G A B D := by
  intro p l e s m args below meth c Dg cT As ad0 ad H locs ls Z hS hV hr he
  obtain ⟨hx, hb, hml, hrt, hlk, hnm, hown, hts, hst, htb, hK, hMv, hZ, hA⟩ := id hS
  exact lv_land hx hb hd (k p l e s m args below meth c Dg cT As ad0 ad H locs ls Z hS hV hr he)
theorem xi_lor {x y : Int64} (hd : decode (mC M) pc = .ok (.lor, 1)) (k : xgo M N0 Q QX cs sl (pc + 1) lv (.long (x ||| y) :: st) N G A B D) : xgo M N0 Q QX cs sl pc lv (.long y :: .long x :: st) N G A B D := by
  intro p l e s m args below meth c Dg cT As ad0 ad H locs ls Z hS hV hr he
  obtain ⟨hx, hb, hml, hrt, hlk, hnm, hown, hts, hst, htb, hK, hMv, hZ, hA⟩ := id hS
  exact lv_lor hx hb hd (k p l e s m args below meth c Dg cT As ad0 ad H locs ls Z hS hV hr he)
theorem xi_lxor {x y : Int64} (hd : decode (mC M) pc = .ok (.lxor, 1)) (k : xgo M N0 Q QX cs sl (pc + 1) lv (.long (x ^^^ y) :: st) N G A B D) : xgo M N0 Q QX cs sl pc lv (.long y :: .long x :: st) N G A B D := by
  intro p l e s m args below meth c Dg cT As ad0 ad H locs ls Z hS hV hr he
  obtain ⟨hx, hb, hml, hrt, hlk, hnm, hown, hts, hst, htb, hK, hMv, hZ, hA⟩ := id hS
  exact lv_lxor hx hb hd (k p l e s m args below meth c Dg cT As ad0 ad H locs ls Z hS hV hr he)
theorem xi_ineg {x : Int32} (hd : decode (mC M) pc = .ok (.ineg, 1)) (k : xgo M N0 Q QX cs sl (pc + 1) lv (.int (-x) :: st) N G A B D) : xgo M N0 Q QX cs sl pc lv (.int x :: st) N G A B D := by
  intro p l e s m args below meth c Dg cT As ad0 ad H locs ls Z hS hV hr he
  obtain ⟨hx, hb, hml, hrt, hlk, hnm, hown, hts, hst, htb, hK, hMv, hZ, hA⟩ := id hS
  exact lv_ineg hx hb hd (k p l e s m args below meth c Dg cT As ad0 ad H locs ls Z hS hV hr he)
theorem xi_idiv {x y : Int32} (hd : decode (mC M) pc = .ok (.idiv, 1)) (hne : ¬ y = 0) (k : xgo M N0 Q QX cs sl (pc + 1) lv (.int (x / y) :: st) N G A B D) : xgo M N0 Q QX cs sl pc lv (.int y :: .int x :: st) N G A B D := by
  intro p l e s m args below meth c Dg cT As ad0 ad H locs ls Z hS hV hr he
  obtain ⟨hx, hb, hml, hrt, hlk, hnm, hown, hts, hst, htb, hK, hMv, hZ, hA⟩ := id hS
  exact lv_idiv hx hb hd hne (k p l e s m args below meth c Dg cT As ad0 ad H locs ls Z hS hV hr he)
theorem xi_irem {x y : Int32} (hd : decode (mC M) pc = .ok (.irem, 1)) (hne : ¬ y = 0) (k : xgo M N0 Q QX cs sl (pc + 1) lv (.int (x - x / y * y) :: st) N G A B D) : xgo M N0 Q QX cs sl pc lv (.int y :: .int x :: st) N G A B D := by
  intro p l e s m args below meth c Dg cT As ad0 ad H locs ls Z hS hV hr he
  obtain ⟨hx, hb, hml, hrt, hlk, hnm, hown, hts, hst, htb, hK, hMv, hZ, hA⟩ := id hS
  exact lv_irem hx hb hd hne (k p l e s m args below meth c Dg cT As ad0 ad H locs ls Z hS hV hr he)
theorem xi_ishl {x y : Int32} (hd : decode (mC M) pc = .ok (.ishl, 1)) (k : xgo M N0 Q QX cs sl (pc + 1) lv (.int (x <<< (y &&& 31)) :: st) N G A B D) : xgo M N0 Q QX cs sl pc lv (.int y :: .int x :: st) N G A B D := by
  intro p l e s m args below meth c Dg cT As ad0 ad H locs ls Z hS hV hr he
  obtain ⟨hx, hb, hml, hrt, hlk, hnm, hown, hts, hst, htb, hK, hMv, hZ, hA⟩ := id hS
  exact lv_ishl hx hb hd (k p l e s m args below meth c Dg cT As ad0 ad H locs ls Z hS hV hr he)
theorem xi_iushr {x y : Int32} (hd : decode (mC M) pc = .ok (.iushr, 1)) (k : xgo M N0 Q QX cs sl (pc + 1) lv (.int (x.toUInt32 >>> (y.toUInt32 &&& Int32.toUInt32 31)).toInt32 :: st) N G A B D) : xgo M N0 Q QX cs sl pc lv (.int y :: .int x :: st) N G A B D := by
  intro p l e s m args below meth c Dg cT As ad0 ad H locs ls Z hS hV hr he
  obtain ⟨hx, hb, hml, hrt, hlk, hnm, hown, hts, hst, htb, hK, hMv, hZ, hA⟩ := id hS
  exact lv_iushr hx hb hd rfl (k p l e s m args below meth c Dg cT As ad0 ad H locs ls Z hS hV hr he)
theorem xi_lshl {x : Int64} {y : Int32} (hd : decode (mC M) pc = .ok (.lshl, 1)) (k : xgo M N0 Q QX cs sl (pc + 1) lv (.long (x <<< (y.toInt64 &&& 63)) :: st) N G A B D) : xgo M N0 Q QX cs sl pc lv (.int y :: .long x :: st) N G A B D := by
  intro p l e s m args below meth c Dg cT As ad0 ad H locs ls Z hS hV hr he
  obtain ⟨hx, hb, hml, hrt, hlk, hnm, hown, hts, hst, htb, hK, hMv, hZ, hA⟩ := id hS
  exact lv_lshl hx hb hd rfl (k p l e s m args below meth c Dg cT As ad0 ad H locs ls Z hS hV hr he)
theorem xi_lshr {x : Int64} {y : Int32} (hd : decode (mC M) pc = .ok (.lshr, 1)) (k : xgo M N0 Q QX cs sl (pc + 1) lv (.long (x >>> (y.toInt64 &&& 63)) :: st) N G A B D) : xgo M N0 Q QX cs sl pc lv (.int y :: .long x :: st) N G A B D := by
  intro p l e s m args below meth c Dg cT As ad0 ad H locs ls Z hS hV hr he
  obtain ⟨hx, hb, hml, hrt, hlk, hnm, hown, hts, hst, htb, hK, hMv, hZ, hA⟩ := id hS
  exact lv_lshr hx hb hd rfl (k p l e s m args below meth c Dg cT As ad0 ad H locs ls Z hS hV hr he)
theorem xi_lushr {x : Int64} {y : Int32} (hd : decode (mC M) pc = .ok (.lushr, 1)) (k : xgo M N0 Q QX cs sl (pc + 1) lv (.long (x.toUInt64 >>> (y.toInt64.toUInt64 &&& Int64.toUInt64 63)).toInt64 :: st) N G A B D) : xgo M N0 Q QX cs sl pc lv (.int y :: .long x :: st) N G A B D := by
  intro p l e s m args below meth c Dg cT As ad0 ad H locs ls Z hS hV hr he
  obtain ⟨hx, hb, hml, hrt, hlk, hnm, hown, hts, hst, htb, hK, hMv, hZ, hA⟩ := id hS
  exact lv_lushr hx hb hd rfl (k p l e s m args below meth c Dg cT As ad0 ad H locs ls Z hS hV hr he)
theorem xi_i2l {x : Int32} (hd : decode (mC M) pc = .ok (.i2l, 1)) (k : xgo M N0 Q QX cs sl (pc + 1) lv (.long x.toInt64 :: st) N G A B D) : xgo M N0 Q QX cs sl pc lv (.int x :: st) N G A B D := by
  intro p l e s m args below meth c Dg cT As ad0 ad H locs ls Z hS hV hr he
  obtain ⟨hx, hb, hml, hrt, hlk, hnm, hown, hts, hst, htb, hK, hMv, hZ, hA⟩ := id hS
  exact lv_i2l hx hb hd rfl (k p l e s m args below meth c Dg cT As ad0 ad H locs ls Z hS hV hr he)
theorem xi_l2i {x : Int64} (hd : decode (mC M) pc = .ok (.l2i, 1)) (k : xgo M N0 Q QX cs sl (pc + 1) lv (.int x.toInt32 :: st) N G A B D) : xgo M N0 Q QX cs sl pc lv (.long x :: st) N G A B D := by
  intro p l e s m args below meth c Dg cT As ad0 ad H locs ls Z hS hV hr he
  obtain ⟨hx, hb, hml, hrt, hlk, hnm, hown, hts, hst, htb, hK, hMv, hZ, hA⟩ := id hS
  exact lv_l2i hx hb hd rfl (k p l e s m args below meth c Dg cT As ad0 ad H locs ls Z hS hV hr he)
theorem xi_i2d {x : Int32} (hd : decode (mC M) pc = .ok (.i2d, 1)) (k : xgo M N0 Q QX cs sl (pc + 1) lv (.double (FP.i2d x) :: st) N G A B D) : xgo M N0 Q QX cs sl pc lv (.int x :: st) N G A B D := by
  intro p l e s m args below meth c Dg cT As ad0 ad H locs ls Z hS hV hr he
  obtain ⟨hx, hb, hml, hrt, hlk, hnm, hown, hts, hst, htb, hK, hMv, hZ, hA⟩ := id hS
  exact lv_i2d hx hb hd (k p l e s m args below meth c Dg cT As ad0 ad H locs ls Z hS hV hr he)
theorem xi_lcmp {x y : Int64} (hd : decode (mC M) pc = .ok (.lcmp, 1)) (k : xgo M N0 Q QX cs sl (pc + 1) lv (.int (lg_cmp x y) :: st) N G A B D) : xgo M N0 Q QX cs sl pc lv (.long y :: .long x :: st) N G A B D := by
  intro p l e s m args below meth c Dg cT As ad0 ad H locs ls Z hS hV hr he
  obtain ⟨hx, hb, hml, hrt, hlk, hnm, hown, hts, hst, htb, hK, hMv, hZ, hA⟩ := id hS
  exact W.lcmp hx hb hd (k p l e s m args below meth c Dg cT As ad0 ad H locs ls Z hS hV hr he)
theorem xi_dcmp {x y : UInt64} {op : CmpOp} (hd : decode (mC M) pc = .ok (.dcmp op, 1)) (k : xgo M N0 Q QX cs sl (pc + 1) lv (.int (Op.cmpValue (FP.dcmp x y) op) :: st) N G A B D) : xgo M N0 Q QX cs sl pc lv (.double y :: .double x :: st) N G A B D := by
  intro p l e s m args below meth c Dg cT As ad0 ad H locs ls Z hS hV hr he
  obtain ⟨hx, hb, hml, hrt, hlk, hnm, hown, hts, hst, htb, hK, hMv, hZ, hA⟩ := id hS
  exact lv_dcmp hx hb hd (k p l e s m args below meth c Dg cT As ad0 ad H locs ls Z hS hV hr he)
theorem xi_ddiv {x y : UInt64} (hd : decode (mC M) pc = .ok (.ddiv, 1)) (hne : vf_n64 (FP.ddiv x y)) (k : xgo M N0 Q QX cs sl (pc + 1) lv (.double (FP.ddiv x y) :: st) N G A B D) : xgo M N0 Q QX cs sl pc lv (.double y :: .double x :: st) N G A B D := by
  intro p l e s m args below meth c Dg cT As ad0 ad H locs ls Z hS hV hr he
  obtain ⟨hx, hb, hml, hrt, hlk, hnm, hown, hts, hst, htb, hK, hMv, hZ, hA⟩ := id hS
  exact lv_ddiv hx hb hd hne (k p l e s m args below meth c Dg cT As ad0 ad H locs ls Z hS hV hr he)
theorem xi_dconst0  (hd : decode (mC M) pc = .ok (.dconst 0, 1)) (k : xgo M N0 Q QX cs sl (pc + 1) lv (.double 0 :: st) N G A B D) : xgo M N0 Q QX cs sl pc lv (st) N G A B D := by
  intro p l e s m args below meth c Dg cT As ad0 ad H locs ls Z hS hV hr he
  obtain ⟨hx, hb, hml, hrt, hlk, hnm, hown, hts, hst, htb, hK, hMv, hZ, hA⟩ := id hS
  exact lv_dconst0 hx hb hd (k p l e s m args below meth c Dg cT As ad0 ad H locs ls Z hS hV hr he)
theorem xi_dup {v : Value} (hd : decode (mC M) pc = .ok (.dup, 1)) (hc : v.category = 1) (k : xgo M N0 Q QX cs sl (pc + 1) lv (v :: v :: st) N G A B D) : xgo M N0 Q QX cs sl pc lv (v :: st) N G A B D := by
  intro p l e s m args below meth c Dg cT As ad0 ad H locs ls Z hS hV hr he
  obtain ⟨hx, hb, hml, hrt, hlk, hnm, hown, hts, hst, htb, hK, hMv, hZ, hA⟩ := id hS
  exact lv_dup hx hb hd ((xtr_cat ad v).trans hc) (k p l e s m args below meth c Dg cT As ad0 ad H locs ls Z hS hV hr he)
theorem xi_dup2 {v u : Value} (hd : decode (mC M) pc = .ok (.dup2, 1)) (hc : v.category = 1) (hc2 : u.category = 1) (k : xgo M N0 Q QX cs sl (pc + 1) lv (v :: u :: v :: u :: st) N G A B D) : xgo M N0 Q QX cs sl pc lv (v :: u :: st) N G A B D := by
  intro p l e s m args below meth c Dg cT As ad0 ad H locs ls Z hS hV hr he
  obtain ⟨hx, hb, hml, hrt, hlk, hnm, hown, hts, hst, htb, hK, hMv, hZ, hA⟩ := id hS
  exact lv_dup2_11 hx hb hd ((xtr_cat ad v).trans hc) ((xtr_cat ad u).trans hc2) (k p l e s m args below meth c Dg cT As ad0 ad H locs ls Z hS hV hr he)
theorem xi_pop {v : Value} (hd : decode (mC M) pc = .ok (.pop, 1)) (hc : v.category = 1) (k : xgo M N0 Q QX cs sl (pc + 1) lv (st) N G A B D) : xgo M N0 Q QX cs sl pc lv (v :: st) N G A B D := by
  intro p l e s m args below meth c Dg cT As ad0 ad H locs ls Z hS hV hr he
  obtain ⟨hx, hb, hml, hrt, hlk, hnm, hown, hts, hst, htb, hK, hMv, hZ, hA⟩ := id hS
  exact lv_pop hx hb hd ((xtr_cat ad v).trans hc) (k p l e s m args below meth c Dg cT As ad0 ad H locs ls Z hS hV hr he)
theorem xi_if_eq {x : Int32} {off : Int} {tgt : Nat} (hd : decode (mC M) pc = .ok (.ifCond .eq off, 3)) (ht : (pc : Int) + off = (tgt : Int)) (kt : x = 0 → xgo M N0 Q QX cs sl tgt lv st N G A B D) (kf : ¬ (x = 0) → xgo M N0 Q QX cs sl (pc + 3) lv st N G A B D) : xgo M N0 Q QX cs sl pc lv (.int x :: st) N G A B D := by
  intro p l e s m args below meth c Dg cT As ad0 ad H locs ls Z hS hV hr he
  obtain ⟨hx, hb, hml, hrt, hlk, hnm, hown, hts, hst, htb, hK, hMv, hZ, hA⟩ := id hS
  first
    | exact lv_if_eq hx hb hd ht (fun h => kt h p l e s m args below meth c Dg cT As ad0 ad H locs ls Z hS hV hr he) (fun h => kf h p l e s m args below meth c Dg cT As ad0 ad H locs ls Z hS hV hr he)
    | exact lv_if_eq hx hb hd ht (fun h => kt (by first | exact h | exact fun q => h q | simpa using h) p l e s m args below meth c Dg cT As ad0 ad H locs ls Z hS hV hr he) (fun h => kf (by first | exact h | simpa using h) p l e s m args below meth c Dg cT As ad0 ad H locs ls Z hS hV hr he)
theorem xi_icmp_eq {x y : Int32} {off : Int} {tgt : Nat} (hd : decode (mC M) pc = .ok (.if_icmp .eq off, 3)) (ht : (pc : Int) + off = (tgt : Int)) (kt : x = y → xgo M N0 Q QX cs sl tgt lv st N G A B D) (kf : ¬ (x = y) → xgo M N0 Q QX cs sl (pc + 3) lv st N G A B D) : xgo M N0 Q QX cs sl pc lv (.int y :: .int x :: st) N G A B D := by
  intro p l e s m args below meth c Dg cT As ad0 ad H locs ls Z hS hV hr he
  obtain ⟨hx, hb, hml, hrt, hlk, hnm, hown, hts, hst, htb, hK, hMv, hZ, hA⟩ := id hS
  first
    | exact lv_icmp_eq hx hb hd ht (fun h => kt h p l e s m args below meth c Dg cT As ad0 ad H locs ls Z hS hV hr he) (fun h => kf h p l e s m args below meth c Dg cT As ad0 ad H locs ls Z hS hV hr he)
    | exact lv_icmp_eq hx hb hd ht (fun h => kt (by first | exact h | exact fun q => h q | simpa using h) p l e s m args below meth c Dg cT As ad0 ad H locs ls Z hS hV hr he) (fun h => kf (by first | exact h | simpa using h) p l e s m args below meth c Dg cT As ad0 ad H locs ls Z hS hV hr he)
theorem xi_if_ne {x : Int32} {off : Int} {tgt : Nat} (hd : decode (mC M) pc = .ok (.ifCond .ne off, 3)) (ht : (pc : Int) + off = (tgt : Int)) (kt : ¬ x = 0 → xgo M N0 Q QX cs sl tgt lv st N G A B D) (kf : ¬ (¬ x = 0) → xgo M N0 Q QX cs sl (pc + 3) lv st N G A B D) : xgo M N0 Q QX cs sl pc lv (.int x :: st) N G A B D := by
  intro p l e s m args below meth c Dg cT As ad0 ad H locs ls Z hS hV hr he
  obtain ⟨hx, hb, hml, hrt, hlk, hnm, hown, hts, hst, htb, hK, hMv, hZ, hA⟩ := id hS
  first
    | exact lv_if_ne hx hb hd ht (fun h => kt h p l e s m args below meth c Dg cT As ad0 ad H locs ls Z hS hV hr he) (fun h => kf h p l e s m args below meth c Dg cT As ad0 ad H locs ls Z hS hV hr he)
    | exact lv_if_ne hx hb hd ht (fun h => kt (by first | exact h | exact fun q => h q | simpa using h) p l e s m args below meth c Dg cT As ad0 ad H locs ls Z hS hV hr he) (fun h => kf (by first | exact h | simpa using h) p l e s m args below meth c Dg cT As ad0 ad H locs ls Z hS hV hr he)
theorem xi_icmp_ne {x y : Int32} {off : Int} {tgt : Nat} (hd : decode (mC M) pc = .ok (.if_icmp .ne off, 3)) (ht : (pc : Int) + off = (tgt : Int)) (kt : ¬ x = y → xgo M N0 Q QX cs sl tgt lv st N G A B D) (kf : ¬ (¬ x = y) → xgo M N0 Q QX cs sl (pc + 3) lv st N G A B D) : xgo M N0 Q QX cs sl pc lv (.int y :: .int x :: st) N G A B D := by
  intro p l e s m args below meth c Dg cT As ad0 ad H locs ls Z hS hV hr he
  obtain ⟨hx, hb, hml, hrt, hlk, hnm, hown, hts, hst, htb, hK, hMv, hZ, hA⟩ := id hS
  first
    | exact lv_icmp_ne hx hb hd ht (fun h => kt h p l e s m args below meth c Dg cT As ad0 ad H locs ls Z hS hV hr he) (fun h => kf h p l e s m args below meth c Dg cT As ad0 ad H locs ls Z hS hV hr he)
    | exact lv_icmp_ne hx hb hd ht (fun h => kt (by first | exact h | exact fun q => h q | simpa using h) p l e s m args below meth c Dg cT As ad0 ad H locs ls Z hS hV hr he) (fun h => kf (by first | exact h | simpa using h) p l e s m args below meth c Dg cT As ad0 ad H locs ls Z hS hV hr he)
theorem xi_if_lt {x : Int32} {off : Int} {tgt : Nat} (hd : decode (mC M) pc = .ok (.ifCond .lt off, 3)) (ht : (pc : Int) + off = (tgt : Int)) (kt : x < 0 → xgo M N0 Q QX cs sl tgt lv st N G A B D) (kf : ¬ (x < 0) → xgo M N0 Q QX cs sl (pc + 3) lv st N G A B D) : xgo M N0 Q QX cs sl pc lv (.int x :: st) N G A B D := by
  intro p l e s m args below meth c Dg cT As ad0 ad H locs ls Z hS hV hr he
  obtain ⟨hx, hb, hml, hrt, hlk, hnm, hown, hts, hst, htb, hK, hMv, hZ, hA⟩ := id hS
  first
    | exact lv_if_lt hx hb hd ht (fun h => kt h p l e s m args below meth c Dg cT As ad0 ad H locs ls Z hS hV hr he) (fun h => kf h p l e s m args below meth c Dg cT As ad0 ad H locs ls Z hS hV hr he)
    | exact lv_if_lt hx hb hd ht (fun h => kt (by first | exact h | exact fun q => h q | simpa using h) p l e s m args below meth c Dg cT As ad0 ad H locs ls Z hS hV hr he) (fun h => kf (by first | exact h | simpa using h) p l e s m args below meth c Dg cT As ad0 ad H locs ls Z hS hV hr he)
theorem xi_icmp_lt {x y : Int32} {off : Int} {tgt : Nat} (hd : decode (mC M) pc = .ok (.if_icmp .lt off, 3)) (ht : (pc : Int) + off = (tgt : Int)) (kt : x < y → xgo M N0 Q QX cs sl tgt lv st N G A B D) (kf : ¬ (x < y) → xgo M N0 Q QX cs sl (pc + 3) lv st N G A B D) : xgo M N0 Q QX cs sl pc lv (.int y :: .int x :: st) N G A B D := by
  intro p l e s m args below meth c Dg cT As ad0 ad H locs ls Z hS hV hr he
  obtain ⟨hx, hb, hml, hrt, hlk, hnm, hown, hts, hst, htb, hK, hMv, hZ, hA⟩ := id hS
  first
    | exact lv_icmp_lt hx hb hd ht (fun h => kt h p l e s m args below meth c Dg cT As ad0 ad H locs ls Z hS hV hr he) (fun h => kf h p l e s m args below meth c Dg cT As ad0 ad H locs ls Z hS hV hr he)
    | exact lv_icmp_lt hx hb hd ht (fun h => kt (by first | exact h | exact fun q => h q | simpa using h) p l e s m args below meth c Dg cT As ad0 ad H locs ls Z hS hV hr he) (fun h => kf (by first | exact h | simpa using h) p l e s m args below meth c Dg cT As ad0 ad H locs ls Z hS hV hr he)
theorem xi_if_ge {x : Int32} {off : Int} {tgt : Nat} (hd : decode (mC M) pc = .ok (.ifCond .ge off, 3)) (ht : (pc : Int) + off = (tgt : Int)) (kt : 0 ≤ x → xgo M N0 Q QX cs sl tgt lv st N G A B D) (kf : ¬ (0 ≤ x) → xgo M N0 Q QX cs sl (pc + 3) lv st N G A B D) : xgo M N0 Q QX cs sl pc lv (.int x :: st) N G A B D := by
  intro p l e s m args below meth c Dg cT As ad0 ad H locs ls Z hS hV hr he
  obtain ⟨hx, hb, hml, hrt, hlk, hnm, hown, hts, hst, htb, hK, hMv, hZ, hA⟩ := id hS
  first
    | exact lv_if_ge hx hb hd ht (fun h => kt h p l e s m args below meth c Dg cT As ad0 ad H locs ls Z hS hV hr he) (fun h => kf h p l e s m args below meth c Dg cT As ad0 ad H locs ls Z hS hV hr he)
    | exact lv_if_ge hx hb hd ht (fun h => kt (by first | exact h | exact fun q => h q | simpa using h) p l e s m args below meth c Dg cT As ad0 ad H locs ls Z hS hV hr he) (fun h => kf (by first | exact h | simpa using h) p l e s m args below meth c Dg cT As ad0 ad H locs ls Z hS hV hr he)
theorem xi_icmp_ge {x y : Int32} {off : Int} {tgt : Nat} (hd : decode (mC M) pc = .ok (.if_icmp .ge off, 3)) (ht : (pc : Int) + off = (tgt : Int)) (kt : y ≤ x → xgo M N0 Q QX cs sl tgt lv st N G A B D) (kf : ¬ (y ≤ x) → xgo M N0 Q QX cs sl (pc + 3) lv st N G A B D) : xgo M N0 Q QX cs sl pc lv (.int y :: .int x :: st) N G A B D := by
  intro p l e s m args below meth c Dg cT As ad0 ad H locs ls Z hS hV hr he
  obtain ⟨hx, hb, hml, hrt, hlk, hnm, hown, hts, hst, htb, hK, hMv, hZ, hA⟩ := id hS
  first
    | exact lv_icmp_ge hx hb hd ht (fun h => kt h p l e s m args below meth c Dg cT As ad0 ad H locs ls Z hS hV hr he) (fun h => kf h p l e s m args below meth c Dg cT As ad0 ad H locs ls Z hS hV hr he)
    | exact lv_icmp_ge hx hb hd ht (fun h => kt (by first | exact h | exact fun q => h q | simpa using h) p l e s m args below meth c Dg cT As ad0 ad H locs ls Z hS hV hr he) (fun h => kf (by first | exact h | simpa using h) p l e s m args below meth c Dg cT As ad0 ad H locs ls Z hS hV hr he)
theorem xi_if_gt {x : Int32} {off : Int} {tgt : Nat} (hd : decode (mC M) pc = .ok (.ifCond .gt off, 3)) (ht : (pc : Int) + off = (tgt : Int)) (kt : 0 < x → xgo M N0 Q QX cs sl tgt lv st N G A B D) (kf : ¬ (0 < x) → xgo M N0 Q QX cs sl (pc + 3) lv st N G A B D) : xgo M N0 Q QX cs sl pc lv (.int x :: st) N G A B D := by
  intro p l e s m args below meth c Dg cT As ad0 ad H locs ls Z hS hV hr he
  obtain ⟨hx, hb, hml, hrt, hlk, hnm, hown, hts, hst, htb, hK, hMv, hZ, hA⟩ := id hS
  first
    | exact lv_if_gt hx hb hd ht (fun h => kt h p l e s m args below meth c Dg cT As ad0 ad H locs ls Z hS hV hr he) (fun h => kf h p l e s m args below meth c Dg cT As ad0 ad H locs ls Z hS hV hr he)
    | exact lv_if_gt hx hb hd ht (fun h => kt (by first | exact h | exact fun q => h q | simpa using h) p l e s m args below meth c Dg cT As ad0 ad H locs ls Z hS hV hr he) (fun h => kf (by first | exact h | simpa using h) p l e s m args below meth c Dg cT As ad0 ad H locs ls Z hS hV hr he)
theorem xi_icmp_gt {x y : Int32} {off : Int} {tgt : Nat} (hd : decode (mC M) pc = .ok (.if_icmp .gt off, 3)) (ht : (pc : Int) + off = (tgt : Int)) (kt : y < x → xgo M N0 Q QX cs sl tgt lv st N G A B D) (kf : ¬ (y < x) → xgo M N0 Q QX cs sl (pc + 3) lv st N G A B D) : xgo M N0 Q QX cs sl pc lv (.int y :: .int x :: st) N G A B D := by
  intro p l e s m args below meth c Dg cT As ad0 ad H locs ls Z hS hV hr he
  obtain ⟨hx, hb, hml, hrt, hlk, hnm, hown, hts, hst, htb, hK, hMv, hZ, hA⟩ := id hS
  first
    | exact lv_icmp_gt hx hb hd ht (fun h => kt h p l e s m args below meth c Dg cT As ad0 ad H locs ls Z hS hV hr he) (fun h => kf h p l e s m args below meth c Dg cT As ad0 ad H locs ls Z hS hV hr he)
    | exact lv_icmp_gt hx hb hd ht (fun h => kt (by first | exact h | exact fun q => h q | simpa using h) p l e s m args below meth c Dg cT As ad0 ad H locs ls Z hS hV hr he) (fun h => kf (by first | exact h | simpa using h) p l e s m args below meth c Dg cT As ad0 ad H locs ls Z hS hV hr he)
theorem xi_if_le {x : Int32} {off : Int} {tgt : Nat} (hd : decode (mC M) pc = .ok (.ifCond .le off, 3)) (ht : (pc : Int) + off = (tgt : Int)) (kt : x ≤ 0 → xgo M N0 Q QX cs sl tgt lv st N G A B D) (kf : ¬ (x ≤ 0) → xgo M N0 Q QX cs sl (pc + 3) lv st N G A B D) : xgo M N0 Q QX cs sl pc lv (.int x :: st) N G A B D := by
  intro p l e s m args below meth c Dg cT As ad0 ad H locs ls Z hS hV hr he
  obtain ⟨hx, hb, hml, hrt, hlk, hnm, hown, hts, hst, htb, hK, hMv, hZ, hA⟩ := id hS
  first
    | exact lv_if_le hx hb hd ht (fun h => kt h p l e s m args below meth c Dg cT As ad0 ad H locs ls Z hS hV hr he) (fun h => kf h p l e s m args below meth c Dg cT As ad0 ad H locs ls Z hS hV hr he)
    | exact lv_if_le hx hb hd ht (fun h => kt (by first | exact h | exact fun q => h q | simpa using h) p l e s m args below meth c Dg cT As ad0 ad H locs ls Z hS hV hr he) (fun h => kf (by first | exact h | simpa using h) p l e s m args below meth c Dg cT As ad0 ad H locs ls Z hS hV hr he)
theorem xi_icmp_le {x y : Int32} {off : Int} {tgt : Nat} (hd : decode (mC M) pc = .ok (.if_icmp .le off, 3)) (ht : (pc : Int) + off = (tgt : Int)) (kt : x ≤ y → xgo M N0 Q QX cs sl tgt lv st N G A B D) (kf : ¬ (x ≤ y) → xgo M N0 Q QX cs sl (pc + 3) lv st N G A B D) : xgo M N0 Q QX cs sl pc lv (.int y :: .int x :: st) N G A B D := by
  intro p l e s m args below meth c Dg cT As ad0 ad H locs ls Z hS hV hr he
  obtain ⟨hx, hb, hml, hrt, hlk, hnm, hown, hts, hst, htb, hK, hMv, hZ, hA⟩ := id hS
  first
    | exact lv_icmp_le hx hb hd ht (fun h => kt h p l e s m args below meth c Dg cT As ad0 ad H locs ls Z hS hV hr he) (fun h => kf h p l e s m args below meth c Dg cT As ad0 ad H locs ls Z hS hV hr he)
    | exact lv_icmp_le hx hb hd ht (fun h => kt (by first | exact h | exact fun q => h q | simpa using h) p l e s m args below meth c Dg cT As ad0 ad H locs ls Z hS hV hr he) (fun h => kf (by first | exact h | simpa using h) p l e s m args below meth c Dg cT As ad0 ad H locs ls Z hS hV hr he)
theorem xi_goto {off : Int} {tgt : Nat} (hd : decode (mC M) pc = .ok (.goto off, 3)) (ht : (pc : Int) + off = (tgt : Int)) (k : xgo M N0 Q QX cs sl tgt lv st N G A B D) : xgo M N0 Q QX cs sl pc lv st N G A B D := by
  intro p l e s m args below meth c Dg cT As ad0 ad H locs ls Z hS hV hr he
  obtain ⟨hx, hb, hml, hrt, hlk, hnm, hown, hts, hst, htb, hK, hMv, hZ, hA⟩ := id hS
  exact lv_goto hx hb hd ht (k p l e s m args below meth c Dg cT As ad0 ad H locs ls Z hS hV hr he)
theorem xi_tableIn {dflt lo hi off : Int} {offs : Array Int} {len tgt : Nat} {x : Int32} (hd : decode (mC M) pc = .ok (.tableswitch dflt lo hi offs, len)) (h1 : ¬ x.toInt < lo) (h2 : ¬ hi < x.toInt) (ho : offs[(x.toInt - lo).toNat]? = some off) (ht : (pc : Int) + off = (tgt : Int)) (k : xgo M N0 Q QX cs sl tgt lv st N G A B D) : xgo M N0 Q QX cs sl pc lv (.int x :: st) N G A B D := by
  intro p l e s m args below meth c Dg cT As ad0 ad H locs ls Z hS hV hr he
  obtain ⟨hx, hb, hml, hrt, hlk, hnm, hown, hts, hst, htb, hK, hMv, hZ, hA⟩ := id hS
  exact lv_tableIn hx hb hd h1 h2 ho ht (k p l e s m args below meth c Dg cT As ad0 ad H locs ls Z hS hV hr he)
theorem xi_tableOut {dflt lo hi : Int} {offs : Array Int} {len tgt : Nat} {x : Int32} (hd : decode (mC M) pc = .ok (.tableswitch dflt lo hi offs, len)) (h : x.toInt < lo ∨ hi < x.toInt) (ht : (pc : Int) + dflt = (tgt : Int)) (k : xgo M N0 Q QX cs sl tgt lv st N G A B D) : xgo M N0 Q QX cs sl pc lv (.int x :: st) N G A B D := by
  intro p l e s m args below meth c Dg cT As ad0 ad H locs ls Z hS hV hr he
  obtain ⟨hx, hb, hml, hrt, hlk, hnm, hown, hts, hst, htb, hK, hMv, hZ, hA⟩ := id hS
  exact lv_tableOut hx hb hd h ht (k p l e s m args below meth c Dg cT As ad0 ad H locs ls Z hS hV hr he)
theorem xi_ret {r : Option Value} (hd : xret M pc r) (hc : cs ≤ (mO M).cells) (hs : sl ≤ (mO M).slots) (k : Q r N G A B D) : xgo M N0 Q QX cs sl pc lv r.toList N G A B D := by
  intro p l e s m args below meth c Dg cT As ad0 ad H locs ls Z hS hV hr he
  obtain ⟨hx, hb, hml, hrt, hlk, hnm, hown, hts, hst, htb, hK, hMv, hZ, hA⟩ := id hS
  obtain ⟨v1, v2, v3, v4, v5, v6⟩ := hV
  exact hr r N G A B D ad H locs ls pc cs sl k ⟨v1, v2, v3, v4, v5, xlv_sub v6 (fun q hq => nomatch hq)⟩ hc hs hd
theorem xi_iaload {kk nn : Nat} {i : Int32} (hd : decode (mC M) pc = .ok (.iaload, 1)) (hg : (G kk).1 = 1) (hn : (G kk).2.1 = nn) (hin : vp_in i nn) (k : xgo M N0 Q QX cs sl (pc + 1) lv (.int (A kk i.toNatClampNeg) :: st) N G A B D) : xgo M N0 Q QX cs sl pc lv (.int i :: .ref kk :: st) N G A B D := by
  intro p l e s m args below meth c Dg cT As ad0 ad H locs ls Z hS hV hr he
  obtain ⟨hx, hb, hml, hrt, hlk, hnm, hown, hts, hst, htb, hK, hMv, hZ, hA⟩ := id hS
  have hk : kk < N := hV.2.2.2.1 kk (by rw [hg]; decide)
  have hw : (xwl ad cT N G A B D)[kk]? = some (ad kk, .inl (cT 0, nn, .inl (A kk))) := by rw [xwl_get hk]; unfold xent; rw [hg, hn]; rfl
  exact va_iald hx hb hK hV.2.1 kk 0 hw rfl hin hd (k p l e s m args below meth c Dg cT As ad0 ad H locs ls Z hS hV hr he)
theorem xi_laload {kk nn : Nat} {i : Int32} (hd : decode (mC M) pc = .ok (.laload, 1)) (hg : (G kk).1 = 2) (hn : (G kk).2.1 = nn) (hin : vp_in i nn) (k : xgo M N0 Q QX cs sl (pc + 1) lv (.long (B kk i.toNatClampNeg) :: st) N G A B D) : xgo M N0 Q QX cs sl pc lv (.int i :: .ref kk :: st) N G A B D := by
  intro p l e s m args below meth c Dg cT As ad0 ad H locs ls Z hS hV hr he
  obtain ⟨hx, hb, hml, hrt, hlk, hnm, hown, hts, hst, htb, hK, hMv, hZ, hA⟩ := id hS
  have hk : kk < N := hV.2.2.2.1 kk (by rw [hg]; decide)
  have hw : (xwl ad cT N G A B D)[kk]? = some (ad kk, .inl (cT 1, nn, .inr (.inl (B kk)))) := by rw [xwl_get hk]; unfold xent; rw [hg, hn]; rfl
  exact va_lald hx hb hK hV.2.1 kk 1 hw rfl hin hd (k p l e s m args below meth c Dg cT As ad0 ad H locs ls Z hS hV hr he)
theorem xi_baload {kk nn : Nat} {i : Int32} (hd : decode (mC M) pc = .ok (.baload, 1)) (hg : (G kk).1 = 3) (hn : (G kk).2.1 = nn) (hin : vp_in i nn) (k : xgo M N0 Q QX cs sl (pc + 1) lv (.int (A kk i.toNatClampNeg) :: st) N G A B D) : xgo M N0 Q QX cs sl pc lv (.int i :: .ref kk :: st) N G A B D := by
  intro p l e s m args below meth c Dg cT As ad0 ad H locs ls Z hS hV hr he
  obtain ⟨hx, hb, hml, hrt, hlk, hnm, hown, hts, hst, htb, hK, hMv, hZ, hA⟩ := id hS
  have hk : kk < N := hV.2.2.2.1 kk (by rw [hg]; decide)
  have hw : (xwl ad cT N G A B D)[kk]? = some (ad kk, .inl (cT 2, nn, .inl (A kk))) := by rw [xwl_get hk]; unfold xent; rw [hg, hn]; rfl
  exact va_zald hx hb hK hV.2.1 kk 2 hw rfl hin hd (k p l e s m args below meth c Dg cT As ad0 ad H locs ls Z hS hV hr he)
theorem xi_daload {kk nn : Nat} {i : Int32} (hd : decode (mC M) pc = .ok (.daload, 1)) (hg : (G kk).1 = 4) (hn : (G kk).2.1 = nn) (hin : vp_in i nn) (k : xgo M N0 Q QX cs sl (pc + 1) lv (.double (D kk i.toNatClampNeg) :: st) N G A B D) : xgo M N0 Q QX cs sl pc lv (.int i :: .ref kk :: st) N G A B D := by
  intro p l e s m args below meth c Dg cT As ad0 ad H locs ls Z hS hV hr he
  obtain ⟨hx, hb, hml, hrt, hlk, hnm, hown, hts, hst, htb, hK, hMv, hZ, hA⟩ := id hS
  have hk : kk < N := hV.2.2.2.1 kk (by rw [hg]; decide)
  have hw : (xwl ad cT N G A B D)[kk]? = some (ad kk, .inl (cT 3, nn, .inr (.inr (.inr (.inl (D kk)))))) := by rw [xwl_get hk]; unfold xent; rw [hg, hn]; rfl
  exact va_dald hx hb hK hV.2.1 kk 3 hw rfl hin hd (k p l e s m args below meth c Dg cT As ad0 ad H locs ls Z hS hV hr he)
theorem xi_aaload5 {kk nn r : Nat} {i : Int32} (hd : decode (mC M) pc = .ok (.aaload, 1)) (hg : (G kk).1 = 5) (hn : (G kk).2.1 = nn) (hin : vp_in i nn) (hr0 : (G kk).2.2 i.toNatClampNeg = some r) (k : xgo M N0 Q QX cs sl (pc + 1) lv (.ref r :: st) N G A B D) : xgo M N0 Q QX cs sl pc lv (.int i :: .ref kk :: st) N G A B D := by
  intro p l e s m args below meth c Dg cT As ad0 ad H locs ls Z hS hV hr he
  obtain ⟨hx, hb, hml, hrt, hlk, hnm, hown, hts, hst, htb, hK, hMv, hZ, hA⟩ := id hS
  have hk : kk < N := hV.2.2.2.1 kk (by rw [hg]; decide)
  have hw : (xwl ad cT N G A B D)[kk]? = some (ad kk, .inl (cT 4, nn, .inr (.inr (.inr (.inr (fun i => ((G kk).2.2 i).map ad)))))) := by rw [xwl_get hk]; unfold xent; rw [hg, hn]; rfl
  have hlt : i.toNatClampNeg < nn := Nat.not_le.mp fun q => hin (Or.inr q)
  refine W.aald (v := va_rf (((G kk).2.2 i.toNatClampNeg).map ad)) (ty := .array .int) hx hb (hV.2.1 kk _ hw) ((hK.2 4 _ rfl).1 nn (fun j => va_rf (((G kk).2.2 j).map ad))) rfl (fun q => by cases q) (by show ¬ (i < 0 ∨ (arrV _ _ _).slots.size ≤ _); rw [arrV_size]; exact hin) (by show (arrV _ _ _).slots[_]? = _; rw [arrV_read _ _ hlt]) rfl rfl hd ?_
  rw [hr0]
  exact (k p l e s m args below meth c Dg cT As ad0 ad H locs ls Z hS hV hr he)
theorem xi_aaload6 {kk nn r : Nat} {i : Int32} (hd : decode (mC M) pc = .ok (.aaload, 1)) (hg : (G kk).1 = 6) (hn : (G kk).2.1 = nn) (hin : vp_in i nn) (hr0 : (G kk).2.2 i.toNatClampNeg = some r) (k : xgo M N0 Q QX cs sl (pc + 1) lv (.ref r :: st) N G A B D) : xgo M N0 Q QX cs sl pc lv (.int i :: .ref kk :: st) N G A B D := by
  intro p l e s m args below meth c Dg cT As ad0 ad H locs ls Z hS hV hr he
  obtain ⟨hx, hb, hml, hrt, hlk, hnm, hown, hts, hst, htb, hK, hMv, hZ, hA⟩ := id hS
  have hk : kk < N := hV.2.2.2.1 kk (by rw [hg]; decide)
  have hw : (xwl ad cT N G A B D)[kk]? = some (ad kk, .inl (cT 5, nn, .inr (.inr (.inr (.inr (fun i => ((G kk).2.2 i).map ad)))))) := by rw [xwl_get hk]; unfold xent; rw [hg, hn]; rfl
  refine va_aldq hx hb hK hV.2.1 kk 5 hw rfl hin hd ?_
  show W p l e (mO M) s m args below meth c H locs cs sl Z (F0 m (pc + 1) ls (va_rf (((G kk).2.2 i.toNatClampNeg).map ad) :: st.map (xtr ad)))
  rw [hr0]
  exact (k p l e s m args below meth c Dg cT As ad0 ad H locs ls Z hS hV hr he)
theorem xi_iastore {kk nn : Nat} {i : Int32} {x : Int32} (hd : decode (mC M) pc = .ok (.iastore, 1)) (hg : (G kk).1 = 1) (hn : (G kk).2.1 = nn) (hin : vp_in i nn) (k : xgo M N0 Q QX cs sl (pc + 1) lv st N G (updA A kk i.toNatClampNeg x) B D) : xgo M N0 Q QX cs sl pc lv (.int x :: .int i :: .ref kk :: st) N G A B D := by
  intro p l e s m args below meth c Dg cT As ad0 ad H locs ls Z hS hV hr he
  obtain ⟨hx, hb, hml, hrt, hlk, hnm, hown, hts, hst, htb, hK, hMv, hZ, hA⟩ := id hS
  have hk : kk < N := hV.2.2.2.1 kk (by rw [hg]; decide)
  have hw : (xwl ad cT N G A B D)[kk]? = some (ad kk, .inl (cT 0, nn, .inl (A kk))) := by rw [xwl_get hk]; unfold xent; rw [hg, hn]; rfl
  obtain ⟨v1, v2, v3, v4, v5, v6⟩ := hV
  refine va_iast hx hb hK v2 (xdom_D v3) v1 kk 0 hw rfl hin hd (fun H1 locs1 hP hD1 hS1 => ?_)
  rw [xwl_set (G' := G) (A' := (updA A kk i.toNatClampNeg x)) (B' := B) (D' := D) hk (fun j hj => ⟨rfl, updA_n A _ _ hj, rfl, rfl⟩) (by unfold xent; rw [hg, hn, updA_s]; rfl)] at hP
  exact k p l e s m args below meth c Dg cT As ad0 ad H1 locs1 ls Z hS ⟨hS1, hP, v3, v4, v5, v6⟩ hr he
theorem xi_lastore {kk nn : Nat} {i : Int32} {x : Int64} (hd : decode (mC M) pc = .ok (.lastore, 1)) (hg : (G kk).1 = 2) (hn : (G kk).2.1 = nn) (hin : vp_in i nn) (k : xgo M N0 Q QX cs sl (pc + 1) lv st N G A (updB B kk i.toNatClampNeg x) D) : xgo M N0 Q QX cs sl pc lv (.long x :: .int i :: .ref kk :: st) N G A B D := by
  intro p l e s m args below meth c Dg cT As ad0 ad H locs ls Z hS hV hr he
  obtain ⟨hx, hb, hml, hrt, hlk, hnm, hown, hts, hst, htb, hK, hMv, hZ, hA⟩ := id hS
  have hk : kk < N := hV.2.2.2.1 kk (by rw [hg]; decide)
  have hw : (xwl ad cT N G A B D)[kk]? = some (ad kk, .inl (cT 1, nn, .inr (.inl (B kk)))) := by rw [xwl_get hk]; unfold xent; rw [hg, hn]; rfl
  obtain ⟨v1, v2, v3, v4, v5, v6⟩ := hV
  refine va_last hx hb hK v2 (xdom_D v3) v1 kk 1 hw rfl hin hd (fun H1 locs1 hP hD1 hS1 => ?_)
  rw [xwl_set (G' := G) (A' := A) (B' := (updB B kk i.toNatClampNeg x)) (D' := D) hk (fun j hj => ⟨rfl, rfl, updB_n B _ _ hj, rfl⟩) (by unfold xent; rw [hg, hn, updB_s]; rfl)] at hP
  exact k p l e s m args below meth c Dg cT As ad0 ad H1 locs1 ls Z hS ⟨hS1, hP, v3, v4, v5, v6⟩ hr he
theorem xi_bastore {kk nn : Nat} {i : Int32} {x : Int32} (hd : decode (mC M) pc = .ok (.bastore, 1)) (hg : (G kk).1 = 3) (hn : (G kk).2.1 = nn) (hin : vp_in i nn) (hz : x = 0 ∨ x = 1) (k : xgo M N0 Q QX cs sl (pc + 1) lv st N G (updA A kk i.toNatClampNeg x) B D) : xgo M N0 Q QX cs sl pc lv (.int x :: .int i :: .ref kk :: st) N G A B D := by
  intro p l e s m args below meth c Dg cT As ad0 ad H locs ls Z hS hV hr he
  obtain ⟨hx, hb, hml, hrt, hlk, hnm, hown, hts, hst, htb, hK, hMv, hZ, hA⟩ := id hS
  have hk : kk < N := hV.2.2.2.1 kk (by rw [hg]; decide)
  have hw : (xwl ad cT N G A B D)[kk]? = some (ad kk, .inl (cT 2, nn, .inl (A kk))) := by rw [xwl_get hk]; unfold xent; rw [hg, hn]; rfl
  obtain ⟨v1, v2, v3, v4, v5, v6⟩ := hV
  refine va_zast hx hb hK v2 (xdom_D v3) v1 kk 2 hw rfl hin hd (fun H1 locs1 hP hD1 hS1 => ?_)
  rw [show vp_nar .boolean x = x by rcases hz with rfl | rfl <;> rfl] at hP hD1
  rw [xwl_set (G' := G) (A' := (updA A kk i.toNatClampNeg x)) (B' := B) (D' := D) hk (fun j hj => ⟨rfl, updA_n A _ _ hj, rfl, rfl⟩) (by unfold xent; rw [hg, hn, updA_s]; rfl)] at hP
  exact k p l e s m args below meth c Dg cT As ad0 ad H1 locs1 ls Z hS ⟨hS1, hP, v3, v4, v5, v6⟩ hr he
theorem xi_dastore {kk nn : Nat} {i : Int32} {x : UInt64} (hd : decode (mC M) pc = .ok (.dastore, 1)) (hg : (G kk).1 = 4) (hn : (G kk).2.1 = nn) (hin : vp_in i nn) (k : xgo M N0 Q QX cs sl (pc + 1) lv st N G A B (updD D kk i.toNatClampNeg x)) : xgo M N0 Q QX cs sl pc lv (.double x :: .int i :: .ref kk :: st) N G A B D := by
  intro p l e s m args below meth c Dg cT As ad0 ad H locs ls Z hS hV hr he
  obtain ⟨hx, hb, hml, hrt, hlk, hnm, hown, hts, hst, htb, hK, hMv, hZ, hA⟩ := id hS
  have hk : kk < N := hV.2.2.2.1 kk (by rw [hg]; decide)
  have hw : (xwl ad cT N G A B D)[kk]? = some (ad kk, .inl (cT 3, nn, .inr (.inr (.inr (.inl (D kk)))))) := by rw [xwl_get hk]; unfold xent; rw [hg, hn]; rfl
  obtain ⟨v1, v2, v3, v4, v5, v6⟩ := hV
  refine va_dast hx hb hK v2 (xdom_D v3) v1 kk 3 hw rfl hin hd (fun H1 locs1 hP hD1 hS1 => ?_)
  rw [xwl_set (G' := G) (A' := A) (B' := B) (D' := (updD D kk i.toNatClampNeg x)) hk (fun j hj => ⟨rfl, rfl, rfl, updD_n D _ _ hj⟩) (by unfold xent; rw [hg, hn, updD_s]; rfl)] at hP
  exact k p l e s m args below meth c Dg cT As ad0 ad H1 locs1 ls Z hS ⟨hS1, hP, v3, v4, v5, v6⟩ hr he
theorem xi_arraylength {kk nn : Nat} {v : Int32} (hd : decode (mC M) pc = .ok (.arraylength, 1)) (hg : (G kk).1 = 1 ∨ (G kk).1 = 2 ∨ (G kk).1 = 3) (hn : (G kk).2.1 = nn) (hv : Int32.ofNat nn = v) (k : xgo M N0 Q QX cs sl (pc + 1) lv (.int v :: st) N G A B D) : xgo M N0 Q QX cs sl pc lv (.ref kk :: st) N G A B D := by
  intro p l e s m args below meth c Dg cT As ad0 ad H locs ls Z hS hV hr he
  obtain ⟨hx, hb, hml, hrt, hlk, hnm, hown, hts, hst, htb, hK, hMv, hZ, hA⟩ := id hS
  rcases hg with hg | hg | hg
  · have hk : kk < N := hV.2.2.2.1 kk (by rw [hg]; decide)
    have hw : (xwl ad cT N G A B D)[kk]? = some (ad kk, .inl (cT 0, nn, .inl (A kk))) := by rw [xwl_get hk]; unfold xent; rw [hg, hn]; rfl
    exact va_alen hx hb hK hV.2.1 kk 0 hw rfl hv hd (k p l e s m args below meth c Dg cT As ad0 ad H locs ls Z hS hV hr he)
  · have hk : kk < N := hV.2.2.2.1 kk (by rw [hg]; decide)
    have hw : (xwl ad cT N G A B D)[kk]? = some (ad kk, .inl (cT 1, nn, .inr (.inl (B kk)))) := by rw [xwl_get hk]; unfold xent; rw [hg, hn]; rfl
    exact va_alen hx hb hK hV.2.1 kk 1 hw rfl hv hd (k p l e s m args below meth c Dg cT As ad0 ad H locs ls Z hS hV hr he)
  · have hk : kk < N := hV.2.2.2.1 kk (by rw [hg]; decide)
    have hw : (xwl ad cT N G A B D)[kk]? = some (ad kk, .inl (cT 2, nn, .inl (A kk))) := by rw [xwl_get hk]; unfold xent; rw [hg, hn]; rfl
    exact va_alen hx hb hK hV.2.1 kk 2 hw rfl hv hd (k p l e s m args below meth c Dg cT As ad0 ad H locs ls Z hS hV hr he)
/-- a field's link: class own, entry idx: field j of class ci, of kind t -/
def xfok (own : String) (idx ci j t : Nat) : Prop := ∃ (C : String) (T : u_T) (n : Nat), vwCl[ci]? = some (C, T, n) ∧ j < n ∧ Cond.fieldLink own idx (T j).1 (T j).2.1 (T j).2.2.1 ∈ xT ∧ (xfk ci)[j]? = some t
theorem xi_getfield0 {kk idx ci j : Nat} (hd : decode (mC M) pc = .ok (.getfield idx, 3)) (hf : xfok (mY M).cls idx ci j 0) (hg : (G kk).1 = ci + 7) (k : xgo M N0 Q QX cs sl (pc + 3) lv (.int (A kk j) :: st) N G A B D) : xgo M N0 Q QX cs sl pc lv (.ref kk :: st) N G A B D := by
  intro p l e s m args below meth c Dg cT As ad0 ad H locs ls Z hS hV hr he
  obtain ⟨hx, hb, hml, hrt, hlk, hnm, hown, hts, hst, htb, hK, hMv, hZ, hA⟩ := id hS
  obtain ⟨C, T, n, hc, hj, hlk2, hfk⟩ := hf
  have hk : kk < N := hV.2.2.2.1 kk (by rw [hg]; omega)
  have hw : (xwl ad cT N G A B D)[kk]? = some (ad kk, .inr (ci, xfl ad (A kk) (B kk) (G kk).2.2 ci)) := by rw [xwl_get hk]; unfold xent; rw [hg]; rfl
  exact va_get hx hb hts (xin ci hc) hown hK hV.2.1 kk hw hc j hj (hts _ hlk2) (fun _ h => h) (xfl_get hfk) hd (k p l e s m args below meth c Dg cT As ad0 ad H locs ls Z hS hV hr he)
theorem xi_getfield1 {kk idx ci j : Nat} (hd : decode (mC M) pc = .ok (.getfield idx, 3)) (hf : xfok (mY M).cls idx ci j 1) (hg : (G kk).1 = ci + 7) (k : xgo M N0 Q QX cs sl (pc + 3) lv (.int (A kk j) :: st) N G A B D) : xgo M N0 Q QX cs sl pc lv (.ref kk :: st) N G A B D := by
  intro p l e s m args below meth c Dg cT As ad0 ad H locs ls Z hS hV hr he
  obtain ⟨hx, hb, hml, hrt, hlk, hnm, hown, hts, hst, htb, hK, hMv, hZ, hA⟩ := id hS
  obtain ⟨C, T, n, hc, hj, hlk2, hfk⟩ := hf
  have hk : kk < N := hV.2.2.2.1 kk (by rw [hg]; omega)
  have hw : (xwl ad cT N G A B D)[kk]? = some (ad kk, .inr (ci, xfl ad (A kk) (B kk) (G kk).2.2 ci)) := by rw [xwl_get hk]; unfold xent; rw [hg]; rfl
  exact va_get hx hb hts (xin ci hc) hown hK hV.2.1 kk hw hc j hj (hts _ hlk2) (fun _ h => h) (xfl_get hfk) hd (k p l e s m args below meth c Dg cT As ad0 ad H locs ls Z hS hV hr he)
theorem xi_getfield2 {kk idx ci j : Nat} (hd : decode (mC M) pc = .ok (.getfield idx, 3)) (hf : xfok (mY M).cls idx ci j 2) (hg : (G kk).1 = ci + 7) (k : xgo M N0 Q QX cs sl (pc + 3) lv (.long (B kk j) :: st) N G A B D) : xgo M N0 Q QX cs sl pc lv (.ref kk :: st) N G A B D := by
  intro p l e s m args below meth c Dg cT As ad0 ad H locs ls Z hS hV hr he
  obtain ⟨hx, hb, hml, hrt, hlk, hnm, hown, hts, hst, htb, hK, hMv, hZ, hA⟩ := id hS
  obtain ⟨C, T, n, hc, hj, hlk2, hfk⟩ := hf
  have hk : kk < N := hV.2.2.2.1 kk (by rw [hg]; omega)
  have hw : (xwl ad cT N G A B D)[kk]? = some (ad kk, .inr (ci, xfl ad (A kk) (B kk) (G kk).2.2 ci)) := by rw [xwl_get hk]; unfold xent; rw [hg]; rfl
  exact va_get hx hb hts (xin ci hc) hown hK hV.2.1 kk hw hc j hj (hts _ hlk2) (fun _ h => h) (xfl_get hfk) hd (k p l e s m args below meth c Dg cT As ad0 ad H locs ls Z hS hV hr he)
theorem xi_getfield3 {kk idx ci j r : Nat} (hd : decode (mC M) pc = .ok (.getfield idx, 3)) (hf : xfok (mY M).cls idx ci j 3) (hg : (G kk).1 = ci + 7) (hr0 : (G kk).2.2 j = some r) (k : xgo M N0 Q QX cs sl (pc + 3) lv (.ref r :: st) N G A B D) : xgo M N0 Q QX cs sl pc lv (.ref kk :: st) N G A B D := by
  intro p l e s m args below meth c Dg cT As ad0 ad H locs ls Z hS hV hr he
  obtain ⟨hx, hb, hml, hrt, hlk, hnm, hown, hts, hst, htb, hK, hMv, hZ, hA⟩ := id hS
  obtain ⟨C, T, n, hc, hj, hlk2, hfk⟩ := hf
  have hk : kk < N := hV.2.2.2.1 kk (by rw [hg]; omega)
  have hw : (xwl ad cT N G A B D)[kk]? = some (ad kk, .inr (ci, xfl ad (A kk) (B kk) (G kk).2.2 ci)) := by rw [xwl_get hk]; unfold xent; rw [hg]; rfl
  refine va_get hx hb hts (xin ci hc) hown hK hV.2.1 kk hw hc j hj (hts _ hlk2) (fun _ h => h) (xfl_get hfk) hd ?_
  show W p l e (mO M) s m args below meth c H locs cs sl Z (F0 m (pc + 3) ls (va_rf (((G kk).2.2 j).map ad) :: st.map (xtr ad)))
  rw [hr0]
  exact (k p l e s m args below meth c Dg cT As ad0 ad H locs ls Z hS hV hr he)
theorem xi_putfield0 {kk idx ci j : Nat} {x : Int32} (hd : decode (mC M) pc = .ok (.putfield idx, 3)) (hf : xfok (mY M).cls idx ci j 0) (hg : (G kk).1 = ci + 7) (hfin : ∀ q, vwCl[ci]? = some q → (q.2.1 j).2.2.2 = false ∧ parseFieldDescriptor (q.2.1 j).2.2.1 = some .int) (k : xgo M N0 Q QX cs sl (pc + 3) lv st N G (updA A kk j x) B D) : xgo M N0 Q QX cs sl pc lv (.int x :: .ref kk :: st) N G A B D := by
  intro p l e s m args below meth c Dg cT As ad0 ad H locs ls Z hS hV hr he
  obtain ⟨hx, hb, hml, hrt, hlk, hnm, hown, hts, hst, htb, hK, hMv, hZ, hA⟩ := id hS
  obtain ⟨C, T, n, hc, hj, hlk2, hfk⟩ := hf
  have hk : kk < N := hV.2.2.2.1 kk (by rw [hg]; omega)
  have hw : (xwl ad cT N G A B D)[kk]? = some (ad kk, .inr (ci, xfl ad (A kk) (B kk) (G kk).2.2 ci)) := by rw [xwl_get hk]; unfold xent; rw [hg]; rfl
  obtain ⟨v1, v2, v3, v4, v5, v6⟩ := hV
  obtain ⟨ty0, hty, hnm0⟩ := xtyok ci hc
  have hl : j < (xfl ad (A kk) (B kk) (G kk).2.2 ci).length := by simp only [xfl, List.length_mapIdx]; exact (List.getElem?_eq_some_iff.mp hfk).1
  refine va_put hx hb hts (xin ci hc) ty0 hty hnm0 hown hK v2 (xdom_D v3) v1 kk hw hc j hj (hts _ hlk2) (fun _ h => h) (hfin _ hc).1 (hfin _ hc).2 rfl rfl hl hd (fun H1 locs1 hP hD1 hS1 => ?_)
  rw [xwl_set (G' := G) (A' := (updA A kk j x)) (B' := B) (D' := D) hk (fun i hi => ⟨rfl, updA_n A _ _ hi, rfl, rfl⟩) (by unfold xent; rw [hg, updA_s]; exact congrArg (fun z => Sum.inr (ci, z)) (xfl_set hfk (congrArg Value.int (show x = upd (A kk) j x j from (if_pos rfl).symm)) (fun i hi => ⟨if_neg hi, rfl, rfl⟩)))] at hP
  exact k p l e s m args below meth c Dg cT As ad0 ad H1 locs1 ls Z hS ⟨hS1, hP, v3, v4, v5, v6⟩ hr he
theorem xi_putfield1 {kk idx ci j : Nat} {x : Int32} (hd : decode (mC M) pc = .ok (.putfield idx, 3)) (hf : xfok (mY M).cls idx ci j 1) (hg : (G kk).1 = ci + 7) (hfin : ∀ q, vwCl[ci]? = some q → (q.2.1 j).2.2.2 = false ∧ parseFieldDescriptor (q.2.1 j).2.2.1 = some .boolean) (hz : x = 0 ∨ x = 1) (k : xgo M N0 Q QX cs sl (pc + 3) lv st N G (updA A kk j x) B D) : xgo M N0 Q QX cs sl pc lv (.int x :: .ref kk :: st) N G A B D := by
  intro p l e s m args below meth c Dg cT As ad0 ad H locs ls Z hS hV hr he
  obtain ⟨hx, hb, hml, hrt, hlk, hnm, hown, hts, hst, htb, hK, hMv, hZ, hA⟩ := id hS
  obtain ⟨C, T, n, hc, hj, hlk2, hfk⟩ := hf
  have hk : kk < N := hV.2.2.2.1 kk (by rw [hg]; omega)
  have hw : (xwl ad cT N G A B D)[kk]? = some (ad kk, .inr (ci, xfl ad (A kk) (B kk) (G kk).2.2 ci)) := by rw [xwl_get hk]; unfold xent; rw [hg]; rfl
  obtain ⟨v1, v2, v3, v4, v5, v6⟩ := hV
  obtain ⟨ty0, hty, hnm0⟩ := xtyok ci hc
  have hl : j < (xfl ad (A kk) (B kk) (G kk).2.2 ci).length := by simp only [xfl, List.length_mapIdx]; exact (List.getElem?_eq_some_iff.mp hfk).1
  refine va_put hx hb hts (xin ci hc) ty0 hty hnm0 hown hK v2 (xdom_D v3) v1 kk hw hc j hj (hts _ hlk2) (fun _ h => h) (hfin _ hc).1 (hfin _ hc).2 (by rcases hz with rfl | rfl <;> rfl) (by rcases hz with rfl | rfl <;> rfl) hl hd (fun H1 locs1 hP hD1 hS1 => ?_)
  rw [xwl_set (G' := G) (A' := (updA A kk j x)) (B' := B) (D' := D) hk (fun i hi => ⟨rfl, updA_n A _ _ hi, rfl, rfl⟩) (by unfold xent; rw [hg, updA_s]; exact congrArg (fun z => Sum.inr (ci, z)) (xfl_set hfk (congrArg Value.int (show x = upd (A kk) j x j from (if_pos rfl).symm)) (fun i hi => ⟨if_neg hi, rfl, rfl⟩)))] at hP
  exact k p l e s m args below meth c Dg cT As ad0 ad H1 locs1 ls Z hS ⟨hS1, hP, v3, v4, v5, v6⟩ hr he
theorem xi_putfield2 {kk idx ci j : Nat} {x : Int64} (hd : decode (mC M) pc = .ok (.putfield idx, 3)) (hf : xfok (mY M).cls idx ci j 2) (hg : (G kk).1 = ci + 7) (hfin : ∀ q, vwCl[ci]? = some q → (q.2.1 j).2.2.2 = false ∧ parseFieldDescriptor (q.2.1 j).2.2.1 = some .long) (k : xgo M N0 Q QX cs sl (pc + 3) lv st N G A (updB B kk j x) D) : xgo M N0 Q QX cs sl pc lv (.long x :: .ref kk :: st) N G A B D := by
  intro p l e s m args below meth c Dg cT As ad0 ad H locs ls Z hS hV hr he
  obtain ⟨hx, hb, hml, hrt, hlk, hnm, hown, hts, hst, htb, hK, hMv, hZ, hA⟩ := id hS
  obtain ⟨C, T, n, hc, hj, hlk2, hfk⟩ := hf
  have hk : kk < N := hV.2.2.2.1 kk (by rw [hg]; omega)
  have hw : (xwl ad cT N G A B D)[kk]? = some (ad kk, .inr (ci, xfl ad (A kk) (B kk) (G kk).2.2 ci)) := by rw [xwl_get hk]; unfold xent; rw [hg]; rfl
  obtain ⟨v1, v2, v3, v4, v5, v6⟩ := hV
  obtain ⟨ty0, hty, hnm0⟩ := xtyok ci hc
  have hl : j < (xfl ad (A kk) (B kk) (G kk).2.2 ci).length := by simp only [xfl, List.length_mapIdx]; exact (List.getElem?_eq_some_iff.mp hfk).1
  refine va_put hx hb hts (xin ci hc) ty0 hty hnm0 hown hK v2 (xdom_D v3) v1 kk hw hc j hj (hts _ hlk2) (fun _ h => h) (hfin _ hc).1 (hfin _ hc).2 rfl rfl hl hd (fun H1 locs1 hP hD1 hS1 => ?_)
  rw [xwl_set (G' := G) (A' := A) (B' := (updB B kk j x)) (D' := D) hk (fun i hi => ⟨rfl, rfl, updB_n B _ _ hi, rfl⟩) (by unfold xent; rw [hg, updB_s]; exact congrArg (fun z => Sum.inr (ci, z)) (xfl_set hfk (congrArg Value.long (show x = vp_updL (B kk) j x j from (if_pos rfl).symm)) (fun i hi => ⟨rfl, if_neg hi, rfl⟩)))] at hP
  exact k p l e s m args below meth c Dg cT As ad0 ad H1 locs1 ls Z hS ⟨hS1, hP, v3, v4, v5, v6⟩ hr he
end XROWS
