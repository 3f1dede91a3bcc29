/-! CORE, 1: worlds by index. A cell has a number; its address is 'ad' of it; what it holds stands in three functions (ints, longs, doubles) and a graph (kinds, lengths, references). -/
abbrev xGC : Type := Nat × Nat × (Nat → Option Nat)
abbrev xG : Type := Nat → xGC
abbrev xA : Type := Nat → Nat → Int32
abbrev xB : Type := Nat → Nat → Int64
abbrev xD : Type := Nat → Nat → UInt64
abbrev xLV : Type := List (Nat × Value)
def xtr (ad : Nat → Nat) : Value → Value
  | .ref k => .ref (ad k)
  | v => v
theorem xtr_cat (ad : Nat → Nat) (v : Value) : (xtr ad v).category = v.category := by cases v <;> rfl
/-- kinds of the fields of a class by its number in vwCl: 0 int, 1 boolean, 2 long, 3 reference -/
def xfk : Nat → List Nat
  | 0 => [3, 3]
  | 1 => [0, 0, 0, 2, 2, 2, 2]
  | 2 => [3, 0, 0]
  | 3 => [3, 0, 0, 0, 0]
  | 4 => [3, 3, 3, 3]
  | 5 => [3, 1, 0, 0, 0, 3, 3, 3, 3, 3, 3, 3, 3]
  | 6 => [0, 0, 3, 3]
  | 7 => [3, 3, 3, 3, 3, 3, 3, 3, 3, 1, 1, 1]
  | 8 => [0, 0, 0, 3, 3, 1, 1, 0, 3, 3, 3, 0, 3, 0, 0, 0, 0, 3, 1, 0, 3, 3, 3, 3, 3, 3, 0, 3, 3, 3, 3, 3, 2]
  | _ => []
def xfv (ad : Nat → Nat) (a : Nat → Int32) (b : Nat → Int64) (r : Nat → Option Nat) (j t : Nat) : Value := match t with
  | 2 => .long (b j)
  | 3 => va_rf ((r j).map ad)
  | _ => .int (a j)
def xfl (ad : Nat → Nat) (a : Nat → Int32) (b : Nat → Int64) (r : Nat → Option Nat) (c : Nat) : List Value := (xfk c).mapIdx (xfv ad a b r)
/-- kinds of cells: 1 int[], 2 long[], 3 boolean[], 4 double[], 5 int[][], 6 Picture[], c + 7 an object of class c -/
def xent (ad : Nat → Nat) (cT : Nat → ClassId) (g : xGC) (a : Nat → Int32) (b : Nat → Int64) (d : Nat → UInt64) : va_E := match g.1 with
  | 1 => .inl (cT 0, g.2.1, .inl a)
  | 2 => .inl (cT 1, g.2.1, .inr (.inl b))
  | 3 => .inl (cT 2, g.2.1, .inl a)
  | 4 => .inl (cT 3, g.2.1, .inr (.inr (.inr (.inl d))))
  | 5 => .inl (cT 4, g.2.1, .inr (.inr (.inr (.inr (fun i => (g.2.2 i).map ad)))))
  | 6 => .inl (cT 5, g.2.1, .inr (.inr (.inr (.inr (fun i => (g.2.2 i).map ad)))))
  | c => .inr (c - 7, xfl ad a b g.2.2 (c - 7))
def xwl (ad : Nat → Nat) (cT : Nat → ClassId) (N : Nat) (G : xG) (A : xA) (B : xB) (D : xD) : va_W := (List.range N).map fun k => (ad k, xent ad cT (G k) (A k) (B k) (D k))
abbrev xty (cT : Nat → ClassId) : List (ClassId × FieldType) := [(cT 0, .int), (cT 1, .long), (cT 2, .boolean), (cT 3, .double), (cT 4, .array .int), (cT 5, .object "ComponentTree$Picture")]
theorem xwl_get {ad : Nat → Nat} {cT : Nat → ClassId} {N : Nat} {G : xG} {A : xA} {B : xB} {D : xD} {k : Nat} (h : k < N) : (xwl ad cT N G A B D)[k]? = some (ad k, xent ad cT (G k) (A k) (B k) (D k)) := by
  simp [xwl, List.getElem?_range h]
theorem xwl_len (ad : Nat → Nat) (cT : Nat → ClassId) (N : Nat) (G : xG) (A : xA) (B : xB) (D : xD) : (xwl ad cT N G A B D).length = N := by simp [xwl]
theorem xwl_some {ad : Nat → Nat} {cT : Nat → ClassId} {N : Nat} {G : xG} {A : xA} {B : xB} {D : xD} {k : Nat} {q : Nat × va_E} (h : (xwl ad cT N G A B D)[k]? = some q) : k < N ∧ q = (ad k, xent ad cT (G k) (A k) (B k) (D k)) := by
  have h1 : k < N := by have := (List.getElem?_eq_some_iff.mp h).1; rwa [xwl_len] at this
  rw [xwl_get h1] at h
  exact ⟨h1, (Option.some.inj h).symm⟩
theorem xwl_set {ad : Nat → Nat} {cT : Nat → ClassId} {N : Nat} {G G' : xG} {A A' : xA} {B B' : xB} {D D' : xD} {k : Nat} {e : va_E} (h : k < N) (ho : ∀ j, j ≠ k → G' j = G j ∧ A' j = A j ∧ B' j = B j ∧ D' j = D j) (he : e = xent ad cT (G' k) (A' k) (B' k) (D' k)) : (xwl ad cT N G A B D).set k (ad k, e) = xwl ad cT N G' A' B' D' := by
  apply List.ext_getElem?
  intro j
  by_cases hj : j < N
  · rw [xwl_get hj]
    by_cases e1 : j = k
    · subst e1
      rw [List.getElem?_set_self (by rw [xwl_len]; exact hj), he]
    · rw [List.getElem?_set_ne (Ne.symm e1), xwl_get hj]
      obtain ⟨h1, h2, h3, h4⟩ := ho j e1
      rw [h1, h2, h3, h4]
  · rw [List.getElem?_eq_none (by rw [List.length_set, xwl_len]; omega), List.getElem?_eq_none (by rw [xwl_len]; omega)]
/-- the addresses are apart, and of a kind -/
def xdom (As : Nat → Prop) (ad : Nat → Nat) (N : Nat) : Prop := (∀ i j, i < N → j < N → ad i = ad j → i = j) ∧ ∀ k, k < N → As (ad k)
theorem xdom_D {As : Nat → Prop} {ad : Nat → Nat} {cT : Nat → ClassId} {N : Nat} {G : xG} {A : xA} {B : xB} {D : xD} (h : xdom As ad N) : va_D As (xwl ad cT N G A B D) := by
  refine ⟨fun i j p q hi hj hpq => ?_, fun k q hk => ?_⟩
  · obtain ⟨l1, rfl⟩ := xwl_some hi
    obtain ⟨l2, rfl⟩ := xwl_some hj
    exact h.1 i j l1 l2 hpq
  · obtain ⟨l1, rfl⟩ := xwl_some hk
    exact h.2 k l1
theorem xdom_of {As : Nat → Prop} {ad : Nat → Nat} {cT : Nat → ClassId} {N : Nat} {G : xG} {A : xA} {B : xB} {D : xD} (h : va_D As (xwl ad cT N G A B D)) : xdom As ad N :=
  ⟨fun i j l1 l2 e => h.1 i j _ _ (xwl_get l1) (xwl_get l2) e, fun k l1 => h.2 k _ (xwl_get l1)⟩
theorem xfl_get {ad : Nat → Nat} {a : Nat → Int32} {b : Nat → Int64} {r : Nat → Option Nat} {c j t : Nat} (h : (xfk c)[j]? = some t) : (xfl ad a b r c)[j]? = some (xfv ad a b r j t) := by
  simp [xfl, List.getElem?_mapIdx, h]
theorem xfl_set {ad : Nat → Nat} {a a' : Nat → Int32} {b b' : Nat → Int64} {r r' : Nat → Option Nat} {c j t : Nat} {v : Value} (h : (xfk c)[j]? = some t) (hv : v = xfv ad a' b' r' j t) (ho : ∀ i, i ≠ j → a' i = a i ∧ b' i = b i ∧ r' i = r i) : (xfl ad a b r c).set j v = xfl ad a' b' r' c := by
  have hl := (List.getElem?_eq_some_iff.mp h).1
  apply List.ext_getElem?
  intro i
  by_cases e1 : i = j
  · subst e1
    rw [List.getElem?_set_self (by simp [xfl]; exact hl), xfl_get h, hv]
  · rw [List.getElem?_set_ne (Ne.symm e1)]
    obtain ⟨h1, h2, h3⟩ := ho i e1
    simp only [xfl, List.getElem?_mapIdx]
    cases (xfk c)[i]? with
    | none => rfl
    | some t' => simp only [Option.map_some, xfv, h1, h2, h3]
/-! CORE, 2: what moves along with the states: words that the kit's lists can't carry -/
def xnwOK : Cond → Bool
  | .methodLinkNest .. | .castable .. | .declares _ => true
  | _ => false
abbrev xnw : List Cond := lw_tbl.filter xnwOK
def xMov (U : State) : Prop := (∀ w ∈ xnw, va_Nw w U) ∧ (∃ a1, vk_R "ComponentTree" 286 "an argument is out of range" a1 U) ∧ (∃ a2, vk_R "ComponentTree" 279 "there is no such number" a2 U) ∧ ∃ a3, vk_R "ComponentTree" 291 "the state does not allow this call" a3 U
theorem xMov.warm {s U : State} (hW : s.WarmedH U.vm) (h : xMov s) : xMov U := by
  obtain ⟨h1, ⟨a1, h2⟩, ⟨a2, h3⟩, a3, h4⟩ := h
  refine ⟨fun w hw => ?_, ⟨a1, h2.warm hW⟩, ⟨a2, h3.warm hW⟩, a3, h4.warm hW⟩
  have hk := (List.mem_filter.mp hw).2
  have h0 := h1 w hw
  cases w <;> first | exact va_Nw.warmM hW h0 | exact va_Nw.warmC hW h0 | exact va_Nw.warmD hW h0 | (simp [xnwOK] at hk)
theorem xMov.same {s U : State} (hW : U.vm = s.vm) (h : xMov s) : xMov U := by
  obtain ⟨h1, ⟨a1, h2⟩, ⟨a2, h3⟩, a3, h4⟩ := h
  refine ⟨fun w hw => ?_, ⟨a1, h2.same hW⟩, ⟨a2, h3.same hW⟩, a3, h4.same hW⟩
  have hk := (List.mem_filter.mp hw).2
  have h0 := h1 w hw
  refine va_Nw.same ?_ hW.symm h0
  cases w <;> first | rfl | (simp [xnwOK] at hk)
def xZ (As : Nat → Prop) (U : State) (H : Heap) : Prop := vx_Zq Bundle.tN "UNASSIGNED_STACK" Bundle.steD As U H ∧ vx_Zq Bundle.tN "SUPPRESSED_SENTINEL" Bundle.listD As U H
/-- the words that a list carries -/
def xT : List Cond := lw_tbl.filter goodWord
theorem xT_good {ws : List Cond} (h : ∀ w ∈ ws, w ∈ xT) : GoodIn xT ws := fun w hw => ⟨h w hw, good_of_word (List.mem_filter.mp (h w hw)).2⟩
theorem xT_mem {w : Cond} (h1 : w ∈ lw_tbl) (h2 : goodWord w = true) : w ∈ xT := List.mem_filter.mpr ⟨h1, h2⟩
