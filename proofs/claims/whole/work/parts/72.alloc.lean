/-! what a constructor needs besides: array classes over others -/
theorem alike_kinds {u U : Vm} (h : u.Alike U) : U.classes.map (fun k => k.kind) = u.classes.map (fun k => k.kind) := by
  apply Array.ext
  · rw [Array.size_map, Array.size_map]; exact h.2.1
  · intro i h1 h2
    rw [Array.size_map] at h1 h2
    obtain ⟨k', hk', he⟩ := h.2.2 i _ (Array.getElem?_eq_getElem h2)
    rw [Array.getElem_map, Array.getElem_map]
    have : U.classes[i] = k' := by rw [Array.getElem?_eq_getElem h1] at hk'; exact Option.some.inj hk'
    rw [this, he]
theorem alike_over {u U : Vm} (h : u.Alike U) (a b : String) (P : ClassId → Kind → Bool) (F : Option ClassId → Nat → Kind → Bool) :
    ((U.findClass a).bind fun comp => (U.classes.findIdx? (fun x => P comp x.kind)).bind fun c => (U.classes[c]?).map fun k => F (U.findClass b) c k.kind) = ((u.findClass a).bind fun comp => (u.classes.findIdx? (fun x => P comp x.kind)).bind fun c => (u.classes[c]?).map fun k => F (u.findClass b) c k.kind) := by
  rw [h.findClass, h.findClass]
  congr 1
  funext comp
  have e1 : U.classes.findIdx? (fun x => P comp x.kind) = u.classes.findIdx? (fun x => P comp x.kind) := by
    have h1 := congrArg (fun z : Array Kind => z.findIdx? (P comp)) (alike_kinds h)
    simp only [Array.findIdx?_map] at h1
    exact h1
  rw [e1]
  congr 1
  funext c
  have e2 := congrArg (fun z : Array Kind => (z[c]?).map (F (u.findClass b) c)) (alike_kinds h)
  simp only [Array.getElem?_map, Option.map_map] at e2
  exact e2
theorem va_AOA.moved {ty : FieldType} {u U : State} (hvm : u.vm.Alike U.vm) (h : va_AOA ty u) : va_AOA ty U := by
  unfold va_AOA Cond.before Cond.holds at h ⊢
  simp only [Cond.value] at h ⊢
  exact (congrArg (fun o : Option Bool => o == some true) (alike_over hvm ty.array.toString ("[" ++ ty.array.toString) (fun comp k => match k with | .array component _ => component == comp | _ => false) (fun o c k => match k with | .array _ t => decide (t = ty.array) && decide (o = some c) | _ => false))).trans h
def xAO (s : State) : Prop := va_AO "ComponentTree$Picture" s ∧ va_AOA .int s
theorem xAO.moved {u U : State} (hvm : u.vm.Alike U.vm) (h : xAO u) : xAO U := ⟨va_AO.moved hvm h.1, va_AOA.moved hvm h.2⟩
/-! worlds as lists of cells -/
abbrev xc : Type := xGC × (Nat → Int32) × (Nat → Int64) × (Nat → UInt64)
def zc : xc := ((0, 0, fun _ => none), fun _ => 0, fun _ => 0, fun _ => 0)
def gG (w : List xc) : xG := fun k => (w.getD k zc).1
def gA (w : List xc) : xA := fun k => (w.getD k zc).2.1
def gB (w : List xc) : xB := fun k => (w.getD k zc).2.2.1
def gD (w : List xc) : xD := fun k => (w.getD k zc).2.2.2
def xwc (ad : Nat → Nat) (cT : Nat → ClassId) (c : xc) : va_E := xent ad cT c.1 c.2.1 c.2.2.1 c.2.2.2
def wls (ad : Nat → Nat) (cT : Nat → ClassId) (w : List xc) : va_W := w.mapIdx fun k c => (ad k, xwc ad cT c)
theorem wls_eq (ad : Nat → Nat) (cT : Nat → ClassId) (w : List xc) : xwl ad cT w.length (gG w) (gA w) (gB w) (gD w) = wls ad cT w := by
  apply List.ext_getElem?
  intro k
  unfold wls
  rw [List.getElem?_mapIdx]
  by_cases h : k < w.length
  · rw [xwl_get h, List.getElem?_eq_getElem h]
    simp only [Option.map_some]
    unfold gG gA gB gD xwc
    rw [List.getD_eq_getElem?_getD, List.getElem?_eq_getElem h]
    rfl
  · rw [List.getElem?_eq_none (by rw [xwl_len]; omega), List.getElem?_eq_none (by omega)]
    rfl
theorem gG_lt (w : List xc) (k : Nat) (h : (gG w k).1 ≠ 0) : k < w.length := by
  refine Nat.lt_of_not_le fun q => h ?_
  unfold gG
  rw [List.getD_eq_getElem?_getD, List.getElem?_eq_none q]
  rfl
/-- the references of a cell lie below n -/
def wcl (n : Nat) (w : List xc) : Prop := ∀ c ∈ w, ∀ j i, c.1.2.2 j = some i → i < n
theorem xwc_ad {ad ad' : Nat → Nat} {cT : Nat → ClassId} {c : xc} (h : ∀ j i, c.1.2.2 j = some i → ad' i = ad i) : xwc ad' cT c = xwc ad cT c := by
  have hf : ∀ j, (c.1.2.2 j).map ad' = (c.1.2.2 j).map ad := fun j => by
    cases hj : c.1.2.2 j with
    | none => rfl
    | some i => exact congrArg some (h j i hj)
  have hx : ∀ n, xfl ad' c.2.1 c.2.2.1 c.1.2.2 n = xfl ad c.2.1 c.2.2.1 c.1.2.2 n := fun n => by
    unfold xfl
    congr 1
    funext j t
    unfold xfv
    rw [hf]
  have hg : (fun i => (c.1.2.2 i).map ad') = fun i => (c.1.2.2 i).map ad := funext hf
  unfold xwc xent
  rw [hg]
  split <;> first | rfl | rw [hx]
def adp (ad : Nat → Nat) (n : Nat) (qs : List Nat) : Nat → Nat := fun k => if n ≤ k ∧ k < n + qs.length then qs.getD (k - n) 0 else ad k
theorem adp_o {ad : Nat → Nat} {n : Nat} {qs : List Nat} {k : Nat} (h : ¬ (n ≤ k ∧ k < n + qs.length)) : adp ad n qs k = ad k := if_neg h
theorem adp_i {ad : Nat → Nat} {n : Nat} {qs : List Nat} {i : Nat} (h : i < qs.length) : adp ad n qs (n + i) = qs.getD i 0 := by
  unfold adp
  rw [if_pos ⟨by omega, by omega⟩, Nat.add_sub_cancel_left]
theorem wls_push {ad : Nat → Nat} {cT : Nat → ClassId} {w cs : List xc} {qs : List Nat} (hcl : wcl w.length w) (hl : qs.length = cs.length) : wls (adp ad w.length qs) cT (w ++ cs) = wls ad cT w ++ List.zipWith (fun q c => (q, xwc (adp ad w.length qs) cT c)) qs cs := by
  apply List.ext_getElem?
  intro k
  unfold wls
  by_cases h : k < w.length
  · rw [List.getElem?_mapIdx, List.getElem?_append_left h, List.getElem?_append_left (by rw [List.length_mapIdx]; exact h), List.getElem?_mapIdx]
    rw [List.getElem?_eq_getElem h]
    simp only [Option.map_some]
    rw [adp_o (by omega), xwc_ad (fun j i hi => adp_o (by have := hcl _ (List.getElem_mem h) j i hi; omega))]
  · rw [List.getElem?_mapIdx, List.getElem?_append_right (by omega), List.getElem?_append_right (by rw [List.length_mapIdx]; omega), List.length_mapIdx, List.getElem?_zipWith]
    by_cases h2 : k - w.length < cs.length
    · rw [List.getElem?_eq_getElem h2, List.getElem?_eq_getElem (by rw [hl]; exact h2)]
      simp only [Option.map_some]
      have e : k = w.length + (k - w.length) := by omega
      have e2 : adp ad w.length qs k = qs[k - w.length]'(by rw [hl]; exact h2) := by
        have h3 := adp_i (ad := ad) (n := w.length) (qs := qs) (i := k - w.length) (by rw [hl]; exact h2)
        rw [← e, List.getD_eq_getElem?_getD, List.getElem?_eq_getElem (by rw [hl]; exact h2)] at h3
        exact h3
      rw [e2]
    · rw [List.getElem?_eq_none (by omega)]
      simp
/-- values that are not cells n .. n + d - 1 -/
def xnr (n d : Nat) : Value → Bool
  | .ref k => !(decide (n ≤ k) && decide (k < n + d))
  | _ => true
theorem xtr_nr {ad : Nat → Nat} {n : Nat} {qs : List Nat} {v : Value} (h : xnr n qs.length v = true) : xtr (adp ad n qs) v = xtr ad v := by
  cases v with
  | ref k => exact congrArg Value.ref (adp_o (fun q => by simp [xnr, q.1, q.2] at h))
  | _ => rfl
theorem xmap_nr {ad : Nat → Nat} {n : Nat} {qs : List Nat} {st : List Value} (h : st.all (xnr n qs.length) = true) : st.map (xtr (adp ad n qs)) = st.map (xtr ad) :=
  List.map_congr_left fun v hm => xtr_nr (List.all_eq_true.mp h v hm)
theorem xlv_nr {ad : Nat → Nat} {n : Nat} {qs : List Nat} {lv : xLV} (h : lv.all (fun q => xnr n qs.length q.2) = true) : xlv (adp ad n qs) lv = xlv ad lv :=
  List.map_congr_left fun q hm => by rw [xtr_nr (List.all_eq_true.mp h q hm)]
abbrev yw (EX : State → (Nat → Prop) → (Nat → Nat) → Prop) (M : xMI) (N0 : Nat) (Q : xQ) (QX : xQX) (cs sl pc : Nat) (lv : xLV) (st : List Value) (w : List xc) : Prop := ygo EX M N0 Q QX cs sl pc lv st w.length (gG w) (gA w) (gB w) (gD w)
theorem xV_push {M : xMI} {s : State} {Dg : va_G} {cT : Nat → ClassId} {As : Nat → Prop} {ad0 ad : Nat → Nat} {H H1 : Heap} {locs locs1 : List Loc} {ls : Array Slot} {lv : xLV} {N0 : Nat} {w cs : List xc} {qs : List Nat}
    (hV : xV M s Dg cT As ad0 ad H locs ls lv N0 w.length (gG w) (gA w) (gB w) (gD w)) (hcl : wcl w.length w) (hl : qs.length = cs.length) (hP : va_P Dg vwCl (wls ad cT w ++ List.zipWith (fun q c => (q, xwc (adp ad w.length qs) cT c)) qs cs) H1) (hD : va_D As (wls ad cT w ++ List.zipWith (fun q c => (q, xwc (adp ad w.length qs) cT c)) qs cs)) (hS1 : va_S As s.heap H1 locs1) (hlv : lv.all (fun q => xnr w.length qs.length q.2) = true) :
    xV M s Dg cT As ad0 (adp ad w.length qs) H1 locs1 ls lv N0 (w ++ cs).length (gG (w ++ cs)) (gA (w ++ cs)) (gB (w ++ cs)) (gD (w ++ cs)) := by
  obtain ⟨v1, v2, v3, v4, v5, v6⟩ := hV
  rw [← wls_push hcl hl, ← wls_eq] at hP hD
  refine ⟨hS1, hP, xdom_of hD, gG_lt _, ⟨by rw [List.length_append]; have := v5.1; omega, fun k hk => ?_⟩, by rw [xlv_nr hlv]; exact v6⟩
  rw [adp_o (by rw [List.length_append] at hk; have := v5.1; omega)]
  exact v5.2 k (by rw [List.length_append] at hk; omega)
/-- array classes are one for a type -/
theorem xKty {Dg : va_G} {cT : Nat → ClassId} {s : State} {cA : ClassId} {ty : FieldType} (t : Nat) (hK : va_K Dg vwCl (xty cT) s) (hK2 : va_K Dg vwCl (xty cT ++ [(cA, ty)]) s) (ht : (xty cT)[t]? = some (cT t, ty)) : cA = cT t := by
  have h1 := (hK.2 t _ ht).2
  have h2 := (hK2.2 6 (cA, ty) rfl).2
  cases ty with
  | object C =>
    obtain ⟨kA, comp, -, -, -, e1⟩ := h1
    obtain ⟨kA2, comp2, -, -, -, e2⟩ := h2
    exact (Option.some.inj (e1.symm.trans e2)).symm
  | _ => exact (Option.some.inj (Eq.trans (Eq.symm h1) h2)).symm
/-! cells by lists of what their fields hold -/
def lkR (l : List (Option Nat)) : Nat → Option Nat := fun j => l.getD j none
def lkA (l : List Int32) : Nat → Int32 := fun j => l.getD j 0
def lkB (l : List Int64) : Nat → Int64 := fun j => l.getD j 0
abbrev oc (ci : Nat) (r : List (Option Nat)) (a : List Int32) (b : List Int64) : xc := ((ci + 7, 0, lkR r), lkA a, lkB b, fun _ => 0)
abbrev ac (t n : Nat) : xc := ((t, n, fun _ => none), fun _ => 0, fun _ => 0, fun _ => 0)
abbrev rc (t n : Nat) (f : Nat → Option Nat) : xc := ((t, n, f), fun _ => 0, fun _ => 0, fun _ => 0)
def oz (ci : Nat) : xc := oc ci (List.replicate (xfk ci).length none) (List.replicate (xfk ci).length 0) (List.replicate (xfk ci).length 0)

