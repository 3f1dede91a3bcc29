/-! rows of constructors -/
abbrev eAO : State → (Nat → Prop) → (Nat → Nat) → Prop := fun s _ _ => xAO s
abbrev qW (w' : List xc) : xQ := fun r N' G' A' B' D' => r = none ∧ N' = w'.length ∧ G' = gG w' ∧ A' = gA w' ∧ B' = gB w' ∧ D' = gD w'
abbrev xN : xQX := fun _ _ _ _ _ _ => False
def kdoes (M : xMI) (n : Nat) (w w' : List xc) : Prop :=
  ∀ (l : Launch), l.stackTraces = false → ∀ (Dg : va_G) (cT : Nat → ClassId) (ad : Nat → Nat) (sz : Nat),
    vx_Met l (mY M) (xws M) (mO M) (va_Pc ([Value.ref n].map (xtr ad)) (fun U => xPre Dg cT ad w.length (gG w) (gA w) (gB w) (gD w) sz U ∧ xAO U)) (xQc Dg cT ad w.length (xAs ad w.length sz) (qW w')) (xXc Dg cT ad w.length (xAs ad w.length sz) xN) (mO M).cells (mO M).slots (xAs ad w.length sz)
theorem kdoes_go {M : xMI} {n : Nat} {w w' : List xc} (hpn : plainName (mY M).cls = true) (hh : mH M = []) (hlen : 1 ≤ mL M) (k : yw eAO M w.length (qW w') xN 0 0 0 [(0, .ref n)] [] w) : kdoes M n w w' := by
  intro l hl Dg cT ad sz
  have hcw : xcw M = .code (mY M) (mC M) (mL M) (mR M) := by unfold xcw; rw [hh]
  refine vx_ofW (cc := mC M) (maxL := mL M) (ret := mR M) (ws' := xT) hpn (by rw [xws, hcw]) ?_
  intro p e s m args below meth c s₁ Bd hml htab hv
  obtain ⟨rfl, ⟨hsz, hP, hdm, hK, hMv, hZ, hG⟩, hN⟩ := hv
  subst hsz
  have hts : ∀ w1 ∈ xT, w1.before ([Value.ref n].map (xtr ad)).toArray s = true := fun w1 hw => atoms_spec (ws := xws M) Bd.pre w1 (List.mem_cons_of_mem _ hw)
  have hdm2 : xdom (xAs ad w.length s.heap.size) ad w.length := ⟨hdm.1, fun k hk => Or.inl ⟨k, hk, rfl⟩⟩
  have hS : xS M p l s m ([Value.ref n].map (xtr ad)).toArray meth c Dg cT (xAs ad w.length s.heap.size) :=
    ⟨Bd.exec, Bd.bytes, hml, Bd.returns, Bd.notSynchronized, (name_of_methodNamed Bd.named Bd.method).1, findClass_of_methodNamed Bd.named, hts, hl, by
      rw [hh]
      have : c.exceptionTable.toList = [] := List.eq_nil_iff_forall_not_mem.mpr (fun x hx => htab x hx)
      rw [this]; rfl, hK, hMv, hZ, fun q hq => Or.inr hq⟩
  have hl0 := lv_entry ([Value.ref n].map (xtr ad)) (n := mL M) hlen
  rw [lg_entry_eq]
  rw [xlv_args] at hl0
  exact k p l e s m _ below meth c Dg cT _ ad ad s.heap [] _ _ hN hS ⟨va_S.rf, hP, hdm2, hG, ⟨Nat.le_refl _, fun _ _ => rfl⟩, hl0⟩ (xclose hS) (xcloseX hS)
section AR
variable {EX : State → (Nat → Prop) → (Nat → Nat) → Prop} {M : xMI} {N0 : Nat} {Q : xQ} {QX : xQX} {cs sl pc : Nat} {lv : xLV} {st : List Value} {w : List xc}
/-- Object's constructor -/
theorem yw_obj {idx n : Nat} (hd : decode (mC M) pc = .ok (.invokespecial idx, 3)) (hw : Cond.methodLink (mY M).cls idx Lib.objectInit ∈ xT ∧ Cond.instanceMethod Lib.objectInit ∈ xT ∧ Cond.code Lib.objectInit { data := #[177] } 1 none ∈ xT) (hR : 1 ≤ (mO M).frames ∧ 20 ≤ (mO M).locals) (hst : (st.map fun v => v.category).sum ≤ 8) (k : yw EX M N0 Q QX cs sl (pc + 3) lv st w) : yw EX M N0 Q QX cs sl pc lv (.ref n :: st) w := by
  intro p l e s m args below meth c Dg cT As ad0 ad H locs ls Z hE0 hS hV hr he
  obtain ⟨hx, hb, hml, hrt, hlk, hnm, hown, hts, hsk, htb, hK, hMv, hZ, hA⟩ := id hS
  have h8 : 2 * (F0 m pc ls ((Value.ref n :: st).map (xtr ad))).monitorRoom + ((st.map (xtr ad)).map fun v => v.category).sum ≤ 8 := lv_room (by rw [xcat]; exact hst)
  exact W.objInit hx hb hown (hts _ hw.1) (hts _ hw.2.1) (hts _ hw.2.2) (g := F0 m pc ls ((Value.ref n :: st).map (xtr ad))) rfl (hV.2.2.2.2.2.1.trans hml.symm) rfl hd hR.1 (by have := hR.2; omega) (k p l e s m args below meth c Dg cT As ad0 ad H locs ls Z hE0 hS hV hr he)
/-- new C -/
theorem yw_new {idx ci n : Nat} {C : String} {T : u_T} {ty : Nat → FieldType} {c : xc} (hd : decode (mC M) pc = .ok (.new idx, 3)) (hc : vwCl[ci]? = some (C, T, n)) (hw : Cond.classLink (mY M).cls idx C ∈ xT ∧ Cond.instantiable C n ∈ xT ∧ Cond.initialized C ∈ xT) (hty : ∀ k, k < n → parseFieldDescriptor (T k).2.2.1 = some (ty k)) (hcl : wcl w.length w) (hc7 : ∀ ad cT, xwc ad cT c = .inr (ci, xfl ad (fun _ => 0) (fun _ => 0) (fun _ => none) ci)) (hdf : ∀ ad j, j < n → defaultValue (ty j) = vp_V (xfl ad (fun _ => 0) (fun _ => 0) (fun _ => none) ci) j) (hR : cs + 1 ≤ (mO M).cells ∧ sl + n ≤ (mO M).slots) (hlv : lv.all (fun q => xnr w.length 1 q.2) = true) (hst : st.all (xnr w.length 1) = true)
    (k : yw EX M N0 Q QX (cs + 1) (sl + n) (pc + 3) lv (.ref w.length :: st) (w ++ [c])) : yw EX M N0 Q QX cs sl pc lv st w := by
  intro p l e s m args below meth c0 Dg cT As ad0 ad H locs ls Z hE0 hS hV hr he
  obtain ⟨hx, hb, hml, hrt, hlk, hnm, hown, hts, hsk, htb, hK, hMv, hZ, hA⟩ := id hS
  obtain ⟨v1, v2, v3, v4, v5, v6⟩ := id hV
  refine va_new (ci := ci) (fs := xfl ad (fun _ => 0) (fun _ => 0) (fun _ => none) ci) (C := C) (T := T) (N := n) (rest := st.map (xtr ad)) hx hb hts (xin ci hc) ty hty hown (hts _ hw.1) (hts _ hw.2.1) (hts _ hw.2.2) hK v2 (xdom_D v3) v1 hA hc (hdf ad) hR.1 hR.2 hd (fun q H1 hP hD hS1 => ?_)
  rw [wls_eq] at hP hD
  have e1 : wls ad cT w ++ [(q, Sum.inr (ci, xfl ad (fun _ => 0) (fun _ => 0) (fun _ => none) ci))] = wls ad cT w ++ List.zipWith (fun q c => (q, xwc (adp ad w.length [q]) cT c)) [q] [c] := by
    show _ = wls ad cT w ++ [(q, xwc (adp ad w.length [q]) cT c)]
    rw [hc7]
    rfl
  rw [e1] at hP hD
  have hV2 := xV_push (cs := [c]) (qs := [q]) hV hcl rfl hP hD hS1 hlv
  have := k p l e s m args below meth c0 Dg cT As ad0 _ H1 locs ls Z hE0 hS hV2 hr he
  rw [List.map_cons, xmap_nr (qs := [q]) hst] at this
  have e2 : xtr (adp ad w.length [q]) (.ref w.length) = .ref q := congrArg Value.ref (adp_i (i := 0) Nat.zero_lt_one)
  rw [e2] at this
  exact this
/-- new t[n], t a simple type -/
theorem yw_newa {at1 : ArrayType} {t n : Nat} {i : Int32} {ty : FieldType} {a0 : vp_A} {c : xc} (hd : decode (mC M) pc = .ok (.newarray at1, 2)) (hw : Cond.arrayClass ty ∈ xT) (hty : newarray.typeOf at1 = ty) (ht : ∀ cT, (xty cT)[t]? = some (cT t, ty)) (ha0 : ∀ cA : ClassId, vp_cell cA a0 = arrV cA n (fun _ => defaultValue ty)) (hcl : wcl w.length w) (hc7 : ∀ ad cT, xwc ad cT c = .inl (cT t, a0)) (hi : ¬ i < 0) (hn : i.toNatClampNeg = n) (hby : n * componentBytes ty ≤ 536870912) (hR : cs + 1 ≤ (mO M).cells ∧ sl + n ≤ (mO M).slots) (hlv : lv.all (fun q => xnr w.length 1 q.2) = true) (hst : st.all (xnr w.length 1) = true)
    (k : yw EX M N0 Q QX (cs + 1) (sl + n) (pc + 2) lv (.ref w.length :: st) (w ++ [c])) : yw EX M N0 Q QX cs sl pc lv (.int i :: st) w := by
  intro p l e s m args below meth c0 Dg cT As ad0 ad H locs ls Z hE0 hS hV hr he
  obtain ⟨hx, hb, hml, hrt, hlk, hnm, hown, hts, hsk, htb, hK, hMv, hZ, hA⟩ := id hS
  obtain ⟨v1, v2, v3, v4, v5, v6⟩ := id hV
  refine va_newa (atype := at1) (rest := st.map (xtr ad)) (a0 := a0) hx hb (by rw [hty]; exact hts _ hw) hty hK v2 (xdom_D v3) v1 hA ha0 hi hn hby hR.1 hR.2 hd (fun q cA H1 hK2 hP hD hS1 => ?_)
  rw [wls_eq] at hP hD
  have e0 : cA = cT t := xKty t hK hK2 (ht cT)
  have e1 : wls ad cT w ++ [(q, Sum.inl (cA, a0))] = wls ad cT w ++ List.zipWith (fun q c => (q, xwc (adp ad w.length [q]) cT c)) [q] [c] := by
    show _ = wls ad cT w ++ [(q, xwc (adp ad w.length [q]) cT c)]
    rw [hc7, e0]
  rw [e1] at hP hD
  have hV2 := xV_push (cs := [c]) (qs := [q]) hV hcl rfl hP hD hS1 hlv
  have := k p l e s m args below meth c0 Dg cT As ad0 _ H1 locs ls Z hE0 hS hV2 hr he
  rw [List.map_cons, xmap_nr (qs := [q]) hst] at this
  have e2 : xtr (adp ad w.length [q]) (.ref w.length) = .ref q := congrArg Value.ref (adp_i (i := 0) Nat.zero_lt_one)
  rw [e2] at this
  exact this
/-- new Picture[n] -/
theorem yw_newq {idx n : Nat} {i : Int32} (hd : decode (mC M) pc = .ok (.anewarray idx, 3)) (hE : ∀ s As ad0, EX s As ad0 → xAO s) (hw : Cond.classLink (mY M).cls idx "ComponentTree$Picture" ∈ xT) (hcl : wcl w.length w) (hi : ¬ i < 0) (hn : i.toNatClampNeg = n) (hby : n * 4 ≤ 536870912) (hR : cs + 1 ≤ (mO M).cells ∧ sl + n ≤ (mO M).slots) (hlv : lv.all (fun q => xnr w.length 1 q.2) = true) (hst : st.all (xnr w.length 1) = true)
    (k : yw EX M N0 Q QX (cs + 1) (sl + n) (pc + 3) lv (.ref w.length :: st) (w ++ [rc 6 n (fun _ => none)])) : yw EX M N0 Q QX cs sl pc lv (.int i :: st) w := by
  intro p l e s m args below meth c0 Dg cT As ad0 ad H locs ls Z hE0 hS hV hr he
  obtain ⟨hx, hb, hml, hrt, hlk, hnm, hown, hts, hsk, htb, hK, hMv, hZ, hA⟩ := id hS
  obtain ⟨v1, v2, v3, v4, v5, v6⟩ := id hV
  refine va_newq (rest := st.map (xtr ad)) hx hb hown (hts _ hw) (hE _ _ _ hE0).1 hK v2 (xdom_D v3) v1 hA hi hn hby hR.1 hR.2 hd (fun q cA H1 hK2 hP hD hS1 => ?_)
  rw [wls_eq] at hP hD
  have e0 : cA = cT 5 := xKty 5 hK hK2 rfl
  have e1 : wls ad cT w ++ [(q, (Sum.inl (cA, n, .inr (.inr (.inr (.inr (fun _ => none))))) : va_E))] = wls ad cT w ++ List.zipWith (fun q c => (q, xwc (adp ad w.length [q]) cT c)) [q] [rc 6 n (fun _ => none)] := by
    rw [e0]; rfl
  rw [e1] at hP hD
  have hV2 := xV_push (cs := [rc 6 n (fun _ => none)]) (qs := [q]) hV hcl rfl hP hD hS1 hlv
  have := k p l e s m args below meth c0 Dg cT As ad0 _ H1 locs ls Z hE0 hS hV2 hr he
  rw [List.map_cons, xmap_nr (qs := [q]) hst] at this
  have e2 : xtr (adp ad w.length [q]) (.ref w.length) = .ref q := congrArg Value.ref (adp_i (i := 0) Nat.zero_lt_one)
  rw [e2] at this
  exact this
end AR

