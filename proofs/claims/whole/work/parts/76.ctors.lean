/-! the constructors (printed by ctors.py) -/
theorem wcl_n (m : Nat) : wcl m [] := fun c h => nomatch h
theorem wcl_c {m : Nat} {c : xc} {t : List xc} (h : ∀ j i, c.1.2.2 j = some i → i < m) (ht : wcl m t) : wcl m (c :: t) := fun c' hc => (List.mem_cons.mp hc).elim (fun e => e ▸ h) (ht c')
theorem wcl_ap {m : Nat} {a b : List xc} (h1 : wcl m a) (h2 : wcl m b) : wcl m (a ++ b) := fun c hc => (List.mem_append.mp hc).elim (h1 c) (h2 c)
theorem wcl_mo {m m' : Nat} {a : List xc} (h : wcl m a) (hm : m ≤ m') : wcl m' a := fun c hc j i hi => Nat.lt_of_lt_of_le (h c hc j i hi) hm
theorem rrow {m c k : Nat} (hk : c + m ≤ k) : ∀ j i, (if j < m then some (c + j) else none) = some i → i < k := fun j i h => by
  split at h
  · cases h; omega
  · cases h
theorem ok_ac {m t n : Nat} : ∀ j i, (ac t n).1.2.2 j = some i → i < m := fun j i h => nomatch h
def rok (m : Nat) (l : List (Option Nat)) : Prop := ∀ o ∈ l, ∀ i, o = some i → i < m
theorem rok_n {m : Nat} : rok m [] := fun o h => nomatch h
theorem rok_0 {m : Nat} {l : List (Option Nat)} (h : rok m l) : rok m (none :: l) := fun o ho i hi => (List.mem_cons.mp ho).elim (fun e => by rw [e] at hi; cases hi) (fun q => h o q i hi)
theorem rok_1 {m i0 : Nat} {l : List (Option Nat)} (h0 : i0 < m) (h : rok m l) : rok m (some i0 :: l) := fun o ho i hi => (List.mem_cons.mp ho).elim (fun e => by rw [e] at hi; cases hi; exact h0) (fun q => h o q i hi)
theorem rok_set {m i0 j : Nat} {l : List (Option Nat)} (h0 : i0 < m) (h : rok m l) : rok m (l.set j (some i0)) := fun o ho i hi => (List.mem_or_eq_of_mem_set ho).elim (fun q => h o q i hi) (fun e => by rw [e] at hi; cases hi; exact h0)
theorem xwc_oc {ad : Nat → Nat} {cT : Nat → ClassId} {ci : Nat} {r : List (Option Nat)} {a : List Int32} {b : List Int64} : xwc ad cT (oc ci r a b) = .inr (ci, xfl ad (lkA a) (lkB b) (lkR r) ci) := by
  show (Sum.inr (ci + 7 - 7, xfl ad (lkA a) (lkB b) (lkR r) (ci + 7 - 7)) : va_E) = _
  rw [Nat.add_sub_cancel]
theorem ok_oc {m ci : Nat} {r : List (Option Nat)} {a : List Int32} {b : List Int64} (h : rok m r) : ∀ j i, (oc ci r a b).1.2.2 j = some i → i < m := fun j i hi => by
  have h1 : r.getD j none = some i := hi
  rw [List.getD_eq_getElem?_getD] at h1
  cases h2 : r[j]? with
  | none => rw [h2] at h1; cases h1
  | some o => rw [h2] at h1; exact h o (List.mem_of_getElem? h2) i h1
section CT
variable {EX : State → (Nat → Prop) → (Nat → Nat) → Prop} {M : xMI} {N0 : Nat} {Q : xQ} {QX : xQX} {cs sl pc : Nat} {lv : xLV} {st : List Value} {w w' w1 t post : List xc} {c0 : xc} {r : List (Option Nat)} {a : List Int32} {b : List Int64}
theorem yw_as (k : yw EX M N0 Q QX cs sl pc lv st (w1 ++ c0 :: (t ++ post))) : yw EX M N0 Q QX cs sl pc lv st ((w1 ++ c0 :: t) ++ post) := by
  have e : (w1 ++ c0 :: t) ++ post = w1 ++ c0 :: (t ++ post) := List.append_assoc w1 (c0 :: t) post
  rw [e]; exact k
theorem yw_ret (hd : decode (mC M) pc = .ok (.return_, 1)) (hR : mR M = none) (hc : cs ≤ (mO M).cells) (hs : sl ≤ (mO M).slots) (he : w = w') : yw EX M N0 (qW w') QX cs sl pc lv [] w := by
  subst he
  exact yi_ret (r := none) (by unfold xret; rw [hR]; exact hd) hc hs ⟨rfl, rfl, rfl, rfl, rfl, rfl⟩
theorem yw_getR {idx ci j n i0 : Nat} (hd : decode (mC M) pc = .ok (.getfield idx, 3)) (hf : xfok (mY M).cls idx ci j 3) (hn : w1.length = n) (hr0 : lkR r j = some i0) (hc5 : ∀ ad cT, xwc ad cT (oc ci r a b) = .inr (ci, xfl ad (lkA a) (lkB b) (lkR r) ci)) (k : yw EX M N0 Q QX cs sl (pc + 3) lv (.ref i0 :: st) (w1 ++ oc ci r a b :: t)) : yw EX M N0 Q QX cs sl pc lv (.ref n :: st) (w1 ++ oc ci r a b :: t) := by
  subst hn
  intro p l e s m args below meth c Dg cT As ad0 ad H locs ls Z hE0 hS hV hr he
  obtain ⟨hx, hb, hml, hrt, hlk, hnm, hown, hts, hst, htb, hK, hMv, hZ, hA⟩ := id hS
  obtain ⟨C, T, n, hc, hj, hlk2, hfk⟩ := hf
  have v2' := hV.2.1
  rw [wls_eq] at v2'
  refine va_get hx hb hts (xin ci hc) hown hK v2' w1.length (by rw [wls_at, hc5]) hc j hj (hts _ hlk2) (fun _ h => h) (xfl_get hfk) hd ?_
  show W p l e (mO M) s m args below meth c H locs cs sl Z (F0 m (pc + 3) ls (va_rf ((lkR r j).map ad) :: st.map (xtr ad)))
  rw [hr0]
  exact (k p l e s m args below meth c Dg cT As ad0 ad H locs ls Z hE0 hS hV hr he)
theorem yw_new' {idx ci n m : Nat} {C : String} {T : u_T} {ty : Nat → FieldType} {c : xc} (hm : w.length = m) (hd : decode (mC M) pc = .ok (.new idx, 3)) (hc : vwCl[ci]? = some (C, T, n)) (hw : Cond.classLink (mY M).cls idx C ∈ xT ∧ Cond.instantiable C n ∈ xT ∧ Cond.initialized C ∈ xT) (hty : ∀ k, k < n → parseFieldDescriptor (T k).2.2.1 = some (ty k)) (hcl : wcl m w) (hc7 : ∀ ad cT, xwc ad cT c = .inr (ci, xfl ad (fun _ => 0) (fun _ => 0) (fun _ => none) ci)) (hdf : ∀ ad j, j < n → defaultValue (ty j) = vp_V (xfl ad (fun _ => 0) (fun _ => 0) (fun _ => none) ci) j) (hR : cs + 1 ≤ (mO M).cells ∧ sl + n ≤ (mO M).slots) (hlv : lv.all (fun q => xnr m 1 q.2) = true) (hst : st.all (xnr m 1) = true)
    (k : yw EX M N0 Q QX (cs + 1) (sl + n) (pc + 3) lv (.ref m :: st) (w ++ [c])) : yw EX M N0 Q QX cs sl pc lv st w := by
  subst hm; exact yw_new hd hc hw hty hcl hc7 hdf hR hlv hst k
theorem yw_ctor' {M2 : xMI} {k0 idx m1 m2 : Nat} (hl1 : w.length = m1) (hl2 : w'.length = m2) (hd : decode (mC M) pc = .ok (.invokespecial idx, 3)) (hw : Cond.methodLink (mY M).cls idx (mY M2) ∈ xT ∧ Cond.instanceMethod (mY M2) ∈ xT ∧ Cond.initialized (mY M2).cls ∈ xT ∧ Cond.code (mY M2) (mC M2) (mL M2) none ∈ xT ∧ xdsc (mY M2) 0 ∧ (mY M2).name = "<init>") (hh : mH M2 = [] ∧ mR M2 = none) (hR : xroom M M2 cs sl) (hE : ∀ s As ad0, EX s As ad0 → xAO s) (hlen : m1 ≤ m2) (hlv : lv.all (fun q => xs2 m1 m2 q.2) = true) (hst : st.all (xs2 m1 m2) = true) (h8 : (st.map fun v => v.category).sum ≤ 8) (hC : kdoes M2 k0 w w')
    (kk : yw EX M N0 Q QX (cs + (mO M2).cells) (sl + (mO M2).slots) (pc + 3) lv st w') : yw EX M N0 Q QX cs sl pc lv (.ref k0 :: st) w := by
  subst hl1; subst hl2; exact yw_ctor hd hw hh hR hE hlen hlv hst h8 hC kk
theorem yw_ctorN' {M2 : xMI} {k0 idx m1 m2 : Nat} {host : String} (hl1 : w.length = m1) (hl2 : w'.length = m2) (hd : decode (mC M) pc = .ok (.invokespecial idx, 3)) (hw : Cond.methodLinkNest (mY M).cls idx (mY M2) host ∈ xnw ∧ Cond.instanceMethod (mY M2) ∈ xT ∧ Cond.initialized (mY M2).cls ∈ xT ∧ Cond.code (mY M2) (mC M2) (mL M2) none ∈ xT ∧ xdsc (mY M2) 0 ∧ (mY M2).name = "<init>") (hh : mH M2 = [] ∧ mR M2 = none) (hR : xroom M M2 cs sl) (hE : ∀ s As ad0, EX s As ad0 → xAO s) (hlen : m1 ≤ m2) (hlv : lv.all (fun q => xs2 m1 m2 q.2) = true) (hst : st.all (xs2 m1 m2) = true) (h8 : (st.map fun v => v.category).sum ≤ 8) (hC : kdoes M2 k0 w w')
    (kk : yw EX M N0 Q QX (cs + (mO M2).cells) (sl + (mO M2).slots) (pc + 3) lv st w') : yw EX M N0 Q QX cs sl pc lv (.ref k0 :: st) w := by
  subst hl1; subst hl2; exact yw_ctorN hd hw hh hR hE hlen hlv hst h8 hC kk
theorem yw_newa' {at1 : ArrayType} {t n m : Nat} {i : Int32} {ty : FieldType} {a0 : vp_A} {c : xc} (hm : w.length = m) (hd : decode (mC M) pc = .ok (.newarray at1, 2)) (hw : Cond.arrayClass ty ∈ xT) (hty : newarray.typeOf at1 = ty) (ht : ∀ cT, (xty cT)[t]? = some (cT t, ty)) (ha0 : ∀ cA : ClassId, vp_cell cA a0 = arrV cA n (fun _ => defaultValue ty)) (hcl : wcl m w) (hc7 : ∀ ad cT, xwc ad cT c = .inl (cT t, a0)) (hi : ¬ i < 0) (hn : i.toNatClampNeg = n) (hby : n * componentBytes ty ≤ 536870912) (hR : cs + 1 ≤ (mO M).cells ∧ sl + n ≤ (mO M).slots) (hlv : lv.all (fun q => xnr m 1 q.2) = true) (hst : st.all (xnr m 1) = true)
    (k : yw EX M N0 Q QX (cs + 1) (sl + n) (pc + 2) lv (.ref m :: st) (w ++ [c])) : yw EX M N0 Q QX cs sl pc lv (.int i :: st) w := by
  subst hm; exact yw_newa hd hw hty ht ha0 hcl hc7 hi hn hby hR hlv hst k
theorem yw_newI {n m : Nat} {i : Int32} (hm : w.length = m) (hd : decode (mC M) pc = .ok (.newarray .int, 2)) (hcl : wcl m w) (hi : ¬ i < 0) (hn : i.toNatClampNeg = n) (hby : n * 4 ≤ 536870912) (hR : cs + 1 ≤ (mO M).cells ∧ sl + n ≤ (mO M).slots) (hlv : lv.all (fun q => xnr m 1 q.2) = true) (hst : st.all (xnr m 1) = true) (k : yw EX M N0 Q QX (cs + 1) (sl + n) (pc + 2) lv (.ref m :: st) (w ++ [ac 1 n])) : yw EX M N0 Q QX cs sl pc lv (.int i :: st) w :=
  yw_newa' (t := 0) (ty := .int) (a0 := (n, .inl (fun _ => 0))) hm hd (xT_mem (by decide +kernel) rfl) rfl (fun _ => rfl) (fun _ => rfl) hcl (fun _ _ => rfl) hi hn hby hR hlv hst k
theorem yw_newJ {n m : Nat} {i : Int32} (hm : w.length = m) (hd : decode (mC M) pc = .ok (.newarray .long, 2)) (hcl : wcl m w) (hi : ¬ i < 0) (hn : i.toNatClampNeg = n) (hby : n * 8 ≤ 536870912) (hR : cs + 1 ≤ (mO M).cells ∧ sl + n ≤ (mO M).slots) (hlv : lv.all (fun q => xnr m 1 q.2) = true) (hst : st.all (xnr m 1) = true) (k : yw EX M N0 Q QX (cs + 1) (sl + n) (pc + 2) lv (.ref m :: st) (w ++ [ac 2 n])) : yw EX M N0 Q QX cs sl pc lv (.int i :: st) w :=
  yw_newa' (t := 1) (ty := .long) (a0 := (n, .inr (.inl (fun _ => 0)))) hm hd (xT_mem (by decide +kernel) rfl) rfl (fun _ => rfl) (fun _ => rfl) hcl (fun _ _ => rfl) hi hn hby hR hlv hst k
theorem yw_newZ {n m : Nat} {i : Int32} (hm : w.length = m) (hd : decode (mC M) pc = .ok (.newarray .boolean, 2)) (hcl : wcl m w) (hi : ¬ i < 0) (hn : i.toNatClampNeg = n) (hby : n * 1 ≤ 536870912) (hR : cs + 1 ≤ (mO M).cells ∧ sl + n ≤ (mO M).slots) (hlv : lv.all (fun q => xnr m 1 q.2) = true) (hst : st.all (xnr m 1) = true) (k : yw EX M N0 Q QX (cs + 1) (sl + n) (pc + 2) lv (.ref m :: st) (w ++ [ac 3 n])) : yw EX M N0 Q QX cs sl pc lv (.int i :: st) w :=
  yw_newa' (t := 2) (ty := .boolean) (a0 := (n, .inl (fun _ => 0))) hm hd (xT_mem (by decide +kernel) rfl) rfl (fun _ => rfl) (fun _ => rfl) hcl (fun _ _ => rfl) hi hn hby hR hlv hst k
theorem yw_newD {n m : Nat} {i : Int32} (hm : w.length = m) (hd : decode (mC M) pc = .ok (.newarray .double, 2)) (hcl : wcl m w) (hi : ¬ i < 0) (hn : i.toNatClampNeg = n) (hby : n * 8 ≤ 536870912) (hR : cs + 1 ≤ (mO M).cells ∧ sl + n ≤ (mO M).slots) (hlv : lv.all (fun q => xnr m 1 q.2) = true) (hst : st.all (xnr m 1) = true) (k : yw EX M N0 Q QX (cs + 1) (sl + n) (pc + 2) lv (.ref m :: st) (w ++ [ac 4 n])) : yw EX M N0 Q QX cs sl pc lv (.int i :: st) w :=
  yw_newa' (t := 3) (ty := .double) (a0 := (n, .inr (.inr (.inr (.inl (fun _ => 0)))))) hm hd (xT_mem (by decide +kernel) rfl) rfl (fun _ => rfl) (fun _ => rfl) hcl (fun _ _ => rfl) hi hn hby hR hlv hst k
theorem yw_newq' {idx n m : Nat} {i : Int32} (hm : w.length = m) (hd : decode (mC M) pc = .ok (.anewarray idx, 3)) (hE : ∀ s As ad0, EX s As ad0 → xAO s) (hw : Cond.classLink (mY M).cls idx "ComponentTree$Picture" ∈ xT) (hcl : wcl m w) (hi : ¬ i < 0) (hn : i.toNatClampNeg = n) (hby : n * 4 ≤ 536870912) (hR : cs + 1 ≤ (mO M).cells ∧ sl + n ≤ (mO M).slots) (hlv : lv.all (fun q => xnr m 1 q.2) = true) (hst : st.all (xnr m 1) = true)
    (k : yw EX M N0 Q QX (cs + 1) (sl + n) (pc + 3) lv (.ref m :: st) (w ++ [rc 6 n (fun _ => none)])) : yw EX M N0 Q QX cs sl pc lv (.int i :: st) w := by
  subst hm; exact yw_newq hd hE hw hcl hi hn hby hR hlv hst k
theorem yw_mna' {idx m : Nat} (hm : w.length = m) (hd : decode (mC M) pc = .ok (.multianewarray idx 2, 4)) (hE : ∀ s As ad0, EX s As ad0 → xAO s) (hw : Cond.classLink (mY M).cls idx "[[I" ∈ xT ∧ Cond.arrayClass .int ∈ xT) (hcl : wcl m w) (hR : cs + 13 ≤ (mO M).cells ∧ sl + 780 ≤ (mO M).slots) (hlv : lv.all (fun q => xnr m 13 q.2) = true) (hst : st.all (xnr m 13) = true)
    (k : yw EX M N0 Q QX (cs + 13) (sl + 780) (pc + 4) lv (.ref m :: st) (w ++ rc 5 12 (fun j => if j < 12 then some (m + 1 + j) else none) :: List.replicate 12 (ac 1 64))) : yw EX M N0 Q QX cs sl pc lv (.int 64 :: .int 12 :: st) w := by
  subst hm; exact yw_mna hd hE hw hcl hR hlv hst k
end CT
theorem xfl_ad {ad : Nat → Nat} {ci : Nat} : xfl ad (fun _ => 0) (fun _ => 0) (fun _ => none) ci = xfl (fun k => k) (fun _ => 0) (fun _ => 0) (fun _ => none) ci := by
  unfold xfl
  congr 1
theorem dfX0 (ad : Nat → Nat) : ∀ j, j < 2 → defaultValue (tyX0 j) = vp_V (xfl ad (fun _ => 0) (fun _ => 0) (fun _ => none) 0) j := by
  rw [xfl_ad]
  decide +kernel
theorem dfX1 (ad : Nat → Nat) : ∀ j, j < 7 → defaultValue (tyX1 j) = vp_V (xfl ad (fun _ => 0) (fun _ => 0) (fun _ => none) 1) j := by
  rw [xfl_ad]
  decide +kernel
theorem dfX2 (ad : Nat → Nat) : ∀ j, j < 3 → defaultValue (tyX2 j) = vp_V (xfl ad (fun _ => 0) (fun _ => 0) (fun _ => none) 2) j := by
  rw [xfl_ad]
  decide +kernel
theorem dfX3 (ad : Nat → Nat) : ∀ j, j < 5 → defaultValue (tyX3 j) = vp_V (xfl ad (fun _ => 0) (fun _ => 0) (fun _ => none) 3) j := by
  rw [xfl_ad]
  decide +kernel
theorem dfX4 (ad : Nat → Nat) : ∀ j, j < 4 → defaultValue (tyX4 j) = vp_V (xfl ad (fun _ => 0) (fun _ => 0) (fun _ => none) 4) j := by
  rw [xfl_ad]
  decide +kernel
theorem dfX5 (ad : Nat → Nat) : ∀ j, j < 13 → defaultValue (tyX5 j) = vp_V (xfl ad (fun _ => 0) (fun _ => 0) (fun _ => none) 5) j := by
  rw [xfl_ad]
  decide +kernel
theorem dfX6 (ad : Nat → Nat) : ∀ j, j < 4 → defaultValue (tyX6 j) = vp_V (xfl ad (fun _ => 0) (fun _ => 0) (fun _ => none) 6) j := by
  rw [xfl_ad]
  decide +kernel
theorem dfX7 (ad : Nat → Nat) : ∀ j, j < 12 → defaultValue (tyX7 j) = vp_V (xfl ad (fun _ => 0) (fun _ => 0) (fun _ => none) 7) j := by
  rw [xfl_ad]
  decide +kernel
theorem dfX8 (ad : Nat → Nat) : ∀ j, j < 33 → defaultValue (tyX8 j) = vp_V (xfl ad (fun _ => 0) (fun _ => 0) (fun _ => none) 8) j := by
  rw [xfl_ad]
  decide +kernel
theorem rz0 (m : Nat) : rok m [none, none] := rok_0 (rok_0 (rok_n))
theorem rz1 (m : Nat) : rok m [none, none, none, none, none, none, none] := rok_0 (rok_0 (rok_0 (rok_0 (rok_0 (rok_0 (rok_0 (rok_n)))))))
theorem rz2 (m : Nat) : rok m [none, none, none] := rok_0 (rok_0 (rok_0 (rok_n)))
theorem rz3 (m : Nat) : rok m [none, none, none, none, none] := rok_0 (rok_0 (rok_0 (rok_0 (rok_0 (rok_n)))))
theorem rz4 (m : Nat) : rok m [none, none, none, none] := rok_0 (rok_0 (rok_0 (rok_0 (rok_n))))
theorem rz5 (m : Nat) : rok m [none, none, none, none, none, none, none, none, none, none, none, none, none] := rok_0 (rok_0 (rok_0 (rok_0 (rok_0 (rok_0 (rok_0 (rok_0 (rok_0 (rok_0 (rok_0 (rok_0 (rok_0 (rok_n)))))))))))))
theorem rz6 (m : Nat) : rok m [none, none, none, none] := rok_0 (rok_0 (rok_0 (rok_0 (rok_n))))
theorem rz7 (m : Nat) : rok m [none, none, none, none, none, none, none, none, none, none, none, none] := rok_0 (rok_0 (rok_0 (rok_0 (rok_0 (rok_0 (rok_0 (rok_0 (rok_0 (rok_0 (rok_0 (rok_0 (rok_n))))))))))))
theorem rz8 (m : Nat) : rok m [none, none, none, none, none, none, none, none, none, none, none, none, none, none, none, none, none, none, none, none, none, none, none, none, none, none, none, none, none, none, none, none, none] := rok_0 (rok_0 (rok_0 (rok_0 (rok_0 (rok_0 (rok_0 (rok_0 (rok_0 (rok_0 (rok_0 (rok_0 (rok_0 (rok_0 (rok_0 (rok_0 (rok_0 (rok_0 (rok_0 (rok_0 (rok_0 (rok_0 (rok_0 (rok_0 (rok_0 (rok_0 (rok_0 (rok_0 (rok_0 (rok_0 (rok_0 (rok_0 (rok_0 (rok_n)))))))))))))))))))))))))))))))))
theorem qX6_9 : fOKq RX6 9 6 0 0 "<init>" .int := ⟨RX6, TX6, 4, rfl, by decide, xT_mem (List.mem_of_getElem? (i := 109) (by decide +kernel)) rfl, rfl, by decide +kernel, Or.inl rfl⟩
theorem qX6_15 : fOKq RX6 15 6 1 0 "<init>" .int := ⟨RX6, TX6, 4, rfl, by decide, xT_mem (List.mem_of_getElem? (i := 112) (by decide +kernel)) rfl, rfl, by decide +kernel, Or.inl rfl⟩
theorem qX6_18 : fOKq RX6 18 6 2 3 "<init>" (.array .int) := ⟨RX6, TX6, 4, rfl, by decide, xT_mem (List.mem_of_getElem? (i := 115) (by decide +kernel)) rfl, rfl, by decide +kernel, Or.inr ⟨rfl, rfl, rfl⟩⟩
theorem qX6_22 : fOKq RX6 22 6 3 3 "<init>" (.array .int) := ⟨RX6, TX6, 4, rfl, by decide, xT_mem (List.mem_of_getElem? (i := 119) (by decide +kernel)) rfl, rfl, by decide +kernel, Or.inr ⟨rfl, rfl, rfl⟩⟩
theorem qX1_9 : fOKq RX1 9 1 0 0 "<init>" .int := ⟨RX1, TX1, 7, rfl, by decide, xT_mem (List.mem_of_getElem? (i := 187) (by decide +kernel)) rfl, rfl, by decide +kernel, Or.inl rfl⟩
theorem qX1_15 : fOKq RX1 15 1 1 0 "<init>" .int := ⟨RX1, TX1, 7, rfl, by decide, xT_mem (List.mem_of_getElem? (i := 188) (by decide +kernel)) rfl, rfl, by decide +kernel, Or.inl rfl⟩
theorem qX1_18 : fOKq RX1 18 1 2 0 "<init>" .int := ⟨RX1, TX1, 7, rfl, by decide, xT_mem (List.mem_of_getElem? (i := 189) (by decide +kernel)) rfl, rfl, by decide +kernel, Or.inl rfl⟩
theorem qX1_21 : fOKq RX1 21 1 3 2 "<init>" .long := ⟨RX1, TX1, 7, rfl, by decide, xT_mem (List.mem_of_getElem? (i := 192) (by decide +kernel)) rfl, rfl, by decide +kernel, Or.inl rfl⟩
theorem qX1_25 : fOKq RX1 25 1 4 2 "<init>" .long := ⟨RX1, TX1, 7, rfl, by decide, xT_mem (List.mem_of_getElem? (i := 194) (by decide +kernel)) rfl, rfl, by decide +kernel, Or.inl rfl⟩
theorem qX1_28 : fOKq RX1 28 1 5 2 "<init>" .long := ⟨RX1, TX1, 7, rfl, by decide, xT_mem (List.mem_of_getElem? (i := 195) (by decide +kernel)) rfl, rfl, by decide +kernel, Or.inl rfl⟩
theorem qX1_31 : fOKq RX1 31 1 6 2 "<init>" .long := ⟨RX1, TX1, 7, rfl, by decide, xT_mem (List.mem_of_getElem? (i := 196) (by decide +kernel)) rfl, rfl, by decide +kernel, Or.inl rfl⟩
theorem qX0_9 : fOKq RX0 9 0 0 3 "<init>" (.array .boolean) := ⟨RX0, TX0, 2, rfl, by decide, xT_mem (List.mem_of_getElem? (i := 301) (by decide +kernel)) rfl, rfl, by decide +kernel, Or.inr ⟨rfl, rfl, rfl⟩⟩
theorem qX0_15 : fOKq RX0 15 0 1 3 "<init>" (.array .int) := ⟨RX0, TX0, 2, rfl, by decide, xT_mem (List.mem_of_getElem? (i := 303) (by decide +kernel)) rfl, rfl, by decide +kernel, Or.inr ⟨rfl, rfl, rfl⟩⟩
theorem qX3_9 : fOKq RX3 9 3 0 3 "<init>" (.array .int) := ⟨RX3, TX3, 5, rfl, by decide, xT_mem (List.mem_of_getElem? (i := 157) (by decide +kernel)) rfl, rfl, by decide +kernel, Or.inr ⟨rfl, rfl, rfl⟩⟩
theorem qX3_15 : fOKq RX3 15 3 1 0 "<init>" .int := ⟨RX3, TX3, 5, rfl, by decide, xT_mem (List.mem_of_getElem? (i := 159) (by decide +kernel)) rfl, rfl, by decide +kernel, Or.inl rfl⟩
theorem qX3_19 : fOKq RX3 19 3 2 0 "<init>" .int := ⟨RX3, TX3, 5, rfl, by decide, xT_mem (List.mem_of_getElem? (i := 161) (by decide +kernel)) rfl, rfl, by decide +kernel, Or.inl rfl⟩
theorem qX3_22 : fOKq RX3 22 3 3 0 "<init>" .int := ⟨RX3, TX3, 5, rfl, by decide, xT_mem (List.mem_of_getElem? (i := 162) (by decide +kernel)) rfl, rfl, by decide +kernel, Or.inl rfl⟩
theorem qX3_25 : fOKq RX3 25 3 4 0 "<init>" .int := ⟨RX3, TX3, 5, rfl, by decide, xT_mem (List.mem_of_getElem? (i := 163) (by decide +kernel)) rfl, rfl, by decide +kernel, Or.inl rfl⟩
theorem qX4_11 : fOKq RX4 11 4 0 3 "<init>" (.array (.array .int)) := ⟨RX4, TX4, 4, rfl, by decide, xT_mem (List.mem_of_getElem? (i := 280) (by decide +kernel)) rfl, rfl, by decide +kernel, Or.inr ⟨rfl, rfl, rfl⟩⟩
theorem qX4_16 : fOKq RX4 16 4 1 3 "<init>" (.array .int) := ⟨RX4, TX4, 4, rfl, by decide, xT_mem (List.mem_of_getElem? (i := 282) (by decide +kernel)) rfl, rfl, by decide +kernel, Or.inr ⟨rfl, rfl, rfl⟩⟩
theorem qX4_20 : fOKq RX4 20 4 2 3 "<init>" (.array .int) := ⟨RX4, TX4, 4, rfl, by decide, xT_mem (List.mem_of_getElem? (i := 284) (by decide +kernel)) rfl, rfl, by decide +kernel, Or.inr ⟨rfl, rfl, rfl⟩⟩
theorem qX4_23 : fOKq RX4 23 4 3 3 "<init>" (.array .int) := ⟨RX4, TX4, 4, rfl, by decide, xT_mem (List.mem_of_getElem? (i := 285) (by decide +kernel)) rfl, rfl, by decide +kernel, Or.inr ⟨rfl, rfl, rfl⟩⟩
theorem qX2_11 : fOKq RX2 11 2 0 3 "<init>" (.array (.object "ComponentTree$Picture")) := ⟨RX2, TX2, 3, rfl, by decide, xT_mem (List.mem_of_getElem? (i := 140) (by decide +kernel)) rfl, rfl, by decide +kernel, Or.inr ⟨rfl, rfl, rfl⟩⟩
theorem qX2_17 : fOKq RX2 17 2 1 0 "<init>" .int := ⟨RX2, TX2, 3, rfl, by decide, xT_mem (List.mem_of_getElem? (i := 141) (by decide +kernel)) rfl, rfl, by decide +kernel, Or.inl rfl⟩
theorem qX2_21 : fOKq RX2 21 2 2 0 "<init>" .int := ⟨RX2, TX2, 3, rfl, by decide, xT_mem (List.mem_of_getElem? (i := 142) (by decide +kernel)) rfl, rfl, by decide +kernel, Or.inl rfl⟩
theorem qX5_12 : fOKq RX5 12 5 0 3 "<init>" (.object "ComponentTree$Grid") := ⟨RX5, TX5, 13, rfl, by decide, xT_mem (List.mem_of_getElem? (i := 212) (by decide +kernel)) rfl, rfl, by decide +kernel, Or.inr ⟨rfl, rfl, rfl⟩⟩
theorem qX5_18 : fOKq RX5 18 5 1 1 "<init>" .boolean := ⟨RX5, TX5, 13, rfl, by decide, xT_mem (List.mem_of_getElem? (i := 215) (by decide +kernel)) rfl, rfl, by decide +kernel, Or.inl rfl⟩
theorem qX5_22 : fOKq RX5 22 5 2 0 "<init>" .int := ⟨RX5, TX5, 13, rfl, by decide, xT_mem (List.mem_of_getElem? (i := 217) (by decide +kernel)) rfl, rfl, by decide +kernel, Or.inl rfl⟩
theorem qX5_26 : fOKq RX5 26 5 3 0 "<init>" .int := ⟨RX5, TX5, 13, rfl, by decide, xT_mem (List.mem_of_getElem? (i := 221) (by decide +kernel)) rfl, rfl, by decide +kernel, Or.inl rfl⟩
theorem qX5_29 : fOKq RX5 29 5 4 0 "<init>" .int := ⟨RX5, TX5, 13, rfl, by decide, xT_mem (List.mem_of_getElem? (i := 223) (by decide +kernel)) rfl, rfl, by decide +kernel, Or.inl rfl⟩
theorem qX5_32 : fOKq RX5 32 5 5 3 "<init>" (.array .long) := ⟨RX5, TX5, 13, rfl, by decide, xT_mem (List.mem_of_getElem? (i := 224) (by decide +kernel)) rfl, rfl, by decide +kernel, Or.inr ⟨rfl, rfl, rfl⟩⟩
theorem qX5_36 : fOKq RX5 36 5 6 3 "<init>" (.array .int) := ⟨RX5, TX5, 13, rfl, by decide, xT_mem (List.mem_of_getElem? (i := 226) (by decide +kernel)) rfl, rfl, by decide +kernel, Or.inr ⟨rfl, rfl, rfl⟩⟩
theorem qX5_40 : fOKq RX5 40 5 7 3 "<init>" (.array .int) := ⟨RX5, TX5, 13, rfl, by decide, xT_mem (List.mem_of_getElem? (i := 230) (by decide +kernel)) rfl, rfl, by decide +kernel, Or.inr ⟨rfl, rfl, rfl⟩⟩
theorem qX5_43 : fOKq RX5 43 5 8 3 "<init>" (.array .int) := ⟨RX5, TX5, 13, rfl, by decide, xT_mem (List.mem_of_getElem? (i := 233) (by decide +kernel)) rfl, rfl, by decide +kernel, Or.inr ⟨rfl, rfl, rfl⟩⟩
theorem qX5_46 : fOKq RX5 46 5 9 3 "<init>" (.array .int) := ⟨RX5, TX5, 13, rfl, by decide, xT_mem (List.mem_of_getElem? (i := 236) (by decide +kernel)) rfl, rfl, by decide +kernel, Or.inr ⟨rfl, rfl, rfl⟩⟩
theorem qX5_49 : fOKq RX5 49 5 10 3 "<init>" (.array .int) := ⟨RX5, TX5, 13, rfl, by decide, xT_mem (List.mem_of_getElem? (i := 239) (by decide +kernel)) rfl, rfl, by decide +kernel, Or.inr ⟨rfl, rfl, rfl⟩⟩
theorem qX5_52 : fOKq RX5 52 5 11 3 "<init>" (.array .int) := ⟨RX5, TX5, 13, rfl, by decide, xT_mem (List.mem_of_getElem? (i := 242) (by decide +kernel)) rfl, rfl, by decide +kernel, Or.inr ⟨rfl, rfl, rfl⟩⟩
theorem qX5_55 : fOKq RX5 55 5 12 3 "<init>" (.array .long) := ⟨RX5, TX5, 13, rfl, by decide, xT_mem (List.mem_of_getElem? (i := 243) (by decide +kernel)) rfl, rfl, by decide +kernel, Or.inr ⟨rfl, rfl, rfl⟩⟩
theorem qX7_10 : fOKq RX7 10 7 0 3 "<init>" (.object "ComponentTree$Picture") := ⟨RX7, TX7, 12, rfl, by decide, xT_mem (List.mem_of_getElem? (i := 311) (by decide +kernel)) rfl, rfl, by decide +kernel, Or.inr ⟨rfl, rfl, rfl⟩⟩
theorem qX7_16 : fOKq RX7 16 7 1 3 "<init>" (.object "ComponentTree$Picture") := ⟨RX7, TX7, 12, rfl, by decide, xT_mem (List.mem_of_getElem? (i := 312) (by decide +kernel)) rfl, rfl, by decide +kernel, Or.inr ⟨rfl, rfl, rfl⟩⟩
theorem qX7_22 : fOKq RX7 22 7 2 3 "<init>" (.object "ComponentTree$History") := ⟨RX7, TX7, 12, rfl, by decide, xT_mem (List.mem_of_getElem? (i := 313) (by decide +kernel)) rfl, rfl, by decide +kernel, Or.inr ⟨rfl, rfl, rfl⟩⟩
theorem qX7_29 : fOKq RX7 29 7 3 3 "<init>" (.object "ComponentTree$InputText") := ⟨RX7, TX7, 12, rfl, by decide, xT_mem (List.mem_of_getElem? (i := 314) (by decide +kernel)) rfl, rfl, by decide +kernel, Or.inr ⟨rfl, rfl, rfl⟩⟩
theorem qX7_36 : fOKq RX7 36 7 4 3 "<init>" (.object "ComponentTree$Nodes") := ⟨RX7, TX7, 12, rfl, by decide, xT_mem (List.mem_of_getElem? (i := 315) (by decide +kernel)) rfl, rfl, by decide +kernel, Or.inr ⟨rfl, rfl, rfl⟩⟩
theorem qX7_40 : fOKq RX7 40 7 5 3 "<init>" (.object "ComponentTree$Nodes") := ⟨RX7, TX7, 12, rfl, by decide, xT_mem (List.mem_of_getElem? (i := 316) (by decide +kernel)) rfl, rfl, by decide +kernel, Or.inr ⟨rfl, rfl, rfl⟩⟩
theorem qX7_46 : fOKq RX7 46 7 6 3 "<init>" (.object "ComponentTree$Measures") := ⟨RX7, TX7, 12, rfl, by decide, xT_mem (List.mem_of_getElem? (i := 317) (by decide +kernel)) rfl, rfl, by decide +kernel, Or.inr ⟨rfl, rfl, rfl⟩⟩
theorem qX7_53 : fOKq RX7 53 7 7 3 "<init>" (.object "ComponentTree$Change") := ⟨RX7, TX7, 12, rfl, by decide, xT_mem (List.mem_of_getElem? (i := 318) (by decide +kernel)) rfl, rfl, by decide +kernel, Or.inr ⟨rfl, rfl, rfl⟩⟩
theorem qX7_57 : fOKq RX7 57 7 8 3 "<init>" (.array .int) := ⟨RX7, TX7, 12, rfl, by decide, xT_mem (List.mem_of_getElem? (i := 319) (by decide +kernel)) rfl, rfl, by decide +kernel, Or.inr ⟨rfl, rfl, rfl⟩⟩
theorem qX7_61 : fOKq RX7 61 7 9 1 "<init>" .boolean := ⟨RX7, TX7, 12, rfl, by decide, xT_mem (List.mem_of_getElem? (i := 320) (by decide +kernel)) rfl, rfl, by decide +kernel, Or.inl rfl⟩
theorem qX7_65 : fOKq RX7 65 7 10 1 "<init>" .boolean := ⟨RX7, TX7, 12, rfl, by decide, xT_mem (List.mem_of_getElem? (i := 321) (by decide +kernel)) rfl, rfl, by decide +kernel, Or.inl rfl⟩
theorem qX7_68 : fOKq RX7 68 7 11 1 "<init>" .boolean := ⟨RX7, TX7, 12, rfl, by decide, xT_mem (List.mem_of_getElem? (i := 322) (by decide +kernel)) rfl, rfl, by decide +kernel, Or.inl rfl⟩
theorem qX8_7 : fOKq RX8 7 8 1 0 "<init>" .int := ⟨RX8, TX8, 33, rfl, by decide, xT_mem (List.mem_of_getElem? (i := 1016) (by decide +kernel)) rfl, rfl, by decide +kernel, Or.inl rfl⟩
theorem qX8_13 : fOKq RX8 13 8 2 0 "<init>" .int := ⟨RX8, TX8, 33, rfl, by decide, xT_mem (List.mem_of_getElem? (i := 1017) (by decide +kernel)) rfl, rfl, by decide +kernel, Or.inl rfl⟩
theorem qX8_16 : fOKq RX8 16 8 3 3 "<init>" (.array .int) := ⟨RX8, TX8, 33, rfl, by decide, xT_mem (List.mem_of_getElem? (i := 1018) (by decide +kernel)) rfl, rfl, by decide +kernel, Or.inr ⟨rfl, rfl, rfl⟩⟩
theorem qX8_20 : fOKq RX8 20 8 4 3 "<init>" (.array .int) := ⟨RX8, TX8, 33, rfl, by decide, xT_mem (List.mem_of_getElem? (i := 1019) (by decide +kernel)) rfl, rfl, by decide +kernel, Or.inr ⟨rfl, rfl, rfl⟩⟩
theorem qX8_23 : fOKq RX8 23 8 8 3 "<init>" (.array .int) := ⟨RX8, TX8, 33, rfl, by decide, xT_mem (List.mem_of_getElem? (i := 1023) (by decide +kernel)) rfl, rfl, by decide +kernel, Or.inr ⟨rfl, rfl, rfl⟩⟩
theorem qX8_26 : fOKq RX8 26 8 9 3 "<init>" (.array .int) := ⟨RX8, TX8, 33, rfl, by decide, xT_mem (List.mem_of_getElem? (i := 1024) (by decide +kernel)) rfl, rfl, by decide +kernel, Or.inr ⟨rfl, rfl, rfl⟩⟩
theorem qX8_29 : fOKq RX8 29 8 10 3 "<init>" (.array .int) := ⟨RX8, TX8, 33, rfl, by decide, xT_mem (List.mem_of_getElem? (i := 1025) (by decide +kernel)) rfl, rfl, by decide +kernel, Or.inr ⟨rfl, rfl, rfl⟩⟩
theorem qX8_32 : fOKq RX8 32 8 12 3 "<init>" (.array .int) := ⟨RX8, TX8, 33, rfl, by decide, xT_mem (List.mem_of_getElem? (i := 1027) (by decide +kernel)) rfl, rfl, by decide +kernel, Or.inr ⟨rfl, rfl, rfl⟩⟩
theorem qX8_35 : fOKq RX8 35 8 17 3 "<init>" (.array .int) := ⟨RX8, TX8, 33, rfl, by decide, xT_mem (List.mem_of_getElem? (i := 1032) (by decide +kernel)) rfl, rfl, by decide +kernel, Or.inr ⟨rfl, rfl, rfl⟩⟩
theorem qX8_38 : fOKq RX8 38 8 20 3 "<init>" (.array .long) := ⟨RX8, TX8, 33, rfl, by decide, xT_mem (List.mem_of_getElem? (i := 1035) (by decide +kernel)) rfl, rfl, by decide +kernel, Or.inr ⟨rfl, rfl, rfl⟩⟩
theorem qX8_42 : fOKq RX8 42 8 21 3 "<init>" (.array .int) := ⟨RX8, TX8, 33, rfl, by decide, xT_mem (List.mem_of_getElem? (i := 1036) (by decide +kernel)) rfl, rfl, by decide +kernel, Or.inr ⟨rfl, rfl, rfl⟩⟩
theorem qX8_45 : fOKq RX8 45 8 22 3 "<init>" (.array .int) := ⟨RX8, TX8, 33, rfl, by decide, xT_mem (List.mem_of_getElem? (i := 1037) (by decide +kernel)) rfl, rfl, by decide +kernel, Or.inr ⟨rfl, rfl, rfl⟩⟩
theorem qX8_48 : fOKq RX8 48 8 23 3 "<init>" (.array .int) := ⟨RX8, TX8, 33, rfl, by decide, xT_mem (List.mem_of_getElem? (i := 1038) (by decide +kernel)) rfl, rfl, by decide +kernel, Or.inr ⟨rfl, rfl, rfl⟩⟩
theorem qX8_51 : fOKq RX8 51 8 24 3 "<init>" (.array .int) := ⟨RX8, TX8, 33, rfl, by decide, xT_mem (List.mem_of_getElem? (i := 1039) (by decide +kernel)) rfl, rfl, by decide +kernel, Or.inr ⟨rfl, rfl, rfl⟩⟩
theorem qX8_54 : fOKq RX8 54 8 25 3 "<init>" (.array .int) := ⟨RX8, TX8, 33, rfl, by decide, xT_mem (List.mem_of_getElem? (i := 1040) (by decide +kernel)) rfl, rfl, by decide +kernel, Or.inr ⟨rfl, rfl, rfl⟩⟩
theorem qX8_57 : fOKq RX8 57 8 27 3 "<init>" (.array .int) := ⟨RX8, TX8, 33, rfl, by decide, xT_mem (List.mem_of_getElem? (i := 1042) (by decide +kernel)) rfl, rfl, by decide +kernel, Or.inr ⟨rfl, rfl, rfl⟩⟩
theorem qX8_60 : fOKq RX8 60 8 28 3 "<init>" (.array .int) := ⟨RX8, TX8, 33, rfl, by decide, xT_mem (List.mem_of_getElem? (i := 1043) (by decide +kernel)) rfl, rfl, by decide +kernel, Or.inr ⟨rfl, rfl, rfl⟩⟩
theorem qX8_63 : fOKq RX8 63 8 29 3 "<init>" (.array .boolean) := ⟨RX8, TX8, 33, rfl, by decide, xT_mem (List.mem_of_getElem? (i := 1044) (by decide +kernel)) rfl, rfl, by decide +kernel, Or.inr ⟨rfl, rfl, rfl⟩⟩
theorem qX8_67 : fOKq RX8 67 8 30 3 "<init>" (.array .int) := ⟨RX8, TX8, 33, rfl, by decide, xT_mem (List.mem_of_getElem? (i := 1045) (by decide +kernel)) rfl, rfl, by decide +kernel, Or.inr ⟨rfl, rfl, rfl⟩⟩
theorem qX8_70 : fOKq RX8 70 8 31 3 "<init>" (.array .int) := ⟨RX8, TX8, 33, rfl, by decide, xT_mem (List.mem_of_getElem? (i := 1046) (by decide +kernel)) rfl, rfl, by decide +kernel, Or.inr ⟨rfl, rfl, rfl⟩⟩
def postX6_init (n : Nat) : List xc := oc 6 [none, none, some (n + 1), some (n + 2)] [1, 1, 0, 0] [0, 0, 0, 0] :: ((([] : List xc) ++ [ac 1 64]) ++ [ac 1 64])
theorem cl_X6_init (n m : Nat) (h : n + 3 ≤ m) : wcl m (postX6_init n) := wcl_c (ok_oc (rok_0 (rok_0 (rok_1 (by omega) (rok_1 (by omega) (rok_n)))))) (wcl_ap (wcl_ap (wcl_n m) (wcl_c ok_ac (wcl_n m))) (wcl_c ok_ac (wcl_n m)))
theorem k_X6_init {n : Nat} {w0 : List xc} (hn : w0.length = n) (hw0 : wcl n w0) : kdoes mX6_init n (w0 ++ [oc 6 [none, none, none, none] [0, 0, 0, 0] [0, 0, 0, 0]]) (w0 ++ postX6_init n) := by
  have hw0 : wcl w0.length w0 := by rw [hn]; exact hw0
  refine kdoes_go (by decide) rfl (by decide) ?_
  have hL0 : ([] : List xc).length = 0 := rfl
  have hT0 : ∀ m, n + 1 ≤ m → wcl m ([] : List xc) := fun m _ => wcl_n m
  refine yi_aload_n dX6_init_0 rfl rfl ?_
  refine yw_obj dX6_init_1 ⟨xT_mem (List.mem_of_getElem? (i := 108) (by decide +kernel)) rfl, xT_mem (List.mem_of_getElem? (i := 101) (by decide +kernel)) rfl, xT_mem (List.mem_of_getElem? (i := 102) (by decide +kernel)) rfl⟩ ⟨Nat.le_of_ble_eq_true rfl, Nat.le_of_ble_eq_true rfl⟩ (by decide) ?_
  refine yi_aload_n dX6_init_4 rfl rfl ?_
  refine yi_iconst dX6_init_5 (v := 1) rfl ?_
  refine yw_putI dX6_init_6 qX6_9 hn (by decide) (fun _ _ => ⟨xwc_oc, xwc_oc⟩) ?_
  refine yi_aload_n dX6_init_9 rfl rfl ?_
  refine yi_iconst dX6_init_10 (v := 1) rfl ?_
  refine yw_putI dX6_init_11 qX6_15 hn (by decide) (fun _ _ => ⟨xwc_oc, xwc_oc⟩) ?_
  refine yi_aload_n dX6_init_14 rfl rfl ?_
  refine yi_bipush dX6_init_15 (v := 64) rfl ?_
  refine yw_newI (n := 64) (m := n + 1) (by rw [List.length_append, List.length_cons, hn, hL0]) dX6_init_17 (wcl_ap (wcl_mo hw0 (by rw [hn]; omega)) (wcl_c (ok_oc (rz6 _)) (hT0 _ (by omega)))) (by decide) (by decide) (by decide) ⟨Nat.le_of_ble_eq_true rfl, Nat.le_of_ble_eq_true rfl⟩ (by simp [xnr] <;> omega) (by simp [xnr] <;> omega) ?_
  refine yw_as ?_
  have hL1 : (([] : List xc) ++ [ac 1 64]).length = 1 := by rw [List.length_append, hL0]; rfl
  have hT1 : ∀ m, n + 2 ≤ m → wcl m (([] : List xc) ++ [ac 1 64]) := fun m hm => wcl_ap (hT0 m (by omega)) (wcl_c ok_ac (wcl_n m))
  refine yw_putR dX6_init_19 qX6_18 hn (by simp) (fun _ => ⟨rfl, rfl⟩) (fun _ _ => ⟨xwc_oc, xwc_oc⟩) ?_
  refine yi_aload_n dX6_init_22 rfl rfl ?_
  refine yi_bipush dX6_init_23 (v := 64) rfl ?_
  refine yw_newI (n := 64) (m := n + 2) (by rw [List.length_append, List.length_cons, hn, hL1]) dX6_init_25 (wcl_ap (wcl_mo hw0 (by rw [hn]; omega)) (wcl_c (ok_oc (rok_set (by omega) (rz6 _))) (hT1 _ (by omega)))) (by decide) (by decide) (by decide) ⟨Nat.le_of_ble_eq_true rfl, Nat.le_of_ble_eq_true rfl⟩ (by simp [xnr] <;> omega) (by simp [xnr] <;> omega) ?_
  refine yw_as ?_
  have hL2 : ((([] : List xc) ++ [ac 1 64]) ++ [ac 1 64]).length = 2 := by rw [List.length_append, hL1]; rfl
  have hT2 : ∀ m, n + 3 ≤ m → wcl m ((([] : List xc) ++ [ac 1 64]) ++ [ac 1 64]) := fun m hm => wcl_ap (hT1 m (by omega)) (wcl_c ok_ac (wcl_n m))
  refine yw_putR dX6_init_27 qX6_22 hn (by simp) (fun _ => ⟨rfl, rfl⟩) (fun _ _ => ⟨xwc_oc, xwc_oc⟩) ?_
  exact yw_ret dX6_init_30 rfl (Nat.le_of_ble_eq_true rfl) (Nat.le_of_ble_eq_true rfl) rfl
def postX1_init (n : Nat) : List xc := oc 1 [none, none, none, none, none, none, none] [1, 1, 1, 0, 0, 0, 0] [0, 0, 0, 1, 1, 1, 1] :: ([] : List xc)
theorem cl_X1_init (n m : Nat) (h : n + 1 ≤ m) : wcl m (postX1_init n) := wcl_c (ok_oc (rok_0 (rok_0 (rok_0 (rok_0 (rok_0 (rok_0 (rok_0 (rok_n))))))))) (wcl_n m)
theorem k_X1_init {n : Nat} {w0 : List xc} (hn : w0.length = n) (hw0 : wcl n w0) : kdoes mX1_init n (w0 ++ [oc 1 [none, none, none, none, none, none, none] [0, 0, 0, 0, 0, 0, 0] [0, 0, 0, 0, 0, 0, 0]]) (w0 ++ postX1_init n) := by
  have hw0 : wcl w0.length w0 := by rw [hn]; exact hw0
  refine kdoes_go (by decide) rfl (by decide) ?_
  have hL0 : ([] : List xc).length = 0 := rfl
  have hT0 : ∀ m, n + 1 ≤ m → wcl m ([] : List xc) := fun m _ => wcl_n m
  refine yi_aload_n dX1_init_0 rfl rfl ?_
  refine yw_obj dX1_init_1 ⟨xT_mem (List.mem_of_getElem? (i := 186) (by decide +kernel)) rfl, xT_mem (List.mem_of_getElem? (i := 101) (by decide +kernel)) rfl, xT_mem (List.mem_of_getElem? (i := 102) (by decide +kernel)) rfl⟩ ⟨Nat.le_of_ble_eq_true rfl, Nat.le_of_ble_eq_true rfl⟩ (by decide) ?_
  refine yi_aload_n dX1_init_4 rfl rfl ?_
  refine yi_iconst dX1_init_5 (v := 1) rfl ?_
  refine yw_putI dX1_init_6 qX1_9 hn (by decide) (fun _ _ => ⟨xwc_oc, xwc_oc⟩) ?_
  refine yi_aload_n dX1_init_9 rfl rfl ?_
  refine yi_iconst dX1_init_10 (v := 1) rfl ?_
  refine yw_putI dX1_init_11 qX1_15 hn (by decide) (fun _ _ => ⟨xwc_oc, xwc_oc⟩) ?_
  refine yi_aload_n dX1_init_14 rfl rfl ?_
  refine yi_iconst dX1_init_15 (v := 1) rfl ?_
  refine yw_putI dX1_init_16 qX1_18 hn (by decide) (fun _ _ => ⟨xwc_oc, xwc_oc⟩) ?_
  refine yi_aload_n dX1_init_19 rfl rfl ?_
  refine yi_lconst dX1_init_20 (v := 1) rfl ?_
  refine yw_putL dX1_init_21 qX1_21 hn (by decide) (fun _ _ => ⟨xwc_oc, xwc_oc⟩) ?_
  refine yi_aload_n dX1_init_24 rfl rfl ?_
  refine yi_lconst dX1_init_25 (v := 1) rfl ?_
  refine yw_putL dX1_init_26 qX1_25 hn (by decide) (fun _ _ => ⟨xwc_oc, xwc_oc⟩) ?_
  refine yi_aload_n dX1_init_29 rfl rfl ?_
  refine yi_lconst dX1_init_30 (v := 1) rfl ?_
  refine yw_putL dX1_init_31 qX1_28 hn (by decide) (fun _ _ => ⟨xwc_oc, xwc_oc⟩) ?_
  refine yi_aload_n dX1_init_34 rfl rfl ?_
  refine yi_lconst dX1_init_35 (v := 1) rfl ?_
  refine yw_putL dX1_init_36 qX1_31 hn (by decide) (fun _ _ => ⟨xwc_oc, xwc_oc⟩) ?_
  exact yw_ret dX1_init_39 rfl (Nat.le_of_ble_eq_true rfl) (Nat.le_of_ble_eq_true rfl) rfl
def postX0_init (n : Nat) : List xc := oc 0 [some (n + 1), some (n + 2)] [0, 0] [0, 0] :: ((([] : List xc) ++ [ac 3 64]) ++ [ac 1 64])
theorem cl_X0_init (n m : Nat) (h : n + 3 ≤ m) : wcl m (postX0_init n) := wcl_c (ok_oc (rok_1 (by omega) (rok_1 (by omega) (rok_n)))) (wcl_ap (wcl_ap (wcl_n m) (wcl_c ok_ac (wcl_n m))) (wcl_c ok_ac (wcl_n m)))
theorem k_X0_init {n : Nat} {w0 : List xc} (hn : w0.length = n) (hw0 : wcl n w0) : kdoes mX0_init n (w0 ++ [oc 0 [none, none] [0, 0] [0, 0]]) (w0 ++ postX0_init n) := by
  have hw0 : wcl w0.length w0 := by rw [hn]; exact hw0
  refine kdoes_go (by decide) rfl (by decide) ?_
  have hL0 : ([] : List xc).length = 0 := rfl
  have hT0 : ∀ m, n + 1 ≤ m → wcl m ([] : List xc) := fun m _ => wcl_n m
  refine yi_aload_n dX0_init_0 rfl rfl ?_
  refine yw_obj dX0_init_1 ⟨xT_mem (List.mem_of_getElem? (i := 300) (by decide +kernel)) rfl, xT_mem (List.mem_of_getElem? (i := 101) (by decide +kernel)) rfl, xT_mem (List.mem_of_getElem? (i := 102) (by decide +kernel)) rfl⟩ ⟨Nat.le_of_ble_eq_true rfl, Nat.le_of_ble_eq_true rfl⟩ (by decide) ?_
  refine yi_aload_n dX0_init_4 rfl rfl ?_
  refine yi_bipush dX0_init_5 (v := 64) rfl ?_
  refine yw_newZ (n := 64) (m := n + 1) (by rw [List.length_append, List.length_cons, hn, hL0]) dX0_init_7 (wcl_ap (wcl_mo hw0 (by rw [hn]; omega)) (wcl_c (ok_oc (rz0 _)) (hT0 _ (by omega)))) (by decide) (by decide) (by decide) ⟨Nat.le_of_ble_eq_true rfl, Nat.le_of_ble_eq_true rfl⟩ (by simp [xnr] <;> omega) (by simp [xnr] <;> omega) ?_
  refine yw_as ?_
  have hL1 : (([] : List xc) ++ [ac 3 64]).length = 1 := by rw [List.length_append, hL0]; rfl
  have hT1 : ∀ m, n + 2 ≤ m → wcl m (([] : List xc) ++ [ac 3 64]) := fun m hm => wcl_ap (hT0 m (by omega)) (wcl_c ok_ac (wcl_n m))
  refine yw_putR dX0_init_9 qX0_9 hn (by simp) (fun _ => ⟨rfl, rfl⟩) (fun _ _ => ⟨xwc_oc, xwc_oc⟩) ?_
  refine yi_aload_n dX0_init_12 rfl rfl ?_
  refine yi_bipush dX0_init_13 (v := 64) rfl ?_
  refine yw_newI (n := 64) (m := n + 2) (by rw [List.length_append, List.length_cons, hn, hL1]) dX0_init_15 (wcl_ap (wcl_mo hw0 (by rw [hn]; omega)) (wcl_c (ok_oc (rok_set (by omega) (rz0 _))) (hT1 _ (by omega)))) (by decide) (by decide) (by decide) ⟨Nat.le_of_ble_eq_true rfl, Nat.le_of_ble_eq_true rfl⟩ (by simp [xnr] <;> omega) (by simp [xnr] <;> omega) ?_
  refine yw_as ?_
  have hL2 : ((([] : List xc) ++ [ac 3 64]) ++ [ac 1 64]).length = 2 := by rw [List.length_append, hL1]; rfl
  have hT2 : ∀ m, n + 3 ≤ m → wcl m ((([] : List xc) ++ [ac 3 64]) ++ [ac 1 64]) := fun m hm => wcl_ap (hT1 m (by omega)) (wcl_c ok_ac (wcl_n m))
  refine yw_putR dX0_init_17 qX0_15 hn (by simp) (fun _ => ⟨rfl, rfl⟩) (fun _ _ => ⟨xwc_oc, xwc_oc⟩) ?_
  exact yw_ret dX0_init_20 rfl (Nat.le_of_ble_eq_true rfl) (Nat.le_of_ble_eq_true rfl) rfl
def postX3_init (n : Nat) : List xc := oc 3 [some (n + 1), none, none, none, none] [0, 0, 0, 0, 0] [0, 0, 0, 0, 0] :: (([] : List xc) ++ [ac 1 72])
theorem cl_X3_init (n m : Nat) (h : n + 2 ≤ m) : wcl m (postX3_init n) := wcl_c (ok_oc (rok_1 (by omega) (rok_0 (rok_0 (rok_0 (rok_0 (rok_n))))))) (wcl_ap (wcl_n m) (wcl_c ok_ac (wcl_n m)))
theorem k_X3_init {n : Nat} {w0 : List xc} (hn : w0.length = n) (hw0 : wcl n w0) : kdoes mX3_init n (w0 ++ [oc 3 [none, none, none, none, none] [0, 0, 0, 0, 0] [0, 0, 0, 0, 0]]) (w0 ++ postX3_init n) := by
  have hw0 : wcl w0.length w0 := by rw [hn]; exact hw0
  refine kdoes_go (by decide) rfl (by decide) ?_
  have hL0 : ([] : List xc).length = 0 := rfl
  have hT0 : ∀ m, n + 1 ≤ m → wcl m ([] : List xc) := fun m _ => wcl_n m
  refine yi_aload_n dX3_init_0 rfl rfl ?_
  refine yw_obj dX3_init_1 ⟨xT_mem (List.mem_of_getElem? (i := 156) (by decide +kernel)) rfl, xT_mem (List.mem_of_getElem? (i := 101) (by decide +kernel)) rfl, xT_mem (List.mem_of_getElem? (i := 102) (by decide +kernel)) rfl⟩ ⟨Nat.le_of_ble_eq_true rfl, Nat.le_of_ble_eq_true rfl⟩ (by decide) ?_
  refine yi_aload_n dX3_init_4 rfl rfl ?_
  refine yi_bipush dX3_init_5 (v := 72) rfl ?_
  refine yw_newI (n := 72) (m := n + 1) (by rw [List.length_append, List.length_cons, hn, hL0]) dX3_init_7 (wcl_ap (wcl_mo hw0 (by rw [hn]; omega)) (wcl_c (ok_oc (rz3 _)) (hT0 _ (by omega)))) (by decide) (by decide) (by decide) ⟨Nat.le_of_ble_eq_true rfl, Nat.le_of_ble_eq_true rfl⟩ (by simp [xnr] <;> omega) (by simp [xnr] <;> omega) ?_
  refine yw_as ?_
  have hL1 : (([] : List xc) ++ [ac 1 72]).length = 1 := by rw [List.length_append, hL0]; rfl
  have hT1 : ∀ m, n + 2 ≤ m → wcl m (([] : List xc) ++ [ac 1 72]) := fun m hm => wcl_ap (hT0 m (by omega)) (wcl_c ok_ac (wcl_n m))
  refine yw_putR dX3_init_9 qX3_9 hn (by simp) (fun _ => ⟨rfl, rfl⟩) (fun _ _ => ⟨xwc_oc, xwc_oc⟩) ?_
  refine yi_aload_n dX3_init_12 rfl rfl ?_
  refine yi_iconst dX3_init_13 (v := 0) rfl ?_
  refine yw_putI dX3_init_14 qX3_15 hn (by decide) (fun _ _ => ⟨xwc_oc, xwc_oc⟩) ?_
  refine yi_aload_n dX3_init_17 rfl rfl ?_
  refine yi_iconst dX3_init_18 (v := 0) rfl ?_
  refine yw_putI dX3_init_19 qX3_19 hn (by decide) (fun _ _ => ⟨xwc_oc, xwc_oc⟩) ?_
  refine yi_aload_n dX3_init_22 rfl rfl ?_
  refine yi_iconst dX3_init_23 (v := 0) rfl ?_
  refine yw_putI dX3_init_24 qX3_22 hn (by decide) (fun _ _ => ⟨xwc_oc, xwc_oc⟩) ?_
  refine yi_aload_n dX3_init_27 rfl rfl ?_
  refine yi_iconst dX3_init_28 (v := 0) rfl ?_
  refine yw_putI dX3_init_29 qX3_25 hn (by decide) (fun _ _ => ⟨xwc_oc, xwc_oc⟩) ?_
  exact yw_ret dX3_init_32 rfl (Nat.le_of_ble_eq_true rfl) (Nat.le_of_ble_eq_true rfl) rfl
def postX4_init (n : Nat) : List xc := oc 4 [some (n + 1), some (n + 14), some (n + 15), some (n + 16)] [0, 0, 0, 0] [0, 0, 0, 0] :: ((((([] : List xc) ++ (rc 5 12 (fun j => if j < 12 then some (n + 1 + 1 + j) else none) :: List.replicate 12 (ac 1 64))) ++ [ac 1 64]) ++ [ac 1 64]) ++ [ac 1 64])
theorem cl_X4_init (n m : Nat) (h : n + 17 ≤ m) : wcl m (postX4_init n) := wcl_c (ok_oc (rok_1 (by omega) (rok_1 (by omega) (rok_1 (by omega) (rok_1 (by omega) (rok_n)))))) (wcl_ap (wcl_ap (wcl_ap (wcl_ap (wcl_n m) (wcl_c (rrow (by omega)) (fun c hc => by rw [List.eq_of_mem_replicate hc]; exact ok_ac))) (wcl_c ok_ac (wcl_n m))) (wcl_c ok_ac (wcl_n m))) (wcl_c ok_ac (wcl_n m)))
theorem k_X4_init {n : Nat} {w0 : List xc} (hn : w0.length = n) (hw0 : wcl n w0) : kdoes mX4_init n (w0 ++ [oc 4 [none, none, none, none] [0, 0, 0, 0] [0, 0, 0, 0]]) (w0 ++ postX4_init n) := by
  have hw0 : wcl w0.length w0 := by rw [hn]; exact hw0
  refine kdoes_go (by decide) rfl (by decide) ?_
  have hL0 : ([] : List xc).length = 0 := rfl
  have hT0 : ∀ m, n + 1 ≤ m → wcl m ([] : List xc) := fun m _ => wcl_n m
  refine yi_aload_n dX4_init_0 rfl rfl ?_
  refine yw_obj dX4_init_1 ⟨xT_mem (List.mem_of_getElem? (i := 277) (by decide +kernel)) rfl, xT_mem (List.mem_of_getElem? (i := 101) (by decide +kernel)) rfl, xT_mem (List.mem_of_getElem? (i := 102) (by decide +kernel)) rfl⟩ ⟨Nat.le_of_ble_eq_true rfl, Nat.le_of_ble_eq_true rfl⟩ (by decide) ?_
  refine yi_aload_n dX4_init_4 rfl rfl ?_
  refine yi_bipush dX4_init_5 (v := 12) rfl ?_
  refine yi_bipush dX4_init_7 (v := 64) rfl ?_
  refine yw_mna' (m := n + 1) (by rw [List.length_append, List.length_cons, hn, hL0]) dX4_init_9 (fun _ _ _ h => h) ⟨xT_mem (List.mem_of_getElem? (i := 278) (by decide +kernel)) rfl, xT_mem (by decide +kernel) rfl⟩ (wcl_ap (wcl_mo hw0 (by rw [hn]; omega)) (wcl_c (ok_oc (rz4 _)) (hT0 _ (by omega)))) ⟨Nat.le_of_ble_eq_true rfl, Nat.le_of_ble_eq_true rfl⟩ (by simp [xnr] <;> omega) (by simp [xnr] <;> omega) ?_
  refine yw_as ?_
  have hL1 : (([] : List xc) ++ (rc 5 12 (fun j => if j < 12 then some (n + 1 + 1 + j) else none) :: List.replicate 12 (ac 1 64))).length = 13 := by rw [List.length_append, hL0]; rfl
  have hT1 : ∀ m, n + 14 ≤ m → wcl m (([] : List xc) ++ (rc 5 12 (fun j => if j < 12 then some (n + 1 + 1 + j) else none) :: List.replicate 12 (ac 1 64))) := fun m hm => wcl_ap (hT0 m (by omega)) (wcl_c (rrow (by omega)) (fun c hc => by rw [List.eq_of_mem_replicate hc]; exact ok_ac))
  refine yw_putR dX4_init_13 qX4_11 hn (by simp) (fun _ => ⟨rfl, rfl⟩) (fun _ _ => ⟨xwc_oc, xwc_oc⟩) ?_
  refine yi_aload_n dX4_init_16 rfl rfl ?_
  refine yi_bipush dX4_init_17 (v := 64) rfl ?_
  refine yw_newI (n := 64) (m := n + 14) (by rw [List.length_append, List.length_cons, hn, hL1]) dX4_init_19 (wcl_ap (wcl_mo hw0 (by rw [hn]; omega)) (wcl_c (ok_oc (rok_set (by omega) (rz4 _))) (hT1 _ (by omega)))) (by decide) (by decide) (by decide) ⟨Nat.le_of_ble_eq_true rfl, Nat.le_of_ble_eq_true rfl⟩ (by simp [xnr] <;> omega) (by simp [xnr] <;> omega) ?_
  refine yw_as ?_
  have hL2 : ((([] : List xc) ++ (rc 5 12 (fun j => if j < 12 then some (n + 1 + 1 + j) else none) :: List.replicate 12 (ac 1 64))) ++ [ac 1 64]).length = 14 := by rw [List.length_append, hL1]; rfl
  have hT2 : ∀ m, n + 15 ≤ m → wcl m ((([] : List xc) ++ (rc 5 12 (fun j => if j < 12 then some (n + 1 + 1 + j) else none) :: List.replicate 12 (ac 1 64))) ++ [ac 1 64]) := fun m hm => wcl_ap (hT1 m (by omega)) (wcl_c ok_ac (wcl_n m))
  refine yw_putR dX4_init_21 qX4_16 hn (by simp) (fun _ => ⟨rfl, rfl⟩) (fun _ _ => ⟨xwc_oc, xwc_oc⟩) ?_
  refine yi_aload_n dX4_init_24 rfl rfl ?_
  refine yi_bipush dX4_init_25 (v := 64) rfl ?_
  refine yw_newI (n := 64) (m := n + 15) (by rw [List.length_append, List.length_cons, hn, hL2]) dX4_init_27 (wcl_ap (wcl_mo hw0 (by rw [hn]; omega)) (wcl_c (ok_oc (rok_set (by omega) (rok_set (by omega) (rz4 _)))) (hT2 _ (by omega)))) (by decide) (by decide) (by decide) ⟨Nat.le_of_ble_eq_true rfl, Nat.le_of_ble_eq_true rfl⟩ (by simp [xnr] <;> omega) (by simp [xnr] <;> omega) ?_
  refine yw_as ?_
  have hL3 : (((([] : List xc) ++ (rc 5 12 (fun j => if j < 12 then some (n + 1 + 1 + j) else none) :: List.replicate 12 (ac 1 64))) ++ [ac 1 64]) ++ [ac 1 64]).length = 15 := by rw [List.length_append, hL2]; rfl
  have hT3 : ∀ m, n + 16 ≤ m → wcl m (((([] : List xc) ++ (rc 5 12 (fun j => if j < 12 then some (n + 1 + 1 + j) else none) :: List.replicate 12 (ac 1 64))) ++ [ac 1 64]) ++ [ac 1 64]) := fun m hm => wcl_ap (hT2 m (by omega)) (wcl_c ok_ac (wcl_n m))
  refine yw_putR dX4_init_29 qX4_20 hn (by simp) (fun _ => ⟨rfl, rfl⟩) (fun _ _ => ⟨xwc_oc, xwc_oc⟩) ?_
  refine yi_aload_n dX4_init_32 rfl rfl ?_
  refine yi_bipush dX4_init_33 (v := 64) rfl ?_
  refine yw_newI (n := 64) (m := n + 16) (by rw [List.length_append, List.length_cons, hn, hL3]) dX4_init_35 (wcl_ap (wcl_mo hw0 (by rw [hn]; omega)) (wcl_c (ok_oc (rok_set (by omega) (rok_set (by omega) (rok_set (by omega) (rz4 _))))) (hT3 _ (by omega)))) (by decide) (by decide) (by decide) ⟨Nat.le_of_ble_eq_true rfl, Nat.le_of_ble_eq_true rfl⟩ (by simp [xnr] <;> omega) (by simp [xnr] <;> omega) ?_
  refine yw_as ?_
  have hL4 : ((((([] : List xc) ++ (rc 5 12 (fun j => if j < 12 then some (n + 1 + 1 + j) else none) :: List.replicate 12 (ac 1 64))) ++ [ac 1 64]) ++ [ac 1 64]) ++ [ac 1 64]).length = 16 := by rw [List.length_append, hL3]; rfl
  have hT4 : ∀ m, n + 17 ≤ m → wcl m ((((([] : List xc) ++ (rc 5 12 (fun j => if j < 12 then some (n + 1 + 1 + j) else none) :: List.replicate 12 (ac 1 64))) ++ [ac 1 64]) ++ [ac 1 64]) ++ [ac 1 64]) := fun m hm => wcl_ap (hT3 m (by omega)) (wcl_c ok_ac (wcl_n m))
  refine yw_putR dX4_init_37 qX4_23 hn (by simp) (fun _ => ⟨rfl, rfl⟩) (fun _ _ => ⟨xwc_oc, xwc_oc⟩) ?_
  exact yw_ret dX4_init_40 rfl (Nat.le_of_ble_eq_true rfl) (Nat.le_of_ble_eq_true rfl) rfl
def pf2 (n : Nat) : (Nat → Option Nat) → Nat → Nat → Nat → Option Nat
  | f, _, 0 => f
  | f, i, d + 1 => pf2 n (va_up f i (some (n + 2 + 3 * i))) (i + 1) d
def pp2 (n : Nat) : Nat → Nat → List xc
  | _, 0 => []
  | i, d + 1 => postX6_init (n + 2 + 3 * i) ++ pp2 n (i + 1) d
theorem pf2_8 (n : Nat) : pf2 n (fun _ => none) 0 8 = fun j => if j < 8 then some (n + 2 + 3 * j) else none := by
  funext j
  match j with
  | 0 => rfl
  | 1 => rfl
  | 2 => rfl
  | 3 => rfl
  | 4 => rfl
  | 5 => rfl
  | 6 => rfl
  | 7 => rfl
  | j + 8 => rw [if_neg (by omega)]; simp [pf2, va_up]
theorem pf2_lt {n m : Nat} (h : n + 26 ≤ m) : ∀ j i, pf2 n (fun _ => none) 0 8 j = some i → i < m := fun j i hi => by
  rw [pf2_8] at hi
  dsimp only at hi
  split at hi
  · cases hi; omega
  · cases hi
section C2
variable {EX : State → (Nat → Prop) → (Nat → Nat) → Prop} {M : xMI} {N0 : Nat} {Q : xQ} {QX : xQX} {cs sl pc : Nat} {lv : xLV} {st : List Value} {w1 t post : List xc} {c0 c1 : xc}
theorem yw_as2 (k : yw EX M N0 Q QX cs sl pc lv st ((w1 ++ [c0]) ++ c1 :: (t ++ post))) : yw EX M N0 Q QX cs sl pc lv st (w1 ++ c0 :: ((c1 :: t) ++ post)) := by
  have e : (w1 ++ [c0]) ++ c1 :: (t ++ post) = w1 ++ c0 :: ((c1 :: t) ++ post) := List.append_assoc w1 [c0] (c1 :: (t ++ post))
  rw [← e]; exact k
theorem yw_as3 (k : yw EX M N0 Q QX cs sl pc lv st (w1 ++ c0 :: c1 :: t)) : yw EX M N0 Q QX cs sl pc lv st ((w1 ++ [c0]) ++ c1 :: t) := by
  have e : (w1 ++ [c0]) ++ c1 :: t = w1 ++ c0 :: c1 :: t := List.append_assoc w1 [c0] (c1 :: t)
  rw [e]; exact k
end C2
def postX2_init (n : Nat) : List xc := oc 2 [some (n + 1), none, none] [0, 0, 0] [0, 0, 0] :: rc 6 8 (pf2 n (fun _ => none) 0 8) :: pp2 n 0 8
theorem cl_X2_init (n m : Nat) (h : n + 26 ≤ m) : wcl m (postX2_init n) := wcl_c (ok_oc (rok_1 (by omega) (rok_0 (rok_0 rok_n)))) (wcl_c (pf2_lt (by omega)) (wcl_ap (cl_X6_init (n + 2 + 3 * 0) m (by omega)) (wcl_ap (cl_X6_init (n + 2 + 3 * 1) m (by omega)) (wcl_ap (cl_X6_init (n + 2 + 3 * 2) m (by omega)) (wcl_ap (cl_X6_init (n + 2 + 3 * 3) m (by omega)) (wcl_ap (cl_X6_init (n + 2 + 3 * 4) m (by omega)) (wcl_ap (cl_X6_init (n + 2 + 3 * 5) m (by omega)) (wcl_ap (cl_X6_init (n + 2 + 3 * 6) m (by omega)) (wcl_ap (cl_X6_init (n + 2 + 3 * 7) m (by omega)) (wcl_n m))))))))))
theorem k_X2_init {n : Nat} {w0 : List xc} (hn : w0.length = n) (hw0 : wcl n w0) : kdoes mX2_init n (w0 ++ [oc 2 [none, none, none] [0, 0, 0] [0, 0, 0]]) (w0 ++ postX2_init n) := by
  have hw0 : wcl w0.length w0 := by rw [hn]; exact hw0
  refine kdoes_go (by decide) rfl (by decide) ?_
  have hL0 : ([] : List xc).length = 0 := rfl
  have hT0 : ∀ m, n + 1 ≤ m → wcl m ([] : List xc) := fun m _ => wcl_n m
  refine yi_aload_n dX2_init_0 rfl rfl ?_
  refine yw_obj dX2_init_1 ⟨xT_mem (List.mem_of_getElem? (i := 136) (by decide +kernel)) rfl, xT_mem (List.mem_of_getElem? (i := 101) (by decide +kernel)) rfl, xT_mem (List.mem_of_getElem? (i := 102) (by decide +kernel)) rfl⟩ ⟨Nat.le_of_ble_eq_true rfl, Nat.le_of_ble_eq_true rfl⟩ (by decide) ?_
  refine yi_aload_n dX2_init_4 rfl rfl ?_
  refine yi_bipush dX2_init_5 (v := 8) rfl ?_
  refine yw_newq' (n := 8) (m := n + 1) (by rw [List.length_append, List.length_cons, hn, hL0]) dX2_init_7 (fun _ _ _ h => h) (xT_mem (List.mem_of_getElem? (i := 137) (by decide +kernel)) rfl) (wcl_ap (wcl_mo hw0 (by rw [hn]; omega)) (wcl_c (ok_oc (rz2 _)) (hT0 _ (by omega)))) (by decide) (by decide) (by decide) ⟨Nat.le_of_ble_eq_true rfl, Nat.le_of_ble_eq_true rfl⟩ (by simp [xnr] <;> omega) (by simp [xnr] <;> omega) ?_
  refine yw_as ?_
  have hL1 : (([] : List xc) ++ [rc 6 8 (fun _ => none)]).length = 1 := by rw [List.length_append, hL0]; rfl
  have hT1 : ∀ m, n + 2 ≤ m → wcl m (([] : List xc) ++ [rc 6 8 (fun _ => none)]) := fun m hm => wcl_ap (hT0 m (by omega)) (wcl_c (fun _ _ h => nomatch h) (wcl_n m))
  refine yw_putR dX2_init_10 qX2_11 hn (by simp) (fun _ => ⟨rfl, rfl⟩) (fun _ _ => ⟨xwc_oc, xwc_oc⟩) ?_
  refine yi_aload_n dX2_init_13 rfl rfl ?_
  refine yi_iconst dX2_init_14 (v := 0) rfl ?_
  refine yw_putI dX2_init_15 qX2_17 hn (by decide) (fun _ _ => ⟨xwc_oc, xwc_oc⟩) ?_
  refine yi_aload_n dX2_init_18 rfl rfl ?_
  refine yi_iconst dX2_init_19 (v := 0) rfl ?_
  refine yw_putI dX2_init_20 qX2_21 hn (by decide) (fun _ _ => ⟨xwc_oc, xwc_oc⟩) ?_
  refine yi_iconst dX2_init_23 (v := 0) rfl ?_
  refine yi_istore_n dX2_init_24 rfl (by decide) ?_
  have go : ∀ (d i cs sl : Nat) (f : Nat → Option Nat) (P : List xc), i + d = 8 → P.length = 3 * i → (∀ m, n + 2 + 3 * i ≤ m → wcl m P) → (∀ j x, f j = some x → x < n + 2 + 3 * i) → cs + 3 * d ≤ 25 → sl + 132 * d ≤ 1064 → (∀ g R, (rc 6 8 g :: R) = (rc 6 8 (pf2 n f i d) :: (P ++ pp2 n i d)) → postX2_init n = oc 2 [some (n + 1), none, none] [0, 0, 0] [0, 0, 0] :: rc 6 8 g :: R) → yw eAO mX2_init (w0 ++ [oc 2 [none, none, none] [0, 0, 0] [0, 0, 0]]).length (qW (w0 ++ postX2_init n)) xN cs sl 25 [(1, .int (nI i)), (0, .ref n)] [] (w0 ++ oc 2 [some (n + 1), none, none] [0, 0, 0] [0, 0, 0] :: rc 6 8 f :: P) := by
    intro d
    induction d with
    | zero =>
      intro i cs sl f P hid hPl hPc hfc hcs hsl hend
      have hi8 : i = 8 := by omega
      subst hi8
      refine yi_iload_n dX2_init_25 rfl rfl ?_
      refine yi_bipush dX2_init_26 (v := 8) rfl ?_
      refine yi_icmp_ge (tgt := 50) dX2_init_28 rfl (fun _ => ?_) (fun h => absurd (by decide) h)
      refine yw_ret dX2_init_50 rfl (by omega) (by omega) (congrArg (fun z => w0 ++ z) ?_)
      exact (hend f P (by rw [show pp2 n 8 0 = [] from rfl, List.append_nil]; rfl)).symm
    | succ d ih =>
      intro i cs sl f P hid hPl hPc hfc hcs hsl hend
      have hlen : (w0 ++ oc 2 [some (n + 1), none, none] [0, 0, 0] [0, 0, 0] :: rc 6 8 f :: P).length = n + 2 + 3 * i := by rw [List.length_append, List.length_cons, List.length_cons, hn, hPl]; omega
      have hwc : wcl (n + 2 + 3 * i) (w0 ++ oc 2 [some (n + 1), none, none] [0, 0, 0] [0, 0, 0] :: rc 6 8 f :: P) := wcl_ap (wcl_mo hw0 (by rw [hn]; omega)) (wcl_c (ok_oc (rok_1 (by omega) (rok_0 (rok_0 rok_n)))) (wcl_c hfc (hPc _ (Nat.le_refl _))))
      refine yi_iload_n dX2_init_25 rfl rfl ?_
      refine yi_bipush dX2_init_26 (v := 8) rfl ?_
      refine yi_icmp_ge (tgt := 50) dX2_init_28 rfl (fun h => absurd h (Int32.not_le.mpr (nI_lt (b := 8) (by omega) (by omega)))) (fun _ => ?_)
      refine yi_aload_n dX2_init_31 rfl rfl ?_
      refine yw_getR (i0 := n + 1) dX2_init_32 fX2_11 hn rfl (fun _ _ => rfl) ?_
      refine yi_iload_n dX2_init_35 rfl rfl ?_
      refine yw_new' (m := n + 2 + 3 * i) (ci := 6) (n := 4) (c := oc 6 [none, none, none, none] [0, 0, 0, 0] [0, 0, 0, 0]) hlen dX2_init_36 rfl ⟨xT_mem (List.mem_of_getElem? (i := 137) (by decide +kernel)) rfl, xT_mem (List.mem_of_getElem? (i := 104) (by decide +kernel)) rfl, xT_mem (List.mem_of_getElem? (i := 76) (by decide +kernel)) rfl⟩ tyX6_ok hwc (fun _ _ => rfl) dfX6 ⟨by show cs + 1 ≤ 25; omega, by show sl + 4 ≤ 1064; omega⟩ (by simp [xnr] <;> omega) (by simp [xnr] <;> omega) ?_
      refine yi_dup dX2_init_39 rfl ?_
      refine yw_ctorN' (m1 := n + 2 + 3 * i + 1) (m2 := n + 2 + 3 * i + 3) (host := "ComponentTree") (M2 := mX6_init) (by rw [List.length_append, hlen]; rfl) (by rw [List.length_append, hlen]; rfl) dX2_init_40 ⟨List.mem_filter.mpr ⟨List.mem_of_getElem? (i := 139) (by decide +kernel), rfl⟩, xT_mem (List.mem_of_getElem? (i := 106) (by decide +kernel)) rfl, xT_mem (List.mem_of_getElem? (i := 76) (by decide +kernel)) rfl, xT_mem (List.mem_of_getElem? (i := 107) (by decide +kernel)) rfl, ⟨by decide +kernel, by decide +kernel, by decide +kernel⟩, rfl⟩ ⟨rfl, rfl⟩ ⟨Nat.le_of_ble_eq_true rfl, Nat.le_of_ble_eq_true rfl, by show cs + 1 + 2 ≤ 25; omega, by show sl + 4 + 128 ≤ 1064; omega⟩ (fun _ _ _ h => h) (by omega) (by simp [xs2] <;> omega) (by simp [xs2] <;> omega) (Nat.le_of_ble_eq_true rfl) (k_X6_init (n := n + 2 + 3 * i) hlen hwc) ?_
      refine yw_as ?_
      refine yw_as2 ?_
      refine yw_ast (w1 := w0 ++ [oc 2 [some (n + 1), none, none] [0, 0, 0] [0, 0, 0]]) (n := n + 1) (cv := oc 6 [none, none, some (n + 2 + 3 * i + 1), some (n + 2 + 3 * i + 2)] [1, 1, 0, 0] [0, 0, 0, 0]) dX2_init_43 (by rw [List.length_append, hn]; rfl) ?_ (fun _ _ => ⟨_, rfl⟩) (vp_in_nI (by omega) (by decide)) ?_
      · rw [List.append_assoc, List.getElem?_append_right (by rw [hn]; omega), hn, show n + 2 + 3 * i - n = (3 * i) + 1 + 1 by omega]
        show (P ++ postX6_init (n + 2 + 3 * i))[3 * i]? = _
        rw [List.getElem?_append_right (by rw [hPl]; exact Nat.le_refl _), hPl, Nat.sub_self]
        rfl
      refine yw_as3 ?_
      refine yi_iinc dX2_init_44 (x := nI i) (v := 1) rfl rfl (by decide) ?_
      refine yi_goto (tgt := 25) dX2_init_47 rfl ?_
      rw [nI_clamp (show i < 2 ^ 31 by omega), show nI i + 1 = nI (i + 1) from nI_add' i 1]
      refine ygo_pick [1, 0] rfl ?_
      refine ih (i + 1) (cs + 1 + 2) (sl + 4 + 128) (va_up f i (some (n + 2 + 3 * i))) (P ++ postX6_init (n + 2 + 3 * i)) (by omega) (by rw [List.length_append, hPl]; show 3 * i + 3 = _; omega) (fun m hm => wcl_ap (hPc m (by omega)) (cl_X6_init (n + 2 + 3 * i) m (by omega))) (fun j x hx => ?_) (by omega) (by omega) ?_
      · unfold va_up at hx
        by_cases e : j = i
        · rw [if_pos e] at hx; cases hx; omega
        · rw [if_neg e] at hx; have := hfc j x hx; omega
      · intro g R hgR
        exact hend g R (hgR.trans (by rw [List.append_assoc]; rfl))
  refine ygo_pick [1, 0] rfl ?_
  refine go 8 0 _ _ (fun _ => none) [] rfl rfl (fun m _ => wcl_n m) (fun _ _ h => nomatch h) (Nat.le_of_ble_eq_true rfl) (Nat.le_of_ble_eq_true rfl) ?_
  intro g R hgR
  cases hgR
  show (_ : List xc) = _
  rfl
def postX5_init (n : Nat) : List xc := oc 5 [some (n + 1), none, none, none, none, some (n + 2), some (n + 3), some (n + 4), some (n + 5), some (n + 6), some (n + 7), some (n + 8), some (n + 9)] [0, 0, 0, 0, 0, 0, 0, 0, 0, 0, 0, 0, 0] [0, 0, 0, 0, 0, 0, 0, 0, 0, 0, 0, 0, 0] :: (((((((((([] : List xc) ++ postX1_init (n + 1)) ++ [ac 2 64]) ++ [ac 1 64]) ++ [ac 1 64]) ++ [ac 1 64]) ++ [ac 1 64]) ++ [ac 1 64]) ++ [ac 1 64]) ++ [ac 2 16])
theorem cl_X5_init (n m : Nat) (h : n + 10 ≤ m) : wcl m (postX5_init n) := wcl_c (ok_oc (rok_1 (by omega) (rok_0 (rok_0 (rok_0 (rok_0 (rok_1 (by omega) (rok_1 (by omega) (rok_1 (by omega) (rok_1 (by omega) (rok_1 (by omega) (rok_1 (by omega) (rok_1 (by omega) (rok_1 (by omega) (rok_n))))))))))))))) (wcl_ap (wcl_ap (wcl_ap (wcl_ap (wcl_ap (wcl_ap (wcl_ap (wcl_ap (wcl_ap (wcl_n m) (cl_X1_init (n + 1) m (by omega))) (wcl_c ok_ac (wcl_n m))) (wcl_c ok_ac (wcl_n m))) (wcl_c ok_ac (wcl_n m))) (wcl_c ok_ac (wcl_n m))) (wcl_c ok_ac (wcl_n m))) (wcl_c ok_ac (wcl_n m))) (wcl_c ok_ac (wcl_n m))) (wcl_c ok_ac (wcl_n m)))
theorem k_X5_init {n : Nat} {w0 : List xc} (hn : w0.length = n) (hw0 : wcl n w0) : kdoes mX5_init n (w0 ++ [oc 5 [none, none, none, none, none, none, none, none, none, none, none, none, none] [0, 0, 0, 0, 0, 0, 0, 0, 0, 0, 0, 0, 0] [0, 0, 0, 0, 0, 0, 0, 0, 0, 0, 0, 0, 0]]) (w0 ++ postX5_init n) := by
  have hw0 : wcl w0.length w0 := by rw [hn]; exact hw0
  refine kdoes_go (by decide) rfl (by decide) ?_
  have hL0 : ([] : List xc).length = 0 := rfl
  have hT0 : ∀ m, n + 1 ≤ m → wcl m ([] : List xc) := fun m _ => wcl_n m
  refine yi_aload_n dX5_init_0 rfl rfl ?_
  refine yw_obj dX5_init_1 ⟨xT_mem (List.mem_of_getElem? (i := 180) (by decide +kernel)) rfl, xT_mem (List.mem_of_getElem? (i := 101) (by decide +kernel)) rfl, xT_mem (List.mem_of_getElem? (i := 102) (by decide +kernel)) rfl⟩ ⟨Nat.le_of_ble_eq_true rfl, Nat.le_of_ble_eq_true rfl⟩ (by decide) ?_
  refine yi_aload_n dX5_init_4 rfl rfl ?_
  have hM0 := fun c0 : xc => (by rw [List.length_append, List.length_cons, hn, hL0] : (w0 ++ c0 :: ([] : List xc)).length = n + 1)
  refine yw_new' (m := n + 1) (ci := 1) (n := 7) (c := oc 1 [none, none, none, none, none, none, none] [0, 0, 0, 0, 0, 0, 0] [0, 0, 0, 0, 0, 0, 0]) (by rw [List.length_append, List.length_cons, hn, hL0]) dX5_init_5 rfl ⟨xT_mem (List.mem_of_getElem? (i := 181) (by decide +kernel)) rfl, xT_mem (List.mem_of_getElem? (i := 182) (by decide +kernel)) rfl, xT_mem (List.mem_of_getElem? (i := 80) (by decide +kernel)) rfl⟩ tyX1_ok (wcl_ap (wcl_mo hw0 (by rw [hn]; omega)) (wcl_c (ok_oc (rz5 _)) (hT0 _ (by omega)))) (fun _ _ => rfl) dfX1 ⟨Nat.le_of_ble_eq_true rfl, Nat.le_of_ble_eq_true rfl⟩ (by simp [xnr] <;> omega) (by simp [xnr] <;> omega) ?_
  refine yi_dup dX5_init_8 rfl ?_
  refine yw_ctorN' (m1 := n + 1 + 1) (m2 := n + 1 + 1) (host := "ComponentTree") (M2 := mX1_init) (by rw [List.length_append, hM0]; rfl) (by rw [List.length_append, hM0]; rfl) dX5_init_9 ⟨List.mem_filter.mpr ⟨List.mem_of_getElem? (i := 183) (by decide +kernel), rfl⟩, xT_mem (List.mem_of_getElem? (i := 184) (by decide +kernel)) rfl, xT_mem (List.mem_of_getElem? (i := 80) (by decide +kernel)) rfl, xT_mem (List.mem_of_getElem? (i := 185) (by decide +kernel)) rfl, ⟨by decide +kernel, by decide +kernel, by decide +kernel⟩, rfl⟩ ⟨rfl, rfl⟩ ⟨Nat.le_of_ble_eq_true rfl, Nat.le_of_ble_eq_true rfl, Nat.le_of_ble_eq_true rfl, Nat.le_of_ble_eq_true rfl⟩ (fun _ _ _ h => h) (by omega) (by simp [xs2] <;> omega) (by simp [xs2] <;> omega) (Nat.le_of_ble_eq_true rfl) (k_X1_init (n := n + 1) (hM0 _) (wcl_ap (wcl_mo hw0 (by rw [hn]; omega)) (wcl_c (ok_oc (rz5 _)) (hT0 _ (by omega))))) ?_
  refine yw_as ?_
  have hL1 : (([] : List xc) ++ postX1_init (n + 1)).length = 1 := by rw [List.length_append, hL0]; rfl
  have hT1 : ∀ m, n + 2 ≤ m → wcl m (([] : List xc) ++ postX1_init (n + 1)) := fun m hm => wcl_ap (hT0 m (by omega)) (cl_X1_init (n + 1) m (by omega))
  refine yw_putR dX5_init_12 qX5_12 hn (by simp) (fun _ => ⟨rfl, rfl⟩) (fun _ _ => ⟨xwc_oc, xwc_oc⟩) ?_
  refine yi_aload_n dX5_init_15 rfl rfl ?_
  refine yi_iconst dX5_init_16 (v := 0) rfl ?_
  refine yw_putZ dX5_init_17 qX5_18 hn (Or.inl rfl) (by decide) (fun _ _ => ⟨xwc_oc, xwc_oc⟩) ?_
  refine yi_aload_n dX5_init_20 rfl rfl ?_
  refine yi_iconst dX5_init_21 (v := 0) rfl ?_
  refine yw_putI dX5_init_22 qX5_22 hn (by decide) (fun _ _ => ⟨xwc_oc, xwc_oc⟩) ?_
  refine yi_aload_n dX5_init_25 rfl rfl ?_
  refine yi_iconst dX5_init_26 (v := 0) rfl ?_
  refine yw_putI dX5_init_27 qX5_26 hn (by decide) (fun _ _ => ⟨xwc_oc, xwc_oc⟩) ?_
  refine yi_aload_n dX5_init_30 rfl rfl ?_
  refine yi_iconst dX5_init_31 (v := 0) rfl ?_
  refine yw_putI dX5_init_32 qX5_29 hn (by decide) (fun _ _ => ⟨xwc_oc, xwc_oc⟩) ?_
  refine yi_aload_n dX5_init_35 rfl rfl ?_
  refine yi_bipush dX5_init_36 (v := 64) rfl ?_
  refine yw_newJ (n := 64) (m := n + 2) (by rw [List.length_append, List.length_cons, hn, hL1]) dX5_init_38 (wcl_ap (wcl_mo hw0 (by rw [hn]; omega)) (wcl_c (ok_oc (rok_set (by omega) (rz5 _))) (hT1 _ (by omega)))) (by decide) (by decide) (by decide) ⟨Nat.le_of_ble_eq_true rfl, Nat.le_of_ble_eq_true rfl⟩ (by simp [xnr] <;> omega) (by simp [xnr] <;> omega) ?_
  refine yw_as ?_
  have hL2 : ((([] : List xc) ++ postX1_init (n + 1)) ++ [ac 2 64]).length = 2 := by rw [List.length_append, hL1]; rfl
  have hT2 : ∀ m, n + 3 ≤ m → wcl m ((([] : List xc) ++ postX1_init (n + 1)) ++ [ac 2 64]) := fun m hm => wcl_ap (hT1 m (by omega)) (wcl_c ok_ac (wcl_n m))
  refine yw_putR dX5_init_40 qX5_32 hn (by simp) (fun _ => ⟨rfl, rfl⟩) (fun _ _ => ⟨xwc_oc, xwc_oc⟩) ?_
  refine yi_aload_n dX5_init_43 rfl rfl ?_
  refine yi_bipush dX5_init_44 (v := 64) rfl ?_
  refine yw_newI (n := 64) (m := n + 3) (by rw [List.length_append, List.length_cons, hn, hL2]) dX5_init_46 (wcl_ap (wcl_mo hw0 (by rw [hn]; omega)) (wcl_c (ok_oc (rok_set (by omega) (rok_set (by omega) (rz5 _)))) (hT2 _ (by omega)))) (by decide) (by decide) (by decide) ⟨Nat.le_of_ble_eq_true rfl, Nat.le_of_ble_eq_true rfl⟩ (by simp [xnr] <;> omega) (by simp [xnr] <;> omega) ?_
  refine yw_as ?_
  have hL3 : (((([] : List xc) ++ postX1_init (n + 1)) ++ [ac 2 64]) ++ [ac 1 64]).length = 3 := by rw [List.length_append, hL2]; rfl
  have hT3 : ∀ m, n + 4 ≤ m → wcl m (((([] : List xc) ++ postX1_init (n + 1)) ++ [ac 2 64]) ++ [ac 1 64]) := fun m hm => wcl_ap (hT2 m (by omega)) (wcl_c ok_ac (wcl_n m))
  refine yw_putR dX5_init_48 qX5_36 hn (by simp) (fun _ => ⟨rfl, rfl⟩) (fun _ _ => ⟨xwc_oc, xwc_oc⟩) ?_
  refine yi_aload_n dX5_init_51 rfl rfl ?_
  refine yi_bipush dX5_init_52 (v := 64) rfl ?_
  refine yw_newI (n := 64) (m := n + 4) (by rw [List.length_append, List.length_cons, hn, hL3]) dX5_init_54 (wcl_ap (wcl_mo hw0 (by rw [hn]; omega)) (wcl_c (ok_oc (rok_set (by omega) (rok_set (by omega) (rok_set (by omega) (rz5 _))))) (hT3 _ (by omega)))) (by decide) (by decide) (by decide) ⟨Nat.le_of_ble_eq_true rfl, Nat.le_of_ble_eq_true rfl⟩ (by simp [xnr] <;> omega) (by simp [xnr] <;> omega) ?_
  refine yw_as ?_
  have hL4 : ((((([] : List xc) ++ postX1_init (n + 1)) ++ [ac 2 64]) ++ [ac 1 64]) ++ [ac 1 64]).length = 4 := by rw [List.length_append, hL3]; rfl
  have hT4 : ∀ m, n + 5 ≤ m → wcl m ((((([] : List xc) ++ postX1_init (n + 1)) ++ [ac 2 64]) ++ [ac 1 64]) ++ [ac 1 64]) := fun m hm => wcl_ap (hT3 m (by omega)) (wcl_c ok_ac (wcl_n m))
  refine yw_putR dX5_init_56 qX5_40 hn (by simp) (fun _ => ⟨rfl, rfl⟩) (fun _ _ => ⟨xwc_oc, xwc_oc⟩) ?_
  refine yi_aload_n dX5_init_59 rfl rfl ?_
  refine yi_bipush dX5_init_60 (v := 64) rfl ?_
  refine yw_newI (n := 64) (m := n + 5) (by rw [List.length_append, List.length_cons, hn, hL4]) dX5_init_62 (wcl_ap (wcl_mo hw0 (by rw [hn]; omega)) (wcl_c (ok_oc (rok_set (by omega) (rok_set (by omega) (rok_set (by omega) (rok_set (by omega) (rz5 _)))))) (hT4 _ (by omega)))) (by decide) (by decide) (by decide) ⟨Nat.le_of_ble_eq_true rfl, Nat.le_of_ble_eq_true rfl⟩ (by simp [xnr] <;> omega) (by simp [xnr] <;> omega) ?_
  refine yw_as ?_
  have hL5 : (((((([] : List xc) ++ postX1_init (n + 1)) ++ [ac 2 64]) ++ [ac 1 64]) ++ [ac 1 64]) ++ [ac 1 64]).length = 5 := by rw [List.length_append, hL4]; rfl
  have hT5 : ∀ m, n + 6 ≤ m → wcl m (((((([] : List xc) ++ postX1_init (n + 1)) ++ [ac 2 64]) ++ [ac 1 64]) ++ [ac 1 64]) ++ [ac 1 64]) := fun m hm => wcl_ap (hT4 m (by omega)) (wcl_c ok_ac (wcl_n m))
  refine yw_putR dX5_init_64 qX5_43 hn (by simp) (fun _ => ⟨rfl, rfl⟩) (fun _ _ => ⟨xwc_oc, xwc_oc⟩) ?_
  refine yi_aload_n dX5_init_67 rfl rfl ?_
  refine yi_bipush dX5_init_68 (v := 64) rfl ?_
  refine yw_newI (n := 64) (m := n + 6) (by rw [List.length_append, List.length_cons, hn, hL5]) dX5_init_70 (wcl_ap (wcl_mo hw0 (by rw [hn]; omega)) (wcl_c (ok_oc (rok_set (by omega) (rok_set (by omega) (rok_set (by omega) (rok_set (by omega) (rok_set (by omega) (rz5 _))))))) (hT5 _ (by omega)))) (by decide) (by decide) (by decide) ⟨Nat.le_of_ble_eq_true rfl, Nat.le_of_ble_eq_true rfl⟩ (by simp [xnr] <;> omega) (by simp [xnr] <;> omega) ?_
  refine yw_as ?_
  have hL6 : ((((((([] : List xc) ++ postX1_init (n + 1)) ++ [ac 2 64]) ++ [ac 1 64]) ++ [ac 1 64]) ++ [ac 1 64]) ++ [ac 1 64]).length = 6 := by rw [List.length_append, hL5]; rfl
  have hT6 : ∀ m, n + 7 ≤ m → wcl m ((((((([] : List xc) ++ postX1_init (n + 1)) ++ [ac 2 64]) ++ [ac 1 64]) ++ [ac 1 64]) ++ [ac 1 64]) ++ [ac 1 64]) := fun m hm => wcl_ap (hT5 m (by omega)) (wcl_c ok_ac (wcl_n m))
  refine yw_putR dX5_init_72 qX5_46 hn (by simp) (fun _ => ⟨rfl, rfl⟩) (fun _ _ => ⟨xwc_oc, xwc_oc⟩) ?_
  refine yi_aload_n dX5_init_75 rfl rfl ?_
  refine yi_bipush dX5_init_76 (v := 64) rfl ?_
  refine yw_newI (n := 64) (m := n + 7) (by rw [List.length_append, List.length_cons, hn, hL6]) dX5_init_78 (wcl_ap (wcl_mo hw0 (by rw [hn]; omega)) (wcl_c (ok_oc (rok_set (by omega) (rok_set (by omega) (rok_set (by omega) (rok_set (by omega) (rok_set (by omega) (rok_set (by omega) (rz5 _)))))))) (hT6 _ (by omega)))) (by decide) (by decide) (by decide) ⟨Nat.le_of_ble_eq_true rfl, Nat.le_of_ble_eq_true rfl⟩ (by simp [xnr] <;> omega) (by simp [xnr] <;> omega) ?_
  refine yw_as ?_
  have hL7 : (((((((([] : List xc) ++ postX1_init (n + 1)) ++ [ac 2 64]) ++ [ac 1 64]) ++ [ac 1 64]) ++ [ac 1 64]) ++ [ac 1 64]) ++ [ac 1 64]).length = 7 := by rw [List.length_append, hL6]; rfl
  have hT7 : ∀ m, n + 8 ≤ m → wcl m (((((((([] : List xc) ++ postX1_init (n + 1)) ++ [ac 2 64]) ++ [ac 1 64]) ++ [ac 1 64]) ++ [ac 1 64]) ++ [ac 1 64]) ++ [ac 1 64]) := fun m hm => wcl_ap (hT6 m (by omega)) (wcl_c ok_ac (wcl_n m))
  refine yw_putR dX5_init_80 qX5_49 hn (by simp) (fun _ => ⟨rfl, rfl⟩) (fun _ _ => ⟨xwc_oc, xwc_oc⟩) ?_
  refine yi_aload_n dX5_init_83 rfl rfl ?_
  refine yi_bipush dX5_init_84 (v := 64) rfl ?_
  refine yw_newI (n := 64) (m := n + 8) (by rw [List.length_append, List.length_cons, hn, hL7]) dX5_init_86 (wcl_ap (wcl_mo hw0 (by rw [hn]; omega)) (wcl_c (ok_oc (rok_set (by omega) (rok_set (by omega) (rok_set (by omega) (rok_set (by omega) (rok_set (by omega) (rok_set (by omega) (rok_set (by omega) (rz5 _))))))))) (hT7 _ (by omega)))) (by decide) (by decide) (by decide) ⟨Nat.le_of_ble_eq_true rfl, Nat.le_of_ble_eq_true rfl⟩ (by simp [xnr] <;> omega) (by simp [xnr] <;> omega) ?_
  refine yw_as ?_
  have hL8 : ((((((((([] : List xc) ++ postX1_init (n + 1)) ++ [ac 2 64]) ++ [ac 1 64]) ++ [ac 1 64]) ++ [ac 1 64]) ++ [ac 1 64]) ++ [ac 1 64]) ++ [ac 1 64]).length = 8 := by rw [List.length_append, hL7]; rfl
  have hT8 : ∀ m, n + 9 ≤ m → wcl m ((((((((([] : List xc) ++ postX1_init (n + 1)) ++ [ac 2 64]) ++ [ac 1 64]) ++ [ac 1 64]) ++ [ac 1 64]) ++ [ac 1 64]) ++ [ac 1 64]) ++ [ac 1 64]) := fun m hm => wcl_ap (hT7 m (by omega)) (wcl_c ok_ac (wcl_n m))
  refine yw_putR dX5_init_88 qX5_52 hn (by simp) (fun _ => ⟨rfl, rfl⟩) (fun _ _ => ⟨xwc_oc, xwc_oc⟩) ?_
  refine yi_aload_n dX5_init_91 rfl rfl ?_
  refine yi_bipush dX5_init_92 (v := 16) rfl ?_
  refine yw_newJ (n := 16) (m := n + 9) (by rw [List.length_append, List.length_cons, hn, hL8]) dX5_init_94 (wcl_ap (wcl_mo hw0 (by rw [hn]; omega)) (wcl_c (ok_oc (rok_set (by omega) (rok_set (by omega) (rok_set (by omega) (rok_set (by omega) (rok_set (by omega) (rok_set (by omega) (rok_set (by omega) (rok_set (by omega) (rz5 _)))))))))) (hT8 _ (by omega)))) (by decide) (by decide) (by decide) ⟨Nat.le_of_ble_eq_true rfl, Nat.le_of_ble_eq_true rfl⟩ (by simp [xnr] <;> omega) (by simp [xnr] <;> omega) ?_
  refine yw_as ?_
  have hL9 : (((((((((([] : List xc) ++ postX1_init (n + 1)) ++ [ac 2 64]) ++ [ac 1 64]) ++ [ac 1 64]) ++ [ac 1 64]) ++ [ac 1 64]) ++ [ac 1 64]) ++ [ac 1 64]) ++ [ac 2 16]).length = 9 := by rw [List.length_append, hL8]; rfl
  have hT9 : ∀ m, n + 10 ≤ m → wcl m (((((((((([] : List xc) ++ postX1_init (n + 1)) ++ [ac 2 64]) ++ [ac 1 64]) ++ [ac 1 64]) ++ [ac 1 64]) ++ [ac 1 64]) ++ [ac 1 64]) ++ [ac 1 64]) ++ [ac 2 16]) := fun m hm => wcl_ap (hT8 m (by omega)) (wcl_c ok_ac (wcl_n m))
  refine yw_putR dX5_init_96 qX5_55 hn (by simp) (fun _ => ⟨rfl, rfl⟩) (fun _ _ => ⟨xwc_oc, xwc_oc⟩) ?_
  exact yw_ret dX5_init_99 rfl (Nat.le_of_ble_eq_true rfl) (Nat.le_of_ble_eq_true rfl) rfl
def postX7_init (n : Nat) : List xc := oc 7 [some (n + 1), some (n + 4), some (n + 7), some (n + 33), some (n + 35), some (n + 45), some (n + 55), some (n + 72), some (n + 75), none, none, none] [0, 0, 0, 0, 0, 0, 0, 0, 0, 0, 0, 1] [0, 0, 0, 0, 0, 0, 0, 0, 0, 0, 0, 0] :: (((((((((([] : List xc) ++ postX6_init (n + 1)) ++ postX6_init (n + 4)) ++ postX2_init (n + 7)) ++ postX3_init (n + 33)) ++ postX5_init (n + 35)) ++ postX5_init (n + 45)) ++ postX4_init (n + 55)) ++ postX0_init (n + 72)) ++ [ac 1 64])
theorem cl_X7_init (n m : Nat) (h : n + 76 ≤ m) : wcl m (postX7_init n) := wcl_c (ok_oc (rok_1 (by omega) (rok_1 (by omega) (rok_1 (by omega) (rok_1 (by omega) (rok_1 (by omega) (rok_1 (by omega) (rok_1 (by omega) (rok_1 (by omega) (rok_1 (by omega) (rok_0 (rok_0 (rok_0 (rok_n)))))))))))))) (wcl_ap (wcl_ap (wcl_ap (wcl_ap (wcl_ap (wcl_ap (wcl_ap (wcl_ap (wcl_ap (wcl_n m) (cl_X6_init (n + 1) m (by omega))) (cl_X6_init (n + 4) m (by omega))) (cl_X2_init (n + 7) m (by omega))) (cl_X3_init (n + 33) m (by omega))) (cl_X5_init (n + 35) m (by omega))) (cl_X5_init (n + 45) m (by omega))) (cl_X4_init (n + 55) m (by omega))) (cl_X0_init (n + 72) m (by omega))) (wcl_c ok_ac (wcl_n m)))
theorem k_X7_init {n : Nat} {w0 : List xc} (hn : w0.length = n) (hw0 : wcl n w0) : kdoes mX7_init n (w0 ++ [oc 7 [none, none, none, none, none, none, none, none, none, none, none, none] [0, 0, 0, 0, 0, 0, 0, 0, 0, 0, 0, 0] [0, 0, 0, 0, 0, 0, 0, 0, 0, 0, 0, 0]]) (w0 ++ postX7_init n) := by
  have hw0 : wcl w0.length w0 := by rw [hn]; exact hw0
  refine kdoes_go (by decide) rfl (by decide) ?_
  have hL0 : ([] : List xc).length = 0 := rfl
  have hT0 : ∀ m, n + 1 ≤ m → wcl m ([] : List xc) := fun m _ => wcl_n m
  refine yi_aload_n dX7_init_0 rfl rfl ?_
  refine yw_obj dX7_init_1 ⟨xT_mem (List.mem_of_getElem? (i := 100) (by decide +kernel)) rfl, xT_mem (List.mem_of_getElem? (i := 101) (by decide +kernel)) rfl, xT_mem (List.mem_of_getElem? (i := 102) (by decide +kernel)) rfl⟩ ⟨Nat.le_of_ble_eq_true rfl, Nat.le_of_ble_eq_true rfl⟩ (by decide) ?_
  refine yi_aload_n dX7_init_4 rfl rfl ?_
  have hM0 := fun c0 : xc => (by rw [List.length_append, List.length_cons, hn, hL0] : (w0 ++ c0 :: ([] : List xc)).length = n + 1)
  refine yw_new' (m := n + 1) (ci := 6) (n := 4) (c := oc 6 [none, none, none, none] [0, 0, 0, 0] [0, 0, 0, 0]) (by rw [List.length_append, List.length_cons, hn, hL0]) dX7_init_5 rfl ⟨xT_mem (List.mem_of_getElem? (i := 103) (by decide +kernel)) rfl, xT_mem (List.mem_of_getElem? (i := 104) (by decide +kernel)) rfl, xT_mem (List.mem_of_getElem? (i := 76) (by decide +kernel)) rfl⟩ tyX6_ok (wcl_ap (wcl_mo hw0 (by rw [hn]; omega)) (wcl_c (ok_oc (rz7 _)) (hT0 _ (by omega)))) (fun _ _ => rfl) dfX6 ⟨Nat.le_of_ble_eq_true rfl, Nat.le_of_ble_eq_true rfl⟩ (by simp [xnr] <;> omega) (by simp [xnr] <;> omega) ?_
  refine yi_dup dX7_init_8 rfl ?_
  refine yw_ctorN' (m1 := n + 1 + 1) (m2 := n + 1 + 3) (host := "ComponentTree") (M2 := mX6_init) (by rw [List.length_append, hM0]; rfl) (by rw [List.length_append, hM0]; rfl) dX7_init_9 ⟨List.mem_filter.mpr ⟨List.mem_of_getElem? (i := 105) (by decide +kernel), rfl⟩, xT_mem (List.mem_of_getElem? (i := 106) (by decide +kernel)) rfl, xT_mem (List.mem_of_getElem? (i := 76) (by decide +kernel)) rfl, xT_mem (List.mem_of_getElem? (i := 107) (by decide +kernel)) rfl, ⟨by decide +kernel, by decide +kernel, by decide +kernel⟩, rfl⟩ ⟨rfl, rfl⟩ ⟨Nat.le_of_ble_eq_true rfl, Nat.le_of_ble_eq_true rfl, Nat.le_of_ble_eq_true rfl, Nat.le_of_ble_eq_true rfl⟩ (fun _ _ _ h => h) (by omega) (by simp [xs2] <;> omega) (by simp [xs2] <;> omega) (Nat.le_of_ble_eq_true rfl) (k_X6_init (n := n + 1) (hM0 _) (wcl_ap (wcl_mo hw0 (by rw [hn]; omega)) (wcl_c (ok_oc (rz7 _)) (hT0 _ (by omega))))) ?_
  refine yw_as ?_
  have hL1 : (([] : List xc) ++ postX6_init (n + 1)).length = 3 := by rw [List.length_append, hL0]; rfl
  have hT1 : ∀ m, n + 4 ≤ m → wcl m (([] : List xc) ++ postX6_init (n + 1)) := fun m hm => wcl_ap (hT0 m (by omega)) (cl_X6_init (n + 1) m (by omega))
  refine yw_putR dX7_init_12 qX7_10 hn (by simp) (fun _ => ⟨rfl, rfl⟩) (fun _ _ => ⟨xwc_oc, xwc_oc⟩) ?_
  refine yi_aload_n dX7_init_15 rfl rfl ?_
  have hM1 := fun c0 : xc => (by rw [List.length_append, List.length_cons, hn, hL1] : (w0 ++ c0 :: (([] : List xc) ++ postX6_init (n + 1))).length = n + 4)
  refine yw_new' (m := n + 4) (ci := 6) (n := 4) (c := oc 6 [none, none, none, none] [0, 0, 0, 0] [0, 0, 0, 0]) (by rw [List.length_append, List.length_cons, hn, hL1]) dX7_init_16 rfl ⟨xT_mem (List.mem_of_getElem? (i := 103) (by decide +kernel)) rfl, xT_mem (List.mem_of_getElem? (i := 104) (by decide +kernel)) rfl, xT_mem (List.mem_of_getElem? (i := 76) (by decide +kernel)) rfl⟩ tyX6_ok (wcl_ap (wcl_mo hw0 (by rw [hn]; omega)) (wcl_c (ok_oc (rok_set (by omega) (rz7 _))) (hT1 _ (by omega)))) (fun _ _ => rfl) dfX6 ⟨Nat.le_of_ble_eq_true rfl, Nat.le_of_ble_eq_true rfl⟩ (by simp [xnr] <;> omega) (by simp [xnr] <;> omega) ?_
  refine yi_dup dX7_init_19 rfl ?_
  refine yw_ctorN' (m1 := n + 4 + 1) (m2 := n + 4 + 3) (host := "ComponentTree") (M2 := mX6_init) (by rw [List.length_append, hM1]; rfl) (by rw [List.length_append, hM1]; rfl) dX7_init_20 ⟨List.mem_filter.mpr ⟨List.mem_of_getElem? (i := 105) (by decide +kernel), rfl⟩, xT_mem (List.mem_of_getElem? (i := 106) (by decide +kernel)) rfl, xT_mem (List.mem_of_getElem? (i := 76) (by decide +kernel)) rfl, xT_mem (List.mem_of_getElem? (i := 107) (by decide +kernel)) rfl, ⟨by decide +kernel, by decide +kernel, by decide +kernel⟩, rfl⟩ ⟨rfl, rfl⟩ ⟨Nat.le_of_ble_eq_true rfl, Nat.le_of_ble_eq_true rfl, Nat.le_of_ble_eq_true rfl, Nat.le_of_ble_eq_true rfl⟩ (fun _ _ _ h => h) (by omega) (by simp [xs2] <;> omega) (by simp [xs2] <;> omega) (Nat.le_of_ble_eq_true rfl) (k_X6_init (n := n + 4) (hM1 _) (wcl_ap (wcl_mo hw0 (by rw [hn]; omega)) (wcl_c (ok_oc (rok_set (by omega) (rz7 _))) (hT1 _ (by omega))))) ?_
  refine yw_as ?_
  have hL2 : ((([] : List xc) ++ postX6_init (n + 1)) ++ postX6_init (n + 4)).length = 6 := by rw [List.length_append, hL1]; rfl
  have hT2 : ∀ m, n + 7 ≤ m → wcl m ((([] : List xc) ++ postX6_init (n + 1)) ++ postX6_init (n + 4)) := fun m hm => wcl_ap (hT1 m (by omega)) (cl_X6_init (n + 4) m (by omega))
  refine yw_putR dX7_init_23 qX7_16 hn (by simp) (fun _ => ⟨rfl, rfl⟩) (fun _ _ => ⟨xwc_oc, xwc_oc⟩) ?_
  refine yi_aload_n dX7_init_26 rfl rfl ?_
  have hM2 := fun c0 : xc => (by rw [List.length_append, List.length_cons, hn, hL2] : (w0 ++ c0 :: ((([] : List xc) ++ postX6_init (n + 1)) ++ postX6_init (n + 4))).length = n + 7)
  refine yw_new' (m := n + 7) (ci := 2) (n := 3) (c := oc 2 [none, none, none] [0, 0, 0] [0, 0, 0]) (by rw [List.length_append, List.length_cons, hn, hL2]) dX7_init_27 rfl ⟨xT_mem (List.mem_of_getElem? (i := 131) (by decide +kernel)) rfl, xT_mem (List.mem_of_getElem? (i := 132) (by decide +kernel)) rfl, xT_mem (List.mem_of_getElem? (i := 77) (by decide +kernel)) rfl⟩ tyX2_ok (wcl_ap (wcl_mo hw0 (by rw [hn]; omega)) (wcl_c (ok_oc (rok_set (by omega) (rok_set (by omega) (rz7 _)))) (hT2 _ (by omega)))) (fun _ _ => rfl) dfX2 ⟨Nat.le_of_ble_eq_true rfl, Nat.le_of_ble_eq_true rfl⟩ (by simp [xnr] <;> omega) (by simp [xnr] <;> omega) ?_
  refine yi_dup dX7_init_30 rfl ?_
  refine yw_ctor' (m1 := n + 7 + 1) (m2 := n + 7 + 26) (M2 := mX2_init) (by rw [List.length_append, hM2]; rfl) (by rw [List.length_append, hM2]; rfl) dX7_init_31 ⟨xT_mem (List.mem_of_getElem? (i := 133) (by decide +kernel)) rfl, xT_mem (List.mem_of_getElem? (i := 134) (by decide +kernel)) rfl, xT_mem (List.mem_of_getElem? (i := 77) (by decide +kernel)) rfl, xT_mem (List.mem_of_getElem? (i := 135) (by decide +kernel)) rfl, ⟨by decide +kernel, by decide +kernel, by decide +kernel⟩, rfl⟩ ⟨rfl, rfl⟩ ⟨Nat.le_of_ble_eq_true rfl, Nat.le_of_ble_eq_true rfl, Nat.le_of_ble_eq_true rfl, Nat.le_of_ble_eq_true rfl⟩ (fun _ _ _ h => h) (by omega) (by simp [xs2] <;> omega) (by simp [xs2] <;> omega) (Nat.le_of_ble_eq_true rfl) (k_X2_init (n := n + 7) (hM2 _) (wcl_ap (wcl_mo hw0 (by rw [hn]; omega)) (wcl_c (ok_oc (rok_set (by omega) (rok_set (by omega) (rz7 _)))) (hT2 _ (by omega))))) ?_
  refine yw_as ?_
  have hL3 : (((([] : List xc) ++ postX6_init (n + 1)) ++ postX6_init (n + 4)) ++ postX2_init (n + 7)).length = 32 := by rw [List.length_append, hL2]; rfl
  have hT3 : ∀ m, n + 33 ≤ m → wcl m (((([] : List xc) ++ postX6_init (n + 1)) ++ postX6_init (n + 4)) ++ postX2_init (n + 7)) := fun m hm => wcl_ap (hT2 m (by omega)) (cl_X2_init (n + 7) m (by omega))
  refine yw_putR dX7_init_34 qX7_22 hn (by simp) (fun _ => ⟨rfl, rfl⟩) (fun _ _ => ⟨xwc_oc, xwc_oc⟩) ?_
  refine yi_aload_n dX7_init_37 rfl rfl ?_
  have hM3 := fun c0 : xc => (by rw [List.length_append, List.length_cons, hn, hL3] : (w0 ++ c0 :: (((([] : List xc) ++ postX6_init (n + 1)) ++ postX6_init (n + 4)) ++ postX2_init (n + 7))).length = n + 33)
  refine yw_new' (m := n + 33) (ci := 3) (n := 5) (c := oc 3 [none, none, none, none, none] [0, 0, 0, 0, 0] [0, 0, 0, 0, 0]) (by rw [List.length_append, List.length_cons, hn, hL3]) dX7_init_38 rfl ⟨xT_mem (List.mem_of_getElem? (i := 151) (by decide +kernel)) rfl, xT_mem (List.mem_of_getElem? (i := 152) (by decide +kernel)) rfl, xT_mem (List.mem_of_getElem? (i := 78) (by decide +kernel)) rfl⟩ tyX3_ok (wcl_ap (wcl_mo hw0 (by rw [hn]; omega)) (wcl_c (ok_oc (rok_set (by omega) (rok_set (by omega) (rok_set (by omega) (rz7 _))))) (hT3 _ (by omega)))) (fun _ _ => rfl) dfX3 ⟨Nat.le_of_ble_eq_true rfl, Nat.le_of_ble_eq_true rfl⟩ (by simp [xnr] <;> omega) (by simp [xnr] <;> omega) ?_
  refine yi_dup dX7_init_41 rfl ?_
  refine yw_ctorN' (m1 := n + 33 + 1) (m2 := n + 33 + 2) (host := "ComponentTree") (M2 := mX3_init) (by rw [List.length_append, hM3]; rfl) (by rw [List.length_append, hM3]; rfl) dX7_init_42 ⟨List.mem_filter.mpr ⟨List.mem_of_getElem? (i := 153) (by decide +kernel), rfl⟩, xT_mem (List.mem_of_getElem? (i := 154) (by decide +kernel)) rfl, xT_mem (List.mem_of_getElem? (i := 78) (by decide +kernel)) rfl, xT_mem (List.mem_of_getElem? (i := 155) (by decide +kernel)) rfl, ⟨by decide +kernel, by decide +kernel, by decide +kernel⟩, rfl⟩ ⟨rfl, rfl⟩ ⟨Nat.le_of_ble_eq_true rfl, Nat.le_of_ble_eq_true rfl, Nat.le_of_ble_eq_true rfl, Nat.le_of_ble_eq_true rfl⟩ (fun _ _ _ h => h) (by omega) (by simp [xs2] <;> omega) (by simp [xs2] <;> omega) (Nat.le_of_ble_eq_true rfl) (k_X3_init (n := n + 33) (hM3 _) (wcl_ap (wcl_mo hw0 (by rw [hn]; omega)) (wcl_c (ok_oc (rok_set (by omega) (rok_set (by omega) (rok_set (by omega) (rz7 _))))) (hT3 _ (by omega))))) ?_
  refine yw_as ?_
  have hL4 : ((((([] : List xc) ++ postX6_init (n + 1)) ++ postX6_init (n + 4)) ++ postX2_init (n + 7)) ++ postX3_init (n + 33)).length = 34 := by rw [List.length_append, hL3]; rfl
  have hT4 : ∀ m, n + 35 ≤ m → wcl m ((((([] : List xc) ++ postX6_init (n + 1)) ++ postX6_init (n + 4)) ++ postX2_init (n + 7)) ++ postX3_init (n + 33)) := fun m hm => wcl_ap (hT3 m (by omega)) (cl_X3_init (n + 33) m (by omega))
  refine yw_putR dX7_init_45 qX7_29 hn (by simp) (fun _ => ⟨rfl, rfl⟩) (fun _ _ => ⟨xwc_oc, xwc_oc⟩) ?_
  refine yi_aload_n dX7_init_48 rfl rfl ?_
  have hM4 := fun c0 : xc => (by rw [List.length_append, List.length_cons, hn, hL4] : (w0 ++ c0 :: ((((([] : List xc) ++ postX6_init (n + 1)) ++ postX6_init (n + 4)) ++ postX2_init (n + 7)) ++ postX3_init (n + 33))).length = n + 35)
  refine yw_new' (m := n + 35) (ci := 5) (n := 13) (c := oc 5 [none, none, none, none, none, none, none, none, none, none, none, none, none] [0, 0, 0, 0, 0, 0, 0, 0, 0, 0, 0, 0, 0] [0, 0, 0, 0, 0, 0, 0, 0, 0, 0, 0, 0, 0]) (by rw [List.length_append, List.length_cons, hn, hL4]) dX7_init_49 rfl ⟨xT_mem (List.mem_of_getElem? (i := 175) (by decide +kernel)) rfl, xT_mem (List.mem_of_getElem? (i := 176) (by decide +kernel)) rfl, xT_mem (List.mem_of_getElem? (i := 79) (by decide +kernel)) rfl⟩ tyX5_ok (wcl_ap (wcl_mo hw0 (by rw [hn]; omega)) (wcl_c (ok_oc (rok_set (by omega) (rok_set (by omega) (rok_set (by omega) (rok_set (by omega) (rz7 _)))))) (hT4 _ (by omega)))) (fun _ _ => rfl) dfX5 ⟨Nat.le_of_ble_eq_true rfl, Nat.le_of_ble_eq_true rfl⟩ (by simp [xnr] <;> omega) (by simp [xnr] <;> omega) ?_
  refine yi_dup dX7_init_52 rfl ?_
  refine yw_ctorN' (m1 := n + 35 + 1) (m2 := n + 35 + 10) (host := "ComponentTree") (M2 := mX5_init) (by rw [List.length_append, hM4]; rfl) (by rw [List.length_append, hM4]; rfl) dX7_init_53 ⟨List.mem_filter.mpr ⟨List.mem_of_getElem? (i := 177) (by decide +kernel), rfl⟩, xT_mem (List.mem_of_getElem? (i := 178) (by decide +kernel)) rfl, xT_mem (List.mem_of_getElem? (i := 79) (by decide +kernel)) rfl, xT_mem (List.mem_of_getElem? (i := 179) (by decide +kernel)) rfl, ⟨by decide +kernel, by decide +kernel, by decide +kernel⟩, rfl⟩ ⟨rfl, rfl⟩ ⟨Nat.le_of_ble_eq_true rfl, Nat.le_of_ble_eq_true rfl, Nat.le_of_ble_eq_true rfl, Nat.le_of_ble_eq_true rfl⟩ (fun _ _ _ h => h) (by omega) (by simp [xs2] <;> omega) (by simp [xs2] <;> omega) (Nat.le_of_ble_eq_true rfl) (k_X5_init (n := n + 35) (hM4 _) (wcl_ap (wcl_mo hw0 (by rw [hn]; omega)) (wcl_c (ok_oc (rok_set (by omega) (rok_set (by omega) (rok_set (by omega) (rok_set (by omega) (rz7 _)))))) (hT4 _ (by omega))))) ?_
  refine yw_as ?_
  have hL5 : (((((([] : List xc) ++ postX6_init (n + 1)) ++ postX6_init (n + 4)) ++ postX2_init (n + 7)) ++ postX3_init (n + 33)) ++ postX5_init (n + 35)).length = 44 := by rw [List.length_append, hL4]; rfl
  have hT5 : ∀ m, n + 45 ≤ m → wcl m (((((([] : List xc) ++ postX6_init (n + 1)) ++ postX6_init (n + 4)) ++ postX2_init (n + 7)) ++ postX3_init (n + 33)) ++ postX5_init (n + 35)) := fun m hm => wcl_ap (hT4 m (by omega)) (cl_X5_init (n + 35) m (by omega))
  refine yw_putR dX7_init_56 qX7_36 hn (by simp) (fun _ => ⟨rfl, rfl⟩) (fun _ _ => ⟨xwc_oc, xwc_oc⟩) ?_
  refine yi_aload_n dX7_init_59 rfl rfl ?_
  have hM5 := fun c0 : xc => (by rw [List.length_append, List.length_cons, hn, hL5] : (w0 ++ c0 :: (((((([] : List xc) ++ postX6_init (n + 1)) ++ postX6_init (n + 4)) ++ postX2_init (n + 7)) ++ postX3_init (n + 33)) ++ postX5_init (n + 35))).length = n + 45)
  refine yw_new' (m := n + 45) (ci := 5) (n := 13) (c := oc 5 [none, none, none, none, none, none, none, none, none, none, none, none, none] [0, 0, 0, 0, 0, 0, 0, 0, 0, 0, 0, 0, 0] [0, 0, 0, 0, 0, 0, 0, 0, 0, 0, 0, 0, 0]) (by rw [List.length_append, List.length_cons, hn, hL5]) dX7_init_60 rfl ⟨xT_mem (List.mem_of_getElem? (i := 175) (by decide +kernel)) rfl, xT_mem (List.mem_of_getElem? (i := 176) (by decide +kernel)) rfl, xT_mem (List.mem_of_getElem? (i := 79) (by decide +kernel)) rfl⟩ tyX5_ok (wcl_ap (wcl_mo hw0 (by rw [hn]; omega)) (wcl_c (ok_oc (rok_set (by omega) (rok_set (by omega) (rok_set (by omega) (rok_set (by omega) (rok_set (by omega) (rz7 _))))))) (hT5 _ (by omega)))) (fun _ _ => rfl) dfX5 ⟨Nat.le_of_ble_eq_true rfl, Nat.le_of_ble_eq_true rfl⟩ (by simp [xnr] <;> omega) (by simp [xnr] <;> omega) ?_
  refine yi_dup dX7_init_63 rfl ?_
  refine yw_ctorN' (m1 := n + 45 + 1) (m2 := n + 45 + 10) (host := "ComponentTree") (M2 := mX5_init) (by rw [List.length_append, hM5]; rfl) (by rw [List.length_append, hM5]; rfl) dX7_init_64 ⟨List.mem_filter.mpr ⟨List.mem_of_getElem? (i := 177) (by decide +kernel), rfl⟩, xT_mem (List.mem_of_getElem? (i := 178) (by decide +kernel)) rfl, xT_mem (List.mem_of_getElem? (i := 79) (by decide +kernel)) rfl, xT_mem (List.mem_of_getElem? (i := 179) (by decide +kernel)) rfl, ⟨by decide +kernel, by decide +kernel, by decide +kernel⟩, rfl⟩ ⟨rfl, rfl⟩ ⟨Nat.le_of_ble_eq_true rfl, Nat.le_of_ble_eq_true rfl, Nat.le_of_ble_eq_true rfl, Nat.le_of_ble_eq_true rfl⟩ (fun _ _ _ h => h) (by omega) (by simp [xs2] <;> omega) (by simp [xs2] <;> omega) (Nat.le_of_ble_eq_true rfl) (k_X5_init (n := n + 45) (hM5 _) (wcl_ap (wcl_mo hw0 (by rw [hn]; omega)) (wcl_c (ok_oc (rok_set (by omega) (rok_set (by omega) (rok_set (by omega) (rok_set (by omega) (rok_set (by omega) (rz7 _))))))) (hT5 _ (by omega))))) ?_
  refine yw_as ?_
  have hL6 : ((((((([] : List xc) ++ postX6_init (n + 1)) ++ postX6_init (n + 4)) ++ postX2_init (n + 7)) ++ postX3_init (n + 33)) ++ postX5_init (n + 35)) ++ postX5_init (n + 45)).length = 54 := by rw [List.length_append, hL5]; rfl
  have hT6 : ∀ m, n + 55 ≤ m → wcl m ((((((([] : List xc) ++ postX6_init (n + 1)) ++ postX6_init (n + 4)) ++ postX2_init (n + 7)) ++ postX3_init (n + 33)) ++ postX5_init (n + 35)) ++ postX5_init (n + 45)) := fun m hm => wcl_ap (hT5 m (by omega)) (cl_X5_init (n + 45) m (by omega))
  refine yw_putR dX7_init_67 qX7_40 hn (by simp) (fun _ => ⟨rfl, rfl⟩) (fun _ _ => ⟨xwc_oc, xwc_oc⟩) ?_
  refine yi_aload_n dX7_init_70 rfl rfl ?_
  have hM6 := fun c0 : xc => (by rw [List.length_append, List.length_cons, hn, hL6] : (w0 ++ c0 :: ((((((([] : List xc) ++ postX6_init (n + 1)) ++ postX6_init (n + 4)) ++ postX2_init (n + 7)) ++ postX3_init (n + 33)) ++ postX5_init (n + 35)) ++ postX5_init (n + 45))).length = n + 55)
  refine yw_new' (m := n + 55) (ci := 4) (n := 4) (c := oc 4 [none, none, none, none] [0, 0, 0, 0] [0, 0, 0, 0]) (by rw [List.length_append, List.length_cons, hn, hL6]) dX7_init_71 rfl ⟨xT_mem (List.mem_of_getElem? (i := 272) (by decide +kernel)) rfl, xT_mem (List.mem_of_getElem? (i := 273) (by decide +kernel)) rfl, xT_mem (List.mem_of_getElem? (i := 81) (by decide +kernel)) rfl⟩ tyX4_ok (wcl_ap (wcl_mo hw0 (by rw [hn]; omega)) (wcl_c (ok_oc (rok_set (by omega) (rok_set (by omega) (rok_set (by omega) (rok_set (by omega) (rok_set (by omega) (rok_set (by omega) (rz7 _)))))))) (hT6 _ (by omega)))) (fun _ _ => rfl) dfX4 ⟨Nat.le_of_ble_eq_true rfl, Nat.le_of_ble_eq_true rfl⟩ (by simp [xnr] <;> omega) (by simp [xnr] <;> omega) ?_
  refine yi_dup dX7_init_74 rfl ?_
  refine yw_ctorN' (m1 := n + 55 + 1) (m2 := n + 55 + 17) (host := "ComponentTree") (M2 := mX4_init) (by rw [List.length_append, hM6]; rfl) (by rw [List.length_append, hM6]; rfl) dX7_init_75 ⟨List.mem_filter.mpr ⟨List.mem_of_getElem? (i := 274) (by decide +kernel), rfl⟩, xT_mem (List.mem_of_getElem? (i := 275) (by decide +kernel)) rfl, xT_mem (List.mem_of_getElem? (i := 81) (by decide +kernel)) rfl, xT_mem (List.mem_of_getElem? (i := 276) (by decide +kernel)) rfl, ⟨by decide +kernel, by decide +kernel, by decide +kernel⟩, rfl⟩ ⟨rfl, rfl⟩ ⟨Nat.le_of_ble_eq_true rfl, Nat.le_of_ble_eq_true rfl, Nat.le_of_ble_eq_true rfl, Nat.le_of_ble_eq_true rfl⟩ (fun _ _ _ h => h) (by omega) (by simp [xs2] <;> omega) (by simp [xs2] <;> omega) (Nat.le_of_ble_eq_true rfl) (k_X4_init (n := n + 55) (hM6 _) (wcl_ap (wcl_mo hw0 (by rw [hn]; omega)) (wcl_c (ok_oc (rok_set (by omega) (rok_set (by omega) (rok_set (by omega) (rok_set (by omega) (rok_set (by omega) (rok_set (by omega) (rz7 _)))))))) (hT6 _ (by omega))))) ?_
  refine yw_as ?_
  have hL7 : (((((((([] : List xc) ++ postX6_init (n + 1)) ++ postX6_init (n + 4)) ++ postX2_init (n + 7)) ++ postX3_init (n + 33)) ++ postX5_init (n + 35)) ++ postX5_init (n + 45)) ++ postX4_init (n + 55)).length = 71 := by rw [List.length_append, hL6]; rfl
  have hT7 : ∀ m, n + 72 ≤ m → wcl m (((((((([] : List xc) ++ postX6_init (n + 1)) ++ postX6_init (n + 4)) ++ postX2_init (n + 7)) ++ postX3_init (n + 33)) ++ postX5_init (n + 35)) ++ postX5_init (n + 45)) ++ postX4_init (n + 55)) := fun m hm => wcl_ap (hT6 m (by omega)) (cl_X4_init (n + 55) m (by omega))
  refine yw_putR dX7_init_78 qX7_46 hn (by simp) (fun _ => ⟨rfl, rfl⟩) (fun _ _ => ⟨xwc_oc, xwc_oc⟩) ?_
  refine yi_aload_n dX7_init_81 rfl rfl ?_
  have hM7 := fun c0 : xc => (by rw [List.length_append, List.length_cons, hn, hL7] : (w0 ++ c0 :: (((((((([] : List xc) ++ postX6_init (n + 1)) ++ postX6_init (n + 4)) ++ postX2_init (n + 7)) ++ postX3_init (n + 33)) ++ postX5_init (n + 35)) ++ postX5_init (n + 45)) ++ postX4_init (n + 55))).length = n + 72)
  refine yw_new' (m := n + 72) (ci := 0) (n := 2) (c := oc 0 [none, none] [0, 0] [0, 0]) (by rw [List.length_append, List.length_cons, hn, hL7]) dX7_init_82 rfl ⟨xT_mem (List.mem_of_getElem? (i := 295) (by decide +kernel)) rfl, xT_mem (List.mem_of_getElem? (i := 296) (by decide +kernel)) rfl, xT_mem (List.mem_of_getElem? (i := 82) (by decide +kernel)) rfl⟩ tyX0_ok (wcl_ap (wcl_mo hw0 (by rw [hn]; omega)) (wcl_c (ok_oc (rok_set (by omega) (rok_set (by omega) (rok_set (by omega) (rok_set (by omega) (rok_set (by omega) (rok_set (by omega) (rok_set (by omega) (rz7 _))))))))) (hT7 _ (by omega)))) (fun _ _ => rfl) dfX0 ⟨Nat.le_of_ble_eq_true rfl, Nat.le_of_ble_eq_true rfl⟩ (by simp [xnr] <;> omega) (by simp [xnr] <;> omega) ?_
  refine yi_dup dX7_init_85 rfl ?_
  refine yw_ctorN' (m1 := n + 72 + 1) (m2 := n + 72 + 3) (host := "ComponentTree") (M2 := mX0_init) (by rw [List.length_append, hM7]; rfl) (by rw [List.length_append, hM7]; rfl) dX7_init_86 ⟨List.mem_filter.mpr ⟨List.mem_of_getElem? (i := 297) (by decide +kernel), rfl⟩, xT_mem (List.mem_of_getElem? (i := 298) (by decide +kernel)) rfl, xT_mem (List.mem_of_getElem? (i := 82) (by decide +kernel)) rfl, xT_mem (List.mem_of_getElem? (i := 299) (by decide +kernel)) rfl, ⟨by decide +kernel, by decide +kernel, by decide +kernel⟩, rfl⟩ ⟨rfl, rfl⟩ ⟨Nat.le_of_ble_eq_true rfl, Nat.le_of_ble_eq_true rfl, Nat.le_of_ble_eq_true rfl, Nat.le_of_ble_eq_true rfl⟩ (fun _ _ _ h => h) (by omega) (by simp [xs2] <;> omega) (by simp [xs2] <;> omega) (Nat.le_of_ble_eq_true rfl) (k_X0_init (n := n + 72) (hM7 _) (wcl_ap (wcl_mo hw0 (by rw [hn]; omega)) (wcl_c (ok_oc (rok_set (by omega) (rok_set (by omega) (rok_set (by omega) (rok_set (by omega) (rok_set (by omega) (rok_set (by omega) (rok_set (by omega) (rz7 _))))))))) (hT7 _ (by omega))))) ?_
  refine yw_as ?_
  have hL8 : ((((((((([] : List xc) ++ postX6_init (n + 1)) ++ postX6_init (n + 4)) ++ postX2_init (n + 7)) ++ postX3_init (n + 33)) ++ postX5_init (n + 35)) ++ postX5_init (n + 45)) ++ postX4_init (n + 55)) ++ postX0_init (n + 72)).length = 74 := by rw [List.length_append, hL7]; rfl
  have hT8 : ∀ m, n + 75 ≤ m → wcl m ((((((((([] : List xc) ++ postX6_init (n + 1)) ++ postX6_init (n + 4)) ++ postX2_init (n + 7)) ++ postX3_init (n + 33)) ++ postX5_init (n + 35)) ++ postX5_init (n + 45)) ++ postX4_init (n + 55)) ++ postX0_init (n + 72)) := fun m hm => wcl_ap (hT7 m (by omega)) (cl_X0_init (n + 72) m (by omega))
  refine yw_putR dX7_init_89 qX7_53 hn (by simp) (fun _ => ⟨rfl, rfl⟩) (fun _ _ => ⟨xwc_oc, xwc_oc⟩) ?_
  refine yi_aload_n dX7_init_92 rfl rfl ?_
  refine yi_bipush dX7_init_93 (v := 64) rfl ?_
  refine yw_newI (n := 64) (m := n + 75) (by rw [List.length_append, List.length_cons, hn, hL8]) dX7_init_95 (wcl_ap (wcl_mo hw0 (by rw [hn]; omega)) (wcl_c (ok_oc (rok_set (by omega) (rok_set (by omega) (rok_set (by omega) (rok_set (by omega) (rok_set (by omega) (rok_set (by omega) (rok_set (by omega) (rok_set (by omega) (rz7 _)))))))))) (hT8 _ (by omega)))) (by decide) (by decide) (by decide) ⟨Nat.le_of_ble_eq_true rfl, Nat.le_of_ble_eq_true rfl⟩ (by simp [xnr] <;> omega) (by simp [xnr] <;> omega) ?_
  refine yw_as ?_
  have hL9 : (((((((((([] : List xc) ++ postX6_init (n + 1)) ++ postX6_init (n + 4)) ++ postX2_init (n + 7)) ++ postX3_init (n + 33)) ++ postX5_init (n + 35)) ++ postX5_init (n + 45)) ++ postX4_init (n + 55)) ++ postX0_init (n + 72)) ++ [ac 1 64]).length = 75 := by rw [List.length_append, hL8]; rfl
  have hT9 : ∀ m, n + 76 ≤ m → wcl m (((((((((([] : List xc) ++ postX6_init (n + 1)) ++ postX6_init (n + 4)) ++ postX2_init (n + 7)) ++ postX3_init (n + 33)) ++ postX5_init (n + 35)) ++ postX5_init (n + 45)) ++ postX4_init (n + 55)) ++ postX0_init (n + 72)) ++ [ac 1 64]) := fun m hm => wcl_ap (hT8 m (by omega)) (wcl_c ok_ac (wcl_n m))
  refine yw_putR dX7_init_97 qX7_57 hn (by simp) (fun _ => ⟨rfl, rfl⟩) (fun _ _ => ⟨xwc_oc, xwc_oc⟩) ?_
  refine yi_aload_n dX7_init_100 rfl rfl ?_
  refine yi_iconst dX7_init_101 (v := 0) rfl ?_
  refine yw_putZ dX7_init_102 qX7_61 hn (Or.inl rfl) (by decide) (fun _ _ => ⟨xwc_oc, xwc_oc⟩) ?_
  refine yi_aload_n dX7_init_105 rfl rfl ?_
  refine yi_iconst dX7_init_106 (v := 0) rfl ?_
  refine yw_putZ dX7_init_107 qX7_65 hn (Or.inl rfl) (by decide) (fun _ _ => ⟨xwc_oc, xwc_oc⟩) ?_
  refine yi_aload_n dX7_init_110 rfl rfl ?_
  refine yi_iconst dX7_init_111 (v := 1) rfl ?_
  refine yw_putZ dX7_init_112 qX7_68 hn (Or.inr rfl) (by decide) (fun _ _ => ⟨xwc_oc, xwc_oc⟩) ?_
  exact yw_ret dX7_init_115 rfl (Nat.le_of_ble_eq_true rfl) (Nat.le_of_ble_eq_true rfl) rfl
def postX8_init (n : Nat) : List xc := oc 8 [none, none, none, some (n + 1), some (n + 2), none, none, none, some (n + 3), some (n + 4), some (n + 5), none, some (n + 6), none, none, none, none, some (n + 7), none, none, some (n + 8), some (n + 9), some (n + 10), some (n + 11), some (n + 12), some (n + 13), none, some (n + 14), some (n + 15), some (n + 16), some (n + 17), some (n + 18), none] [0, 1, 1, 0, 0, 0, 0, 0, 0, 0, 0, 0, 0, 0, 0, 0, 0, 0, 0, 0, 0, 0, 0, 0, 0, 0, 0, 0, 0, 0, 0, 0, 0] [0, 0, 0, 0, 0, 0, 0, 0, 0, 0, 0, 0, 0, 0, 0, 0, 0, 0, 0, 0, 0, 0, 0, 0, 0, 0, 0, 0, 0, 0, 0, 0, 0] :: ((((((((((((((((((([] : List xc) ++ [ac 1 64]) ++ [ac 1 64]) ++ [ac 1 16]) ++ [ac 1 512]) ++ [ac 1 512]) ++ [ac 1 72]) ++ [ac 1 64]) ++ [ac 2 64]) ++ [ac 1 64]) ++ [ac 1 64]) ++ [ac 1 64]) ++ [ac 1 64]) ++ [ac 1 64]) ++ [ac 1 64]) ++ [ac 1 64]) ++ [ac 3 64]) ++ [ac 1 64]) ++ [ac 1 64])
theorem cl_X8_init (n m : Nat) (h : n + 19 ≤ m) : wcl m (postX8_init n) := wcl_c (ok_oc (rok_0 (rok_0 (rok_0 (rok_1 (by omega) (rok_1 (by omega) (rok_0 (rok_0 (rok_0 (rok_1 (by omega) (rok_1 (by omega) (rok_1 (by omega) (rok_0 (rok_1 (by omega) (rok_0 (rok_0 (rok_0 (rok_0 (rok_1 (by omega) (rok_0 (rok_0 (rok_1 (by omega) (rok_1 (by omega) (rok_1 (by omega) (rok_1 (by omega) (rok_1 (by omega) (rok_1 (by omega) (rok_0 (rok_1 (by omega) (rok_1 (by omega) (rok_1 (by omega) (rok_1 (by omega) (rok_1 (by omega) (rok_0 (rok_n))))))))))))))))))))))))))))))))))) (wcl_ap (wcl_ap (wcl_ap (wcl_ap (wcl_ap (wcl_ap (wcl_ap (wcl_ap (wcl_ap (wcl_ap (wcl_ap (wcl_ap (wcl_ap (wcl_ap (wcl_ap (wcl_ap (wcl_ap (wcl_ap (wcl_n m) (wcl_c ok_ac (wcl_n m))) (wcl_c ok_ac (wcl_n m))) (wcl_c ok_ac (wcl_n m))) (wcl_c ok_ac (wcl_n m))) (wcl_c ok_ac (wcl_n m))) (wcl_c ok_ac (wcl_n m))) (wcl_c ok_ac (wcl_n m))) (wcl_c ok_ac (wcl_n m))) (wcl_c ok_ac (wcl_n m))) (wcl_c ok_ac (wcl_n m))) (wcl_c ok_ac (wcl_n m))) (wcl_c ok_ac (wcl_n m))) (wcl_c ok_ac (wcl_n m))) (wcl_c ok_ac (wcl_n m))) (wcl_c ok_ac (wcl_n m))) (wcl_c ok_ac (wcl_n m))) (wcl_c ok_ac (wcl_n m))) (wcl_c ok_ac (wcl_n m)))
set_option maxHeartbeats 8000000 in
theorem k_X8_init {n : Nat} {w0 : List xc} (hn : w0.length = n) (hw0 : wcl n w0) : kdoes mX8_init n (w0 ++ [oc 8 [none, none, none, none, none, none, none, none, none, none, none, none, none, none, none, none, none, none, none, none, none, none, none, none, none, none, none, none, none, none, none, none, none] [0, 0, 0, 0, 0, 0, 0, 0, 0, 0, 0, 0, 0, 0, 0, 0, 0, 0, 0, 0, 0, 0, 0, 0, 0, 0, 0, 0, 0, 0, 0, 0, 0] [0, 0, 0, 0, 0, 0, 0, 0, 0, 0, 0, 0, 0, 0, 0, 0, 0, 0, 0, 0, 0, 0, 0, 0, 0, 0, 0, 0, 0, 0, 0, 0, 0]]) (w0 ++ postX8_init n) := by
  have hw0 : wcl w0.length w0 := by rw [hn]; exact hw0
  refine kdoes_go (by decide) rfl (by decide) ?_
  have hL0 : ([] : List xc).length = 0 := rfl
  have hT0 : ∀ m, n + 1 ≤ m → wcl m ([] : List xc) := fun m _ => wcl_n m
  refine yi_aload_n dX8_init_0 rfl rfl ?_
  refine yw_obj dX8_init_1 ⟨xT_mem (List.mem_of_getElem? (i := 1014) (by decide +kernel)) rfl, xT_mem (List.mem_of_getElem? (i := 101) (by decide +kernel)) rfl, xT_mem (List.mem_of_getElem? (i := 102) (by decide +kernel)) rfl⟩ ⟨Nat.le_of_ble_eq_true rfl, Nat.le_of_ble_eq_true rfl⟩ (by decide) ?_
  refine yi_aload_n dX8_init_4 rfl rfl ?_
  refine yi_iconst dX8_init_5 (v := 1) rfl ?_
  refine yw_putI dX8_init_6 qX8_7 hn (by decide) (fun _ _ => ⟨xwc_oc, xwc_oc⟩) ?_
  refine yi_aload_n dX8_init_9 rfl rfl ?_
  refine yi_iconst dX8_init_10 (v := 1) rfl ?_
  refine yw_putI dX8_init_11 qX8_13 hn (by decide) (fun _ _ => ⟨xwc_oc, xwc_oc⟩) ?_
  refine yi_aload_n dX8_init_14 rfl rfl ?_
  refine yi_bipush dX8_init_15 (v := 64) rfl ?_
  refine yw_newI (n := 64) (m := n + 1) (by rw [List.length_append, List.length_cons, hn, hL0]) dX8_init_17 (wcl_ap (wcl_mo hw0 (by rw [hn]; omega)) (wcl_c (ok_oc (rz8 _)) (hT0 _ (by omega)))) (by decide) (by decide) (by decide) ⟨Nat.le_of_ble_eq_true rfl, Nat.le_of_ble_eq_true rfl⟩ (by simp [xnr] <;> omega) (by simp [xnr] <;> omega) ?_
  refine yw_as ?_
  have hL1 : (([] : List xc) ++ [ac 1 64]).length = 1 := by rw [List.length_append, hL0]; rfl
  have hT1 : ∀ m, n + 2 ≤ m → wcl m (([] : List xc) ++ [ac 1 64]) := fun m hm => wcl_ap (hT0 m (by omega)) (wcl_c ok_ac (wcl_n m))
  refine yw_putR dX8_init_19 qX8_16 hn (by simp) (fun _ => ⟨rfl, rfl⟩) (fun _ _ => ⟨xwc_oc, xwc_oc⟩) ?_
  refine yi_aload_n dX8_init_22 rfl rfl ?_
  refine yi_bipush dX8_init_23 (v := 64) rfl ?_
  refine yw_newI (n := 64) (m := n + 2) (by rw [List.length_append, List.length_cons, hn, hL1]) dX8_init_25 (wcl_ap (wcl_mo hw0 (by rw [hn]; omega)) (wcl_c (ok_oc (rok_set (by omega) (rz8 _))) (hT1 _ (by omega)))) (by decide) (by decide) (by decide) ⟨Nat.le_of_ble_eq_true rfl, Nat.le_of_ble_eq_true rfl⟩ (by simp [xnr] <;> omega) (by simp [xnr] <;> omega) ?_
  refine yw_as ?_
  have hL2 : ((([] : List xc) ++ [ac 1 64]) ++ [ac 1 64]).length = 2 := by rw [List.length_append, hL1]; rfl
  have hT2 : ∀ m, n + 3 ≤ m → wcl m ((([] : List xc) ++ [ac 1 64]) ++ [ac 1 64]) := fun m hm => wcl_ap (hT1 m (by omega)) (wcl_c ok_ac (wcl_n m))
  refine yw_putR dX8_init_27 qX8_20 hn (by simp) (fun _ => ⟨rfl, rfl⟩) (fun _ _ => ⟨xwc_oc, xwc_oc⟩) ?_
  refine yi_aload_n dX8_init_30 rfl rfl ?_
  refine yi_bipush dX8_init_31 (v := 16) rfl ?_
  refine yw_newI (n := 16) (m := n + 3) (by rw [List.length_append, List.length_cons, hn, hL2]) dX8_init_33 (wcl_ap (wcl_mo hw0 (by rw [hn]; omega)) (wcl_c (ok_oc (rok_set (by omega) (rok_set (by omega) (rz8 _)))) (hT2 _ (by omega)))) (by decide) (by decide) (by decide) ⟨Nat.le_of_ble_eq_true rfl, Nat.le_of_ble_eq_true rfl⟩ (by simp [xnr] <;> omega) (by simp [xnr] <;> omega) ?_
  refine yw_as ?_
  have hL3 : (((([] : List xc) ++ [ac 1 64]) ++ [ac 1 64]) ++ [ac 1 16]).length = 3 := by rw [List.length_append, hL2]; rfl
  have hT3 : ∀ m, n + 4 ≤ m → wcl m (((([] : List xc) ++ [ac 1 64]) ++ [ac 1 64]) ++ [ac 1 16]) := fun m hm => wcl_ap (hT2 m (by omega)) (wcl_c ok_ac (wcl_n m))
  refine yw_putR dX8_init_35 qX8_23 hn (by simp) (fun _ => ⟨rfl, rfl⟩) (fun _ _ => ⟨xwc_oc, xwc_oc⟩) ?_
  refine yi_aload_n dX8_init_38 rfl rfl ?_
  refine yi_sipush dX8_init_39 (v := 512) rfl ?_
  refine yw_newI (n := 512) (m := n + 4) (by rw [List.length_append, List.length_cons, hn, hL3]) dX8_init_42 (wcl_ap (wcl_mo hw0 (by rw [hn]; omega)) (wcl_c (ok_oc (rok_set (by omega) (rok_set (by omega) (rok_set (by omega) (rz8 _))))) (hT3 _ (by omega)))) (by decide) (by decide) (by decide) ⟨Nat.le_of_ble_eq_true rfl, Nat.le_of_ble_eq_true rfl⟩ (by simp [xnr] <;> omega) (by simp [xnr] <;> omega) ?_
  refine yw_as ?_
  have hL4 : ((((([] : List xc) ++ [ac 1 64]) ++ [ac 1 64]) ++ [ac 1 16]) ++ [ac 1 512]).length = 4 := by rw [List.length_append, hL3]; rfl
  have hT4 : ∀ m, n + 5 ≤ m → wcl m ((((([] : List xc) ++ [ac 1 64]) ++ [ac 1 64]) ++ [ac 1 16]) ++ [ac 1 512]) := fun m hm => wcl_ap (hT3 m (by omega)) (wcl_c ok_ac (wcl_n m))
  refine yw_putR dX8_init_44 qX8_26 hn (by simp) (fun _ => ⟨rfl, rfl⟩) (fun _ _ => ⟨xwc_oc, xwc_oc⟩) ?_
  refine yi_aload_n dX8_init_47 rfl rfl ?_
  refine yi_sipush dX8_init_48 (v := 512) rfl ?_
  refine yw_newI (n := 512) (m := n + 5) (by rw [List.length_append, List.length_cons, hn, hL4]) dX8_init_51 (wcl_ap (wcl_mo hw0 (by rw [hn]; omega)) (wcl_c (ok_oc (rok_set (by omega) (rok_set (by omega) (rok_set (by omega) (rok_set (by omega) (rz8 _)))))) (hT4 _ (by omega)))) (by decide) (by decide) (by decide) ⟨Nat.le_of_ble_eq_true rfl, Nat.le_of_ble_eq_true rfl⟩ (by simp [xnr] <;> omega) (by simp [xnr] <;> omega) ?_
  refine yw_as ?_
  have hL5 : (((((([] : List xc) ++ [ac 1 64]) ++ [ac 1 64]) ++ [ac 1 16]) ++ [ac 1 512]) ++ [ac 1 512]).length = 5 := by rw [List.length_append, hL4]; rfl
  have hT5 : ∀ m, n + 6 ≤ m → wcl m (((((([] : List xc) ++ [ac 1 64]) ++ [ac 1 64]) ++ [ac 1 16]) ++ [ac 1 512]) ++ [ac 1 512]) := fun m hm => wcl_ap (hT4 m (by omega)) (wcl_c ok_ac (wcl_n m))
  refine yw_putR dX8_init_53 qX8_29 hn (by simp) (fun _ => ⟨rfl, rfl⟩) (fun _ _ => ⟨xwc_oc, xwc_oc⟩) ?_
  refine yi_aload_n dX8_init_56 rfl rfl ?_
  refine yi_bipush dX8_init_57 (v := 72) rfl ?_
  refine yw_newI (n := 72) (m := n + 6) (by rw [List.length_append, List.length_cons, hn, hL5]) dX8_init_59 (wcl_ap (wcl_mo hw0 (by rw [hn]; omega)) (wcl_c (ok_oc (rok_set (by omega) (rok_set (by omega) (rok_set (by omega) (rok_set (by omega) (rok_set (by omega) (rz8 _))))))) (hT5 _ (by omega)))) (by decide) (by decide) (by decide) ⟨Nat.le_of_ble_eq_true rfl, Nat.le_of_ble_eq_true rfl⟩ (by simp [xnr] <;> omega) (by simp [xnr] <;> omega) ?_
  refine yw_as ?_
  have hL6 : ((((((([] : List xc) ++ [ac 1 64]) ++ [ac 1 64]) ++ [ac 1 16]) ++ [ac 1 512]) ++ [ac 1 512]) ++ [ac 1 72]).length = 6 := by rw [List.length_append, hL5]; rfl
  have hT6 : ∀ m, n + 7 ≤ m → wcl m ((((((([] : List xc) ++ [ac 1 64]) ++ [ac 1 64]) ++ [ac 1 16]) ++ [ac 1 512]) ++ [ac 1 512]) ++ [ac 1 72]) := fun m hm => wcl_ap (hT5 m (by omega)) (wcl_c ok_ac (wcl_n m))
  refine yw_putR dX8_init_61 qX8_32 hn (by simp) (fun _ => ⟨rfl, rfl⟩) (fun _ _ => ⟨xwc_oc, xwc_oc⟩) ?_
  refine yi_aload_n dX8_init_64 rfl rfl ?_
  refine yi_bipush dX8_init_65 (v := 64) rfl ?_
  refine yw_newI (n := 64) (m := n + 7) (by rw [List.length_append, List.length_cons, hn, hL6]) dX8_init_67 (wcl_ap (wcl_mo hw0 (by rw [hn]; omega)) (wcl_c (ok_oc (rok_set (by omega) (rok_set (by omega) (rok_set (by omega) (rok_set (by omega) (rok_set (by omega) (rok_set (by omega) (rz8 _)))))))) (hT6 _ (by omega)))) (by decide) (by decide) (by decide) ⟨Nat.le_of_ble_eq_true rfl, Nat.le_of_ble_eq_true rfl⟩ (by simp [xnr] <;> omega) (by simp [xnr] <;> omega) ?_
  refine yw_as ?_
  have hL7 : (((((((([] : List xc) ++ [ac 1 64]) ++ [ac 1 64]) ++ [ac 1 16]) ++ [ac 1 512]) ++ [ac 1 512]) ++ [ac 1 72]) ++ [ac 1 64]).length = 7 := by rw [List.length_append, hL6]; rfl
  have hT7 : ∀ m, n + 8 ≤ m → wcl m (((((((([] : List xc) ++ [ac 1 64]) ++ [ac 1 64]) ++ [ac 1 16]) ++ [ac 1 512]) ++ [ac 1 512]) ++ [ac 1 72]) ++ [ac 1 64]) := fun m hm => wcl_ap (hT6 m (by omega)) (wcl_c ok_ac (wcl_n m))
  refine yw_putR dX8_init_69 qX8_35 hn (by simp) (fun _ => ⟨rfl, rfl⟩) (fun _ _ => ⟨xwc_oc, xwc_oc⟩) ?_
  refine yi_aload_n dX8_init_72 rfl rfl ?_
  refine yi_bipush dX8_init_73 (v := 64) rfl ?_
  refine yw_newJ (n := 64) (m := n + 8) (by rw [List.length_append, List.length_cons, hn, hL7]) dX8_init_75 (wcl_ap (wcl_mo hw0 (by rw [hn]; omega)) (wcl_c (ok_oc (rok_set (by omega) (rok_set (by omega) (rok_set (by omega) (rok_set (by omega) (rok_set (by omega) (rok_set (by omega) (rok_set (by omega) (rz8 _))))))))) (hT7 _ (by omega)))) (by decide) (by decide) (by decide) ⟨Nat.le_of_ble_eq_true rfl, Nat.le_of_ble_eq_true rfl⟩ (by simp [xnr] <;> omega) (by simp [xnr] <;> omega) ?_
  refine yw_as ?_
  have hL8 : ((((((((([] : List xc) ++ [ac 1 64]) ++ [ac 1 64]) ++ [ac 1 16]) ++ [ac 1 512]) ++ [ac 1 512]) ++ [ac 1 72]) ++ [ac 1 64]) ++ [ac 2 64]).length = 8 := by rw [List.length_append, hL7]; rfl
  have hT8 : ∀ m, n + 9 ≤ m → wcl m ((((((((([] : List xc) ++ [ac 1 64]) ++ [ac 1 64]) ++ [ac 1 16]) ++ [ac 1 512]) ++ [ac 1 512]) ++ [ac 1 72]) ++ [ac 1 64]) ++ [ac 2 64]) := fun m hm => wcl_ap (hT7 m (by omega)) (wcl_c ok_ac (wcl_n m))
  refine yw_putR dX8_init_77 qX8_38 hn (by simp) (fun _ => ⟨rfl, rfl⟩) (fun _ _ => ⟨xwc_oc, xwc_oc⟩) ?_
  refine yi_aload_n dX8_init_80 rfl rfl ?_
  refine yi_bipush dX8_init_81 (v := 64) rfl ?_
  refine yw_newI (n := 64) (m := n + 9) (by rw [List.length_append, List.length_cons, hn, hL8]) dX8_init_83 (wcl_ap (wcl_mo hw0 (by rw [hn]; omega)) (wcl_c (ok_oc (rok_set (by omega) (rok_set (by omega) (rok_set (by omega) (rok_set (by omega) (rok_set (by omega) (rok_set (by omega) (rok_set (by omega) (rok_set (by omega) (rz8 _)))))))))) (hT8 _ (by omega)))) (by decide) (by decide) (by decide) ⟨Nat.le_of_ble_eq_true rfl, Nat.le_of_ble_eq_true rfl⟩ (by simp [xnr] <;> omega) (by simp [xnr] <;> omega) ?_
  refine yw_as ?_
  have hL9 : (((((((((([] : List xc) ++ [ac 1 64]) ++ [ac 1 64]) ++ [ac 1 16]) ++ [ac 1 512]) ++ [ac 1 512]) ++ [ac 1 72]) ++ [ac 1 64]) ++ [ac 2 64]) ++ [ac 1 64]).length = 9 := by rw [List.length_append, hL8]; rfl
  have hT9 : ∀ m, n + 10 ≤ m → wcl m (((((((((([] : List xc) ++ [ac 1 64]) ++ [ac 1 64]) ++ [ac 1 16]) ++ [ac 1 512]) ++ [ac 1 512]) ++ [ac 1 72]) ++ [ac 1 64]) ++ [ac 2 64]) ++ [ac 1 64]) := fun m hm => wcl_ap (hT8 m (by omega)) (wcl_c ok_ac (wcl_n m))
  refine yw_putR dX8_init_85 qX8_42 hn (by simp) (fun _ => ⟨rfl, rfl⟩) (fun _ _ => ⟨xwc_oc, xwc_oc⟩) ?_
  refine yi_aload_n dX8_init_88 rfl rfl ?_
  refine yi_bipush dX8_init_89 (v := 64) rfl ?_
  refine yw_newI (n := 64) (m := n + 10) (by rw [List.length_append, List.length_cons, hn, hL9]) dX8_init_91 (wcl_ap (wcl_mo hw0 (by rw [hn]; omega)) (wcl_c (ok_oc (rok_set (by omega) (rok_set (by omega) (rok_set (by omega) (rok_set (by omega) (rok_set (by omega) (rok_set (by omega) (rok_set (by omega) (rok_set (by omega) (rok_set (by omega) (rz8 _))))))))))) (hT9 _ (by omega)))) (by decide) (by decide) (by decide) ⟨Nat.le_of_ble_eq_true rfl, Nat.le_of_ble_eq_true rfl⟩ (by simp [xnr] <;> omega) (by simp [xnr] <;> omega) ?_
  refine yw_as ?_
  have hL10 : ((((((((((([] : List xc) ++ [ac 1 64]) ++ [ac 1 64]) ++ [ac 1 16]) ++ [ac 1 512]) ++ [ac 1 512]) ++ [ac 1 72]) ++ [ac 1 64]) ++ [ac 2 64]) ++ [ac 1 64]) ++ [ac 1 64]).length = 10 := by rw [List.length_append, hL9]; rfl
  have hT10 : ∀ m, n + 11 ≤ m → wcl m ((((((((((([] : List xc) ++ [ac 1 64]) ++ [ac 1 64]) ++ [ac 1 16]) ++ [ac 1 512]) ++ [ac 1 512]) ++ [ac 1 72]) ++ [ac 1 64]) ++ [ac 2 64]) ++ [ac 1 64]) ++ [ac 1 64]) := fun m hm => wcl_ap (hT9 m (by omega)) (wcl_c ok_ac (wcl_n m))
  refine yw_putR dX8_init_93 qX8_45 hn (by simp) (fun _ => ⟨rfl, rfl⟩) (fun _ _ => ⟨xwc_oc, xwc_oc⟩) ?_
  refine yi_aload_n dX8_init_96 rfl rfl ?_
  refine yi_bipush dX8_init_97 (v := 64) rfl ?_
  refine yw_newI (n := 64) (m := n + 11) (by rw [List.length_append, List.length_cons, hn, hL10]) dX8_init_99 (wcl_ap (wcl_mo hw0 (by rw [hn]; omega)) (wcl_c (ok_oc (rok_set (by omega) (rok_set (by omega) (rok_set (by omega) (rok_set (by omega) (rok_set (by omega) (rok_set (by omega) (rok_set (by omega) (rok_set (by omega) (rok_set (by omega) (rok_set (by omega) (rz8 _)))))))))))) (hT10 _ (by omega)))) (by decide) (by decide) (by decide) ⟨Nat.le_of_ble_eq_true rfl, Nat.le_of_ble_eq_true rfl⟩ (by simp [xnr] <;> omega) (by simp [xnr] <;> omega) ?_
  refine yw_as ?_
  have hL11 : (((((((((((([] : List xc) ++ [ac 1 64]) ++ [ac 1 64]) ++ [ac 1 16]) ++ [ac 1 512]) ++ [ac 1 512]) ++ [ac 1 72]) ++ [ac 1 64]) ++ [ac 2 64]) ++ [ac 1 64]) ++ [ac 1 64]) ++ [ac 1 64]).length = 11 := by rw [List.length_append, hL10]; rfl
  have hT11 : ∀ m, n + 12 ≤ m → wcl m (((((((((((([] : List xc) ++ [ac 1 64]) ++ [ac 1 64]) ++ [ac 1 16]) ++ [ac 1 512]) ++ [ac 1 512]) ++ [ac 1 72]) ++ [ac 1 64]) ++ [ac 2 64]) ++ [ac 1 64]) ++ [ac 1 64]) ++ [ac 1 64]) := fun m hm => wcl_ap (hT10 m (by omega)) (wcl_c ok_ac (wcl_n m))
  refine yw_putR dX8_init_101 qX8_48 hn (by simp) (fun _ => ⟨rfl, rfl⟩) (fun _ _ => ⟨xwc_oc, xwc_oc⟩) ?_
  refine yi_aload_n dX8_init_104 rfl rfl ?_
  refine yi_bipush dX8_init_105 (v := 64) rfl ?_
  refine yw_newI (n := 64) (m := n + 12) (by rw [List.length_append, List.length_cons, hn, hL11]) dX8_init_107 (wcl_ap (wcl_mo hw0 (by rw [hn]; omega)) (wcl_c (ok_oc (rok_set (by omega) (rok_set (by omega) (rok_set (by omega) (rok_set (by omega) (rok_set (by omega) (rok_set (by omega) (rok_set (by omega) (rok_set (by omega) (rok_set (by omega) (rok_set (by omega) (rok_set (by omega) (rz8 _))))))))))))) (hT11 _ (by omega)))) (by decide) (by decide) (by decide) ⟨Nat.le_of_ble_eq_true rfl, Nat.le_of_ble_eq_true rfl⟩ (by simp [xnr] <;> omega) (by simp [xnr] <;> omega) ?_
  refine yw_as ?_
  have hL12 : ((((((((((((([] : List xc) ++ [ac 1 64]) ++ [ac 1 64]) ++ [ac 1 16]) ++ [ac 1 512]) ++ [ac 1 512]) ++ [ac 1 72]) ++ [ac 1 64]) ++ [ac 2 64]) ++ [ac 1 64]) ++ [ac 1 64]) ++ [ac 1 64]) ++ [ac 1 64]).length = 12 := by rw [List.length_append, hL11]; rfl
  have hT12 : ∀ m, n + 13 ≤ m → wcl m ((((((((((((([] : List xc) ++ [ac 1 64]) ++ [ac 1 64]) ++ [ac 1 16]) ++ [ac 1 512]) ++ [ac 1 512]) ++ [ac 1 72]) ++ [ac 1 64]) ++ [ac 2 64]) ++ [ac 1 64]) ++ [ac 1 64]) ++ [ac 1 64]) ++ [ac 1 64]) := fun m hm => wcl_ap (hT11 m (by omega)) (wcl_c ok_ac (wcl_n m))
  refine yw_putR dX8_init_109 qX8_51 hn (by simp) (fun _ => ⟨rfl, rfl⟩) (fun _ _ => ⟨xwc_oc, xwc_oc⟩) ?_
  refine yi_aload_n dX8_init_112 rfl rfl ?_
  refine yi_bipush dX8_init_113 (v := 64) rfl ?_
  refine yw_newI (n := 64) (m := n + 13) (by rw [List.length_append, List.length_cons, hn, hL12]) dX8_init_115 (wcl_ap (wcl_mo hw0 (by rw [hn]; omega)) (wcl_c (ok_oc (rok_set (by omega) (rok_set (by omega) (rok_set (by omega) (rok_set (by omega) (rok_set (by omega) (rok_set (by omega) (rok_set (by omega) (rok_set (by omega) (rok_set (by omega) (rok_set (by omega) (rok_set (by omega) (rok_set (by omega) (rz8 _)))))))))))))) (hT12 _ (by omega)))) (by decide) (by decide) (by decide) ⟨Nat.le_of_ble_eq_true rfl, Nat.le_of_ble_eq_true rfl⟩ (by simp [xnr] <;> omega) (by simp [xnr] <;> omega) ?_
  refine yw_as ?_
  have hL13 : (((((((((((((([] : List xc) ++ [ac 1 64]) ++ [ac 1 64]) ++ [ac 1 16]) ++ [ac 1 512]) ++ [ac 1 512]) ++ [ac 1 72]) ++ [ac 1 64]) ++ [ac 2 64]) ++ [ac 1 64]) ++ [ac 1 64]) ++ [ac 1 64]) ++ [ac 1 64]) ++ [ac 1 64]).length = 13 := by rw [List.length_append, hL12]; rfl
  have hT13 : ∀ m, n + 14 ≤ m → wcl m (((((((((((((([] : List xc) ++ [ac 1 64]) ++ [ac 1 64]) ++ [ac 1 16]) ++ [ac 1 512]) ++ [ac 1 512]) ++ [ac 1 72]) ++ [ac 1 64]) ++ [ac 2 64]) ++ [ac 1 64]) ++ [ac 1 64]) ++ [ac 1 64]) ++ [ac 1 64]) ++ [ac 1 64]) := fun m hm => wcl_ap (hT12 m (by omega)) (wcl_c ok_ac (wcl_n m))
  refine yw_putR dX8_init_117 qX8_54 hn (by simp) (fun _ => ⟨rfl, rfl⟩) (fun _ _ => ⟨xwc_oc, xwc_oc⟩) ?_
  refine yi_aload_n dX8_init_120 rfl rfl ?_
  refine yi_bipush dX8_init_121 (v := 64) rfl ?_
  refine yw_newI (n := 64) (m := n + 14) (by rw [List.length_append, List.length_cons, hn, hL13]) dX8_init_123 (wcl_ap (wcl_mo hw0 (by rw [hn]; omega)) (wcl_c (ok_oc (rok_set (by omega) (rok_set (by omega) (rok_set (by omega) (rok_set (by omega) (rok_set (by omega) (rok_set (by omega) (rok_set (by omega) (rok_set (by omega) (rok_set (by omega) (rok_set (by omega) (rok_set (by omega) (rok_set (by omega) (rok_set (by omega) (rz8 _))))))))))))))) (hT13 _ (by omega)))) (by decide) (by decide) (by decide) ⟨Nat.le_of_ble_eq_true rfl, Nat.le_of_ble_eq_true rfl⟩ (by simp [xnr] <;> omega) (by simp [xnr] <;> omega) ?_
  refine yw_as ?_
  have hL14 : ((((((((((((((([] : List xc) ++ [ac 1 64]) ++ [ac 1 64]) ++ [ac 1 16]) ++ [ac 1 512]) ++ [ac 1 512]) ++ [ac 1 72]) ++ [ac 1 64]) ++ [ac 2 64]) ++ [ac 1 64]) ++ [ac 1 64]) ++ [ac 1 64]) ++ [ac 1 64]) ++ [ac 1 64]) ++ [ac 1 64]).length = 14 := by rw [List.length_append, hL13]; rfl
  have hT14 : ∀ m, n + 15 ≤ m → wcl m ((((((((((((((([] : List xc) ++ [ac 1 64]) ++ [ac 1 64]) ++ [ac 1 16]) ++ [ac 1 512]) ++ [ac 1 512]) ++ [ac 1 72]) ++ [ac 1 64]) ++ [ac 2 64]) ++ [ac 1 64]) ++ [ac 1 64]) ++ [ac 1 64]) ++ [ac 1 64]) ++ [ac 1 64]) ++ [ac 1 64]) := fun m hm => wcl_ap (hT13 m (by omega)) (wcl_c ok_ac (wcl_n m))
  refine yw_putR dX8_init_125 qX8_57 hn (by simp) (fun _ => ⟨rfl, rfl⟩) (fun _ _ => ⟨xwc_oc, xwc_oc⟩) ?_
  refine yi_aload_n dX8_init_128 rfl rfl ?_
  refine yi_bipush dX8_init_129 (v := 64) rfl ?_
  refine yw_newI (n := 64) (m := n + 15) (by rw [List.length_append, List.length_cons, hn, hL14]) dX8_init_131 (wcl_ap (wcl_mo hw0 (by rw [hn]; omega)) (wcl_c (ok_oc (rok_set (by omega) (rok_set (by omega) (rok_set (by omega) (rok_set (by omega) (rok_set (by omega) (rok_set (by omega) (rok_set (by omega) (rok_set (by omega) (rok_set (by omega) (rok_set (by omega) (rok_set (by omega) (rok_set (by omega) (rok_set (by omega) (rok_set (by omega) (rz8 _)))))))))))))))) (hT14 _ (by omega)))) (by decide) (by decide) (by decide) ⟨Nat.le_of_ble_eq_true rfl, Nat.le_of_ble_eq_true rfl⟩ (by simp [xnr] <;> omega) (by simp [xnr] <;> omega) ?_
  refine yw_as ?_
  have hL15 : (((((((((((((((([] : List xc) ++ [ac 1 64]) ++ [ac 1 64]) ++ [ac 1 16]) ++ [ac 1 512]) ++ [ac 1 512]) ++ [ac 1 72]) ++ [ac 1 64]) ++ [ac 2 64]) ++ [ac 1 64]) ++ [ac 1 64]) ++ [ac 1 64]) ++ [ac 1 64]) ++ [ac 1 64]) ++ [ac 1 64]) ++ [ac 1 64]).length = 15 := by rw [List.length_append, hL14]; rfl
  have hT15 : ∀ m, n + 16 ≤ m → wcl m (((((((((((((((([] : List xc) ++ [ac 1 64]) ++ [ac 1 64]) ++ [ac 1 16]) ++ [ac 1 512]) ++ [ac 1 512]) ++ [ac 1 72]) ++ [ac 1 64]) ++ [ac 2 64]) ++ [ac 1 64]) ++ [ac 1 64]) ++ [ac 1 64]) ++ [ac 1 64]) ++ [ac 1 64]) ++ [ac 1 64]) ++ [ac 1 64]) := fun m hm => wcl_ap (hT14 m (by omega)) (wcl_c ok_ac (wcl_n m))
  refine yw_putR dX8_init_133 qX8_60 hn (by simp) (fun _ => ⟨rfl, rfl⟩) (fun _ _ => ⟨xwc_oc, xwc_oc⟩) ?_
  refine yi_aload_n dX8_init_136 rfl rfl ?_
  refine yi_bipush dX8_init_137 (v := 64) rfl ?_
  refine yw_newZ (n := 64) (m := n + 16) (by rw [List.length_append, List.length_cons, hn, hL15]) dX8_init_139 (wcl_ap (wcl_mo hw0 (by rw [hn]; omega)) (wcl_c (ok_oc (rok_set (by omega) (rok_set (by omega) (rok_set (by omega) (rok_set (by omega) (rok_set (by omega) (rok_set (by omega) (rok_set (by omega) (rok_set (by omega) (rok_set (by omega) (rok_set (by omega) (rok_set (by omega) (rok_set (by omega) (rok_set (by omega) (rok_set (by omega) (rok_set (by omega) (rz8 _))))))))))))))))) (hT15 _ (by omega)))) (by decide) (by decide) (by decide) ⟨Nat.le_of_ble_eq_true rfl, Nat.le_of_ble_eq_true rfl⟩ (by simp [xnr] <;> omega) (by simp [xnr] <;> omega) ?_
  refine yw_as ?_
  have hL16 : ((((((((((((((((([] : List xc) ++ [ac 1 64]) ++ [ac 1 64]) ++ [ac 1 16]) ++ [ac 1 512]) ++ [ac 1 512]) ++ [ac 1 72]) ++ [ac 1 64]) ++ [ac 2 64]) ++ [ac 1 64]) ++ [ac 1 64]) ++ [ac 1 64]) ++ [ac 1 64]) ++ [ac 1 64]) ++ [ac 1 64]) ++ [ac 1 64]) ++ [ac 3 64]).length = 16 := by rw [List.length_append, hL15]; rfl
  have hT16 : ∀ m, n + 17 ≤ m → wcl m ((((((((((((((((([] : List xc) ++ [ac 1 64]) ++ [ac 1 64]) ++ [ac 1 16]) ++ [ac 1 512]) ++ [ac 1 512]) ++ [ac 1 72]) ++ [ac 1 64]) ++ [ac 2 64]) ++ [ac 1 64]) ++ [ac 1 64]) ++ [ac 1 64]) ++ [ac 1 64]) ++ [ac 1 64]) ++ [ac 1 64]) ++ [ac 1 64]) ++ [ac 3 64]) := fun m hm => wcl_ap (hT15 m (by omega)) (wcl_c ok_ac (wcl_n m))
  refine yw_putR dX8_init_141 qX8_63 hn (by simp) (fun _ => ⟨rfl, rfl⟩) (fun _ _ => ⟨xwc_oc, xwc_oc⟩) ?_
  refine yi_aload_n dX8_init_144 rfl rfl ?_
  refine yi_bipush dX8_init_145 (v := 64) rfl ?_
  refine yw_newI (n := 64) (m := n + 17) (by rw [List.length_append, List.length_cons, hn, hL16]) dX8_init_147 (wcl_ap (wcl_mo hw0 (by rw [hn]; omega)) (wcl_c (ok_oc (rok_set (by omega) (rok_set (by omega) (rok_set (by omega) (rok_set (by omega) (rok_set (by omega) (rok_set (by omega) (rok_set (by omega) (rok_set (by omega) (rok_set (by omega) (rok_set (by omega) (rok_set (by omega) (rok_set (by omega) (rok_set (by omega) (rok_set (by omega) (rok_set (by omega) (rok_set (by omega) (rz8 _)))))))))))))))))) (hT16 _ (by omega)))) (by decide) (by decide) (by decide) ⟨Nat.le_of_ble_eq_true rfl, Nat.le_of_ble_eq_true rfl⟩ (by simp [xnr] <;> omega) (by simp [xnr] <;> omega) ?_
  refine yw_as ?_
  have hL17 : (((((((((((((((((([] : List xc) ++ [ac 1 64]) ++ [ac 1 64]) ++ [ac 1 16]) ++ [ac 1 512]) ++ [ac 1 512]) ++ [ac 1 72]) ++ [ac 1 64]) ++ [ac 2 64]) ++ [ac 1 64]) ++ [ac 1 64]) ++ [ac 1 64]) ++ [ac 1 64]) ++ [ac 1 64]) ++ [ac 1 64]) ++ [ac 1 64]) ++ [ac 3 64]) ++ [ac 1 64]).length = 17 := by rw [List.length_append, hL16]; rfl
  have hT17 : ∀ m, n + 18 ≤ m → wcl m (((((((((((((((((([] : List xc) ++ [ac 1 64]) ++ [ac 1 64]) ++ [ac 1 16]) ++ [ac 1 512]) ++ [ac 1 512]) ++ [ac 1 72]) ++ [ac 1 64]) ++ [ac 2 64]) ++ [ac 1 64]) ++ [ac 1 64]) ++ [ac 1 64]) ++ [ac 1 64]) ++ [ac 1 64]) ++ [ac 1 64]) ++ [ac 1 64]) ++ [ac 3 64]) ++ [ac 1 64]) := fun m hm => wcl_ap (hT16 m (by omega)) (wcl_c ok_ac (wcl_n m))
  refine yw_putR dX8_init_149 qX8_67 hn (by simp) (fun _ => ⟨rfl, rfl⟩) (fun _ _ => ⟨xwc_oc, xwc_oc⟩) ?_
  refine yi_aload_n dX8_init_152 rfl rfl ?_
  refine yi_bipush dX8_init_153 (v := 64) rfl ?_
  refine yw_newI (n := 64) (m := n + 18) (by rw [List.length_append, List.length_cons, hn, hL17]) dX8_init_155 (wcl_ap (wcl_mo hw0 (by rw [hn]; omega)) (wcl_c (ok_oc (rok_set (by omega) (rok_set (by omega) (rok_set (by omega) (rok_set (by omega) (rok_set (by omega) (rok_set (by omega) (rok_set (by omega) (rok_set (by omega) (rok_set (by omega) (rok_set (by omega) (rok_set (by omega) (rok_set (by omega) (rok_set (by omega) (rok_set (by omega) (rok_set (by omega) (rok_set (by omega) (rok_set (by omega) (rz8 _))))))))))))))))))) (hT17 _ (by omega)))) (by decide) (by decide) (by decide) ⟨Nat.le_of_ble_eq_true rfl, Nat.le_of_ble_eq_true rfl⟩ (by simp [xnr] <;> omega) (by simp [xnr] <;> omega) ?_
  refine yw_as ?_
  have hL18 : ((((((((((((((((((([] : List xc) ++ [ac 1 64]) ++ [ac 1 64]) ++ [ac 1 16]) ++ [ac 1 512]) ++ [ac 1 512]) ++ [ac 1 72]) ++ [ac 1 64]) ++ [ac 2 64]) ++ [ac 1 64]) ++ [ac 1 64]) ++ [ac 1 64]) ++ [ac 1 64]) ++ [ac 1 64]) ++ [ac 1 64]) ++ [ac 1 64]) ++ [ac 3 64]) ++ [ac 1 64]) ++ [ac 1 64]).length = 18 := by rw [List.length_append, hL17]; rfl
  have hT18 : ∀ m, n + 19 ≤ m → wcl m ((((((((((((((((((([] : List xc) ++ [ac 1 64]) ++ [ac 1 64]) ++ [ac 1 16]) ++ [ac 1 512]) ++ [ac 1 512]) ++ [ac 1 72]) ++ [ac 1 64]) ++ [ac 2 64]) ++ [ac 1 64]) ++ [ac 1 64]) ++ [ac 1 64]) ++ [ac 1 64]) ++ [ac 1 64]) ++ [ac 1 64]) ++ [ac 1 64]) ++ [ac 3 64]) ++ [ac 1 64]) ++ [ac 1 64]) := fun m hm => wcl_ap (hT17 m (by omega)) (wcl_c ok_ac (wcl_n m))
  refine yw_putR dX8_init_157 qX8_70 hn (by simp) (fun _ => ⟨rfl, rfl⟩) (fun _ _ => ⟨xwc_oc, xwc_oc⟩) ?_
  exact yw_ret dX8_init_160 rfl (Nat.le_of_ble_eq_true rfl) (Nat.le_of_ble_eq_true rfl) (by simp only [List.set_cons_zero, List.set_cons_succ]; rfl)

