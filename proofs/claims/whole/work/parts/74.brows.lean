/-! rows of constructors: cells changed, tables of tables, calls -/
theorem wls_set {ad : Nat → Nat} {cT : Nat → ClassId} {w1 t : List xc} {c c' : xc} : (wls ad cT (w1 ++ c :: t)).set w1.length (ad w1.length, xwc ad cT c') = wls ad cT (w1 ++ c' :: t) := by
  apply List.ext_getElem?
  intro k
  unfold wls
  by_cases h : k = w1.length
  · subst h
    rw [List.getElem?_set_self (by simp), List.getElem?_mapIdx, List.getElem?_append_right (Nat.le_refl _), Nat.sub_self]
    rfl
  · rw [List.getElem?_set_ne (Ne.symm h), List.getElem?_mapIdx, List.getElem?_mapIdx]
    congr 1
    by_cases h2 : k < w1.length
    · rw [List.getElem?_append_left h2, List.getElem?_append_left h2]
    · rw [List.getElem?_append_right (by omega), List.getElem?_append_right (by omega)]
      obtain ⟨d, hd⟩ : ∃ d, k - w1.length = d + 1 := ⟨k - w1.length - 1, by omega⟩
      rw [hd, List.getElem?_cons_succ, List.getElem?_cons_succ]
theorem wls_at {ad : Nat → Nat} {cT : Nat → ClassId} {w1 t : List xc} {c : xc} : (wls ad cT (w1 ++ c :: t))[w1.length]? = some (ad w1.length, xwc ad cT c) := by
  unfold wls
  rw [List.getElem?_mapIdx, List.getElem?_append_right (Nat.le_refl _), Nat.sub_self]
  rfl
theorem xV_set {M : xMI} {s : State} {Dg : va_G} {cT : Nat → ClassId} {As : Nat → Prop} {ad0 ad : Nat → Nat} {H H1 : Heap} {locs locs1 : List Loc} {ls : Array Slot} {lv : xLV} {N0 : Nat} {w1 t : List xc} {c c' : xc}
    (hV : xV M s Dg cT As ad0 ad H locs ls lv N0 (w1 ++ c :: t).length (gG (w1 ++ c :: t)) (gA (w1 ++ c :: t)) (gB (w1 ++ c :: t)) (gD (w1 ++ c :: t))) (hP : va_P Dg vwCl ((wls ad cT (w1 ++ c :: t)).set w1.length (ad w1.length, xwc ad cT c')) H1) (hS1 : va_S As s.heap H1 locs1) :
    xV M s Dg cT As ad0 ad H1 locs1 ls lv N0 (w1 ++ c' :: t).length (gG (w1 ++ c' :: t)) (gA (w1 ++ c' :: t)) (gB (w1 ++ c' :: t)) (gD (w1 ++ c' :: t)) := by
  obtain ⟨v1, v2, v3, v4, v5, v6⟩ := hV
  have hl : (w1 ++ c' :: t).length = (w1 ++ c :: t).length := by simp
  rw [wls_set, ← wls_eq] at hP
  exact ⟨hS1, hP, by rw [hl]; exact v3, gG_lt _, by rw [hl]; exact v5, v6⟩
theorem lk_set {α : Type} {l : List α} {d v : α} {j : Nat} (h : j < l.length) (i : Nat) : (l.set j v).getD i d = if i = j then v else l.getD i d := by
  rw [List.getD_eq_getElem?_getD, List.getD_eq_getElem?_getD]
  by_cases e : i = j
  · subst e
    rw [List.getElem?_set_self h, if_pos rfl]; rfl
  · rw [List.getElem?_set_ne (Ne.symm e), if_neg e]
section BR
variable {EX : State → (Nat → Prop) → (Nat → Nat) → Prop} {M : xMI} {N0 : Nat} {Q : xQ} {QX : xQX} {cs sl pc : Nat} {lv : xLV} {st : List Value} {w1 t : List xc} {r : List (Option Nat)} {a : List Int32} {b : List Int64}
/-- a field of an object, its type, whether it is final -/
abbrev fOKq (own : String) (idx ci j t : Nat) (nm : String) (ty : FieldType) : Prop := ∃ (C : String) (T : u_T) (n : Nat), vwCl[ci]? = some (C, T, n) ∧ j < n ∧ Cond.fieldLink own idx (T j).1 (T j).2.1 (T j).2.2.1 ∈ xT ∧ (xfk ci)[j]? = some t ∧ parseFieldDescriptor (T j).2.2.1 = some ty ∧ ((T j).2.2.2 = false ∨ ((T j).2.2.2 = true ∧ nm = "<init>" ∧ (T j).1 = own))
theorem yw_put {idx ci j tk n : Nat} {ty : FieldType} {v : Value} {r' : List (Option Nat)} {a' : List Int32} {b' : List Int64} (hd : decode (mC M) pc = .ok (.putfield idx, 3)) (hf : fOKq (mY M).cls idx ci j tk (mY M).name ty) (hn : w1.length = n) (hc5 : ∀ ad cT, xwc ad cT (oc ci r a b) = .inr (ci, xfl ad (lkA a) (lkB b) (lkR r) ci) ∧ xwc ad cT (oc ci r' a' b') = .inr (ci, xfl ad (lkA a') (lkB b') (lkR r') ci)) (hnv : ∀ ad, narrow ty (xtr ad v) = xtr ad v ∧ fits ty (xtr ad v) = true) (hv : ∀ ad, xtr ad v = xfv ad (lkA a') (lkB b') (lkR r') j tk) (ho : ∀ i, i ≠ j → lkA a' i = lkA a i ∧ lkB b' i = lkB b i ∧ lkR r' i = lkR r i)
    (k : yw EX M N0 Q QX cs sl (pc + 3) lv st (w1 ++ oc ci r' a' b' :: t)) : yw EX M N0 Q QX cs sl pc lv (v :: .ref n :: st) (w1 ++ oc ci r a b :: t) := by
  subst hn
  intro p l e s m args below meth c Dg cT As ad0 ad H locs ls Z hE0 hS hV hr he
  obtain ⟨hx, hb, hml, hrt, hlk, hnm, hown, hts, hst, htb, hK, hMv, hZ, hA⟩ := id hS
  obtain ⟨C, T, nn, hc, hj, hlk2, hfk, hpf, hfin⟩ := hf
  obtain ⟨ty0, hty, hnm0⟩ := xtyok ci hc
  have hV0 := hV
  obtain ⟨v1, v2, v3, v4, v5, v6⟩ := hV
  have hl : j < (xfl ad (lkA a) (lkB b) (lkR r) ci).length := by simp only [xfl, List.length_mapIdx]; exact (List.getElem?_eq_some_iff.mp hfk).1
  have hw : (xwl ad cT (w1 ++ oc ci r a b :: t).length (gG (w1 ++ oc ci r a b :: t)) (gA (w1 ++ oc ci r a b :: t)) (gB (w1 ++ oc ci r a b :: t)) (gD (w1 ++ oc ci r a b :: t)))[w1.length]? = some (ad w1.length, .inr (ci, xfl ad (lkA a) (lkB b) (lkR r) ci)) := by
    rw [wls_eq, wls_at, (hc5 ad cT).1]
  have hfs : (xfl ad (lkA a) (lkB b) (lkR r) ci).set j (xtr ad v) = xfl ad (lkA a') (lkB b') (lkR r') ci := xfl_set hfk (hv ad) ho
  have kk : ∀ (H1 : Heap) (locs1 : List Loc), va_P Dg vwCl ((xwl ad cT (w1 ++ oc ci r a b :: t).length (gG (w1 ++ oc ci r a b :: t)) (gA (w1 ++ oc ci r a b :: t)) (gB (w1 ++ oc ci r a b :: t)) (gD (w1 ++ oc ci r a b :: t))).set w1.length (ad w1.length, .inr (ci, (xfl ad (lkA a) (lkB b) (lkR r) ci).set j (xtr ad v)))) H1 → va_S As s.heap H1 locs1 → W p l e (mO M) s m args below meth c H1 locs1 cs sl Z (F0 m (pc + 3) ls (st.map (xtr ad))) := fun H1 locs1 hP hS1 => by
    rw [hfs, wls_eq, ← (hc5 ad cT).2] at hP
    exact k p l e s m args below meth c Dg cT As ad0 ad H1 locs1 ls Z hE0 hS (xV_set hV0 hP hS1) hr he
  rcases hfin with hfin | ⟨h1, h2, h3⟩
  · exact va_put hx hb hts (xin ci hc) ty0 hty hnm0 hown hK v2 (xdom_D v3) v1 w1.length hw hc j hj (hts _ hlk2) (fun _ h => h) hfin hpf (hnv ad).1 (hnv ad).2 hl hd (fun H1 locs1 hP hD1 hS1 => kk H1 locs1 hP hS1)
  · exact va_putF hx hb hts (xin ci hc) ty0 hty hnm0 hown hK v2 (xdom_D v3) v1 w1.length hw hc j hj (hts _ hlk2) (fun _ h => h) h1 (hnm.trans h2) h3 hpf (hnv ad).1 (hnv ad).2 hl hd (fun H1 locs1 hP hD1 hS1 => kk H1 locs1 hP hS1)
theorem yw_putI {idx ci j n : Nat} {x : Int32} (hd : decode (mC M) pc = .ok (.putfield idx, 3)) (hf : fOKq (mY M).cls idx ci j 0 (mY M).name .int) (hn : w1.length = n) (hj : j < a.length) (hc5 : ∀ ad cT, xwc ad cT (oc ci r a b) = .inr (ci, xfl ad (lkA a) (lkB b) (lkR r) ci) ∧ xwc ad cT (oc ci r (a.set j x) b) = .inr (ci, xfl ad (lkA (a.set j x)) (lkB b) (lkR r) ci))
    (k : yw EX M N0 Q QX cs sl (pc + 3) lv st (w1 ++ oc ci r (a.set j x) b :: t)) : yw EX M N0 Q QX cs sl pc lv (.int x :: .ref n :: st) (w1 ++ oc ci r a b :: t) :=
  yw_put hd hf hn hc5 (fun _ => ⟨rfl, rfl⟩) (fun _ => congrArg Value.int (by unfold lkA; rw [lk_set hj, if_pos rfl])) (fun i hi => ⟨by unfold lkA; rw [lk_set hj, if_neg hi], rfl, rfl⟩) k
theorem yw_putZ {idx ci j n : Nat} {x : Int32} (hd : decode (mC M) pc = .ok (.putfield idx, 3)) (hf : fOKq (mY M).cls idx ci j 1 (mY M).name .boolean) (hn : w1.length = n) (hz : x = 0 ∨ x = 1) (hj : j < a.length) (hc5 : ∀ ad cT, xwc ad cT (oc ci r a b) = .inr (ci, xfl ad (lkA a) (lkB b) (lkR r) ci) ∧ xwc ad cT (oc ci r (a.set j x) b) = .inr (ci, xfl ad (lkA (a.set j x)) (lkB b) (lkR r) ci))
    (k : yw EX M N0 Q QX cs sl (pc + 3) lv st (w1 ++ oc ci r (a.set j x) b :: t)) : yw EX M N0 Q QX cs sl pc lv (.int x :: .ref n :: st) (w1 ++ oc ci r a b :: t) :=
  yw_put hd hf hn hc5 (fun _ => by rcases hz with rfl | rfl <;> exact ⟨rfl, rfl⟩) (fun _ => congrArg Value.int (by unfold lkA; rw [lk_set hj, if_pos rfl])) (fun i hi => ⟨by unfold lkA; rw [lk_set hj, if_neg hi], rfl, rfl⟩) k
theorem yw_putL {idx ci j n : Nat} {x : Int64} (hd : decode (mC M) pc = .ok (.putfield idx, 3)) (hf : fOKq (mY M).cls idx ci j 2 (mY M).name .long) (hn : w1.length = n) (hj : j < b.length) (hc5 : ∀ ad cT, xwc ad cT (oc ci r a b) = .inr (ci, xfl ad (lkA a) (lkB b) (lkR r) ci) ∧ xwc ad cT (oc ci r a (b.set j x)) = .inr (ci, xfl ad (lkA a) (lkB (b.set j x)) (lkR r) ci))
    (k : yw EX M N0 Q QX cs sl (pc + 3) lv st (w1 ++ oc ci r a (b.set j x) :: t)) : yw EX M N0 Q QX cs sl pc lv (.long x :: .ref n :: st) (w1 ++ oc ci r a b :: t) :=
  yw_put hd hf hn hc5 (fun _ => ⟨rfl, rfl⟩) (fun _ => congrArg Value.long (by unfold lkB; rw [lk_set hj, if_pos rfl])) (fun i hi => ⟨rfl, by unfold lkB; rw [lk_set hj, if_neg hi], rfl⟩) k
theorem yw_putR {idx ci j n i0 : Nat} {ty : FieldType} (hd : decode (mC M) pc = .ok (.putfield idx, 3)) (hf : fOKq (mY M).cls idx ci j 3 (mY M).name ty) (hn : w1.length = n) (hj : j < r.length) (hty : ∀ q, narrow ty (.ref q) = .ref q ∧ fits ty (.ref q) = true) (hc5 : ∀ ad cT, xwc ad cT (oc ci r a b) = .inr (ci, xfl ad (lkA a) (lkB b) (lkR r) ci) ∧ xwc ad cT (oc ci (r.set j (some i0)) a b) = .inr (ci, xfl ad (lkA a) (lkB b) (lkR (r.set j (some i0))) ci))
    (k : yw EX M N0 Q QX cs sl (pc + 3) lv st (w1 ++ oc ci (r.set j (some i0)) a b :: t)) : yw EX M N0 Q QX cs sl pc lv (.ref i0 :: .ref n :: st) (w1 ++ oc ci r a b :: t) :=
  yw_put hd hf hn hc5 (fun ad => hty (ad i0)) (fun ad => by
    show Value.ref (ad i0) = va_rf ((lkR (r.set j (some i0)) j).map ad)
    unfold lkR; rw [lk_set hj, if_pos rfl]; rfl) (fun i hi => ⟨rfl, rfl, by unfold lkR; rw [lk_set hj, if_neg hi]⟩) k
/-- a picture into a table of pictures -/
theorem yw_ast {n m0 kv : Nat} {i : Int32} {f : Nat → Option Nat} {cv : xc} (hd : decode (mC M) pc = .ok (.aastore, 1)) (hn : w1.length = n) (hkv : (w1 ++ rc 6 m0 f :: t)[kv]? = some cv) (hcv : ∀ ad cT, ∃ vs, xwc ad cT cv = .inr (6, vs)) (hi : vp_in i m0) (k : yw EX M N0 Q QX cs sl (pc + 1) lv st (w1 ++ rc 6 m0 (va_up f i.toNatClampNeg (some kv)) :: t)) : yw EX M N0 Q QX cs sl pc lv (.ref kv :: .int i :: .ref n :: st) (w1 ++ rc 6 m0 f :: t) := by
  subst hn
  intro p l e s m args below meth c Dg cT As ad0 ad H locs ls Z hE0 hS hV hr he
  obtain ⟨hx, hb, hml, hrt, hlk, hnm, hown, hts, hst, htb, hK, hMv, hZ, hA⟩ := id hS
  have hV0 := hV
  obtain ⟨v1, v2, v3, v4, v5, v6⟩ := hV
  obtain ⟨vs, hvs⟩ := hcv ad cT
  have v2' := v2
  have hD' := xdom_D (cT := cT) (G := gG (w1 ++ rc 6 m0 f :: t)) (A := gA (w1 ++ rc 6 m0 f :: t)) (B := gB (w1 ++ rc 6 m0 f :: t)) (D := gD (w1 ++ rc 6 m0 f :: t)) v3
  rw [wls_eq] at v2' hD'
  refine va_astq (rest := st.map (xtr ad)) hx hb hK v2' hD' v1 w1.length 5 kv 6 (n := m0) (cA := cT 5) (r := (RX6, TX6, 4)) (vs := vs) (f := fun i => (f i).map ad) (by rw [wls_at]; rfl) rfl (by unfold wls; rw [List.getElem?_mapIdx, hkv, ← hvs]; rfl) rfl hi hd (fun H1 locs1 hP hD1 hS1 => ?_)
  have e1 : xwc ad cT (rc 6 m0 (va_up f i.toNatClampNeg (some kv))) = .inl (cT 5, m0, .inr (.inr (.inr (.inr (va_up (fun i => (f i).map ad) i.toNatClampNeg (some (ad kv))))))) := by
    have hfun : (fun j => (va_up f i.toNatClampNeg (some kv) j).map ad) = va_up (fun i => (f i).map ad) i.toNatClampNeg (some (ad kv)) := by
      funext j
      unfold va_up
      by_cases e : j = i.toNatClampNeg
      · rw [if_pos e, if_pos e]; rfl
      · rw [if_neg e, if_neg e]
    rw [← hfun]
    rfl
  rw [← e1] at hP
  exact k p l e s m args below meth c Dg cT As ad0 ad H1 locs1 ls Z hE0 hS (xV_set hV0 hP hS1) hr he
end BR

