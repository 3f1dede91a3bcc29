/-! rows of constructors: tables of tables, calls -/
def xs2 (n m : Nat) : Value → Bool
  | .ref k => !(decide (n ≤ k)) || decide (m ≤ k)
  | _ => true
theorem xtr_s2 {n m : Nat} {ad ad' : Nat → Nat} (h : ∀ k, k < n ∨ m ≤ k → ad' k = ad k) {v : Value} (hv : xs2 n m v = true) : xtr ad' v = xtr ad v := by
  cases v with
  | ref k => exact congrArg Value.ref (h k (by simpa [xs2] using hv))
  | _ => rfl
section CR
variable {EX : State → (Nat → Prop) → (Nat → Nat) → Prop} {M : xMI} {N0 : Nat} {Q : xQ} {QX : xQX} {cs sl pc : Nat} {lv : xLV} {st : List Value} {w w' : List xc}
theorem yw_run {M2 : xMI} {k0 : Nat} (hE : ∀ s As ad0, EX s As ad0 → xAO s) (hlen : w.length ≤ w'.length) (hlv : lv.all (fun q => xs2 w.length w'.length q.2) = true) (hst : st.all (xs2 w.length w'.length) = true)
    (hrun : ∀ (p : Program) (l : Launch) (e : Env) (s : State) (m : MethodId) (args : Array Value) (below : List Frame) (meth : Method) (c : Code) (Dg : va_G) (cT : Nat → ClassId) (As : Nat → Prop) (ad : Nat → Nat) (H : Heap) (locs : List Loc) (ls : Array Slot), xS M p l s m args meth c Dg cT As → ls.size = mL M → FrameBlind (va_Pc ([Value.ref k0].map (xtr ad)) (fun U => xPre Dg cT ad w.length (gG w) (gA w) (gB w) (gD w) H.size U ∧ xAO U)) ∧ (∀ U : State, U.heap = H → s.WarmedH U.vm → va_Pc ([Value.ref k0].map (xtr ad)) (fun U => xPre Dg cT ad w.length (gG w) (gA w) (gB w) (gD w) H.size U ∧ xAO U) ([Value.ref k0].map (xtr ad)).toArray U) →
      vx_Run p l e (mO M) s m args below meth c H locs cs sl (mO M2).cells (mO M2).slots (F0 m pc ls (xtr ad (.ref k0) :: st.map (xtr ad))) (st.map (xtr ad)) (xQc Dg cT ad w.length (xAs ad w.length H.size) (qW w') ([Value.ref k0].map (xtr ad)).toArray) (xXc Dg cT ad w.length (xAs ad w.length H.size) xN) (xAs ad w.length H.size))
    (kk : yw EX M N0 Q QX (cs + (mO M2).cells) (sl + (mO M2).slots) (pc + 3) lv st w') : yw EX M N0 Q QX cs sl pc lv (.ref k0 :: st) w := by
  intro p l e s m args below meth c Dg cT As ad0 ad H locs ls Z hE0 hS hV hr he
  have hpre := xpre_ok hS hV [.ref k0]
  have hao := hE _ _ _ hE0
  have hpre2 : FrameBlind (va_Pc ([Value.ref k0].map (xtr ad)) (fun U => xPre Dg cT ad w.length (gG w) (gA w) (gB w) (gD w) H.size U ∧ xAO U)) ∧ (∀ U : State, U.heap = H → s.WarmedH U.vm → va_Pc ([Value.ref k0].map (xtr ad)) (fun U => xPre Dg cT ad w.length (gG w) (gA w) (gB w) (gD w) H.size U ∧ xAO U) ([Value.ref k0].map (xtr ad)).toArray U) := by
    refine ⟨fun a U g mk h => ?_, fun U hU hW => ⟨rfl, (hpre.2 U hU hW).2, xAO.moved hW.alike hao⟩⟩
    obtain ⟨h0, h1, h2⟩ := h
    exact ⟨h0, (hpre.1 a U g mk ⟨h0, h1⟩).2, xAO.moved (u := U) (U := U.calling g mk a) (Vm.Alike.refl U.vm) h2⟩
  have hrun2 := hrun p l e s m args below meth c Dg cT As ad H locs ls hS hV.2.2.2.2.2.1 hpre2
  obtain ⟨v1, v2, v3, v4, v5, v6⟩ := hV
  have hsub : ∀ q, xAs ad w.length H.size q → As q := by
    rintro q (⟨k, hk, rfl⟩ | h)
    · exact v3.2 k hk
    · exact hS.2.2.2.2.2.2.2.2.2.2.2.2.2 q (Nat.le_trans v1.1 h)
  intro T hT X
  rcases hrun2 T hT X with ⟨v, st₀, t, T', L, h0, X', hL, e1, e2, ⟨⟨r, N', G', A', B', D', ad', hv, ⟨rfl, rfl, rfl, rfl, rfl, rfl⟩, hE1, hE2, hE3, hE4⟩, hF⟩, stp⟩ | ⟨q, st₀, t, T', L, E, ce, h0, X', hL, e1, e2, ⟨⟨N', G', A', B', D', ad', hQ, hE1, hE2, hE3, hE4⟩, hF⟩, hce, hcv, hcl, stp⟩
  · cases hv
    obtain ⟨k1, k2, k3⟩ := vx_keep h0 e1 v1 (fun q _ h => hsub q h) hsub hL hF
    have hl2 : xlv ad' lv = xlv ad lv := List.map_congr_left fun q hm => by rw [xtr_s2 hE1.2 (List.all_eq_true.mp hlv q hm)]
    have hs2 : st.map (xtr ad') = st.map (xtr ad) := List.map_congr_left fun v hm => xtr_s2 hE1.2 (List.all_eq_true.mp hst v hm)
    have hgo2 := kk p l e s m args below meth c Dg cT As ad0 ad' T'.heap (locs ++ L) ls Z hE0 hS
      ⟨k3, by rw [e1]; exact hE2, ⟨hE3.1, fun k hk => hsub _ (hE3.2 k hk)⟩, hE4, ⟨Nat.le_trans v5.1 hE1.1, fun k hk => by
        rcases hk with hk | hk
        · rw [hE1.2 k (Or.inl (Nat.lt_of_lt_of_le hk v5.1)), v5.2 k (Or.inl hk)]
        · rw [hE1.2 k (Or.inr hk), v5.2 k (Or.inr (Nat.le_trans hE1.1 hk))]⟩, by rw [hl2]; exact v6⟩ hr he
    obtain ⟨t2, a1, b1⟩ := hgo2 T' rfl X'
    refine ⟨t2, stp t2 ?_, b1⟩
    rw [hs2] at a1
    exact a1
  · exact hQ.elim
/-- a constructor's call -/
theorem yw_ctor {M2 : xMI} {k0 idx : Nat} (hd : decode (mC M) pc = .ok (.invokespecial idx, 3)) (hw : Cond.methodLink (mY M).cls idx (mY M2) ∈ xT ∧ Cond.instanceMethod (mY M2) ∈ xT ∧ Cond.initialized (mY M2).cls ∈ xT ∧ Cond.code (mY M2) (mC M2) (mL M2) none ∈ xT ∧ xdsc (mY M2) 0 ∧ (mY M2).name = "<init>") (hh : mH M2 = [] ∧ mR M2 = none) (hR : xroom M M2 cs sl) (hE : ∀ s As ad0, EX s As ad0 → xAO s) (hlen : w.length ≤ w'.length) (hlv : lv.all (fun q => xs2 w.length w'.length q.2) = true) (hst : st.all (xs2 w.length w'.length) = true) (h8 : (st.map fun v => v.category).sum ≤ 8) (hC : kdoes M2 k0 w w')
    (kk : yw EX M N0 Q QX (cs + (mO M2).cells) (sl + (mO M2).slots) (pc + 3) lv st w') : yw EX M N0 Q QX cs sl pc lv (.ref k0 :: st) w := by
  refine yw_run (M2 := M2) hE hlen hlv hst (fun p l e s m args below meth c Dg cT As ad H locs ls hS hls hpre => ?_) kk
  obtain ⟨hx, hb, hml, hrt, hlk, hnm, hown, hts, hsk, htb, hK, hMv, hZ, hA⟩ := id hS
  obtain ⟨w1, w2, w3, w4, w5, w6⟩ := hw
  have hcw : xcw M2 = .code (mY M2) (mC M2) (mL M2) none := by rw [xcw_nil hh.1, hh.2]
  exact vx_runI (n := 0) (As := []) (b := ad k0) (bytes := mC M2) (maxL := mL M2) ⟨hx, hb, hml, hown, hts⟩ (hC l hsk Dg cT ad H.size)
    ⟨callB_of 0 hts (xws_good (by rw [hcw]; exact w4)) (by rw [xws, hcw]) rfl rfl (hts _ w3) (hts _ w1) w5 ⟨hR.1, hR.2.1⟩, w6, hts _ w2⟩ hpre rfl rfl hls rfl (lv_room (by rw [xcat]; exact h8)) hd ⟨hR.2.2.1, hR.2.2.2⟩
/-- .. of a nest mate's own one -/
theorem yw_ctorN {M2 : xMI} {k0 idx : Nat} {host : String} (hd : decode (mC M) pc = .ok (.invokespecial idx, 3)) (hw : Cond.methodLinkNest (mY M).cls idx (mY M2) host ∈ xnw ∧ Cond.instanceMethod (mY M2) ∈ xT ∧ Cond.initialized (mY M2).cls ∈ xT ∧ Cond.code (mY M2) (mC M2) (mL M2) none ∈ xT ∧ xdsc (mY M2) 0 ∧ (mY M2).name = "<init>") (hh : mH M2 = [] ∧ mR M2 = none) (hR : xroom M M2 cs sl) (hE : ∀ s As ad0, EX s As ad0 → xAO s) (hlen : w.length ≤ w'.length) (hlv : lv.all (fun q => xs2 w.length w'.length q.2) = true) (hst : st.all (xs2 w.length w'.length) = true) (h8 : (st.map fun v => v.category).sum ≤ 8) (hC : kdoes M2 k0 w w')
    (kk : yw EX M N0 Q QX (cs + (mO M2).cells) (sl + (mO M2).slots) (pc + 3) lv st w') : yw EX M N0 Q QX cs sl pc lv (.ref k0 :: st) w := by
  refine yw_run (M2 := M2) hE hlen hlv hst (fun p l e s m args below meth c Dg cT As ad H locs ls hS hls hpre => ?_) kk
  obtain ⟨hx, hb, hml, hrt, hlk, hnm, hown, hts, hsk, htb, hK, hMv, hZ, hA⟩ := id hS
  obtain ⟨w1, w2, w3, w4, w5, w6⟩ := hw
  have hcw : xcw M2 = .code (mY M2) (mC M2) (mL M2) none := by rw [xcw_nil hh.1, hh.2]
  exact vx_runIN (n := 0) (As := []) (host := host) (b := ad k0) (bytes := mC M2) (maxL := mL M2) ⟨hx, hb, hml, hown, hts⟩ (hC l hsk Dg cT ad H.size)
    ⟨va_cnB 0 hts (xws_good (by rw [hcw]; exact w4)) (by rw [xws, hcw]) rfl rfl (hMv.1 _ w1) (hts _ w3) w5 ⟨hR.1, hR.2.1⟩, w6, hts _ w2⟩ hpre rfl rfl hls rfl (lv_room (by rw [xcat]; exact h8)) hd ⟨hR.2.2.1, hR.2.2.2⟩
/-- new int[12][64] -/
theorem yw_mna {idx : Nat} (hd : decode (mC M) pc = .ok (.multianewarray idx 2, 4)) (hE : ∀ s As ad0, EX s As ad0 → xAO s) (hw : Cond.classLink (mY M).cls idx "[[I" ∈ xT ∧ Cond.arrayClass .int ∈ xT) (hcl : wcl w.length w) (hR : cs + 13 ≤ (mO M).cells ∧ sl + 780 ≤ (mO M).slots) (hlv : lv.all (fun q => xnr w.length 13 q.2) = true) (hst : st.all (xnr w.length 13) = true)
    (k : yw EX M N0 Q QX (cs + 13) (sl + 780) (pc + 4) lv (.ref w.length :: st) (w ++ rc 5 12 (fun j => if j < 12 then some (w.length + 1 + j) else none) :: List.replicate 12 (ac 1 64))) : yw EX M N0 Q QX cs sl pc lv (.int 64 :: .int 12 :: st) w := by
  intro p l e s m args below meth c0 Dg cT As ad0 ad H locs ls Z hE0 hS hV hr he
  obtain ⟨hx, hb, hml, hrt, hlk, hnm, hown, hts, hsk, htb, hK, hMv, hZ, hA⟩ := id hS
  obtain ⟨v1, v2, v3, v4, v5, v6⟩ := id hV
  have v2' := v2
  have hD' := xdom_D (cT := cT) (G := gG w) (A := gA w) (B := gB w) (D := gD w) v3
  rw [wls_eq] at v2' hD'
  have hcy : s.vm.findClass (FieldType.array .int).toString = some (cT 0) := (hK.2 0 _ rfl).2
  refine va_mna (rest := st.map (xtr ad)) (X := wls ad cT w) (L := []) (f := fun _ => .inr (0, [])) (ty := .int) (cy := cT 0) (z := (64, .inl (fun _ => 0))) (N' := 12) (K' := 64) hx hb hown (hts _ hw.1) (hE _ _ _ hE0).2 (hts _ hw.2) hcy hK (by rw [show va_pl [] (fun _ => (.inr (0, []) : va_E)) = [] from rfl, List.append_nil]; exact v2') (by rw [show va_pl [] (fun _ => (.inr (0, []) : va_E)) = [] from rfl, List.append_nil]; exact hD') v1 hA (by decide) (by decide) (by decide) (by decide) (by decide) (by decide) (by decide) rfl rfl hR.1 hR.2 (fun c => ?_) hd (fun q r cA H1 hinj hnin hK2 hP hD hS1 => ?_)
  · exact arrV_new c 64 (.int 0)
  · have e0 : cA = cT 4 := xKty 4 hK hK2 rfl
    have hrv : ∀ i, i < 12 → vr_up (fun _ => (.inr (0, []) : va_E)) ((List.range 12).map r) (.inl (cT 0, (64, .inl (fun _ => 0)))) (r i) = .inl (cT 0, (64, .inl (fun _ => 0))) := fun i hi => vr_up_in (List.mem_map.mpr ⟨i, List.mem_range.mpr hi, rfl⟩)
    have hfun : (fun i => ((if i < 12 then some (w.length + 1 + i) else none : Option Nat)).map (adp ad w.length (q :: (List.range 12).map r))) = fun i => if i < 12 then some (r i) else none := by
      funext i
      by_cases hi : i < 12
      · rw [if_pos hi, if_pos hi]
        have h3 := adp_i (ad := ad) (n := w.length) (qs := q :: (List.range 12).map r) (i := 1 + i) (by simp; omega)
        rw [← Nat.add_assoc, List.getD_eq_getElem?_getD, Nat.add_comm 1 i, List.getElem?_cons_succ, List.getElem?_map, List.getElem?_range hi] at h3
        exact congrArg some h3
      · rw [if_neg hi, if_neg hi]; rfl
    have e1 : wls ad cT w ++ [(q, (Sum.inl (cA, 12, Sum.inr (Sum.inr (Sum.inr (Sum.inr fun i => if i < 12 then some (r i) else none)))) : va_E))] ++ va_pl ([] ++ (List.range 12).map r) (vr_up (fun _ => (.inr (0, []) : va_E)) ((List.range 12).map r) (.inl (cT 0, (64, .inl (fun _ => 0))))) = wls ad cT w ++ List.zipWith (fun q1 c => (q1, xwc (adp ad w.length (q :: (List.range 12).map r)) cT c)) (q :: (List.range 12).map r) (rc 5 12 (fun j => if j < 12 then some (w.length + 1 + j) else none) :: List.replicate 12 (ac 1 64)) := by
      rw [List.append_assoc, e0, ← hfun]
      congr 1
      show (_ :: va_pl [r 0, r 1, r 2, r 3, r 4, r 5, r 6, r 7, r 8, r 9, r 10, r 11] _) = _
      show (_ :: [(r 0, _), (r 1, _), (r 2, _), (r 3, _), (r 4, _), (r 5, _), (r 6, _), (r 7, _), (r 8, _), (r 9, _), (r 10, _), (r 11, _)]) = _
      rw [hrv 0 (by decide), hrv 1 (by decide), hrv 2 (by decide), hrv 3 (by decide), hrv 4 (by decide), hrv 5 (by decide), hrv 6 (by decide), hrv 7 (by decide), hrv 8 (by decide), hrv 9 (by decide), hrv 10 (by decide), hrv 11 (by decide)]
      rfl
    rw [e1] at hP hD
    have hV2 := xV_push (cs := rc 5 12 (fun j => if j < 12 then some (w.length + 1 + j) else none) :: List.replicate 12 (ac 1 64)) (qs := q :: (List.range 12).map r) hV hcl rfl hP hD hS1 hlv
    have := k p l e s m args below meth c0 Dg cT As ad0 _ H1 locs ls Z hE0 hS hV2 hr he
    rw [List.map_cons, xmap_nr (qs := q :: (List.range 12).map r) hst] at this
    have e2 : xtr (adp ad w.length (q :: (List.range 12).map r)) (.ref w.length) = .ref q := congrArg Value.ref (adp_i (i := 0) (Nat.succ_pos _))
    rw [e2] at this
    exact this
end CR

