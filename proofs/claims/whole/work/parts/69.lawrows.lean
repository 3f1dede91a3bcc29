/-! the law's own rows: the script, the wrappers' calls -/
abbrev mLaw (nm : String) (hh : List (Nat × Nat × Nat × Nat)) : xMI := ({ cls := RL, name := nm, desc := "" }, code, 9, ret, room_1, hh)
def eLW (L : Nat) (xs : Nat → Int32) : State → (Nat → Prop) → (Nat → Nat) → Prop := fun s As ad0 => xNC s ∧ va_X (ad0 1000) L xs s s.heap ∧ ad0 1000 < s.heap.size ∧ ¬ As (ad0 1000)
abbrev xlSW (own : String) (idx : Nat) (M2 : xMI) (n : Nat) : Prop := Cond.methodLink own idx (mY M2) ∈ xT ∧ Cond.static (mY M2) ∈ xT ∧ Cond.initialized (mY M2).cls ∈ xT ∧ Cond.codeWith (mY M2) (mC M2) (mL M2) (mR M2) (mH M2) ∈ xT ∧ xdsc (mY M2) n
section LW
variable {L : Nat} {xs : Nat → Int32} {M : xMI} {N0 : Nat} {Q : xQ} {QX : xQX} {cs sl pc : Nat} {lv : xLV} {st : List Value} {N : Nat} {G : xG} {A : xA} {B : xB} {D : xD}
theorem ygo_room {EX : State → (Nat → Prop) → (Nat → Nat) → Prop} {k n : Nat} (hc : cs ≤ k) (hs : sl ≤ n) (h : ygo EX M N0 Q QX k n pc lv st N G A B D) : ygo EX M N0 Q QX cs sl pc lv st N G A B D := by
  intro p l e s m args below meth c Dg cT As ad0 ad H locs ls Z hE0 hS hV hr he
  exact W.widen hc hs (h p l e s m args below meth c Dg cT As ad0 ad H locs ls Z hE0 hS hV hr he)
theorem yi_slen (hd : decode (mC M) pc = .ok (.arraylength, 1)) (hN : N ≤ 1000) (k : ygo (eLW L xs) M N0 Q QX cs sl (pc + 1) lv (.int (nI L) :: st) N G A B D) : ygo (eLW L xs) M N0 Q QX cs sl pc lv (.ref 1000 :: st) N G A B D := by
  intro p l e s m args below meth c Dg cT As ad0 ad H locs ls Z hE0 hS hV hr he
  obtain ⟨hx, hb, hml, hrt, hlk, hnm, hown, hts, hst, htb, hK, hMv, hZ, hA⟩ := id hS
  have ha : ad 1000 = ad0 1000 := hV.2.2.2.2.1.2 1000 (Or.inr hN)
  have h := va_slen (rest := st.map (xtr ad)) hx hb hE0.2.1 hE0.2.2.1 hE0.2.2.2 hV.1 hd (k p l e s m args below meth c Dg cT As ad0 ad H locs ls Z hE0 hS hV hr he)
  rw [← ha] at h
  exact h
theorem yi_sld {i : Int32} (hd : decode (mC M) pc = .ok (.iaload, 1)) (hN : N ≤ 1000) (hi : vp_in i L) (k : ygo (eLW L xs) M N0 Q QX cs sl (pc + 1) lv (.int (xs i.toNatClampNeg) :: st) N G A B D) : ygo (eLW L xs) M N0 Q QX cs sl pc lv (.int i :: .ref 1000 :: st) N G A B D := by
  intro p l e s m args below meth c Dg cT As ad0 ad H locs ls Z hE0 hS hV hr he
  obtain ⟨hx, hb, hml, hrt, hlk, hnm, hown, hts, hst, htb, hK, hMv, hZ, hA⟩ := id hS
  have ha : ad 1000 = ad0 1000 := hV.2.2.2.2.1.2 1000 (Or.inr hN)
  have h := va_sld (rest := st.map (xtr ad)) hx hb hE0.2.1 hE0.2.2.1 hE0.2.2.2 hV.1 hi hd (k p l e s m args below meth c Dg cT As ad0 ad H locs ls Z hE0 hS hV hr he)
  rw [← ha] at h
  exact h
end LW
section LW2
variable {L : Nat} {xs : Nat → Int32} {M : xMI} {Q : Option Value → xA → xB → xD → Prop} {cs sl pc : Nat} {lv : xLV} {st : List Value} {A : xA} {B : xB} {D : xD}
theorem yi_callW {M2 : xMI} {av : List Value} {P : Option Value → xA → xB → xD → Prop} {idx n : Nat} {h : Nat × Nat × Nat × Nat} {t : List (Nat × Nat × Nat × Nat)} (hd : decode (mC M) pc = .ok (.invokestatic idx, 3)) (hw : xlSW (mY M).cls idx M2 n) (hh : mH M2 = h :: t) (hn : av.length = n) (hR : (mO M2).frames + 1 ≤ (mO M).frames ∧ 8 + (mL M2 + 11) + (mO M2).locals ≤ (mO M).locals) (hz : (mO M2).cells ≤ 4 ∧ (mO M2).slots ≤ 24) (hcs : cs + 4 ≤ (mO M).cells ∧ sl + 24 ≤ (mO M).slots) (hst : (st.map fun v => v.category).sum ≤ 8)
    (hC : wdoes M2 av A B D P) (kk : ∀ r A' B' D', P r A' B' D' → gl0 (eLW L xs) M Q nx (cs + 4) (sl + 24) (pc + 3) lv (r.toList ++ st) A' B' D') : gl0 (eLW L xs) M Q nx cs sl pc lv (av.reverse ++ st) A B D := by
  intro p l e s m args below meth c Dg cT As ad0 ad H locs ls Z hE0 hS hV hr he
  obtain ⟨hx, hb, hml, hrt, hlk, hnm, hown, hts, hsk, htb, hK, hMv, hZ, hA⟩ := id hS
  obtain ⟨w1, w2, w3, w4, w5⟩ := hw
  have hcw := xcw_cons hh
  have hpre := xpre_ok hS hV av
  have hpre2 : FrameBlind (va_Pc (av.map (xtr ad)) (fun U => xPre Dg cT ad 97 xG0 A B D H.size U ∧ xNC U)) ∧ ∀ U : State, U.heap = H → s.WarmedH U.vm → va_Pc (av.map (xtr ad)) (fun U => xPre Dg cT ad 97 xG0 A B D H.size U ∧ xNC U) (av.map (xtr ad)).toArray U := by
    refine ⟨fun a U g mk h => ?_, fun U hU hW => ⟨rfl, (hpre.2 U hU hW).2, xNC.moved hW.alike hE0.1⟩⟩
    obtain ⟨h0, h1, h2⟩ := h
    exact ⟨h0, (hpre.1 a U g mk ⟨h0, h1⟩).2, xNC.moved (u := U) (U := U.calling g mk a) (Vm.Alike.refl U.vm) h2⟩
  rw [List.map_append, List.map_reverse]
  have hG : GoodIn xT (xws M2) := xws_good (by rw [hcw]; exact w4)
  refine ycall (Q2 := q0 P) (QX2 := x0 nx) (mc := (mO M2).cells) (ms := (mO M2).slots) hS hV hE0 hr he (vx_runSX (n := n) (bytes := mC M2) (maxL := mL M2) (ret := mR M2) (hh := mH M2) ⟨hx, hb, hml, hown, hts⟩ (hC l hsk Dg cT ad H.size)
    ⟨⟨rfl, rfl, hR.1, hR.2, pay_in hts hG, by rw [xws, hcw]; exact List.mem_cons_self⟩, hts _ w4, hts _ w3, ⟨w5.1, w5.2.1⟩, fun sig hsig => by
      have h2 := w5.2.2
      rw [hsig] at h2
      exact (Option.some.inj h2).symm, hts _ w1, hts _ w2⟩ hpre2 rfl (by rw [List.length_map]; exact hn) hV.2.2.2.2.2.1 rfl (lv_room (by
      have : (List.map (fun v => v.category) (st.map (xtr ad))) = st.map fun v => v.category := by rw [List.map_map]; exact List.map_congr_left fun v _ => xtr_cat ad v
      rw [this]; exact hst)) hd ⟨by have := hcs.1; have := hz.1; omega, by have := hcs.2; have := hz.2; omega⟩) (fun r N' G' A' B' D' h => ?_) (fun E N' G' A' B' D' h => h.2.2.elim)
  obtain ⟨rfl, rfl, h⟩ := h
  exact ⟨Or.inl rfl, ygo_room (by have := hz.1; omega) (by have := hz.2; omega) (kk r A' B' D' h)⟩
end LW2
section LB
variable {S S' : abs} {A A1 A2 : xA} {B B1 B2 : xB} {D D1 D2 : xD}
/-- both sides have answered -/
theorem both {c1 c2 : Prop} {v : Int64} {v0 : Int32} {r r2 : Option Value} (hS : S.ok) (hS' : c1 → c2 → S'.ok) (hm : mRel S A B) (hw : WQ S S' A B D c1 c2 v r A1 B1 D1) : ∃ k, r = some (.int k) ∧ D1 = D ∧ mRel S A1 B1 ∧ ∀ r2 A2 B2 D2, MQm S S' A1 B1 D1 c1 c2 (.int v0) (.int 0) r2 A2 B2 D2 → D2 = D1 ∧ ∃ w, r2 = some (.int w) ∧ A2 76 0 = k ∧ (∃ S2 : abs, S2.ok ∧ cRel S2 A2 B2 ∧ mRel S2 A2 B2) ∧ (k = 0 → w = v0 ∧ B2 95 0 = v) := by
  obtain ⟨d1, hf, hw⟩ := hw
  have hm1 : mRel S A1 B1 := mRel_o hm (fun k h1 h2 => (hf k h1 h2).1) (fun k h1 h2 => (hf k h1 h2).2)
  have lo : ∀ {T : abs} {A2 : xA} {B2 : xB}, cRel T A1 B1 → loF A1 B1 A2 B2 → cRel T A2 B2 := fun hc hl => cRel_o hc (fun k hk => (hl k (Or.inl hk)).1) (fun k hk => (hl k (Or.inl hk)).2)
  rcases hw with ⟨q1, q2, rfl, q3, q4⟩ | ⟨q1, rfl, q3⟩ | ⟨q1, q2, rfl, q3⟩
  · refine ⟨0, rfl, d1, hm1, ?_⟩
    rintro r2 A2 B2 D2 ⟨e1, hl, ⟨p1, p2, rfl, p3, p4⟩ | ⟨p1, rfl, p3, p4⟩ | ⟨p1, p2, rfl, p3, p4⟩⟩
    · exact ⟨e1, v0, rfl, p4, ⟨S', hS' q1 q2, lo q3 hl, p3⟩, fun _ => ⟨rfl, by rw [(hl 95 (Or.inr (by decide))).2]; exact q4⟩⟩
    · exact absurd q1 p1
    · exact absurd q2 p2
  · refine ⟨1, rfl, d1, hm1, ?_⟩
    rintro r2 A2 B2 D2 ⟨e1, hl, ⟨p1, p2, rfl, p3, p4⟩ | ⟨p1, rfl, p3, p4⟩ | ⟨p1, p2, rfl, p3, p4⟩⟩
    · exact absurd p1 q1
    · exact ⟨e1, 0, rfl, p4, ⟨S, hS, lo q3 hl, p3⟩, fun z => absurd z (by decide)⟩
    · exact absurd p1 q1
  · refine ⟨2, rfl, d1, hm1, ?_⟩
    rintro r2 A2 B2 D2 ⟨e1, hl, ⟨p1, p2, rfl, p3, p4⟩ | ⟨p1, rfl, p3, p4⟩ | ⟨p1, p2, rfl, p3, p4⟩⟩
    · exact absurd p2 q2
    · exact absurd q1 p1
    · exact ⟨e1, 0, rfl, p4, ⟨S, hS, lo q3 hl, p3⟩, fun z => absurd z (by decide)⟩
theorem bothD {c1 : Prop} {v : UInt64} {r : Option Value} (hS : S.ok) (hm : mRel S A B) (hw : WD S A B c1 v r A1 B1 D1) : ∃ k, r = some (.int k) ∧ mRel S A1 B1 ∧ ∀ r2 A2 B2 D2, MQm S S A1 B1 D1 c1 True (.double v) (.double 0) r2 A2 B2 D2 → ∃ w, r2 = some (.double w) ∧ A2 76 0 = k ∧ cRel S A2 B2 ∧ mRel S A2 B2 ∧ (k = 0 → c1 ∧ w = v ∧ D2 96 0 = v) := by
  obtain ⟨hf, hw⟩ := hw
  have hm1 : mRel S A1 B1 := mRel_o hm (fun k h1 h2 => (hf k h1 h2).1) (fun k h1 h2 => (hf k h1 h2).2)
  have lo : ∀ {T : abs} {A2 : xA} {B2 : xB}, cRel T A1 B1 → loF A1 B1 A2 B2 → cRel T A2 B2 := fun hc hl => cRel_o hc (fun k hk => (hl k (Or.inl hk)).1) (fun k hk => (hl k (Or.inl hk)).2)
  rcases hw with ⟨q1, rfl, q3, q4⟩ | ⟨q1, rfl, q3⟩
  · refine ⟨0, rfl, hm1, ?_⟩
    rintro r2 A2 B2 D2 ⟨e1, hl, ⟨p1, p2, rfl, p3, p4⟩ | ⟨p1, rfl, p3, p4⟩ | ⟨p1, p2, rfl, p3, p4⟩⟩
    · exact ⟨v, rfl, p4, lo q3 hl, p3, fun _ => ⟨q1, rfl, by rw [e1]; exact q4⟩⟩
    · exact absurd q1 p1
    · exact absurd trivial p2
  · refine ⟨1, rfl, hm1, ?_⟩
    rintro r2 A2 B2 D2 ⟨e1, hl, ⟨p1, p2, rfl, p3, p4⟩ | ⟨p1, rfl, p3, p4⟩ | ⟨p1, p2, rfl, p3, p4⟩⟩
    · exact absurd p1 q1
    · exact ⟨0, rfl, p4, lo q3 hl, p3, fun z => absurd z (by decide)⟩
    · exact absurd p1 q1
/-- the same, for calls that never throw -/
theorem bothN {v v2 : Value} {r r2 : Option Value} (hS' : S'.ok) (hm : mRel S A B) (hw : CQ S' A B D True v r A1 B1 D1) : r = some v ∧ mRel S A1 B1 ∧ ∀ r2 A2 B2 D2, MQn S' A1 B1 D1 v2 r2 A2 B2 D2 → r2 = some v2 ∧ ∃ S2 : abs, S2.ok ∧ cRel S2 A2 B2 ∧ mRel S2 A2 B2 := by
  obtain ⟨-, rfl, d1, hc, hf⟩ := hw
  refine ⟨rfl, mRel_o hm (fun k h1 h2 => (hf k h1).1) (fun k h1 h2 => (hf k h1).2), ?_⟩
  rintro r2 A2 B2 D2 ⟨e1, hl, rfl, p3⟩
  exact ⟨rfl, S', hS', cRel_o hc (fun k hk => (hl k (Or.inl hk)).1) (fun k hk => (hl k (Or.inl hk)).2), p3⟩
theorem kp_16 {X : img} (hX : X.ok) {K p : Nat} (hp : p < X.n) : ∃ x, x < 16 ∧ kKp X K p = nI x := by
  obtain ⟨tn, su, P, pn, hN, hA, hsu, hP⟩ := k_all hX
  obtain ⟨x, x1, x2⟩ := si_le (rem := fun v => kpV (kLo X) (kS X) K v) (s := fun _ => 0) hA.t hA.kr _ (hA.t.ndl p hp)
  exact ⟨x, by have := hA.t.t16 _ (hA.t.ndl p hp); omega, x2⟩
theorem ok_rec (hS : S.ok) : (S.paint (kRb S.X S.mkR)).ok := by
  obtain ⟨mk, m1, m2⟩ := mk_nat _ _ (mkR_16 hS)
  exact abs.paint_ok hS (fun p hp => k_rb16 (abs.Xok hS) m1 (fun p hp => m2 p hp) hp)
theorem ok_sup (hS : S.ok) {v : Int32} (hv : btw v 0 15) : (S.paint (kRb S.X (S.mkS v))).ok := by
  obtain ⟨mk, m1, m2⟩ := mk_nat _ _ (mkS_16 hS hv)
  exact abs.paint_ok hS (fun p hp => k_rb16 (abs.Xok hS) m1 (fun p hp => m2 p hp) hp)
theorem ok_fill (hS : S.ok) {i j v : Int32} (hi : inR i (nI S.n)) (hj : inR j (nI S.n)) (hv : btw v 0 15) : (S.sFill i.toNatClampNeg j.toNatClampNeg v).ok := by
  have h64 := hS.g.n.2
  obtain ⟨p, hp, rfl⟩ := inR_nI hi (by omega)
  obtain ⟨q, hq, rfl⟩ := inR_nI hj (by omega)
  rw [nI_clamp (by omega), nI_clamp (by omega)]
  exact abs.sFill_ok hS hp hq hv
theorem dcmp_z {a : UInt64} (h : vf_n64 a) {op : CmpOp} : Op.cmpValue (FP.dcmp a a) op = 0 := by
  have hn : FP.Core.val64 a ≠ .nan := by
    rw [Ne, ← FP.Core.dIsNaN_iff, FP.Core.isNaN_bits]
    have h2 := UInt64.le_iff_toNat_le.mp h
    rw [UInt64.toNat_and] at h2
    have h3 : a.toNat &&& (9223372036854775807 : UInt64).toNat = a.toNat % 2 ^ 63 := Nat.and_two_pow_sub_one_eq_mod a.toNat 63
    rw [h3] at h2
    exact Nat.not_lt.mpr h2
  show Op.cmpValue (FP.Core.dcmp a a) op = 0
  rw [FP.Core.dcmp_self hn]
  rfl
end LB

