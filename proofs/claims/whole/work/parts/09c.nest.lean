/-! a nest mate's private static method -/
abbrev xlN (own : String) (idx : Nat) (M2 : xMI) (host : String) (n : Nat) : Prop := Cond.methodLinkNest own idx (mY M2) host ∈ xnw ∧ Cond.static (mY M2) ∈ xT ∧ Cond.initialized (mY M2).cls ∈ xT ∧ Cond.code (mY M2) (mC M2) (mL M2) (mR M2) ∈ xT ∧ xdsc (mY M2) n
section XN
variable {M : xMI} {N0 : Nat} {Q : xQ} {QX : xQX} {cs sl pc : Nat} {lv : xLV} {st : List Value} {N : Nat} {G : xG} {A : xA} {B : xB} {D : xD}
theorem xi_callSN {M2 : xMI} {av : List Value} {Q2 : xQ} {QX2 : xQX} {idx n : Nat} {host : String} (hd : decode (mC M) pc = .ok (.invokestatic idx, 3)) (hw : xlN (mY M).cls idx M2 host n) (hh : mH M2 = []) (hn : av.length = n) (hR : xroom M M2 cs sl) (hst : (st.map fun v => v.category).sum ≤ 8)
    (hC : xdoes M2 av N G A B D Q2 QX2)
    (kx : ∀ E N' G' A' B' D', QX2 E N' G' A' B' D' → (∀ x ∈ tableOf (mH M), covers x pc = false) ∧ QX E N' G' A' B' D' ∧ cs + (mO M2).cells ≤ (mO M).cells ∧ sl + (mO M2).slots ≤ (mO M).slots)
    (kk : ∀ r N' G' A' B' D', Q2 r N' G' A' B' D' → (N' = N ∨ (lv.all (fun q => xsc N q.2) = true ∧ st.all (xsc N) = true)) ∧ xgo M N0 Q QX (cs + (mO M2).cells) (sl + (mO M2).slots) (pc + 3) lv (r.toList ++ st) N' G' A' B' D') :
    xgo M N0 Q QX cs sl pc lv (av.reverse ++ st) N G A B D := by
  intro p l e s m args below meth c Dg cT As ad0 ad H locs ls Z hS hV hr he
  obtain ⟨hx, hb, hml, hrt, hlk, hnm, hown, hts, hsk, htb, hK, hMv, hZ, hA⟩ := id hS
  obtain ⟨w1, w2, w3, w4, w5⟩ := hw
  have hcw := xcw_nil hh
  have hpre := xpre_ok hS hV av
  rw [List.map_append, List.map_reverse]
  refine xcall hS hV hr he (vx_runSN (n := n) (host := host) (bytes := mC M2) (maxL := mL M2) (ret := mR M2) ⟨hx, hb, hml, hown, hts⟩ (hC l hsk Dg cT ad H.size)
    ⟨va_cnB n hts (xws_good (by rw [hcw]; exact w4)) (by rw [xws, hcw]) rfl rfl (hMv.1 _ w1) (hts _ w3) w5 ⟨hR.1, hR.2.1⟩, hts _ w2, trivial⟩ hpre rfl (by rw [List.length_map]; exact hn) hV.2.2.2.2.2.1 rfl (lv_room (by rw [xcat]; exact hst)) hd ⟨hR.2.2.1, hR.2.2.2⟩) kk kx
end XN
section XN0
variable {M : xMI} {Q : Option Value → xA → xB → xD → Prop} {QX : String → xA → xB → xD → Prop} {cs sl pc : Nat} {lv : xLV} {st : List Value} {A : xA} {B : xB} {D : xD}
theorem cN1 {M2 : xMI} {av : List Value} {v : Option Value} {A1 : xA} {B1 : xB} {D1 : xD} {idx n : Nat} {host : String} (hd : decode (mC M) pc = .ok (.invokestatic idx, 3)) (hw : xlN (mY M).cls idx M2 host n) (hh : mH M2 = []) (hz : (mO M2).cells = 0 ∧ (mO M2).slots = 0) (hn : av.length = n) (hR : (mO M2).frames + 1 ≤ (mO M).frames ∧ 8 + (mL M2 + 11) + (mO M2).locals ≤ (mO M).locals) (hcs : cs ≤ (mO M).cells ∧ sl ≤ (mO M).slots) (hst : (st.map fun v => v.category).sum ≤ 8)
    (hC : does0 M2 av A B D (eqQ v A1 B1 D1) nx) (kk : go0 M Q QX cs sl (pc + 3) lv (v.toList ++ st) A1 B1 D1) : go0 M Q QX cs sl pc lv (av.reverse ++ st) A B D := by
  refine xi_callSN hd hw hh hn ⟨hR.1, hR.2, by rw [hz.1]; exact hcs.1, by rw [hz.2]; exact hcs.2⟩ hst hC (fun E N' G' A' B' D' h => h.2.2.elim) (fun r N' G' A' B' D' h => ?_)
  obtain ⟨rfl, rfl, rfl, rfl, rfl, rfl⟩ := h
  refine ⟨Or.inl rfl, ?_⟩
  rw [hz.1, hz.2]
  exact kk
end XN0
theorem nX5_102 : xlN RX5 102 mX7_turned "ComponentTree" 2 := ⟨List.mem_filter.mpr ⟨by decide +kernel, rfl⟩, xT_mem (by decide +kernel) rfl, xT_mem (by decide +kernel) rfl, xT_mem (by decide +kernel) rfl, ⟨by decide +kernel, by decide +kernel, by decide +kernel⟩⟩
