section XR1
variable {M : xMI} {Q : Option Value → xA → xB → xD → Prop} {QX : String → xA → xB → xD → Prop} {cs sl pc : Nat} {lv : xLV} {st : List Value} {A : xA} {B : xB} {D : xD}
/-- calls of what may throw -/
theorem cSX {M2 : xMI} {av : List Value} {P : Option Value → xA → xB → xD → Prop} {PX : String → xA → xB → xD → Prop} {idx n : Nat} (hd : decode (mC M) pc = .ok (.invokestatic idx, 3)) (hw : xlS (mY M).cls idx M2 n) (hh : mH M2 = []) (hM : mH M = []) (hn : av.length = n) (hR : xroom M M2 cs sl) (hst : (st.map fun v => v.category).sum ≤ 8)
    (hC : does0 M2 av A B D P PX) (kx : ∀ E A' B' D', PX E A' B' D' → QX E A' B' D') (kk : ∀ r A' B' D', P r A' B' D' → go0 M Q QX (cs + (mO M2).cells) (sl + (mO M2).slots) (pc + 3) lv (r.toList ++ st) A' B' D') : go0 M Q QX cs sl pc lv (av.reverse ++ st) A B D := by
  refine xi_callS hd hw hh hn hR hst hC (fun E N' G' A' B' D' h => ?_) (fun r N' G' A' B' D' h => ?_)
  · obtain ⟨rfl, rfl, h⟩ := h
    exact ⟨fun x hx => (by rw [hM] at hx; cases hx), ⟨rfl, rfl, kx _ _ _ _ h⟩, hR.2.2.1, hR.2.2.2⟩
  · obtain ⟨rfl, rfl, h⟩ := h
    exact ⟨Or.inl rfl, kk r A' B' D' h⟩
theorem cVX {M2 : xMI} {av : List Value} {P : Option Value → xA → xB → xD → Prop} {PX : String → xA → xB → xD → Prop} {idx n kr ci : Nat} {q : vw_C} (hd : decode (mC M) pc = .ok (.invokevirtual idx, 3)) (hw : xlV (mY M).cls idx M2 n) (hh : mH M2 = []) (hM : mH M = []) (hn : av.length = n) (hR : xroom M M2 cs sl) (hst : (st.map fun v => v.category).sum ≤ 8)
    (hg : (xG0 kr).1 = ci + 7) (hc : vwCl[ci]? = some q) (hcn : q.1 = (mY M2).cls) (hC : does0 M2 (.ref kr :: av) A B D P PX) (kx : ∀ E A' B' D', PX E A' B' D' → QX E A' B' D') (kk : ∀ r A' B' D', P r A' B' D' → go0 M Q QX (cs + (mO M2).cells) (sl + (mO M2).slots) (pc + 3) lv (r.toList ++ st) A' B' D') : go0 M Q QX cs sl pc lv (av.reverse ++ .ref kr :: st) A B D := by
  refine xi_callV hd hw hh hn hR hst hg hc hcn hC (fun E N' G' A' B' D' h => ?_) (fun r N' G' A' B' D' h => ?_)
  · obtain ⟨rfl, rfl, h⟩ := h
    exact ⟨fun x hx => (by rw [hM] at hx; cases hx), ⟨rfl, rfl, kx _ _ _ _ h⟩, hR.2.2.1, hR.2.2.2⟩
  · obtain ⟨rfl, rfl, h⟩ := h
    exact ⟨Or.inl rfl, kk r A' B' D' h⟩
/-- .. that throws E, nothing changed, unless c -/
theorem cSI {M2 : xMI} {av : List Value} {c : Prop} {E : String} {idx n : Nat} (hd : decode (mC M) pc = .ok (.invokestatic idx, 3)) (hw : xlS (mY M).cls idx M2 n) (hh : mH M2 = []) (hM : mH M = []) (hn : av.length = n) (hR : xroom M M2 cs sl) (hst : (st.map fun v => v.category).sum ≤ 8)
    (hC : does0 M2 av A B D (ifQ c A B D) (ifX c E A B D)) (kx : ¬ c → QX E A B D) (kk : c → go0 M Q QX (cs + (mO M2).cells) (sl + (mO M2).slots) (pc + 3) lv st A B D) : go0 M Q QX cs sl pc lv (av.reverse ++ st) A B D :=
  cSX hd hw hh hM hn hR hst hC (fun E A' B' D' h => by obtain ⟨h, rfl, rfl, rfl, rfl⟩ := h; exact kx h) (fun r A' B' D' h => by obtain ⟨h, rfl, rfl, rfl, rfl⟩ := h; exact kk h)
theorem cVI {M2 : xMI} {av : List Value} {c : Prop} {E : String} {idx n kr ci : Nat} {q : vw_C} (hd : decode (mC M) pc = .ok (.invokevirtual idx, 3)) (hw : xlV (mY M).cls idx M2 n) (hh : mH M2 = []) (hM : mH M = []) (hn : av.length = n) (hR : xroom M M2 cs sl) (hst : (st.map fun v => v.category).sum ≤ 8)
    (hg : (xG0 kr).1 = ci + 7) (hc : vwCl[ci]? = some q) (hcn : q.1 = (mY M2).cls) (hC : does0 M2 (.ref kr :: av) A B D (ifQ c A B D) (ifX c E A B D)) (kx : ¬ c → QX E A B D) (kk : c → go0 M Q QX (cs + (mO M2).cells) (sl + (mO M2).slots) (pc + 3) lv st A B D) : go0 M Q QX cs sl pc lv (av.reverse ++ .ref kr :: st) A B D :=
  cVX hd hw hh hM hn hR hst hg hc hcn hC (fun E A' B' D' h => by obtain ⟨h, rfl, rfl, rfl, rfl⟩ := h; exact kx h) (fun r A' B' D' h => by obtain ⟨h, rfl, rfl, rfl, rfl⟩ := h; exact kk h)
end XR1
