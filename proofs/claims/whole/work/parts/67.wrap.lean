/-! methods that catch: what the names of exceptions are not, the judgement, the call that may throw -/
def xNC (s : State) : Prop := va_Nc sIA sIO s ∧ va_Nc sIS sIA s ∧ va_Nc sIS sIO s
theorem xNC.moved {u U : State} (h : u.vm.Alike U.vm) (hn : xNC u) : xNC U := ⟨va_Nc.moved h hn.1, va_Nc.moved h hn.2.1, va_Nc.moved h hn.2.2⟩
abbrev eNC : State → (Nat → Prop) → (Nat → Nat) → Prop := fun s _ _ => xNC s
def wdoes (M : xMI) (av : List Value) (A : xA) (B : xB) (D : xD) (Q : Option Value → xA → xB → xD → Prop) : Prop :=
  ∀ (l : Launch), l.stackTraces = false → ∀ (Dg : va_G) (cT : Nat → ClassId) (ad : Nat → Nat) (sz : Nat),
    vx_Met l (mY M) (xws M) (mO M) (va_Pc (av.map (xtr ad)) (fun U => xPre Dg cT ad 97 xG0 A B D sz U ∧ xNC U)) (xQc Dg cT ad 97 (xAs ad 97 sz) (q0 Q)) (xXc Dg cT ad 97 (xAs ad 97 sz) (x0 nx)) (mO M).cells (mO M).slots (xAs ad 97 sz)
theorem xcw_cons {M : xMI} {h : Nat × Nat × Nat × Nat} {t : List (Nat × Nat × Nat × Nat)} (hh : mH M = h :: t) : xcw M = .codeWith (mY M) (mC M) (mL M) (mR M) (mH M) := by unfold xcw; rw [hh]
theorem wdoes_go {M : xMI} {av : List Value} {A : xA} {B : xB} {D : xD} {Q : Option Value → xA → xB → xD → Prop} {h : Nat × Nat × Nat × Nat} {t : List (Nat × Nat × Nat × Nat)} (hpn : plainName (mY M).cls = true) (hh : mH M = h :: t) (hlen : (lg_sl av).length ≤ mL M) (k : gl0 eNC M Q nx 0 0 0 (lv_args 0 av) [] A B D) : wdoes M av A B D Q := by
  intro l hl Dg cT ad sz
  have hcw := xcw_cons hh
  refine vx_ofWH (cc := mC M) (maxL := mL M) (ret := mR M) (hh := mH M) (ws' := xT) hpn (by rw [xws, hcw]) ?_
  intro p e s m args below meth c s₁ Bd hml hv
  obtain ⟨rfl, ⟨hsz, hP, hdm, hK, hMv, hZ, hG⟩, hN⟩ := hv
  subst hsz
  have hts : ∀ w ∈ xT, w.before (av.map (xtr ad)).toArray s = true := fun w hw => atoms_spec (ws := xws M) Bd.pre w (List.mem_cons_of_mem _ hw)
  have htb : c.exceptionTable.toList = tableOf (mH M) := vx_table (x := mY M) Bd (atoms_spec (ws := xws M) Bd.pre (Cond.codeWith (mY M) (mC M) (mL M) (mR M) (mH M)) (by rw [xws, hcw]; exact List.mem_cons_self))
  have hdm2 : xdom (xAs ad 97 s.heap.size) ad 97 := ⟨hdm.1, fun k hk => Or.inl ⟨k, hk, rfl⟩⟩
  have hS : xS M p l s m (av.map (xtr ad)).toArray meth c Dg cT (xAs ad 97 s.heap.size) :=
    ⟨Bd.exec, Bd.bytes, hml, Bd.returns, Bd.notSynchronized, (name_of_methodNamed Bd.named Bd.method).1, findClass_of_methodNamed Bd.named, hts, hl, htb, hK, hMv, hZ, fun q hq => Or.inr hq⟩
  have hl0 := lv_entry (av.map (xtr ad)) (n := mL M) (by rw [xsl_len]; exact hlen)
  rw [lg_entry_eq]
  rw [xlv_args] at hl0
  exact k p l e s m _ below meth c Dg cT _ ad ad s.heap [] _ _ hN hS ⟨va_S.rf, hP, hdm2, hG, ⟨Nat.le_refl _, fun _ _ => rfl⟩, hl0⟩ (xclose hS) (xcloseX hS)
/-- the handler of E at pc gives k back -/
def hnd (M : xMI) (pc : Nat) (E : String) (k : Int32) : Prop := ∃ (pre : List ExceptionTableEntry) (x : ExceptionTableEntry) (suf : List ExceptionTableEntry), tableOf (mH M) = pre ++ x :: suf ∧ (∀ z ∈ pre, z.catchType ≠ 0 ∧ ∃ nm : String, Cond.classLink (mY M).cls z.catchType nm ∈ xT ∧ ∀ s, xNC s → va_Nc E nm s) ∧ covers x pc = true ∧ x.catchType ≠ 0 ∧ Cond.classLink (mY M).cls x.catchType E ∈ xT ∧ Cond.castable E E ∈ xnw ∧
  ∃ (i d : Nat) (n : Int), ((d = 2 ∧ decode (mC M) x.handlerPc = .ok (.astore i, 2)) ∨ (d = 1 ∧ ∃ f : Fin 4, (f : Nat) = i ∧ decode (mC M) x.handlerPc = .ok (.astore_n f, 1))) ∧ i < mL M ∧ decode (mC M) (x.handlerPc + d) = .ok (.iconst n, 1) ∧ Int32.ofInt n = k ∧ decode (mC M) (x.handlerPc + d + 1) = .ok (.ireturn, 1)
section WC
variable {M : xMI} {N0 : Nat} {Q : xQ} {cs sl pc : Nat} {lv : xLV} {st : List Value} {N : Nat} {G : xG} {A : xA} {B : xB} {D : xD}
variable {p : Program} {l : Launch} {e : Env} {s : State} {m : MethodId} {args : Array Value} {below : List Frame} {meth : Method} {c : Code} {Dg : va_G} {cT : Nat → ClassId} {As : Nat → Prop} {ad0 ad : Nat → Nat} {H : Heap} {locs : List Loc} {ls : Array Slot} {Z : State → Prop}
theorem hnd_go {E : String} {k : Int32} {ce : Cell} {q : Addr} {st0 : List Value} (hS : xS M p l s m args meth c Dg cT As) (hN : xNC s) (hV : xV M s Dg cT As ad0 ad H locs ls [] N0 N G A B D) (hr : xKr M N0 Q p l e s m args below meth c Dg cT As ad0 Z) (hm : mR M = some .int) (hh : hnd M pc E k) (hQ : Q (some (.int k)) N G A B D) (hc : cs ≤ (mO M).cells) (hs : sl ≤ (mO M).slots) (hcell : H[q]? = some ce) (hv : ce.vm = .none) (hcl : s.vm.findClass E = some ce.cls) :
    vx_W p l e (mO M) s m args below meth c H locs cs sl Z (F0 m pc ls st0) q := by
  obtain ⟨hx, hb, hml, hrt, hlk, hnm, hown, hts, hst, htb, hK, hMv, hZ, hA⟩ := id hS
  obtain ⟨v1, v2, v3, v4, v5, v6⟩ := hV
  obtain ⟨pre, x, suf, hsp, hpass, hcov, h0, hlink, hcast, i, d, n, hd, hi, d2, hn, d3⟩ := hh
  refine vx_catch (own := (mY M).cls) (name := E) hown pre x suf (htb.trans hsp) (fun z hz => ?_) hcov h0 (hts _ hlink) (va_Nw.use rfl (hMv.1 _ hcast)) hcell hv hcl ?_
  · obtain ⟨z0, nm, z1, z2⟩ := hpass z hz
    exact Or.inr ⟨z0, nm, hts _ z1, z2 s hN⟩
  · have go : ∀ ls' : Array Slot, lv_has ls' (mL M) [(i, .ref q)] → W p l e (mO M) s m args below meth c H locs cs sl Z (F0 m (x.handlerPc + d) ls' []) := fun ls' h' =>
      lv_iconst hx hb d2 hn (hr (some (.int k)) N G A B D ad H locs ls' _ cs sl hQ ⟨v1, v2, v3, v4, v5, ⟨h'.1, h'.2.1, fun q hq => nomatch hq⟩⟩ hc hs (by unfold xret; rw [hm]; exact d3))
    rcases hd with ⟨rfl, hd⟩ | ⟨rfl, f, hf, hd⟩
    · exact lv_astore hx hb hd v6 hi rfl go
    · exact lv_astore_n hx hb hd hf v6 hi rfl go
theorem wcall {Q2 : xQ} {QX QX2 : xQX} {mc ms : Nat} {a : Array Value} {st0 : List Value}
    (hS : xS M p l s m args meth c Dg cT As) (hV : xV M s Dg cT As ad0 ad H locs ls lv N0 N G A B D) (hN : xNC s) (hr : xKr M N0 Q p l e s m args below meth c Dg cT As ad0 Z) (he : xKx M N0 QX p l e s m args below meth c Dg cT As ad0 Z) (hm : mR M = some .int)
    (hrun : vx_Run p l e (mO M) s m args below meth c H locs cs sl mc ms (F0 m pc ls st0) (st.map (xtr ad)) (xQc Dg cT ad N (xAs ad N H.size) Q2 a) (xXc Dg cT ad N (xAs ad N H.size) QX2) (xAs ad N H.size))
    (kk : ∀ r N' G' A' B' D', Q2 r N' G' A' B' D' → (N' = N ∨ (lv.all (fun q => xsc N q.2) = true ∧ st.all (xsc N) = true)) ∧ ygo eNC M N0 Q QX (cs + mc) (sl + ms) (pc + 3) lv (r.toList ++ st) N' G' A' B' D')
    (kx : ∀ E N' G' A' B' D', QX2 E N' G' A' B' D' → ∃ k, hnd M pc E k ∧ Q (some (.int k)) N' G' A' B' D') (hc1 : cs + mc ≤ (mO M).cells) (hs1 : sl + ms ≤ (mO M).slots) :
    W p l e (mO M) s m args below meth c H locs cs sl Z (F0 m pc ls st0) := by
  obtain ⟨v1, v2, v3, v4, v5, v6⟩ := hV
  have hsub : ∀ q, xAs ad N H.size q → As q := by
    rintro q (⟨k, hk, rfl⟩ | h)
    · exact v3.2 k hk
    · exact hS.2.2.2.2.2.2.2.2.2.2.2.2.2 q (Nat.le_trans v1.1 h)
  intro T hT X
  rcases hrun T hT X with ⟨v, st₀, t, T', L, h0, X', hL, e1, e2, ⟨⟨r, N', G', A', B', D', ad', hv, hQ, hE1, hE2, hE3, hE4⟩, hF⟩, stp⟩ | ⟨q, st₀, t, T', L, E, ce, h0, X', hL, e1, e2, ⟨⟨N', G', A', B', D', ad', hQ, hE1, hE2, hE3, hE4⟩, hF⟩, hce, hcv, hcl, stp⟩
  · cases hv
    obtain ⟨k1, k2, k3⟩ := vx_keep h0 e1 v1 (fun q _ h => hsub q h) hsub hL hF
    obtain ⟨hsc, hgo⟩ := kk r N' G' A' B' D' hQ
    have hlv : xlv ad' lv = xlv ad lv := by
      rcases hsc with rfl | ⟨h1, -⟩
      · have : ad' = ad := funext fun k => hE1.2 k (Nat.lt_or_ge k _)
        rw [this]
      · exact xlv_sc (fun k hk => hE1.2 k (Or.inl hk)) h1
    have hst : st.map (xtr ad') = st.map (xtr ad) := by
      rcases hsc with rfl | ⟨-, h1⟩
      · have : ad' = ad := funext fun k => hE1.2 k (Nat.lt_or_ge k _)
        rw [this]
      · exact xmap_sc (fun k hk => hE1.2 k (Or.inl hk)) h1
    have hgo2 := hgo p l e s m args below meth c Dg cT As ad0 ad' T'.heap (locs ++ L) ls Z hN hS
      ⟨k3, by rw [e1]; exact hE2, ⟨hE3.1, fun k hk => hsub _ (hE3.2 k hk)⟩, hE4, ⟨Nat.le_trans v5.1 hE1.1, fun k hk => by
        rcases hk with hk | hk
        · rw [hE1.2 k (Or.inl (Nat.lt_of_lt_of_le hk v5.1)), v5.2 k (Or.inl hk)]
        · rw [hE1.2 k (Or.inr hk), v5.2 k (Or.inr (Nat.le_trans hE1.1 hk))]⟩, by rw [hlv]; exact v6⟩ hr he
    obtain ⟨t2, a1, b1⟩ := hgo2 T' rfl X'
    refine ⟨t2, stp t2 ?_, b1⟩
    have hl : (r.toList ++ st).map (xtr ad') = (r.map (xtr ad')).toList ++ st.map (xtr ad) := by
      rw [List.map_append, hst]; cases r <;> rfl
    rw [hl] at a1
    exact a1
  · obtain ⟨k1, k2, k3⟩ := vx_keep h0 e1 v1 (fun q _ h => hsub q h) hsub hL hF
    obtain ⟨k, hk, hQ2⟩ := kx E N' G' A' B' D' hQ
    have hgo2 := hnd_go (st0 := st.map (xtr ad)) (cs := cs + mc) (sl := sl + ms) (ad := ad') (H := T'.heap) (locs := locs ++ L) (ls := ls) (ad0 := ad0) (N0 := N0) (Q := Q) (pc := pc) (e := e) (below := below) (Z := Z) (A := A') (B := B') (D := D') (N := N') (G := G') (q := q) hS hN
      ⟨k3, by rw [e1]; exact hE2, ⟨hE3.1, fun k hk => hsub _ (hE3.2 k hk)⟩, hE4, ⟨Nat.le_trans v5.1 hE1.1, fun k hk => by
        rcases hk with hk | hk
        · rw [hE1.2 k (Or.inl (Nat.lt_of_lt_of_le hk v5.1)), v5.2 k (Or.inl hk)]
        · rw [hE1.2 k (Or.inr hk), v5.2 k (Or.inr (Nat.le_trans hE1.1 hk))]⟩, ⟨v6.1, v6.2.1, fun q hq => nomatch hq⟩⟩ hr hm hk hQ2 hc1 hs1 (by rw [e1]; exact hce) hcv hcl
    obtain ⟨t2, a1, b1⟩ := hgo2 T' rfl X'
    exact ⟨t2, stp.trans a1, b1⟩
end WC
section WC2
variable {M : xMI} {Q : Option Value → xA → xB → xD → Prop} {cs sl pc : Nat} {lv : xLV} {st : List Value} {A : xA} {B : xB} {D : xD}
theorem wcV {M2 : xMI} {av : List Value} {P : Option Value → xA → xB → xD → Prop} {PX : String → xA → xB → xD → Prop} {idx n kr ci : Nat} {q : vw_C} (hd : decode (mC M) pc = .ok (.invokevirtual idx, 3)) (hw : xlV (mY M).cls idx M2 n) (hh : mH M2 = []) (hm : mR M = some .int) (hn : av.length = n) (hR : xroom M M2 cs sl) (hst : (st.map fun v => v.category).sum ≤ 8)
    (hg : (xG0 kr).1 = ci + 7) (hc : vwCl[ci]? = some q) (hcn : q.1 = (mY M2).cls) (hC : does0 M2 (.ref kr :: av) A B D P PX)
    (kx : ∀ E A' B' D', PX E A' B' D' → ∃ k, hnd M pc E k ∧ Q (some (.int k)) A' B' D') (kk : ∀ r A' B' D', P r A' B' D' → gl0 eNC M Q nx (cs + (mO M2).cells) (sl + (mO M2).slots) (pc + 3) lv (r.toList ++ st) A' B' D') : gl0 eNC M Q nx cs sl pc lv (av.reverse ++ .ref kr :: st) A B D := by
  intro p l e s m args below meth c Dg cT As ad0 ad H locs ls Z hN hS hV hr he
  obtain ⟨hx, hb, hml, hrt, hlk, hnm, hown, hts, hsk, htb, hK, hMv, hZ, hA⟩ := id hS
  obtain ⟨w1, w2, w2b, w3, w4, w5⟩ := hw
  have hcw := xcw_nil hh
  have hpre := xpre_ok hS hV (.ref kr :: av)
  have hk : kr < 97 := hV.2.2.2.1 kr (by rw [hg]; omega)
  have hwc : (xwl ad cT 97 xG0 A B D)[kr]? = some (ad kr, .inr (ci, xfl ad (A kr) (B kr) (xG0 kr).2.2 ci)) := by rw [xwl_get hk]; unfold xent; rw [hg]; rfl
  have hrecv := va_recv hK hV.2.1 hc hwc
  rw [hcn] at hrecv
  rw [List.map_append, List.map_reverse]
  refine wcall (Q2 := q0 P) (QX2 := x0 PX) hS hV hN hr he hm (vx_runV (n := n) (C := (mY M2).cls) (b := ad kr) (As := av.map (xtr ad)) (bytes := mC M2) (maxL := mL M2) (ret := mR M2) ⟨hx, hb, hml, hown, hts⟩ (hC l hsk Dg cT ad H.size)
    ⟨callB_of n hts (xws_good (by rw [hcw]; exact w4)) (by rw [xws, hcw]) rfl rfl (hts _ w3) (hts _ w1) w5 ⟨hR.1, hR.2.1⟩, hts _ w2, hts _ w2b⟩ ⟨hpre.1, hrecv, hpre.2⟩ rfl (by rw [List.length_map]; exact hn) hV.2.2.2.2.2.1 rfl (lv_room (by
      have : (List.map (fun v => v.category) (st.map (xtr ad))) = st.map fun v => v.category := by rw [List.map_map]; exact List.map_congr_left fun v _ => xtr_cat ad v
      rw [this]; exact hst)) hd ⟨hR.2.2.1, hR.2.2.2⟩) (fun r N' G' A' B' D' h => ?_) (fun E N' G' A' B' D' h => ?_) hR.2.2.1 hR.2.2.2
  · obtain ⟨rfl, rfl, h⟩ := h
    exact ⟨Or.inl rfl, kk r A' B' D' h⟩
  · obtain ⟨rfl, rfl, h⟩ := h
    obtain ⟨k, h1, h2⟩ := kx E A' B' D' h
    exact ⟨k, h1, rfl, rfl, h2⟩
end WC2
theorem wIA : Cond.classLink RL 13 sIA ∈ xT := xT_mem (by decide +kernel) rfl
theorem wIO : Cond.classLink RL 18 sIO ∈ xT := xT_mem (by decide +kernel) rfl
theorem wIS : Cond.classLink RL 38 sIS ∈ xT := xT_mem (by decide +kernel) rfl
theorem kIA : Cond.castable sIA sIA ∈ xnw := by decide +kernel
theorem kIO : Cond.castable sIO sIO ∈ xnw := by decide +kernel
theorem kIS : Cond.castable sIS sIS ∈ xnw := by decide +kernel

