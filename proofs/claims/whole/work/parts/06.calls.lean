/-! CORE, 4: what a method does; its calls -/
def xcw (M : xMI) : Cond := match mH M with
  | [] => .code (mY M) (mC M) (mL M) (mR M)
  | h :: t => .codeWith (mY M) (mC M) (mL M) (mR M) (h :: t)
abbrev xws (M : xMI) : List Cond := xcw M :: xT
def xAs (ad : Nat → Nat) (N sz : Nat) : Nat → Prop := fun q => (∃ k, k < N ∧ q = ad k) ∨ sz ≤ q
def xPre (Dg : va_G) (cT : Nat → ClassId) (ad : Nat → Nat) (N : Nat) (G : xG) (A : xA) (B : xB) (D : xD) (sz : Nat) (U : State) : Prop :=
  U.heap.size = sz ∧ va_P Dg vwCl (xwl ad cT N G A B D) U.heap ∧ xdom (fun _ => True) ad N ∧ va_K Dg vwCl (xty cT) U ∧ xMov U ∧ xZ (xAs ad N sz) U U.heap ∧ ∀ k, (G k).1 ≠ 0 → k < N
def xEnd (Dg : va_G) (cT : Nat → ClassId) (ad : Nat → Nat) (N : Nat) (As : Nat → Prop) (t : State) (N' : Nat) (G' : xG) (A' : xA) (B' : xB) (D' : xD) (ad' : Nat → Nat) : Prop :=
  (N ≤ N' ∧ ∀ k, k < N ∨ N' ≤ k → ad' k = ad k) ∧ va_P Dg vwCl (xwl ad' cT N' G' A' B' D') t.heap ∧ xdom As ad' N' ∧ ∀ k, (G' k).1 ≠ 0 → k < N'
def xQc (Dg : va_G) (cT : Nat → ClassId) (ad : Nat → Nat) (N : Nat) (As : Nat → Prop) (Q : xQ) : Array Value → State → Outcome → State → Prop := fun _ st oc t =>
  (∃ (r : Option Value) (N' : Nat) (G' : xG) (A' : xA) (B' : xB) (D' : xD) (ad' : Nat → Nat), oc = .returned (r.map (xtr ad')) ∧ Q r N' G' A' B' D' ∧ xEnd Dg cT ad N As t N' G' A' B' D' ad') ∧ va_F As st t
def xXc (Dg : va_G) (cT : Nat → ClassId) (ad : Nat → Nat) (N : Nat) (As : Nat → Prop) (QX : xQX) : String → State → State → Prop := fun E st t =>
  (∃ (N' : Nat) (G' : xG) (A' : xA) (B' : xB) (D' : xD) (ad' : Nat → Nat), QX E N' G' A' B' D' ∧ xEnd Dg cT ad N As t N' G' A' B' D' ad') ∧ va_F As st t
/-- method M, with arguments av, in the heap (N, G, A, B, D): it returns with Q or throws with QX -/
def xdoes (M : xMI) (av : List Value) (N : Nat) (G : xG) (A : xA) (B : xB) (D : xD) (Q : xQ) (QX : xQX) : Prop :=
  ∀ (l : Launch), l.stackTraces = false → ∀ (Dg : va_G) (cT : Nat → ClassId) (ad : Nat → Nat) (sz : Nat),
    vx_Met l (mY M) (xws M) (mO M) (va_Pc (av.map (xtr ad)) (xPre Dg cT ad N G A B D sz)) (xQc Dg cT ad N (xAs ad N sz) Q) (xXc Dg cT ad N (xAs ad N sz) QX) (mO M).cells (mO M).slots (xAs ad N sz)
theorem xlv_args (ad : Nat → Nat) : ∀ (av : List Value) (i : Nat), lv_args i (av.map (xtr ad)) = xlv ad (lv_args i av)
  | [], _ => rfl
  | v :: vs, i => by
    simp only [List.map_cons, lv_args, xtr_cat, xlv_args ad vs]
    rfl
theorem xsl_len (ad : Nat → Nat) : ∀ (av : List Value), (lg_sl (av.map (xtr ad))).length = (lg_sl av).length
  | [] => rfl
  | v :: vs => by
    have ih := xsl_len ad vs
    unfold lg_sl at ih ⊢
    simp only [List.map_cons, List.flatMap_cons, List.length_append, xtr_cat, ih]
    split <;> rfl
/-- a return closes the contract -/
theorem xclose {M : xMI} {p : Program} {l : Launch} {e : Env} {s : State} {m : MethodId} {args : Array Value} {below : List Frame} {meth : Method} {c : Code} {Dg : va_G} {cT : Nat → ClassId} {As : Nat → Prop} {ad : Nat → Nat} {N : Nat} {Q : xQ} {QX : xQX} (hS : xS M p l s m args meth c Dg cT As) :
    xKr M N Q p l e s m args below meth c Dg cT As ad (vx_MQ below (xQc Dg cT ad N As Q) (xXc Dg cT ad N As QX) args s (mO M).cells (mO M).slots As) := by
  intro r N' G' A' B' D' ad' H locs ls pc cs sl hQ hV hc hs hret
  obtain ⟨hx, hb, hml, hrt, hlk, hnm, hown, hts, hst, htb, hK, hMv, hZ, hA⟩ := id hS
  obtain ⟨v1, v2, v3, v4, v5, v6⟩ := hV
  refine vx_ret (W.widen hc hs ?_)
  have hq : ∀ (o : Outcome) (t : State), o = .returned (r.map (xtr ad')) → t.heap = H → xQc Dg cT ad N As Q args s o t := by
    intro o t ho ht
    exact ⟨⟨r, N', G', A', B', D', ad', ho, hQ, v5, by rw [ht]; exact v2, v3, v4⟩, by rw [va_F, ht]; exact ⟨v1.1, v1.2.1⟩⟩
  have hf : ∀ q ∈ locs, As q.base := v1.2.2
  unfold xret at hret
  split at hret
  · rename_i h1
    exact W.vret hx hb (hrt.trans h1) (fun t ht _ => hq _ t rfl ht) hf hret
  · rename_i h1
    exact W.iret hx hb (hrt.trans h1) (fun t ht _ => hq _ t rfl ht) hf hret
  · rename_i v h1
    refine W.zret hx hb (hrt.trans h1) ?_ (fun t ht _ => hq _ t rfl ht) hf hret.1
    rcases hret.2 with rfl | rfl <;> rfl
  · rename_i h1
    exact W.lret hx hb (hrt.trans h1) (fun t ht _ => hq _ t rfl ht) hf hret
  · rename_i h1
    exact W.dret hx hb (hrt.trans h1) (fun t ht _ => hq _ t rfl ht) hf hret
  · exact hret.elim
/-- a throw that nothing here takes closes it too -/
theorem xcloseX {M : xMI} {p : Program} {l : Launch} {e : Env} {s : State} {m : MethodId} {args : Array Value} {below : List Frame} {meth : Method} {c : Code} {Dg : va_G} {cT : Nat → ClassId} {As : Nat → Prop} {ad : Nat → Nat} {N : Nat} {Q : xQ} {QX : xQX} (hS : xS M p l s m args meth c Dg cT As) :
    xKx M N QX p l e s m args below meth c Dg cT As ad (vx_MQ below (xQc Dg cT ad N As Q) (xXc Dg cT ad N As QX) args s (mO M).cells (mO M).slots As) := by
  intro E ce q N' G' A' B' D' ad' H locs ls st pc cs sl hQ hV hc hs hcov hcell hv hcl
  obtain ⟨hx, hb, hml, hrt, hlk, hnm, hown, hts, hst, htb, hK, hMv, hZ, hA⟩ := id hS
  obtain ⟨v1, v2, v3, v4, v5, v6⟩ := hV
  refine vx_out (by rw [htb]; exact hcov) hlk hcell hv hcl (fun t ht _ => ?_) v1.2.2 hc hs
  exact ⟨⟨N', G', A', B', D', ad', hQ, v5, by rw [ht]; exact v2, v3, v4⟩, by rw [va_F, ht]; exact ⟨v1.1, v1.2.1⟩⟩
theorem xdoes_go {M : xMI} {av : List Value} {N : Nat} {G : xG} {A : xA} {B : xB} {D : xD} {Q : xQ} {QX : xQX} (hpn : plainName (mY M).cls = true) (hh : mH M = []) (hlen : (lg_sl av).length ≤ mL M) (k : xgo M N Q QX 0 0 0 (lv_args 0 av) [] N G A B D) : xdoes M av N G A B D Q QX := by
  intro l hl Dg cT ad sz
  have hcw : xcw M = .code (mY M) (mC M) (mL M) (mR M) := by unfold xcw; rw [hh]
  refine vx_ofW (cc := mC M) (maxL := mL M) (ret := mR M) (ws' := xT) hpn (by rw [xws, hcw]) ?_
  intro p e s m args below meth c s₁ Bd hml htab hv
  obtain ⟨rfl, hsz, hP, hdm, hK, hMv, hZ, hG⟩ := hv
  subst hsz
  have hts : ∀ w ∈ xT, w.before (av.map (xtr ad)).toArray s = true := fun w hw => atoms_spec (ws := xws M) Bd.pre w (List.mem_cons_of_mem _ hw)
  have hdm2 : xdom (xAs ad N s.heap.size) ad N := ⟨hdm.1, fun k hk => Or.inl ⟨k, hk, rfl⟩⟩
  have hS : xS M p l s m (av.map (xtr ad)).toArray meth c Dg cT (xAs ad N s.heap.size) :=
    ⟨Bd.exec, Bd.bytes, hml, Bd.returns, Bd.notSynchronized, (name_of_methodNamed Bd.named Bd.method).1, findClass_of_methodNamed Bd.named, hts, hl, by
      rw [hh]
      have : c.exceptionTable.toList = [] := List.eq_nil_iff_forall_not_mem.mpr (fun x hx => htab x hx)
      rw [this]; rfl, hK, hMv, hZ, fun q hq => Or.inr hq⟩
  have hl0 := lv_entry (av.map (xtr ad)) (n := mL M) (by rw [xsl_len]; exact hlen)
  rw [lg_entry_eq]
  rw [xlv_args] at hl0
  exact k p l e s m _ below meth c Dg cT _ ad ad s.heap [] _ _ hS ⟨va_S.rf, hP, hdm2, hG, ⟨Nat.le_refl _, fun _ _ => rfl⟩, hl0⟩ (xclose hS) (xcloseX hS)
/-- more is known than needed -/
theorem xdoes_mono {M : xMI} {av : List Value} {N : Nat} {G : xG} {A : xA} {B : xB} {D : xD} {Q Q2 : xQ} {QX QX2 : xQX} (h : xdoes M av N G A B D Q QX) (h1 : ∀ r N' G' A' B' D', Q r N' G' A' B' D' → Q2 r N' G' A' B' D') (h2 : ∀ E N' G' A' B' D', QX E N' G' A' B' D' → QX2 E N' G' A' B' D') : xdoes M av N G A B D Q2 QX2 := by
  intro l hl Dg cT ad sz p e ha hc hk s m args below hf happ hP hK
  obtain ⟨n, o, a1, a2, a3, hq⟩ := h l hl Dg cT ad sz p e ha hc hk s m args below hf happ hP hK
  refine ⟨n, o, a1, a2, a3, ?_⟩
  rcases hq with ⟨⟨⟨r, N', G', A', B', D', ad', ho, hQ, hE⟩, hF⟩, hL⟩ | ⟨q, ho, E, ce, L, ⟨⟨N', G', A', B', D', ad', hQ, hE⟩, hF⟩, hL⟩
  · exact Or.inl ⟨⟨⟨r, N', G', A', B', D', ad', ho, h1 _ _ _ _ _ _ hQ, hE⟩, hF⟩, hL⟩
  · exact Or.inr ⟨q, ho, E, ce, L, ⟨⟨N', G', A', B', D', ad', h2 _ _ _ _ _ _ hQ, hE⟩, hF⟩, hL⟩
def xsc (N : Nat) : Value → Bool
  | .ref k => decide (k < N)
  | _ => true
theorem xtr_sc {N : Nat} {ad ad' : Nat → Nat} (h : ∀ k, k < N → ad' k = ad k) {v : Value} (hv : xsc N v = true) : xtr ad' v = xtr ad v := by
  cases v <;> first | rfl | exact congrArg Value.ref (h _ (of_decide_eq_true hv))
theorem xmap_sc {N : Nat} {ad ad' : Nat → Nat} (h : ∀ k, k < N → ad' k = ad k) {st : List Value} (hv : st.all (xsc N) = true) : st.map (xtr ad') = st.map (xtr ad) :=
  List.map_congr_left fun v hm => xtr_sc h (List.all_eq_true.mp hv v hm)
theorem xlv_sc {N : Nat} {ad ad' : Nat → Nat} (h : ∀ k, k < N → ad' k = ad k) {lv : xLV} (hv : lv.all (fun q => xsc N q.2) = true) : xlv ad' lv = xlv ad lv :=
  List.map_congr_left fun q hm => by rw [xtr_sc h (List.all_eq_true.mp hv q hm)]
section XC
variable {M : xMI} {N0 : Nat} {Q : xQ} {QX : xQX} {cs sl pc : Nat} {lv : xLV} {st : List Value} {N : Nat} {G : xG} {A : xA} {B : xB} {D : xD}
variable {p : Program} {l : Launch} {e : Env} {s : State} {m : MethodId} {args : Array Value} {below : List Frame} {meth : Method} {c : Code} {Dg : va_G} {cT : Nat → ClassId} {As : Nat → Prop} {ad0 ad : Nat → Nat} {H : Heap} {locs : List Loc} {ls : Array Slot} {Z : State → Prop}
/-- what goes on behind a call: it came back (kk), or it threw (kx) -/
theorem xcall {Q2 : xQ} {QX2 : xQX} {mc ms : Nat} {a : Array Value} {st0 : List Value}
    (hS : xS M p l s m args meth c Dg cT As) (hV : xV M s Dg cT As ad0 ad H locs ls lv N0 N G A B D) (hr : xKr M N0 Q p l e s m args below meth c Dg cT As ad0 Z) (he : xKx M N0 QX p l e s m args below meth c Dg cT As ad0 Z)
    (hrun : vx_Run p l e (mO M) s m args below meth c H locs cs sl mc ms (F0 m pc ls st0) (st.map (xtr ad)) (xQc Dg cT ad N (xAs ad N H.size) Q2 a) (xXc Dg cT ad N (xAs ad N H.size) QX2) (xAs ad N H.size))
    (kk : ∀ r N' G' A' B' D', Q2 r N' G' A' B' D' → (N' = N ∨ (lv.all (fun q => xsc N q.2) = true ∧ st.all (xsc N) = true)) ∧ xgo M N0 Q QX (cs + mc) (sl + ms) (pc + 3) lv (r.toList ++ st) N' G' A' B' D')
    (kx : ∀ E N' G' A' B' D', QX2 E N' G' A' B' D' → (∀ x ∈ tableOf (mH M), covers x pc = false) ∧ QX E N' G' A' B' D' ∧ cs + mc ≤ (mO M).cells ∧ sl + ms ≤ (mO M).slots) :
    W p l e (mO M) s m args below meth c H locs cs sl Z (F0 m pc ls st0) := by
  obtain ⟨v1, v2, v3, v4, v5, v6⟩ := hV
  have hsub : ∀ q, xAs ad N H.size q → As q := by
    rintro q (⟨k, hk, rfl⟩ | h)
    · exact v3.2 k hk
    · exact hS.2.2.2.2.2.2.2.2.2.2.2.2.2 q (Nat.le_trans v1.1 h)
  intro T hT X
  rcases hrun T hT X with ⟨v, st₀, t, T', L, h0, X', hL, e1, e2, ⟨⟨r, N', G', A', B', D', ad', hv, hQ, hE1, hE2, hE3, hE4⟩, hF⟩, stp⟩ | ⟨q, st₀, t, T', L, E, ce, h0, X', hL, e1, e2, ⟨⟨N', G', A', B', D', ad', hQ, hE1, hE2, hE3, hE4⟩, hF⟩, hce, hcv, hcl, stp⟩
  · cases hv
    obtain ⟨k1, k2, k3⟩ := vx_keep h0 e1 v1 (fun q _ h => hsub q h) hsub hL hF
    obtain ⟨hsc, hgo⟩ := kk r N' G' A' B' D' hQ
    have hlv : xlv ad' lv = xlv ad lv := by
      rcases hsc with rfl | ⟨h1, -⟩
      · have : ad' = ad := funext fun k => hE1.2 k (Nat.lt_or_ge k _)
        rw [this]
      · exact xlv_sc (fun k hk => hE1.2 k (Or.inl hk)) h1
    have hst : st.map (xtr ad') = st.map (xtr ad) := by
      rcases hsc with rfl | ⟨-, h1⟩
      · have : ad' = ad := funext fun k => hE1.2 k (Nat.lt_or_ge k _)
        rw [this]
      · exact xmap_sc (fun k hk => hE1.2 k (Or.inl hk)) h1
    have hgo2 := hgo p l e s m args below meth c Dg cT As ad0 ad' T'.heap (locs ++ L) ls Z hS
      ⟨k3, by rw [e1]; exact hE2, ⟨hE3.1, fun k hk => hsub _ (hE3.2 k hk)⟩, hE4, ⟨Nat.le_trans v5.1 hE1.1, fun k hk => by
        rcases hk with hk | hk
        · rw [hE1.2 k (Or.inl (Nat.lt_of_lt_of_le hk v5.1)), v5.2 k (Or.inl hk)]
        · rw [hE1.2 k (Or.inr hk), v5.2 k (Or.inr (Nat.le_trans hE1.1 hk))]⟩, by rw [hlv]; exact v6⟩ hr he
    obtain ⟨t2, a1, b1⟩ := hgo2 T' rfl X'
    refine ⟨t2, stp t2 ?_, b1⟩
    have hl : (r.toList ++ st).map (xtr ad') = (r.map (xtr ad')).toList ++ st.map (xtr ad) := by
      rw [List.map_append, hst]; cases r <;> rfl
    rw [hl] at a1
    exact a1
  · obtain ⟨k1, k2, k3⟩ := vx_keep h0 e1 v1 (fun q _ h => hsub q h) hsub hL hF
    obtain ⟨hcov, hQ2, hc1, hs1⟩ := kx E N' G' A' B' D' hQ
    have hgo2 := he E ce q N' G' A' B' D' ad' T'.heap (locs ++ L) ls (st.map (xtr ad)) pc (cs + mc) (sl + ms) hQ2
      ⟨k3, by rw [e1]; exact hE2, ⟨hE3.1, fun k hk => hsub _ (hE3.2 k hk)⟩, hE4, ⟨Nat.le_trans v5.1 hE1.1, fun k hk => by
        rcases hk with hk | hk
        · rw [hE1.2 k (Or.inl (Nat.lt_of_lt_of_le hk v5.1)), v5.2 k (Or.inl hk)]
        · rw [hE1.2 k (Or.inr hk), v5.2 k (Or.inr (Nat.le_trans hE1.1 hk))]⟩, ⟨v6.1, v6.2.1, fun q hq => nomatch hq⟩⟩ hc1 hs1 hcov (by rw [e1]; exact hce) hcv hcl
    obtain ⟨t2, a1, b1⟩ := hgo2 T' rfl X'
    exact ⟨t2, stp.trans a1, b1⟩
/-- the callee's start holds -/
theorem xpre_ok (hS : xS M p l s m args meth c Dg cT As) (hV : xV M s Dg cT As ad0 ad H locs ls lv N0 N G A B D) (av : List Value) :
    FrameBlind (va_Pc (av.map (xtr ad)) (xPre Dg cT ad N G A B D H.size)) ∧ ∀ U : State, U.heap = H → s.WarmedH U.vm → va_Pc (av.map (xtr ad)) (xPre Dg cT ad N G A B D H.size) (av.map (xtr ad)).toArray U := by
  obtain ⟨hx, hb, hml, hrt, hlk, hnm, hown, hts, hst, htb, hK, hMv, hZ, hA⟩ := id hS
  obtain ⟨v1, v2, v3, v4, v5, v6⟩ := hV
  have hsub : ∀ q, xAs ad N H.size q → As q := by
    rintro q (⟨k, hk, rfl⟩ | h)
    · exact v3.2 k hk
    · exact hA q (Nat.le_trans v1.1 h)
  refine ⟨fun a U g mk h => ?_, fun U hU hW => ⟨rfl, by rw [hU], by rw [hU]; exact v2, ⟨v3.1, fun _ _ => trivial⟩, va_K.moved hW.alike hK, hMv.warm hW, ?_, v4⟩⟩
  · obtain ⟨q0, q1, q2, q3, q4, q5, q6, q7⟩ := h
    exact ⟨q0, q1, q2, q3, va_K.moved (u := U) (U := U.calling g mk a) (Vm.Alike.refl U.vm) q4, xMov.same (s := U) (U := U.calling g mk a) rfl q5, ⟨vx_Zq.moved (u := U) (U := U.calling g mk a) (Vm.Alike.refl U.vm) q6.1, vx_Zq.moved (u := U) (U := U.calling g mk a) (Vm.Alike.refl U.vm) q6.2⟩, q7⟩
  · rw [hU]
    have key : ∀ {C n d : String}, vx_Zq C n d As s s.heap → vx_Zq C n d (xAs ad N H.size) U H := fun hz => vx_Zq.moved hW.alike (vx_Zq.narrow (vx_Zq.kept hz (fun a h1 h2 => v1.2.1 a h1 h2)) hsub)
    exact ⟨key hZ.1, key hZ.2⟩
end XC
def xdsc (y : MethodName) (n : Nat) : Prop := y.cls ≠ "java/lang/invoke/MethodHandle" ∧ y.cls ≠ "java/lang/invoke/VarHandle" ∧ (parseMethodDescriptor y.desc).map (fun d => d.parameters.length) = some n
/-- the words of a static call, of a call by a receiver of class C, of a constructor's, of a nest mate's -/
abbrev xlS (own : String) (idx : Nat) (M2 : xMI) (n : Nat) : Prop := Cond.methodLink own idx (mY M2) ∈ xT ∧ Cond.static (mY M2) ∈ xT ∧ Cond.initialized (mY M2).cls ∈ xT ∧ Cond.code (mY M2) (mC M2) (mL M2) (mR M2) ∈ xT ∧ xdsc (mY M2) n
abbrev xlV (own : String) (idx : Nat) (M2 : xMI) (n : Nat) : Prop := Cond.methodLink own idx (mY M2) ∈ xT ∧ Cond.instanceMethod (mY M2) ∈ xT ∧ Cond.selects (mY M2).cls (mY M2) (mY M2) ∈ xT ∧ Cond.initialized (mY M2).cls ∈ xT ∧ Cond.code (mY M2) (mC M2) (mL M2) (mR M2) ∈ xT ∧ xdsc (mY M2) n
abbrev xroom (M M2 : xMI) (cs sl : Nat) : Prop := (mO M2).frames + 1 ≤ (mO M).frames ∧ 8 + (mL M2 + 11) + (mO M2).locals ≤ (mO M).locals ∧ cs + (mO M2).cells ≤ (mO M).cells ∧ sl + (mO M2).slots ≤ (mO M).slots
theorem xws_good {M2 : xMI} (h : xcw M2 ∈ xT) : GoodIn xT (xws M2) := xT_good fun w hw => (List.mem_cons.mp hw).elim (fun e => e ▸ h) id
theorem xcw_nil {M2 : xMI} (h : mH M2 = []) : xcw M2 = .code (mY M2) (mC M2) (mL M2) (mR M2) := by unfold xcw; rw [h]
section XC2
variable {M : xMI} {N0 : Nat} {Q : xQ} {QX : xQX} {cs sl pc : Nat} {lv : xLV} {st : List Value} {N : Nat} {G : xG} {A : xA} {B : xB} {D : xD}
theorem xi_callS {M2 : xMI} {av : List Value} {Q2 : xQ} {QX2 : xQX} {idx n : Nat} (hd : decode (mC M) pc = .ok (.invokestatic idx, 3)) (hw : xlS (mY M).cls idx M2 n) (hh : mH M2 = []) (hn : av.length = n) (hR : xroom M M2 cs sl) (hst : (st.map fun v => v.category).sum ≤ 8)
    (hC : xdoes M2 av N G A B D Q2 QX2)
    (kx : ∀ E N' G' A' B' D', QX2 E N' G' A' B' D' → (∀ x ∈ tableOf (mH M), covers x pc = false) ∧ QX E N' G' A' B' D' ∧ cs + (mO M2).cells ≤ (mO M).cells ∧ sl + (mO M2).slots ≤ (mO M).slots)
    (kk : ∀ r N' G' A' B' D', Q2 r N' G' A' B' D' → (N' = N ∨ (lv.all (fun q => xsc N q.2) = true ∧ st.all (xsc N) = true)) ∧ xgo M N0 Q QX (cs + (mO M2).cells) (sl + (mO M2).slots) (pc + 3) lv (r.toList ++ st) N' G' A' B' D') :
    xgo M N0 Q QX cs sl pc lv (av.reverse ++ st) N G A B D := by
  intro p l e s m args below meth c Dg cT As ad0 ad H locs ls Z hS hV hr he
  obtain ⟨hx, hb, hml, hrt, hlk, hnm, hown, hts, hsk, htb, hK, hMv, hZ, hA⟩ := id hS
  obtain ⟨w1, w2, w3, w4, w5⟩ := hw
  have hcw := xcw_nil hh
  have hpre := xpre_ok hS hV av
  rw [List.map_append, List.map_reverse]
  refine xcall hS hV hr he (vx_runS (n := n) (bytes := mC M2) (maxL := mL M2) (ret := mR M2) ⟨hx, hb, hml, hown, hts⟩ (hC l hsk Dg cT ad H.size)
    ⟨callB_of n hts (xws_good (by rw [hcw]; exact w4)) (by rw [xws, hcw]) rfl rfl (hts _ w3) (hts _ w1) w5 ⟨hR.1, hR.2.1⟩, hts _ w2⟩ hpre rfl (by rw [List.length_map]; exact hn) hV.2.2.2.2.2.1 rfl (lv_room (by
      have : (List.map (fun v => v.category) (st.map (xtr ad))) = st.map fun v => v.category := by rw [List.map_map]; exact List.map_congr_left fun v _ => xtr_cat ad v
      rw [this]; exact hst)) hd ⟨hR.2.2.1, hR.2.2.2⟩) kk kx
theorem xi_callV {M2 : xMI} {av : List Value} {Q2 : xQ} {QX2 : xQX} {idx n kr ci : Nat} {q : vw_C} (hd : decode (mC M) pc = .ok (.invokevirtual idx, 3)) (hw : xlV (mY M).cls idx M2 n) (hh : mH M2 = []) (hn : av.length = n) (hR : xroom M M2 cs sl) (hst : (st.map fun v => v.category).sum ≤ 8)
    (hg : (G kr).1 = ci + 7) (hc : vwCl[ci]? = some q) (hcn : q.1 = (mY M2).cls)
    (hC : xdoes M2 (.ref kr :: av) N G A B D Q2 QX2)
    (kx : ∀ E N' G' A' B' D', QX2 E N' G' A' B' D' → (∀ x ∈ tableOf (mH M), covers x pc = false) ∧ QX E N' G' A' B' D' ∧ cs + (mO M2).cells ≤ (mO M).cells ∧ sl + (mO M2).slots ≤ (mO M).slots)
    (kk : ∀ r N' G' A' B' D', Q2 r N' G' A' B' D' → (N' = N ∨ (lv.all (fun q => xsc N q.2) = true ∧ st.all (xsc N) = true)) ∧ xgo M N0 Q QX (cs + (mO M2).cells) (sl + (mO M2).slots) (pc + 3) lv (r.toList ++ st) N' G' A' B' D') :
    xgo M N0 Q QX cs sl pc lv (av.reverse ++ .ref kr :: st) N G A B D := by
  intro p l e s m args below meth c Dg cT As ad0 ad H locs ls Z hS hV hr he
  obtain ⟨hx, hb, hml, hrt, hlk, hnm, hown, hts, hsk, htb, hK, hMv, hZ, hA⟩ := id hS
  obtain ⟨w1, w2, w2b, w3, w4, w5⟩ := hw
  have hcw := xcw_nil hh
  have hpre := xpre_ok hS hV (.ref kr :: av)
  have hk : kr < N := hV.2.2.2.1 kr (by rw [hg]; omega)
  have hwc : (xwl ad cT N G A B D)[kr]? = some (ad kr, .inr (ci, xfl ad (A kr) (B kr) (G kr).2.2 ci)) := by rw [xwl_get hk]; unfold xent; rw [hg]; rfl
  have hrecv := va_recv hK hV.2.1 hc hwc
  rw [hcn] at hrecv
  rw [List.map_append, List.map_reverse]
  refine xcall hS hV hr he (vx_runV (n := n) (C := (mY M2).cls) (b := ad kr) (As := av.map (xtr ad)) (bytes := mC M2) (maxL := mL M2) (ret := mR M2) ⟨hx, hb, hml, hown, hts⟩ (hC l hsk Dg cT ad H.size)
    ⟨callB_of n hts (xws_good (by rw [hcw]; exact w4)) (by rw [xws, hcw]) rfl rfl (hts _ w3) (hts _ w1) w5 ⟨hR.1, hR.2.1⟩, hts _ w2, hts _ w2b⟩ ⟨hpre.1, hrecv, hpre.2⟩ rfl (by rw [List.length_map]; exact hn) hV.2.2.2.2.2.1 rfl (lv_room (by
      have : (List.map (fun v => v.category) (st.map (xtr ad))) = st.map fun v => v.category := by rw [List.map_map]; exact List.map_congr_left fun v _ => xtr_cat ad v
      rw [this]; exact hst)) hd ⟨hR.2.2.1, hR.2.2.2⟩) kk kx
end XC2
