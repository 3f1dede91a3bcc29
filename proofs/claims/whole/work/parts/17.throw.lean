/-! the three methods that throw -/
theorem xdoes_W {M : xMI} {av : List Value} {N : Nat} {G : xG} {A : xA} {B : xB} {D : xD} {Q : xQ} {QX : xQX} (hpn : plainName (mY M).cls = true) (hh : mH M = []) (hlen : (lg_sl av).length ≤ mL M)
    (k : ∀ (p : Program) (l : Launch) (e : Env) (s : State) (m : MethodId) (args : Array Value) (below : List Frame) (meth : Method) (c : Code) (Dg : va_G) (cT : Nat → ClassId) (As : Nat → Prop) (ad : Nat → Nat) (ls : Array Slot),
      xS M p l s m args meth c Dg cT As → xV M s Dg cT As ad ad s.heap [] ls (lv_args 0 av) N N G A B D →
      W p l e (mO M) s m args below meth c s.heap [] 0 0 (vx_MQ below (xQc Dg cT ad N As Q) (xXc Dg cT ad N As QX) args s (mO M).cells (mO M).slots As) (F0 m 0 ls [])) : xdoes M av N G A B D Q QX := by
  intro l hl Dg cT ad sz
  have hcw : xcw M = .code (mY M) (mC M) (mL M) (mR M) := by unfold xcw; rw [hh]
  refine vx_ofW (cc := mC M) (maxL := mL M) (ret := mR M) (ws' := xT) hpn (by rw [xws, hcw]) ?_
  intro p e s m args below meth c s₁ Bd hml htab hv
  obtain ⟨rfl, hsz, hP, hdm, hK, hMv, hZ, hG⟩ := hv
  subst hsz
  have hts : ∀ w ∈ xT, w.before (av.map (xtr ad)).toArray s = true := fun w hw => atoms_spec (ws := xws M) Bd.pre w (List.mem_cons_of_mem _ hw)
  have hdm2 : xdom (xAs ad N s.heap.size) ad N := ⟨hdm.1, fun k hk => Or.inl ⟨k, hk, rfl⟩⟩
  have hS : xS M p l s m (av.map (xtr ad)).toArray meth c Dg cT (xAs ad N s.heap.size) :=
    ⟨Bd.exec, Bd.bytes, hml, Bd.returns, Bd.notSynchronized, (name_of_methodNamed Bd.named Bd.method).1, findClass_of_methodNamed Bd.named, hts, hl, by
      rw [hh]
      have : c.exceptionTable.toList = [] := List.eq_nil_iff_forall_not_mem.mpr (fun x hx => htab x hx)
      rw [this]; rfl, hK, hMv, hZ, fun q hq => Or.inr hq⟩
  have hl0 := lv_entry (av.map (xtr ad)) (n := mL M) (by rw [xsl_len]; exact hlen)
  rw [lg_entry_eq]
  rw [xlv_args] at hl0
  exact k p l e s m _ below meth c Dg cT _ ad _ hS ⟨va_S.rf, hP, hdm2, hG, ⟨Nat.le_refl _, fun _ _ => rfl⟩, hl0⟩
/-- the end of a method of the class that throws E -/
theorem xthrow {M : xMI} {p : Program} {l : Launch} {e : Env} {s : State} {m : MethodId} {args : Array Value} {below : List Frame} {meth : Method} {c : Code} {Dg : va_G} {cT : Nat → ClassId} {As : Nat → Prop} {ad : Nat → Nat} {ls : Array Slot} {lv : xLV} {N : Nat} {G : xG} {A : xA} {B : xB} {D : xD} {Q : xQ} {QX : xQX} {pc ik is ic a : Nat} {E text : String}
    (hS : xS M p l s m args meth c Dg cT As) (hV : xV M s Dg cT As ad ad s.heap [] ls lv N N G A B D) (hcls : (mY M).cls = "ComponentTree") (hh : mH M = []) (hfit : Bundle.fit E = true) (hk : Cond.classLink "ComponentTree" ik E ∈ xT) (hini : Cond.initialized E ∈ xT) (hstr : vk_R "ComponentTree" is text a s)
    (hat : ∀ w ∈ vx_atS "ComponentTree" ic E ["java/lang/RuntimeException", "java/lang/Exception"], w ∈ xT ∨ w ∈ xnw) (hgood : ∀ w ∈ Cond.classLink "ComponentTree" ik E :: Cond.initialized E :: vx_atS "ComponentTree" ic E ["java/lang/RuntimeException", "java/lang/Exception"], vx_ot w = true)
    (d0 : decode (mC M) pc = .ok (.new ik, 3)) (d3 : decode (mC M) (pc + 3) = .ok (.dup, 1)) (d4 : decode (mC M) (pc + 4) = .ok (.ldc_w is, 3)) (d7 : decode (mC M) (pc + 7) = .ok (.invokespecial ic, 3)) (d10 : decode (mC M) (pc + 10) = .ok (.athrow, 1))
    (hR : 5 < (mO M).frames ∧ 82 ≤ (mO M).locals ∧ (mO M).cells = 1 ∧ (mO M).slots = 6) (hq : QX E N G A B D) :
    W p l e (mO M) s m args below meth c s.heap [] 0 0 (vx_MQ below (xQc Dg cT ad N As Q) (xXc Dg cT ad N As QX) args s (mO M).cells (mO M).slots As) (F0 m pc ls []) := by
  obtain ⟨hx, hb, hml, hrt, hlk, hnm, hown, hts, hsk, htb, hK, hMv, hZ, hA⟩ := id hS
  obtain ⟨v1, v2, v3, v4, v5, v6⟩ := hV
  rw [hcls] at hown
  refine vx_throwSW hx hb hsk (own := "ComponentTree") (cls := E) (names := ["java/lang/RuntimeException", "java/lang/Exception"]) (A := As) hown hfit (by decide) (hts _ hk) (hts _ hini) hstr ?_ hgood hZ.1 hZ.2 v1 (v6.1.trans hml.symm) d0 d3 d4 d7 d10 ?_ hR.1 ?_ ?_ ?_ hlk ?_ v1.2.2 ?_ ?_
  · intro w hw
    rcases hat w hw with h | h
    · exact hts w h
    · refine va_Nw.use ?_ (hMv.1 w h)
      have hk := (List.mem_filter.mp h).2
      cases w <;> first | rfl | (simp [xnwOK] at hk)
  · intro x hxx
    rw [htb, hh] at hxx
    cases hxx
  · exact hR.2.1
  · rw [hR.2.2.1]; decide
  · rw [hR.2.2.2]; decide
  · intro t ht hsz hkp
    refine ⟨⟨N, G, A, B, D, ad, hq, ⟨Nat.le_refl _, fun _ _ => rfl⟩, va_P.kept v2 (fun k q hk => hkp _ ((v2 k q hk).lt)), v3, v4⟩, ⟨hsz, fun q h1 h2 => hkp q h1⟩⟩
  · rw [hR.2.2.1]; decide
  · rw [hR.2.2.2]; decide
set_option maxRecDepth 20000 in
theorem th_iae : ∀ w ∈ vx_atS "ComponentTree" 288 "java/lang/IllegalArgumentException" ["java/lang/RuntimeException", "java/lang/Exception"], w ∈ xT ∨ w ∈ xnw := by decide +kernel
set_option maxRecDepth 20000 in
theorem th_ise : ∀ w ∈ vx_atS "ComponentTree" 293 "java/lang/IllegalStateException" ["java/lang/RuntimeException", "java/lang/Exception"], w ∈ xT ∨ w ∈ xnw := by decide +kernel
set_option maxRecDepth 20000 in
theorem th_ioo : ∀ w ∈ vx_atS "ComponentTree" 281 "java/lang/IndexOutOfBoundsException" ["java/lang/RuntimeException", "java/lang/Exception"], w ∈ xT ∨ w ∈ xnw := by decide +kernel
abbrev sIA : String := "java/lang/IllegalArgumentException"
abbrev sIS : String := "java/lang/IllegalStateException"
abbrev sIO : String := "java/lang/IndexOutOfBoundsException"
/-- returns, the heap as it was, if c; else throws E, the heap as it was -/
abbrev ifQ (c : Prop) (A1 : xA) (B1 : xB) (D1 : xD) : Option Value → xA → xB → xD → Prop := fun r A B D => c ∧ r = none ∧ A = A1 ∧ B = B1 ∧ D = D1
abbrev ifX (c : Prop) (E1 : String) (A1 : xA) (B1 : xB) (D1 : xD) : String → xA → xB → xD → Prop := fun E A B D => ¬ c ∧ E = E1 ∧ A = A1 ∧ B = B1 ∧ D = D1
theorem c_needArgument {g : Int32} {A : xA} {B : xB} {D : xD} : does0 mX7_needArgument [.int g] A B D (ifQ (¬ g = 0) A B D) (ifX (¬ g = 0) sIA A B D) := by
  refine xdoes_W (by decide) rfl (Nat.le_of_ble_eq_true rfl) ?_
  intro p l e s m args below meth c Dg cT As ad ls hS hV
  obtain ⟨hx, hb, hml, hrt, hlk, hnm, hown, hts, hsk, htb, hK, hMv, hZ, hA⟩ := id hS
  refine lv_iload_n (x := g) hx hb dX7_needArgument_0 rfl (xlv_at hV.2.2.2.2.2 (v := .int g) rfl) ?_
  refine lv_if_ne (tgt := 15) hx hb dX7_needArgument_1 rfl (fun h => ?_) (fun h => ?_)
  · exact xclose hS none 97 xG0 A B D ad s.heap [] ls 15 0 0 ⟨rfl, rfl, h, rfl, rfl, rfl, rfl⟩ ⟨hV.1, hV.2.1, hV.2.2.1, hV.2.2.2.1, hV.2.2.2.2.1, ⟨hV.2.2.2.2.2.1, hV.2.2.2.2.2.2.1, fun q hq => nomatch hq⟩⟩ (Nat.zero_le _) (Nat.zero_le _) dX7_needArgument_15
  · obtain ⟨a, ha⟩ := hMv.2.1
    exact xthrow hS hV rfl rfl (by decide) (xT_mem (by decide +kernel) rfl) (xT_mem (by decide +kernel) rfl) ha th_iae (by decide +kernel) dX7_needArgument_4 dX7_needArgument_7 dX7_needArgument_8 dX7_needArgument_11 dX7_needArgument_14 ⟨by decide, by decide, rfl, rfl⟩ ⟨rfl, rfl, (fun q => q h), rfl, rfl, rfl, rfl⟩
theorem c_needState {g : Int32} {A : xA} {B : xB} {D : xD} : does0 mX7_needState [.int g] A B D (ifQ (¬ g = 0) A B D) (ifX (¬ g = 0) sIS A B D) := by
  refine xdoes_W (by decide) rfl (Nat.le_of_ble_eq_true rfl) ?_
  intro p l e s m args below meth c Dg cT As ad ls hS hV
  obtain ⟨hx, hb, hml, hrt, hlk, hnm, hown, hts, hsk, htb, hK, hMv, hZ, hA⟩ := id hS
  refine lv_iload_n (x := g) hx hb dX7_needState_0 rfl (xlv_at hV.2.2.2.2.2 (v := .int g) rfl) ?_
  refine lv_if_ne (tgt := 15) hx hb dX7_needState_1 rfl (fun h => ?_) (fun h => ?_)
  · exact xclose hS none 97 xG0 A B D ad s.heap [] ls 15 0 0 ⟨rfl, rfl, h, rfl, rfl, rfl, rfl⟩ ⟨hV.1, hV.2.1, hV.2.2.1, hV.2.2.2.1, hV.2.2.2.2.1, ⟨hV.2.2.2.2.2.1, hV.2.2.2.2.2.2.1, fun q hq => nomatch hq⟩⟩ (Nat.zero_le _) (Nat.zero_le _) dX7_needState_15
  · obtain ⟨a, ha⟩ := hMv.2.2.2
    exact xthrow hS hV rfl rfl (by decide) (xT_mem (by decide +kernel) rfl) (xT_mem (by decide +kernel) rfl) ha th_ise (by decide +kernel) dX7_needState_4 dX7_needState_7 dX7_needState_8 dX7_needState_11 dX7_needState_14 ⟨by decide, by decide, rfl, rfl⟩ ⟨rfl, rfl, (fun q => q h), rfl, rfl, rfl, rfl⟩
theorem c_needIndex {i n : Int32} {A : xA} {B : xB} {D : xD} : does0 mX7_needIndex [.int i, .int n] A B D (ifQ (¬ i < 0 ∧ i < n) A B D) (ifX (¬ i < 0 ∧ i < n) sIO A B D) := by
  refine xdoes_W (by decide) rfl (Nat.le_of_ble_eq_true rfl) ?_
  intro p l e s m args below meth c Dg cT As ad ls hS hV
  obtain ⟨hx, hb, hml, hrt, hlk, hnm, hown, hts, hsk, htb, hK, hMv, hZ, hA⟩ := id hS
  have hth : ¬ (¬ i < 0 ∧ i < n) → W p l e (mO mX7_needIndex) s m args below meth c s.heap [] 0 0 (vx_MQ below (xQc Dg cT ad 97 As (q0 (ifQ (¬ i < 0 ∧ i < n) A B D))) (xXc Dg cT ad 97 As (x0 (ifX (¬ i < 0 ∧ i < n) sIO A B D))) args s (mO mX7_needIndex).cells (mO mX7_needIndex).slots As) (F0 m 9 ls []) := fun h => by
    obtain ⟨a, ha⟩ := hMv.2.2.1
    exact xthrow hS hV rfl rfl (by decide) (xT_mem (by decide +kernel) rfl) (xT_mem (by decide +kernel) rfl) ha th_ioo (by decide +kernel) dX7_needIndex_9 dX7_needIndex_12 dX7_needIndex_13 dX7_needIndex_16 dX7_needIndex_19 ⟨by decide, by decide, rfl, rfl⟩ ⟨rfl, rfl, h, rfl, rfl, rfl, rfl⟩
  refine lv_iload_n (x := i) hx hb dX7_needIndex_0 rfl (xlv_at hV.2.2.2.2.2 (v := .int i) rfl) ?_
  refine lv_if_lt (tgt := 9) hx hb dX7_needIndex_1 rfl (fun h => hth (fun q => q.1 h)) (fun h => ?_)
  refine lv_iload_n (x := i) hx hb dX7_needIndex_4 rfl (xlv_at hV.2.2.2.2.2 (v := .int i) rfl) ?_
  refine lv_iload_n (x := n) hx hb dX7_needIndex_5 rfl (xlv_at hV.2.2.2.2.2 (v := .int n) rfl) ?_
  refine lv_icmp_lt (tgt := 20) hx hb dX7_needIndex_6 rfl (fun h2 => ?_) (fun h2 => hth (fun q => h2 q.2))
  exact xclose hS none 97 xG0 A B D ad s.heap [] ls 20 0 0 ⟨rfl, rfl, ⟨h, h2⟩, rfl, rfl, rfl, rfl⟩ ⟨hV.1, hV.2.1, hV.2.2.1, hV.2.2.2.1, hV.2.2.2.2.1, ⟨hV.2.2.2.2.2.1, hV.2.2.2.2.2.2.1, fun q hq => nomatch hq⟩⟩ (Nat.zero_le _) (Nat.zero_le _) dX7_needIndex_20
