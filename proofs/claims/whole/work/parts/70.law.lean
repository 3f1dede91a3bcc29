/-! the cases of the law (printed by laws.py) -/
theorem lW_begin : xlSW RL 110 mL_begin 4 := ⟨xT_mem (List.mem_of_getElem? (i := 619) (by decide +kernel)) rfl, xT_mem (List.mem_of_getElem? (i := 620) (by decide +kernel)) rfl, xT_mem (List.mem_of_getElem? (i := 74) (by decide +kernel)) rfl, xT_mem (List.mem_of_getElem? (i := 621) (by decide +kernel)) rfl, by decide, by decide, by decide +kernel⟩
theorem lW_setLevel : xlSW RL 119 mL_setLevel 4 := ⟨xT_mem (List.mem_of_getElem? (i := 703) (by decide +kernel)) rfl, xT_mem (List.mem_of_getElem? (i := 704) (by decide +kernel)) rfl, xT_mem (List.mem_of_getElem? (i := 74) (by decide +kernel)) rfl, xT_mem (List.mem_of_getElem? (i := 705) (by decide +kernel)) rfl, by decide, by decide, by decide +kernel⟩
theorem lW_fill : xlSW RL 122 mL_fill 5 := ⟨xT_mem (List.mem_of_getElem? (i := 737) (by decide +kernel)) rfl, xT_mem (List.mem_of_getElem? (i := 738) (by decide +kernel)) rfl, xT_mem (List.mem_of_getElem? (i := 74) (by decide +kernel)) rfl, xT_mem (List.mem_of_getElem? (i := 739) (by decide +kernel)) rfl, by decide, by decide, by decide +kernel⟩
theorem lW_setMarker : xlSW RL 130 mL_setMarker 4 := ⟨xT_mem (List.mem_of_getElem? (i := 758) (by decide +kernel)) rfl, xT_mem (List.mem_of_getElem? (i := 759) (by decide +kernel)) rfl, xT_mem (List.mem_of_getElem? (i := 74) (by decide +kernel)) rfl, xT_mem (List.mem_of_getElem? (i := 760) (by decide +kernel)) rfl, by decide, by decide, by decide +kernel⟩
theorem lW_level : xlSW RL 137 mL_level 3 := ⟨xT_mem (List.mem_of_getElem? (i := 765) (by decide +kernel)) rfl, xT_mem (List.mem_of_getElem? (i := 766) (by decide +kernel)) rfl, xT_mem (List.mem_of_getElem? (i := 74) (by decide +kernel)) rfl, xT_mem (List.mem_of_getElem? (i := 767) (by decide +kernel)) rfl, by decide, by decide, by decide +kernel⟩
theorem lW_marker : xlSW RL 141 mL_marker 3 := ⟨xT_mem (List.mem_of_getElem? (i := 772) (by decide +kernel)) rfl, xT_mem (List.mem_of_getElem? (i := 773) (by decide +kernel)) rfl, xT_mem (List.mem_of_getElem? (i := 74) (by decide +kernel)) rfl, xT_mem (List.mem_of_getElem? (i := 774) (by decide +kernel)) rfl, by decide, by decide, by decide +kernel⟩
theorem lW_undo : xlSW RL 157 mL_undo 2 := ⟨xT_mem (List.mem_of_getElem? (i := 779) (by decide +kernel)) rfl, xT_mem (List.mem_of_getElem? (i := 780) (by decide +kernel)) rfl, xT_mem (List.mem_of_getElem? (i := 74) (by decide +kernel)) rfl, xT_mem (List.mem_of_getElem? (i := 781) (by decide +kernel)) rfl, by decide, by decide, by decide +kernel⟩
theorem lW_append : xlSW RL 161 mL_append 3 := ⟨xT_mem (List.mem_of_getElem? (i := 810) (by decide +kernel)) rfl, xT_mem (List.mem_of_getElem? (i := 811) (by decide +kernel)) rfl, xT_mem (List.mem_of_getElem? (i := 74) (by decide +kernel)) rfl, xT_mem (List.mem_of_getElem? (i := 812) (by decide +kernel)) rfl, by decide, by decide, by decide +kernel⟩
theorem lW_load : xlSW RL 172 mL_load 2 := ⟨xT_mem (List.mem_of_getElem? (i := 821) (by decide +kernel)) rfl, xT_mem (List.mem_of_getElem? (i := 822) (by decide +kernel)) rfl, xT_mem (List.mem_of_getElem? (i := 74) (by decide +kernel)) rfl, xT_mem (List.mem_of_getElem? (i := 823) (by decide +kernel)) rfl, by decide, by decide, by decide +kernel⟩
theorem lW_count : xlSW RL 175 mL_count 3 := ⟨xT_mem (List.mem_of_getElem? (i := 838) (by decide +kernel)) rfl, xT_mem (List.mem_of_getElem? (i := 839) (by decide +kernel)) rfl, xT_mem (List.mem_of_getElem? (i := 74) (by decide +kernel)) rfl, xT_mem (List.mem_of_getElem? (i := 840) (by decide +kernel)) rfl, by decide, by decide, by decide +kernel⟩
theorem lW_nodeOf : xlSW RL 178 mL_nodeOf 3 := ⟨xT_mem (List.mem_of_getElem? (i := 845) (by decide +kernel)) rfl, xT_mem (List.mem_of_getElem? (i := 846) (by decide +kernel)) rfl, xT_mem (List.mem_of_getElem? (i := 74) (by decide +kernel)) rfl, xT_mem (List.mem_of_getElem? (i := 847) (by decide +kernel)) rfl, by decide, by decide, by decide +kernel⟩
theorem lW_attribute : xlSW RL 181 mL_attribute 4 := ⟨xT_mem (List.mem_of_getElem? (i := 852) (by decide +kernel)) rfl, xT_mem (List.mem_of_getElem? (i := 853) (by decide +kernel)) rfl, xT_mem (List.mem_of_getElem? (i := 74) (by decide +kernel)) rfl, xT_mem (List.mem_of_getElem? (i := 854) (by decide +kernel)) rfl, by decide, by decide, by decide +kernel⟩
theorem lW_meanRank : xlSW RL 184 mL_meanRank 3 := ⟨xT_mem (List.mem_of_getElem? (i := 863) (by decide +kernel)) rfl, xT_mem (List.mem_of_getElem? (i := 864) (by decide +kernel)) rfl, xT_mem (List.mem_of_getElem? (i := 74) (by decide +kernel)) rfl, xT_mem (List.mem_of_getElem? (i := 865) (by decide +kernel)) rfl, by decide, by decide, by decide +kernel⟩
theorem lW_contains : xlSW RL 188 mL_contains 4 := ⟨xT_mem (List.mem_of_getElem? (i := 870) (by decide +kernel)) rfl, xT_mem (List.mem_of_getElem? (i := 871) (by decide +kernel)) rfl, xT_mem (List.mem_of_getElem? (i := 74) (by decide +kernel)) rfl, xT_mem (List.mem_of_getElem? (i := 872) (by decide +kernel)) rfl, by decide, by decide, by decide +kernel⟩
theorem lW_child : xlSW RL 191 mL_child 4 := ⟨xT_mem (List.mem_of_getElem? (i := 878) (by decide +kernel)) rfl, xT_mem (List.mem_of_getElem? (i := 879) (by decide +kernel)) rfl, xT_mem (List.mem_of_getElem? (i := 74) (by decide +kernel)) rfl, xT_mem (List.mem_of_getElem? (i := 880) (by decide +kernel)) rfl, by decide, by decide, by decide +kernel⟩
theorem lW_leaf : xlSW RL 194 mL_leaf 3 := ⟨xT_mem (List.mem_of_getElem? (i := 889) (by decide +kernel)) rfl, xT_mem (List.mem_of_getElem? (i := 890) (by decide +kernel)) rfl, xT_mem (List.mem_of_getElem? (i := 74) (by decide +kernel)) rfl, xT_mem (List.mem_of_getElem? (i := 891) (by decide +kernel)) rfl, by decide, by decide, by decide +kernel⟩
theorem lW_prominence : xlSW RL 197 mL_prominence 3 := ⟨xT_mem (List.mem_of_getElem? (i := 896) (by decide +kernel)) rfl, xT_mem (List.mem_of_getElem? (i := 897) (by decide +kernel)) rfl, xT_mem (List.mem_of_getElem? (i := 74) (by decide +kernel)) rfl, xT_mem (List.mem_of_getElem? (i := 898) (by decide +kernel)) rfl, by decide, by decide, by decide +kernel⟩
theorem lW_component : xlSW RL 200 mL_component 4 := ⟨xT_mem (List.mem_of_getElem? (i := 903) (by decide +kernel)) rfl, xT_mem (List.mem_of_getElem? (i := 904) (by decide +kernel)) rfl, xT_mem (List.mem_of_getElem? (i := 74) (by decide +kernel)) rfl, xT_mem (List.mem_of_getElem? (i := 905) (by decide +kernel)) rfl, by decide, by decide, by decide +kernel⟩
theorem lW_meet : xlSW RL 203 mL_meet 4 := ⟨xT_mem (List.mem_of_getElem? (i := 914) (by decide +kernel)) rfl, xT_mem (List.mem_of_getElem? (i := 915) (by decide +kernel)) rfl, xT_mem (List.mem_of_getElem? (i := 74) (by decide +kernel)) rfl, xT_mem (List.mem_of_getElem? (i := 916) (by decide +kernel)) rfl, by decide, by decide, by decide +kernel⟩
theorem lW_distance : xlSW RL 206 mL_distance 4 := ⟨xT_mem (List.mem_of_getElem? (i := 925) (by decide +kernel)) rfl, xT_mem (List.mem_of_getElem? (i := 926) (by decide +kernel)) rfl, xT_mem (List.mem_of_getElem? (i := 74) (by decide +kernel)) rfl, xT_mem (List.mem_of_getElem? (i := 927) (by decide +kernel)) rfl, by decide, by decide, by decide +kernel⟩
theorem lW_verdict : xlSW RL 209 mL_verdict 6 := ⟨xT_mem (List.mem_of_getElem? (i := 940) (by decide +kernel)) rfl, xT_mem (List.mem_of_getElem? (i := 941) (by decide +kernel)) rfl, xT_mem (List.mem_of_getElem? (i := 74) (by decide +kernel)) rfl, xT_mem (List.mem_of_getElem? (i := 942) (by decide +kernel)) rfl, by decide, by decide, by decide +kernel⟩
theorem lW_filtered : xlSW RL 213 mL_filtered 6 := ⟨xT_mem (List.mem_of_getElem? (i := 953) (by decide +kernel)) rfl, xT_mem (List.mem_of_getElem? (i := 954) (by decide +kernel)) rfl, xT_mem (List.mem_of_getElem? (i := 74) (by decide +kernel)) rfl, xT_mem (List.mem_of_getElem? (i := 955) (by decide +kernel)) rfl, by decide, by decide, by decide +kernel⟩
theorem lW_loss : xlSW RL 216 mL_loss 5 := ⟨xT_mem (List.mem_of_getElem? (i := 960) (by decide +kernel)) rfl, xT_mem (List.mem_of_getElem? (i := 961) (by decide +kernel)) rfl, xT_mem (List.mem_of_getElem? (i := 74) (by decide +kernel)) rfl, xT_mem (List.mem_of_getElem? (i := 962) (by decide +kernel)) rfl, by decide, by decide, by decide +kernel⟩
theorem lW_filter : xlSW RL 219 mL_filter 5 := ⟨xT_mem (List.mem_of_getElem? (i := 967) (by decide +kernel)) rfl, xT_mem (List.mem_of_getElem? (i := 968) (by decide +kernel)) rfl, xT_mem (List.mem_of_getElem? (i := 74) (by decide +kernel)) rfl, xT_mem (List.mem_of_getElem? (i := 969) (by decide +kernel)) rfl, by decide, by decide, by decide +kernel⟩
theorem lW_threshold : xlSW RL 222 mL_threshold 4 := ⟨xT_mem (List.mem_of_getElem? (i := 974) (by decide +kernel)) rfl, xT_mem (List.mem_of_getElem? (i := 975) (by decide +kernel)) rfl, xT_mem (List.mem_of_getElem? (i := 74) (by decide +kernel)) rfl, xT_mem (List.mem_of_getElem? (i := 976) (by decide +kernel)) rfl, by decide, by decide, by decide +kernel⟩
theorem lW_suppress : xlSW RL 229 mL_suppress 3 := ⟨xT_mem (List.mem_of_getElem? (i := 981) (by decide +kernel)) rfl, xT_mem (List.mem_of_getElem? (i := 982) (by decide +kernel)) rfl, xT_mem (List.mem_of_getElem? (i := 74) (by decide +kernel)) rfl, xT_mem (List.mem_of_getElem? (i := 983) (by decide +kernel)) rfl, by decide, by decide, by decide +kernel⟩
theorem lW_keepPeaks : xlSW RL 232 mL_keepPeaks 3 := ⟨xT_mem (List.mem_of_getElem? (i := 989) (by decide +kernel)) rfl, xT_mem (List.mem_of_getElem? (i := 990) (by decide +kernel)) rfl, xT_mem (List.mem_of_getElem? (i := 74) (by decide +kernel)) rfl, xT_mem (List.mem_of_getElem? (i := 991) (by decide +kernel)) rfl, by decide, by decide, by decide +kernel⟩
theorem lW_ifLevel : xlSW RL 235 mL_ifLevel 5 := ⟨xT_mem (List.mem_of_getElem? (i := 1001) (by decide +kernel)) rfl, xT_mem (List.mem_of_getElem? (i := 1002) (by decide +kernel)) rfl, xT_mem (List.mem_of_getElem? (i := 74) (by decide +kernel)) rfl, xT_mem (List.mem_of_getElem? (i := 1003) (by decide +kernel)) rfl, by decide, by decide, by decide +kernel⟩
abbrev lvL (i : Int32) : xLV := [(0, .ref 1000), (1, .ref 0), (2, .ref 76), (3, .ref 95), (4, .ref 96), (5, .int i)]
theorem bothI {S S' : abs} {A A1 : xA} {B B1 : xB} {D D1 : xD} {c1 c2 : Prop} {v0 : Int32} {r : Option Value} (hS : S.ok) (hS' : c1 → c2 → S'.ok) (hm : mRel S A B) (hw : WQ S S' A B D c1 c2 v0.toInt64 r A1 B1 D1) : ∃ k, r = some (.int k) ∧ D1 = D ∧ mRel S A1 B1 ∧ ∀ r2 A2 B2 D2, MQm S S' A1 B1 D1 c1 c2 (.int v0) (.int 0) r2 A2 B2 D2 → D2 = D1 ∧ ∃ w, r2 = some (.int w) ∧ A2 76 0 = k ∧ (∃ S2 : abs, S2.ok ∧ cRel S2 A2 B2 ∧ mRel S2 A2 B2) ∧ (k = 0 → w = v0 ∧ B2 95 0 = v0.toInt64) := both (r2 := none) (v0 := v0) hS hS' hm hw
theorem bothC {S S' : abs} {A A1 : xA} {B B1 : xB} {D D1 : xD} {c1 c2 : Prop} {v0 : Int32} {r : Option Value} (hS : S.ok) (hS' : c1 → c2 → S'.ok) (hm : mRel S A B) (hw : WQ S S' A B D c1 c2 (if v0 = 0 then 0 else 1) r A1 B1 D1) : ∃ k, r = some (.int k) ∧ D1 = D ∧ mRel S A1 B1 ∧ ∀ r2 A2 B2 D2, MQm S S' A1 B1 D1 c1 c2 (.int v0) (.int 0) r2 A2 B2 D2 → D2 = D1 ∧ ∃ w, r2 = some (.int w) ∧ A2 76 0 = k ∧ (∃ S2 : abs, S2.ok ∧ cRel S2 A2 B2 ∧ mRel S2 A2 B2) ∧ (k = 0 → w = v0 ∧ B2 95 0 = if v0 = 0 then 0 else 1) := both (r2 := none) (v0 := v0) hS hS' hm hw
theorem bothS {S S' : abs} {A A1 : xA} {B B1 : xB} {D D1 : xD} {v : Value} {r : Option Value} (hS' : S'.ok) (hm : mRel S A B) (hw : CQ S' A B D True v r A1 B1 D1) : r = some v ∧ mRel S A1 B1 ∧ ∀ r2 A2 B2 D2, MQn S' A1 B1 D1 v r2 A2 B2 D2 → r2 = some v ∧ ∃ S2 : abs, S2.ok ∧ cRel S2 A2 B2 ∧ mRel S2 A2 B2 := bothN (r2 := none) (v2 := v) hS' hm hw
theorem ld_hR {S : abs} {A : xA} {B : xB} (h : cRel S A B) : ldC S.rd S.len → gOK S.rd.2.2.2.1 (S.rd.2.2.1 + 1) (S.rd.2.2.2.1 * (S.rd.2.2.1 + 1)) ∧ S.rd.2.2.2.2.1 = S.rd.2.2.2.1 * (S.rd.2.2.1 + 1) := fun hl => by
  obtain ⟨s1, s2⟩ := scan_rd h
  obtain ⟨e1, e2, e3, e4, e5⟩ := ld_sh hl (s2 hl.1)
  exact ⟨e3, e4⟩
section LC
variable {nm : String} {hh : List (Nat × Nat × Nat × Nat)} {L : Nat} {xs : Nat → Int32} {S : abs} {A : xA} {B : xB} {D : xD} {cs sl : Nat} {i : Int32} {Q : Option Value → xA → xB → xD → Prop}
theorem lc_begin (hi : vp_in (i + 1) L ∧ vp_in (i + 2) L ∧ vp_in (i + 3) L ∧ vp_in (i + 4) L) (hcs : cs + 4 ≤ (mO (mLaw nm hh)).cells ∧ sl + 24 ≤ (mO (mLaw nm hh)).slots) (hS : S.ok) (h1 : cRel S A B) (h2 : mRel S A B) (K : ∀ (S2 : abs) A2 B2 D2, S2.ok → cRel S2 A2 B2 → mRel S2 A2 B2 → gl0 (eLW L xs) (mLaw nm hh) Q nx (cs + 4) (sl + 24) 2242 (lvL i) [] A2 B2 D2) : gl0 (eLW L xs) (mLaw nm hh) Q nx cs sl 208 (lvL i) [] A B D := by
  refine yi_aload_n dL_law_208 rfl rfl ?_
  refine yi_aload_n dL_law_209 rfl rfl ?_
  refine yi_iload dL_law_210 rfl ?_
  refine yi_iconst dL_law_212 (v := 1) rfl ?_
  refine yi_iadd dL_law_213 ?_
  refine yi_sld dL_law_214 (by decide) hi.1 ?_
  refine yi_aload_n dL_law_215 rfl rfl ?_
  refine yi_iload dL_law_216 rfl ?_
  refine yi_iconst dL_law_218 (v := 2) rfl ?_
  refine yi_iadd dL_law_219 ?_
  refine yi_sld dL_law_220 (by decide) hi.2.1 ?_
  refine yi_aload_n dL_law_221 rfl rfl ?_
  refine yi_callW (M2 := mL_begin) (av := [.ref 0, .int (xs (i + 1).toNatClampNeg), .int (xs (i + 2).toNatClampNeg), .ref 95]) (st := []) dL_law_222 lW_begin rfl rfl ⟨Nat.le_of_ble_eq_true rfl, Nat.le_of_ble_eq_true rfl⟩ ⟨Nat.le_of_ble_eq_true rfl, Nat.le_of_ble_eq_true rfl⟩ hcs (Nat.le_of_ble_eq_true rfl) (L_begin h1 hS) ?_
  intro r A1 B1 D1 hw
  obtain ⟨k, rfl, rfl, hm1, hk⟩ := bothI hS (fun p1 p2 => abs.sBegin_ok hS p1.1 p1.2) h2 hw
  refine yi_istore dL_law_225 (Nat.le_of_ble_eq_true rfl) ?_
  refine yi_aload_n dL_law_227 rfl rfl ?_
  refine yi_aload_n dL_law_228 rfl rfl ?_
  refine yi_iload dL_law_229 rfl ?_
  refine yi_iconst dL_law_231 (v := 1) rfl ?_
  refine yi_iadd dL_law_232 ?_
  refine yi_sld dL_law_233 (by decide) hi.1 ?_
  refine yi_aload_n dL_law_234 rfl rfl ?_
  refine yi_iload dL_law_235 rfl ?_
  refine yi_iconst dL_law_237 (v := 2) rfl ?_
  refine yi_iadd dL_law_238 ?_
  refine yi_sld dL_law_239 (by decide) hi.2.1 ?_
  refine ycV (M2 := mX8_begin) (kr := 76) (ci := 8) (av := [.int (xs (i + 1).toNatClampNeg), .int (xs (i + 2).toNatClampNeg)]) (st := []) dL_law_240 lL_115 rfl ⟨rfl, rfl⟩ rfl ⟨Nat.le_of_ble_eq_true rfl, Nat.le_of_ble_eq_true rfl⟩ hcs (by decide) rfl rfl rfl (M_begin hm1 hS) ?_
  intro r2 A2 B2 D2 hq
  obtain ⟨rfl, w, rfl, ht, ⟨S2, s1, s2, s3⟩, hv⟩ := hk _ _ _ _ hq
  refine yi_istore dL_law_243 (Nat.le_of_ble_eq_true rfl) ?_
  refine yi_aload_n dL_law_245 rfl rfl ?_
  refine ycV1 (M2 := mX8_thrown) (kr := 76) (ci := 8) (av := []) (st := []) dL_law_246 lL_116 rfl ⟨rfl, rfl⟩ rfl ⟨Nat.le_of_ble_eq_true rfl, Nat.le_of_ble_eq_true rfl⟩ hcs (by decide) rfl rfl rfl m_thrown ?_
  rw [ht]
  refine yi_iload dL_law_249 rfl ?_
  refine yi_icmp_eq (tgt := 256) dL_law_251 rfl (fun _ => ?_) (fun z => absurd rfl z)
  refine yi_iload dL_law_256 rfl ?_
  have hend : ∀ w0 D3, gl0 (eLW L xs) (mLaw nm hh) Q nx (cs + 4) (sl + 24) 273 (xst1 7 (.int w0) (xst1 6 (.int k) (lvL i))) [] A2 B2 D3 := fun w0 D3 => yi_goto (tgt := 2242) dL_law_273 rfl (by exact ygo_pick [0, 1, 2, 3, 4, 5] rfl (K S2 _ _ _ s1 s2 s3))
  refine yi_ifne (tgt := 273) dL_law_258 rfl (fun z => hend w _) (fun z => ?_)
  obtain ⟨rfl, hb⟩ := hv z
  refine yi_aload_n dL_law_261 rfl rfl ?_
  refine yi_iconst dL_law_262 (v := 0) rfl ?_
  refine yla (kk := 95) (nn := 1) (j := 0) dL_law_263 rfl rfl rfl (by decide) (by decide) ?_
  refine yi_iload dL_law_264 rfl ?_
  refine yi_i2l dL_law_266 ?_
  exact yi_lcmpeq (tgt := 273) dL_law_267 dL_law_268 rfl (fun _ => hend _ _) (fun q => absurd hb q)
theorem lc_setLevel (hi : vp_in (i + 1) L ∧ vp_in (i + 2) L ∧ vp_in (i + 3) L ∧ vp_in (i + 4) L) (hcs : cs + 4 ≤ (mO (mLaw nm hh)).cells ∧ sl + 24 ≤ (mO (mLaw nm hh)).slots) (hS : S.ok) (h1 : cRel S A B) (h2 : mRel S A B) (K : ∀ (S2 : abs) A2 B2 D2, S2.ok → cRel S2 A2 B2 → mRel S2 A2 B2 → gl0 (eLW L xs) (mLaw nm hh) Q nx (cs + 4) (sl + 24) 2242 (lvL i) [] A2 B2 D2) : gl0 (eLW L xs) (mLaw nm hh) Q nx cs sl 276 (lvL i) [] A B D := by
  refine yi_aload_n dL_law_276 rfl rfl ?_
  refine yi_aload_n dL_law_277 rfl rfl ?_
  refine yi_iload dL_law_278 rfl ?_
  refine yi_iconst dL_law_280 (v := 1) rfl ?_
  refine yi_iadd dL_law_281 ?_
  refine yi_sld dL_law_282 (by decide) hi.1 ?_
  refine yi_aload_n dL_law_283 rfl rfl ?_
  refine yi_iload dL_law_284 rfl ?_
  refine yi_iconst dL_law_286 (v := 2) rfl ?_
  refine yi_iadd dL_law_287 ?_
  refine yi_sld dL_law_288 (by decide) hi.2.1 ?_
  refine yi_aload_n dL_law_289 rfl rfl ?_
  refine yi_callW (M2 := mL_setLevel) (av := [.ref 0, .int (xs (i + 1).toNatClampNeg), .int (xs (i + 2).toNatClampNeg), .ref 95]) (st := []) dL_law_290 lW_setLevel rfl rfl ⟨Nat.le_of_ble_eq_true rfl, Nat.le_of_ble_eq_true rfl⟩ ⟨Nat.le_of_ble_eq_true rfl, Nat.le_of_ble_eq_true rfl⟩ hcs (Nat.le_of_ble_eq_true rfl) (L_setLevel h1 hS) ?_
  intro r A1 B1 D1 hw
  obtain ⟨k, rfl, rfl, hm1, hk⟩ := bothI hS (fun p1 p2 => abs.sLevel_ok hS p2) h2 hw
  refine yi_istore dL_law_293 (Nat.le_of_ble_eq_true rfl) ?_
  refine yi_aload_n dL_law_295 rfl rfl ?_
  refine yi_aload_n dL_law_296 rfl rfl ?_
  refine yi_iload dL_law_297 rfl ?_
  refine yi_iconst dL_law_299 (v := 1) rfl ?_
  refine yi_iadd dL_law_300 ?_
  refine yi_sld dL_law_301 (by decide) hi.1 ?_
  refine yi_aload_n dL_law_302 rfl rfl ?_
  refine yi_iload dL_law_303 rfl ?_
  refine yi_iconst dL_law_305 (v := 2) rfl ?_
  refine yi_iadd dL_law_306 ?_
  refine yi_sld dL_law_307 (by decide) hi.2.1 ?_
  refine ycV (M2 := mX8_setLevel) (kr := 76) (ci := 8) (av := [.int (xs (i + 1).toNatClampNeg), .int (xs (i + 2).toNatClampNeg)]) (st := []) dL_law_308 lL_121 rfl ⟨rfl, rfl⟩ rfl ⟨Nat.le_of_ble_eq_true rfl, Nat.le_of_ble_eq_true rfl⟩ hcs (by decide) rfl rfl rfl (M_setLevel hm1 hS) ?_
  intro r2 A2 B2 D2 hq
  obtain ⟨rfl, w, rfl, ht, ⟨S2, s1, s2, s3⟩, hv⟩ := hk _ _ _ _ hq
  refine yi_istore dL_law_311 (Nat.le_of_ble_eq_true rfl) ?_
  refine yi_aload_n dL_law_313 rfl rfl ?_
  refine ycV1 (M2 := mX8_thrown) (kr := 76) (ci := 8) (av := []) (st := []) dL_law_314 lL_116 rfl ⟨rfl, rfl⟩ rfl ⟨Nat.le_of_ble_eq_true rfl, Nat.le_of_ble_eq_true rfl⟩ hcs (by decide) rfl rfl rfl m_thrown ?_
  rw [ht]
  refine yi_iload dL_law_317 rfl ?_
  refine yi_icmp_eq (tgt := 324) dL_law_319 rfl (fun _ => ?_) (fun z => absurd rfl z)
  refine yi_iload dL_law_324 rfl ?_
  have hend : ∀ w0 D3, gl0 (eLW L xs) (mLaw nm hh) Q nx (cs + 4) (sl + 24) 341 (xst1 7 (.int w0) (xst1 6 (.int k) (lvL i))) [] A2 B2 D3 := fun w0 D3 => yi_goto (tgt := 2242) dL_law_341 rfl (by exact ygo_pick [0, 1, 2, 3, 4, 5] rfl (K S2 _ _ _ s1 s2 s3))
  refine yi_ifne (tgt := 341) dL_law_326 rfl (fun z => hend w _) (fun z => ?_)
  obtain ⟨rfl, hb⟩ := hv z
  refine yi_aload_n dL_law_329 rfl rfl ?_
  refine yi_iconst dL_law_330 (v := 0) rfl ?_
  refine yla (kk := 95) (nn := 1) (j := 0) dL_law_331 rfl rfl rfl (by decide) (by decide) ?_
  refine yi_iload dL_law_332 rfl ?_
  refine yi_i2l dL_law_334 ?_
  exact yi_lcmpeq (tgt := 341) dL_law_335 dL_law_336 rfl (fun _ => hend _ _) (fun q => absurd hb q)
theorem lc_fill (hi : vp_in (i + 1) L ∧ vp_in (i + 2) L ∧ vp_in (i + 3) L ∧ vp_in (i + 4) L) (hcs : cs + 4 ≤ (mO (mLaw nm hh)).cells ∧ sl + 24 ≤ (mO (mLaw nm hh)).slots) (hS : S.ok) (h1 : cRel S A B) (h2 : mRel S A B) (K : ∀ (S2 : abs) A2 B2 D2, S2.ok → cRel S2 A2 B2 → mRel S2 A2 B2 → gl0 (eLW L xs) (mLaw nm hh) Q nx (cs + 4) (sl + 24) 2242 (lvL i) [] A2 B2 D2) : gl0 (eLW L xs) (mLaw nm hh) Q nx cs sl 344 (lvL i) [] A B D := by
  refine yi_aload_n dL_law_344 rfl rfl ?_
  refine yi_aload_n dL_law_345 rfl rfl ?_
  refine yi_iload dL_law_346 rfl ?_
  refine yi_iconst dL_law_348 (v := 1) rfl ?_
  refine yi_iadd dL_law_349 ?_
  refine yi_sld dL_law_350 (by decide) hi.1 ?_
  refine yi_aload_n dL_law_351 rfl rfl ?_
  refine yi_iload dL_law_352 rfl ?_
  refine yi_iconst dL_law_354 (v := 2) rfl ?_
  refine yi_iadd dL_law_355 ?_
  refine yi_sld dL_law_356 (by decide) hi.2.1 ?_
  refine yi_aload_n dL_law_357 rfl rfl ?_
  refine yi_iload dL_law_358 rfl ?_
  refine yi_iconst dL_law_360 (v := 3) rfl ?_
  refine yi_iadd dL_law_361 ?_
  refine yi_sld dL_law_362 (by decide) hi.2.2.1 ?_
  refine yi_aload_n dL_law_363 rfl rfl ?_
  refine yi_callW (M2 := mL_fill) (av := [.ref 0, .int (xs (i + 1).toNatClampNeg), .int (xs (i + 2).toNatClampNeg), .int (xs (i + 3).toNatClampNeg), .ref 95]) (st := []) dL_law_364 lW_fill rfl rfl ⟨Nat.le_of_ble_eq_true rfl, Nat.le_of_ble_eq_true rfl⟩ ⟨Nat.le_of_ble_eq_true rfl, Nat.le_of_ble_eq_true rfl⟩ hcs (Nat.le_of_ble_eq_true rfl) (L_fill h1 hS) ?_
  intro r A1 B1 D1 hw
  obtain ⟨k, rfl, rfl, hm1, hk⟩ := bothI hS (fun p1 p2 => ok_fill hS p1.1 p1.2 p2) h2 hw
  refine yi_istore dL_law_367 (Nat.le_of_ble_eq_true rfl) ?_
  refine yi_aload_n dL_law_369 rfl rfl ?_
  refine yi_aload_n dL_law_370 rfl rfl ?_
  refine yi_iload dL_law_371 rfl ?_
  refine yi_iconst dL_law_373 (v := 1) rfl ?_
  refine yi_iadd dL_law_374 ?_
  refine yi_sld dL_law_375 (by decide) hi.1 ?_
  refine yi_aload_n dL_law_376 rfl rfl ?_
  refine yi_iload dL_law_377 rfl ?_
  refine yi_iconst dL_law_379 (v := 2) rfl ?_
  refine yi_iadd dL_law_380 ?_
  refine yi_sld dL_law_381 (by decide) hi.2.1 ?_
  refine yi_aload_n dL_law_382 rfl rfl ?_
  refine yi_iload dL_law_383 rfl ?_
  refine yi_iconst dL_law_385 (v := 3) rfl ?_
  refine yi_iadd dL_law_386 ?_
  refine yi_sld dL_law_387 (by decide) hi.2.2.1 ?_
  refine ycV (M2 := mX8_fill) (kr := 76) (ci := 8) (av := [.int (xs (i + 1).toNatClampNeg), .int (xs (i + 2).toNatClampNeg), .int (xs (i + 3).toNatClampNeg)]) (st := []) dL_law_388 lL_125 rfl ⟨rfl, rfl⟩ rfl ⟨Nat.le_of_ble_eq_true rfl, Nat.le_of_ble_eq_true rfl⟩ hcs (by decide) rfl rfl rfl (M_fill hm1 hS) ?_
  intro r2 A2 B2 D2 hq
  obtain ⟨rfl, w, rfl, ht, ⟨S2, s1, s2, s3⟩, hv⟩ := hk _ _ _ _ hq
  refine yi_istore dL_law_391 (Nat.le_of_ble_eq_true rfl) ?_
  refine yi_aload_n dL_law_393 rfl rfl ?_
  refine ycV1 (M2 := mX8_thrown) (kr := 76) (ci := 8) (av := []) (st := []) dL_law_394 lL_116 rfl ⟨rfl, rfl⟩ rfl ⟨Nat.le_of_ble_eq_true rfl, Nat.le_of_ble_eq_true rfl⟩ hcs (by decide) rfl rfl rfl m_thrown ?_
  rw [ht]
  refine yi_iload dL_law_397 rfl ?_
  refine yi_icmp_eq (tgt := 404) dL_law_399 rfl (fun _ => ?_) (fun z => absurd rfl z)
  refine yi_iload dL_law_404 rfl ?_
  have hend : ∀ w0 D3, gl0 (eLW L xs) (mLaw nm hh) Q nx (cs + 4) (sl + 24) 421 (xst1 7 (.int w0) (xst1 6 (.int k) (lvL i))) [] A2 B2 D3 := fun w0 D3 => yi_goto (tgt := 2242) dL_law_421 rfl (by exact ygo_pick [0, 1, 2, 3, 4, 5] rfl (K S2 _ _ _ s1 s2 s3))
  refine yi_ifne (tgt := 421) dL_law_406 rfl (fun z => hend w _) (fun z => ?_)
  obtain ⟨rfl, hb⟩ := hv z
  refine yi_aload_n dL_law_409 rfl rfl ?_
  refine yi_iconst dL_law_410 (v := 0) rfl ?_
  refine yla (kk := 95) (nn := 1) (j := 0) dL_law_411 rfl rfl rfl (by decide) (by decide) ?_
  refine yi_iload dL_law_412 rfl ?_
  refine yi_i2l dL_law_414 ?_
  exact yi_lcmpeq (tgt := 421) dL_law_415 dL_law_416 rfl (fun _ => hend _ _) (fun q => absurd hb q)
theorem lc_complement (hi : vp_in (i + 1) L ∧ vp_in (i + 2) L ∧ vp_in (i + 3) L ∧ vp_in (i + 4) L) (hcs : cs + 4 ≤ (mO (mLaw nm hh)).cells ∧ sl + 24 ≤ (mO (mLaw nm hh)).slots) (hS : S.ok) (h1 : cRel S A B) (h2 : mRel S A B) (K : ∀ (S2 : abs) A2 B2 D2, S2.ok → cRel S2 A2 B2 → mRel S2 A2 B2 → gl0 (eLW L xs) (mLaw nm hh) Q nx (cs + 4) (sl + 24) 2242 (lvL i) [] A2 B2 D2) : gl0 (eLW L xs) (mLaw nm hh) Q nx cs sl 424 (lvL i) [] A B D := by
  have hcs0 : cs ≤ (mO (mLaw nm hh)).cells ∧ sl ≤ (mO (mLaw nm hh)).slots := ⟨Nat.le_trans (Nat.le_add_right _ _) hcs.1, Nat.le_trans (Nat.le_add_right _ _) hcs.2⟩
  refine yi_aload_n dL_law_424 rfl rfl ?_
  refine ycV (M2 := mX7_complement) (kr := 0) (ci := 7) (av := []) (st := []) dL_law_425 lL_126 rfl ⟨rfl, rfl⟩ rfl ⟨Nat.le_of_ble_eq_true rfl, Nat.le_of_ble_eq_true rfl⟩ hcs0 (by decide) rfl rfl rfl (C_complement h1 hS) ?_
  intro r A1 B1 D1 hw
  obtain ⟨rfl, hm1, hk⟩ := bothS (abs.sComp_ok hS) h2 hw
  refine yi_aload_n dL_law_428 rfl rfl ?_
  refine ycV (M2 := mX8_complement) (kr := 76) (ci := 8) (av := []) (st := [_]) dL_law_429 lL_129 rfl ⟨rfl, rfl⟩ rfl ⟨Nat.le_of_ble_eq_true rfl, Nat.le_of_ble_eq_true rfl⟩ hcs0 (Nat.le_of_ble_eq_true rfl) rfl rfl rfl (M_complement hm1 hS) ?_
  intro r2 A2 B2 D2 hq
  obtain ⟨rfl, S2, s1, s2, s3⟩ := hk _ _ _ _ hq
  exact yi_icmp_eq (tgt := 2242) dL_law_432 rfl (fun _ => ygo_room (Nat.le_add_right _ _) (Nat.le_add_right _ _) (K S2 _ _ _ s1 s2 s3)) (fun q => absurd rfl q)
theorem lc_setMarker (hi : vp_in (i + 1) L ∧ vp_in (i + 2) L ∧ vp_in (i + 3) L ∧ vp_in (i + 4) L) (hcs : cs + 4 ≤ (mO (mLaw nm hh)).cells ∧ sl + 24 ≤ (mO (mLaw nm hh)).slots) (hS : S.ok) (h1 : cRel S A B) (h2 : mRel S A B) (K : ∀ (S2 : abs) A2 B2 D2, S2.ok → cRel S2 A2 B2 → mRel S2 A2 B2 → gl0 (eLW L xs) (mLaw nm hh) Q nx (cs + 4) (sl + 24) 2242 (lvL i) [] A2 B2 D2) : gl0 (eLW L xs) (mLaw nm hh) Q nx cs sl 437 (lvL i) [] A B D := by
  refine yi_aload_n dL_law_437 rfl rfl ?_
  refine yi_aload_n dL_law_438 rfl rfl ?_
  refine yi_iload dL_law_439 rfl ?_
  refine yi_iconst dL_law_441 (v := 1) rfl ?_
  refine yi_iadd dL_law_442 ?_
  refine yi_sld dL_law_443 (by decide) hi.1 ?_
  refine yi_aload_n dL_law_444 rfl rfl ?_
  refine yi_iload dL_law_445 rfl ?_
  refine yi_iconst dL_law_447 (v := 2) rfl ?_
  refine yi_iadd dL_law_448 ?_
  refine yi_sld dL_law_449 (by decide) hi.2.1 ?_
  refine yi_aload_n dL_law_450 rfl rfl ?_
  refine yi_callW (M2 := mL_setMarker) (av := [.ref 0, .int (xs (i + 1).toNatClampNeg), .int (xs (i + 2).toNatClampNeg), .ref 95]) (st := []) dL_law_451 lW_setMarker rfl rfl ⟨Nat.le_of_ble_eq_true rfl, Nat.le_of_ble_eq_true rfl⟩ ⟨Nat.le_of_ble_eq_true rfl, Nat.le_of_ble_eq_true rfl⟩ hcs (Nat.le_of_ble_eq_true rfl) (L_setMarker h1 hS) ?_
  intro r A1 B1 D1 hw
  obtain ⟨k, rfl, rfl, hm1, hk⟩ := bothI hS (fun p1 p2 => abs.sMark_ok hS p2) h2 hw
  refine yi_istore dL_law_454 (Nat.le_of_ble_eq_true rfl) ?_
  refine yi_aload_n dL_law_456 rfl rfl ?_
  refine yi_aload_n dL_law_457 rfl rfl ?_
  refine yi_iload dL_law_458 rfl ?_
  refine yi_iconst dL_law_460 (v := 1) rfl ?_
  refine yi_iadd dL_law_461 ?_
  refine yi_sld dL_law_462 (by decide) hi.1 ?_
  refine yi_aload_n dL_law_463 rfl rfl ?_
  refine yi_iload dL_law_464 rfl ?_
  refine yi_iconst dL_law_466 (v := 2) rfl ?_
  refine yi_iadd dL_law_467 ?_
  refine yi_sld dL_law_468 (by decide) hi.2.1 ?_
  refine ycV (M2 := mX8_setMarker) (kr := 76) (ci := 8) (av := [.int (xs (i + 1).toNatClampNeg), .int (xs (i + 2).toNatClampNeg)]) (st := []) dL_law_469 lL_132 rfl ⟨rfl, rfl⟩ rfl ⟨Nat.le_of_ble_eq_true rfl, Nat.le_of_ble_eq_true rfl⟩ hcs (by decide) rfl rfl rfl (M_setMarker hm1 hS) ?_
  intro r2 A2 B2 D2 hq
  obtain ⟨rfl, w, rfl, ht, ⟨S2, s1, s2, s3⟩, hv⟩ := hk _ _ _ _ hq
  refine yi_istore dL_law_472 (Nat.le_of_ble_eq_true rfl) ?_
  refine yi_aload_n dL_law_474 rfl rfl ?_
  refine ycV1 (M2 := mX8_thrown) (kr := 76) (ci := 8) (av := []) (st := []) dL_law_475 lL_116 rfl ⟨rfl, rfl⟩ rfl ⟨Nat.le_of_ble_eq_true rfl, Nat.le_of_ble_eq_true rfl⟩ hcs (by decide) rfl rfl rfl m_thrown ?_
  rw [ht]
  refine yi_iload dL_law_478 rfl ?_
  refine yi_icmp_eq (tgt := 485) dL_law_480 rfl (fun _ => ?_) (fun z => absurd rfl z)
  refine yi_iload dL_law_485 rfl ?_
  have hend : ∀ w0 D3, gl0 (eLW L xs) (mLaw nm hh) Q nx (cs + 4) (sl + 24) 502 (xst1 7 (.int w0) (xst1 6 (.int k) (lvL i))) [] A2 B2 D3 := fun w0 D3 => yi_goto (tgt := 2242) dL_law_502 rfl (by exact ygo_pick [0, 1, 2, 3, 4, 5] rfl (K S2 _ _ _ s1 s2 s3))
  refine yi_ifne (tgt := 502) dL_law_487 rfl (fun z => hend w _) (fun z => ?_)
  obtain ⟨rfl, hb⟩ := hv z
  refine yi_aload_n dL_law_490 rfl rfl ?_
  refine yi_iconst dL_law_491 (v := 0) rfl ?_
  refine yla (kk := 95) (nn := 1) (j := 0) dL_law_492 rfl rfl rfl (by decide) (by decide) ?_
  refine yi_iload dL_law_493 rfl ?_
  refine yi_i2l dL_law_495 ?_
  exact yi_lcmpeq (tgt := 502) dL_law_496 dL_law_497 rfl (fun _ => hend _ _) (fun q => absurd hb q)
theorem lc_markAll (hi : vp_in (i + 1) L ∧ vp_in (i + 2) L ∧ vp_in (i + 3) L ∧ vp_in (i + 4) L) (hcs : cs + 4 ≤ (mO (mLaw nm hh)).cells ∧ sl + 24 ≤ (mO (mLaw nm hh)).slots) (hS : S.ok) (h1 : cRel S A B) (h2 : mRel S A B) (K : ∀ (S2 : abs) A2 B2 D2, S2.ok → cRel S2 A2 B2 → mRel S2 A2 B2 → gl0 (eLW L xs) (mLaw nm hh) Q nx (cs + 4) (sl + 24) 2242 (lvL i) [] A2 B2 D2) : gl0 (eLW L xs) (mLaw nm hh) Q nx cs sl 505 (lvL i) [] A B D := by
  have hcs0 : cs ≤ (mO (mLaw nm hh)).cells ∧ sl ≤ (mO (mLaw nm hh)).slots := ⟨Nat.le_trans (Nat.le_add_right _ _) hcs.1, Nat.le_trans (Nat.le_add_right _ _) hcs.2⟩
  refine yi_aload_n dL_law_505 rfl rfl ?_
  refine ycV (M2 := mX7_markAll) (kr := 0) (ci := 7) (av := []) (st := []) dL_law_506 lL_133 rfl ⟨rfl, rfl⟩ rfl ⟨Nat.le_of_ble_eq_true rfl, Nat.le_of_ble_eq_true rfl⟩ hcs0 (by decide) rfl rfl rfl (C_markAll h1 hS) ?_
  intro r A1 B1 D1 hw
  obtain ⟨rfl, hm1, hk⟩ := bothS (abs.sMarkAll_ok hS) h2 hw
  refine yi_aload_n dL_law_509 rfl rfl ?_
  refine ycV (M2 := mX8_markAll) (kr := 76) (ci := 8) (av := []) (st := [_]) dL_law_510 lL_136 rfl ⟨rfl, rfl⟩ rfl ⟨Nat.le_of_ble_eq_true rfl, Nat.le_of_ble_eq_true rfl⟩ hcs0 (Nat.le_of_ble_eq_true rfl) rfl rfl rfl (M_markAll hm1 hS) ?_
  intro r2 A2 B2 D2 hq
  obtain ⟨rfl, S2, s1, s2, s3⟩ := hk _ _ _ _ hq
  exact yi_icmp_eq (tgt := 2242) dL_law_513 rfl (fun _ => ygo_room (Nat.le_add_right _ _) (Nat.le_add_right _ _) (K S2 _ _ _ s1 s2 s3)) (fun q => absurd rfl q)
theorem lc_level (hi : vp_in (i + 1) L ∧ vp_in (i + 2) L ∧ vp_in (i + 3) L ∧ vp_in (i + 4) L) (hcs : cs + 4 ≤ (mO (mLaw nm hh)).cells ∧ sl + 24 ≤ (mO (mLaw nm hh)).slots) (hS : S.ok) (h1 : cRel S A B) (h2 : mRel S A B) (K : ∀ (S2 : abs) A2 B2 D2, S2.ok → cRel S2 A2 B2 → mRel S2 A2 B2 → gl0 (eLW L xs) (mLaw nm hh) Q nx (cs + 4) (sl + 24) 2242 (lvL i) [] A2 B2 D2) : gl0 (eLW L xs) (mLaw nm hh) Q nx cs sl 518 (lvL i) [] A B D := by
  refine yi_aload_n dL_law_518 rfl rfl ?_
  refine yi_aload_n dL_law_519 rfl rfl ?_
  refine yi_iload dL_law_520 rfl ?_
  refine yi_iconst dL_law_522 (v := 1) rfl ?_
  refine yi_iadd dL_law_523 ?_
  refine yi_sld dL_law_524 (by decide) hi.1 ?_
  refine yi_aload_n dL_law_525 rfl rfl ?_
  refine yi_callW (M2 := mL_level) (av := [.ref 0, .int (xs (i + 1).toNatClampNeg), .ref 95]) (st := []) dL_law_526 lW_level rfl rfl ⟨Nat.le_of_ble_eq_true rfl, Nat.le_of_ble_eq_true rfl⟩ ⟨Nat.le_of_ble_eq_true rfl, Nat.le_of_ble_eq_true rfl⟩ hcs (Nat.le_of_ble_eq_true rfl) (L_level h1 hS) ?_
  intro r A1 B1 D1 hw
  obtain ⟨k, rfl, rfl, hm1, hk⟩ := bothI hS (fun _ _ => hS) h2 hw
  refine yi_istore dL_law_529 (Nat.le_of_ble_eq_true rfl) ?_
  refine yi_aload_n dL_law_531 rfl rfl ?_
  refine yi_aload_n dL_law_532 rfl rfl ?_
  refine yi_iload dL_law_533 rfl ?_
  refine yi_iconst dL_law_535 (v := 1) rfl ?_
  refine yi_iadd dL_law_536 ?_
  refine yi_sld dL_law_537 (by decide) hi.1 ?_
  refine ycV (M2 := mX8_level) (kr := 76) (ci := 8) (av := [.int (xs (i + 1).toNatClampNeg)]) (st := []) dL_law_538 lL_140 rfl ⟨rfl, rfl⟩ rfl ⟨Nat.le_of_ble_eq_true rfl, Nat.le_of_ble_eq_true rfl⟩ hcs (by decide) rfl rfl rfl (M_level hm1 hS) ?_
  intro r2 A2 B2 D2 hq
  obtain ⟨rfl, w, rfl, ht, ⟨S2, s1, s2, s3⟩, hv⟩ := hk _ _ _ _ hq
  refine yi_istore dL_law_541 (Nat.le_of_ble_eq_true rfl) ?_
  refine yi_aload_n dL_law_543 rfl rfl ?_
  refine ycV1 (M2 := mX8_thrown) (kr := 76) (ci := 8) (av := []) (st := []) dL_law_544 lL_116 rfl ⟨rfl, rfl⟩ rfl ⟨Nat.le_of_ble_eq_true rfl, Nat.le_of_ble_eq_true rfl⟩ hcs (by decide) rfl rfl rfl m_thrown ?_
  rw [ht]
  refine yi_iload dL_law_547 rfl ?_
  refine yi_icmp_eq (tgt := 554) dL_law_549 rfl (fun _ => ?_) (fun z => absurd rfl z)
  refine yi_iload dL_law_554 rfl ?_
  have hend : ∀ w0 D3, gl0 (eLW L xs) (mLaw nm hh) Q nx (cs + 4) (sl + 24) 571 (xst1 7 (.int w0) (xst1 6 (.int k) (lvL i))) [] A2 B2 D3 := fun w0 D3 => yi_goto (tgt := 2242) dL_law_571 rfl (by exact ygo_pick [0, 1, 2, 3, 4, 5] rfl (K S2 _ _ _ s1 s2 s3))
  refine yi_ifne (tgt := 571) dL_law_556 rfl (fun z => hend w _) (fun z => ?_)
  obtain ⟨rfl, hb⟩ := hv z
  refine yi_aload_n dL_law_559 rfl rfl ?_
  refine yi_iconst dL_law_560 (v := 0) rfl ?_
  refine yla (kk := 95) (nn := 1) (j := 0) dL_law_561 rfl rfl rfl (by decide) (by decide) ?_
  refine yi_iload dL_law_562 rfl ?_
  refine yi_i2l dL_law_564 ?_
  exact yi_lcmpeq (tgt := 571) dL_law_565 dL_law_566 rfl (fun _ => hend _ _) (fun q => absurd hb q)
theorem lc_marker (hi : vp_in (i + 1) L ∧ vp_in (i + 2) L ∧ vp_in (i + 3) L ∧ vp_in (i + 4) L) (hcs : cs + 4 ≤ (mO (mLaw nm hh)).cells ∧ sl + 24 ≤ (mO (mLaw nm hh)).slots) (hS : S.ok) (h1 : cRel S A B) (h2 : mRel S A B) (K : ∀ (S2 : abs) A2 B2 D2, S2.ok → cRel S2 A2 B2 → mRel S2 A2 B2 → gl0 (eLW L xs) (mLaw nm hh) Q nx (cs + 4) (sl + 24) 2242 (lvL i) [] A2 B2 D2) : gl0 (eLW L xs) (mLaw nm hh) Q nx cs sl 574 (lvL i) [] A B D := by
  refine yi_aload_n dL_law_574 rfl rfl ?_
  refine yi_aload_n dL_law_575 rfl rfl ?_
  refine yi_iload dL_law_576 rfl ?_
  refine yi_iconst dL_law_578 (v := 1) rfl ?_
  refine yi_iadd dL_law_579 ?_
  refine yi_sld dL_law_580 (by decide) hi.1 ?_
  refine yi_aload_n dL_law_581 rfl rfl ?_
  refine yi_callW (M2 := mL_marker) (av := [.ref 0, .int (xs (i + 1).toNatClampNeg), .ref 95]) (st := []) dL_law_582 lW_marker rfl rfl ⟨Nat.le_of_ble_eq_true rfl, Nat.le_of_ble_eq_true rfl⟩ ⟨Nat.le_of_ble_eq_true rfl, Nat.le_of_ble_eq_true rfl⟩ hcs (Nat.le_of_ble_eq_true rfl) (L_marker h1 hS) ?_
  intro r A1 B1 D1 hw
  obtain ⟨k, rfl, rfl, hm1, hk⟩ := bothI hS (fun _ _ => hS) h2 hw
  refine yi_istore dL_law_585 (Nat.le_of_ble_eq_true rfl) ?_
  refine yi_aload_n dL_law_587 rfl rfl ?_
  refine yi_aload_n dL_law_588 rfl rfl ?_
  refine yi_iload dL_law_589 rfl ?_
  refine yi_iconst dL_law_591 (v := 1) rfl ?_
  refine yi_iadd dL_law_592 ?_
  refine yi_sld dL_law_593 (by decide) hi.1 ?_
  refine ycV (M2 := mX8_marker) (kr := 76) (ci := 8) (av := [.int (xs (i + 1).toNatClampNeg)]) (st := []) dL_law_594 lL_143 rfl ⟨rfl, rfl⟩ rfl ⟨Nat.le_of_ble_eq_true rfl, Nat.le_of_ble_eq_true rfl⟩ hcs (by decide) rfl rfl rfl (M_marker hm1 hS) ?_
  intro r2 A2 B2 D2 hq
  obtain ⟨rfl, w, rfl, ht, ⟨S2, s1, s2, s3⟩, hv⟩ := hk _ _ _ _ hq
  refine yi_istore dL_law_597 (Nat.le_of_ble_eq_true rfl) ?_
  refine yi_aload_n dL_law_599 rfl rfl ?_
  refine ycV1 (M2 := mX8_thrown) (kr := 76) (ci := 8) (av := []) (st := []) dL_law_600 lL_116 rfl ⟨rfl, rfl⟩ rfl ⟨Nat.le_of_ble_eq_true rfl, Nat.le_of_ble_eq_true rfl⟩ hcs (by decide) rfl rfl rfl m_thrown ?_
  rw [ht]
  refine yi_iload dL_law_603 rfl ?_
  refine yi_icmp_eq (tgt := 610) dL_law_605 rfl (fun _ => ?_) (fun z => absurd rfl z)
  refine yi_iload dL_law_610 rfl ?_
  have hend : ∀ w0 D3, gl0 (eLW L xs) (mLaw nm hh) Q nx (cs + 4) (sl + 24) 627 (xst1 7 (.int w0) (xst1 6 (.int k) (lvL i))) [] A2 B2 D3 := fun w0 D3 => yi_goto (tgt := 2242) dL_law_627 rfl (by exact ygo_pick [0, 1, 2, 3, 4, 5] rfl (K S2 _ _ _ s1 s2 s3))
  refine yi_ifne (tgt := 627) dL_law_612 rfl (fun z => hend w _) (fun z => ?_)
  obtain ⟨rfl, hb⟩ := hv z
  refine yi_aload_n dL_law_615 rfl rfl ?_
  refine yi_iconst dL_law_616 (v := 0) rfl ?_
  refine yla (kk := 95) (nn := 1) (j := 0) dL_law_617 rfl rfl rfl (by decide) (by decide) ?_
  refine yi_iload dL_law_618 rfl ?_
  refine yi_i2l dL_law_620 ?_
  exact yi_lcmpeq (tgt := 627) dL_law_621 dL_law_622 rfl (fun _ => hend _ _) (fun q => absurd hb q)
theorem lc_difference (hi : vp_in (i + 1) L ∧ vp_in (i + 2) L ∧ vp_in (i + 3) L ∧ vp_in (i + 4) L) (hcs : cs + 4 ≤ (mO (mLaw nm hh)).cells ∧ sl + 24 ≤ (mO (mLaw nm hh)).slots) (hS : S.ok) (h1 : cRel S A B) (h2 : mRel S A B) (K : ∀ (S2 : abs) A2 B2 D2, S2.ok → cRel S2 A2 B2 → mRel S2 A2 B2 → gl0 (eLW L xs) (mLaw nm hh) Q nx (cs + 4) (sl + 24) 2242 (lvL i) [] A2 B2 D2) : gl0 (eLW L xs) (mLaw nm hh) Q nx cs sl 630 (lvL i) [] A B D := by
  have hcs0 : cs ≤ (mO (mLaw nm hh)).cells ∧ sl ≤ (mO (mLaw nm hh)).slots := ⟨Nat.le_trans (Nat.le_add_right _ _) hcs.1, Nat.le_trans (Nat.le_add_right _ _) hcs.2⟩
  refine yi_aload_n dL_law_630 rfl rfl ?_
  refine ycV (M2 := mX7_difference) (kr := 0) (ci := 7) (av := []) (st := []) dL_law_631 lL_144 rfl ⟨rfl, rfl⟩ rfl ⟨Nat.le_of_ble_eq_true rfl, Nat.le_of_ble_eq_true rfl⟩ hcs0 (by decide) rfl rfl rfl (C_difference h1 hS) ?_
  intro r A1 B1 D1 hw
  obtain ⟨rfl, hm1, hk⟩ := bothS (hS) h2 hw
  refine yi_aload_n dL_law_634 rfl rfl ?_
  refine ycV (M2 := mX8_difference) (kr := 76) (ci := 8) (av := []) (st := [_]) dL_law_635 lL_147 rfl ⟨rfl, rfl⟩ rfl ⟨Nat.le_of_ble_eq_true rfl, Nat.le_of_ble_eq_true rfl⟩ hcs0 (Nat.le_of_ble_eq_true rfl) rfl rfl rfl (M_difference hm1 hS) ?_
  intro r2 A2 B2 D2 hq
  obtain ⟨rfl, S2, s1, s2, s3⟩ := hk _ _ _ _ hq
  exact yi_icmp_eq (tgt := 2242) dL_law_638 rfl (fun _ => ygo_room (Nat.le_add_right _ _) (Nat.le_add_right _ _) (K S2 _ _ _ s1 s2 s3)) (fun q => absurd rfl q)
theorem lc_setDark (hi : vp_in (i + 1) L ∧ vp_in (i + 2) L ∧ vp_in (i + 3) L ∧ vp_in (i + 4) L) (hcs : cs + 4 ≤ (mO (mLaw nm hh)).cells ∧ sl + 24 ≤ (mO (mLaw nm hh)).slots) (hS : S.ok) (h1 : cRel S A B) (h2 : mRel S A B) (K : ∀ (S2 : abs) A2 B2 D2, S2.ok → cRel S2 A2 B2 → mRel S2 A2 B2 → gl0 (eLW L xs) (mLaw nm hh) Q nx (cs + 4) (sl + 24) 2242 (lvL i) [] A2 B2 D2) : gl0 (eLW L xs) (mLaw nm hh) Q nx cs sl 643 (lvL i) [] A B D := by
  have hcs0 : cs ≤ (mO (mLaw nm hh)).cells ∧ sl ≤ (mO (mLaw nm hh)).slots := ⟨Nat.le_trans (Nat.le_add_right _ _) hcs.1, Nat.le_trans (Nat.le_add_right _ _) hcs.2⟩
  by_cases hz : xs (i + 1).toNatClampNeg = 0
  · refine yi_aload_n dL_law_643 rfl rfl ?_
    refine yi_aload_n dL_law_644 rfl rfl ?_
    refine yi_iload dL_law_645 rfl ?_
    refine yi_iconst dL_law_647 (v := 1) rfl ?_
    refine yi_iadd dL_law_648 ?_
    refine yi_sld dL_law_649 (by decide) hi.1 ?_
    refine yi_if_eq (tgt := 657) dL_law_650 rfl (fun _ => ?_) (fun q => absurd hz q)
    refine yi_iconst dL_law_657 (v := 0) rfl ?_
    refine ycV (M2 := mX7_setDark) (kr := 0) (ci := 7) (av := [.int 0]) (st := []) dL_law_658 lL_148 rfl ⟨rfl, rfl⟩ rfl ⟨Nat.le_of_ble_eq_true rfl, Nat.le_of_ble_eq_true rfl⟩ hcs0 (by decide) rfl rfl rfl (C_setDark h1 hS (Or.inl rfl)) ?_
    intro r A1 B1 D1 hw
    obtain ⟨rfl, hm1, hk⟩ := bothS (abs.sDark_ok hS (Or.inl rfl)) h2 hw
    refine yi_aload_n dL_law_661 rfl rfl ?_
    refine yi_aload_n dL_law_662 rfl rfl ?_
    refine yi_iload dL_law_663 rfl ?_
    refine yi_iconst dL_law_665 (v := 1) rfl ?_
    refine yi_iadd dL_law_666 ?_
    refine yi_sld dL_law_667 (by decide) hi.1 ?_
    refine yi_if_eq (tgt := 675) dL_law_668 rfl (fun _ => ?_) (fun q => absurd hz q)
    refine yi_iconst dL_law_675 (v := 0) rfl ?_
    refine ycV (M2 := mX8_setDark) (kr := 76) (ci := 8) (av := [.int 0]) (st := [_]) dL_law_676 lL_152 rfl ⟨rfl, rfl⟩ rfl ⟨Nat.le_of_ble_eq_true rfl, Nat.le_of_ble_eq_true rfl⟩ hcs0 (Nat.le_of_ble_eq_true rfl) rfl rfl rfl (M_setDark hm1 hS (Or.inl rfl)) ?_
    intro r2 A2 B2 D2 hq
    obtain ⟨rfl, S2, s1, s2, s3⟩ := hk _ _ _ _ hq
    exact yi_icmp_eq (tgt := 2242) dL_law_679 rfl (fun _ => ygo_room (Nat.le_add_right _ _) (Nat.le_add_right _ _) (K S2 _ _ _ s1 s2 s3)) (fun q => absurd rfl q)
  · refine yi_aload_n dL_law_643 rfl rfl ?_
    refine yi_aload_n dL_law_644 rfl rfl ?_
    refine yi_iload dL_law_645 rfl ?_
    refine yi_iconst dL_law_647 (v := 1) rfl ?_
    refine yi_iadd dL_law_648 ?_
    refine yi_sld dL_law_649 (by decide) hi.1 ?_
    refine yi_if_eq (tgt := 657) dL_law_650 rfl (fun q => absurd q hz) (fun _ => ?_)
    refine yi_iconst dL_law_653 (v := 1) rfl ?_
    refine yi_goto (tgt := 658) dL_law_654 rfl ?_
    refine ycV (M2 := mX7_setDark) (kr := 0) (ci := 7) (av := [.int 1]) (st := []) dL_law_658 lL_148 rfl ⟨rfl, rfl⟩ rfl ⟨Nat.le_of_ble_eq_true rfl, Nat.le_of_ble_eq_true rfl⟩ hcs0 (by decide) rfl rfl rfl (C_setDark h1 hS (Or.inr rfl)) ?_
    intro r A1 B1 D1 hw
    obtain ⟨rfl, hm1, hk⟩ := bothS (abs.sDark_ok hS (Or.inr rfl)) h2 hw
    refine yi_aload_n dL_law_661 rfl rfl ?_
    refine yi_aload_n dL_law_662 rfl rfl ?_
    refine yi_iload dL_law_663 rfl ?_
    refine yi_iconst dL_law_665 (v := 1) rfl ?_
    refine yi_iadd dL_law_666 ?_
    refine yi_sld dL_law_667 (by decide) hi.1 ?_
    refine yi_if_eq (tgt := 675) dL_law_668 rfl (fun q => absurd q hz) (fun _ => ?_)
    refine yi_iconst dL_law_671 (v := 1) rfl ?_
    refine yi_goto (tgt := 676) dL_law_672 rfl ?_
    refine ycV (M2 := mX8_setDark) (kr := 76) (ci := 8) (av := [.int 1]) (st := [_]) dL_law_676 lL_152 rfl ⟨rfl, rfl⟩ rfl ⟨Nat.le_of_ble_eq_true rfl, Nat.le_of_ble_eq_true rfl⟩ hcs0 (Nat.le_of_ble_eq_true rfl) rfl rfl rfl (M_setDark hm1 hS (Or.inr rfl)) ?_
    intro r2 A2 B2 D2 hq
    obtain ⟨rfl, S2, s1, s2, s3⟩ := hk _ _ _ _ hq
    exact yi_icmp_eq (tgt := 2242) dL_law_679 rfl (fun _ => ygo_room (Nat.le_add_right _ _) (Nat.le_add_right _ _) (K S2 _ _ _ s1 s2 s3)) (fun q => absurd rfl q)
theorem lc_setEight (hi : vp_in (i + 1) L ∧ vp_in (i + 2) L ∧ vp_in (i + 3) L ∧ vp_in (i + 4) L) (hcs : cs + 4 ≤ (mO (mLaw nm hh)).cells ∧ sl + 24 ≤ (mO (mLaw nm hh)).slots) (hS : S.ok) (h1 : cRel S A B) (h2 : mRel S A B) (K : ∀ (S2 : abs) A2 B2 D2, S2.ok → cRel S2 A2 B2 → mRel S2 A2 B2 → gl0 (eLW L xs) (mLaw nm hh) Q nx (cs + 4) (sl + 24) 2242 (lvL i) [] A2 B2 D2) : gl0 (eLW L xs) (mLaw nm hh) Q nx cs sl 684 (lvL i) [] A B D := by
  have hcs0 : cs ≤ (mO (mLaw nm hh)).cells ∧ sl ≤ (mO (mLaw nm hh)).slots := ⟨Nat.le_trans (Nat.le_add_right _ _) hcs.1, Nat.le_trans (Nat.le_add_right _ _) hcs.2⟩
  by_cases hz : xs (i + 1).toNatClampNeg = 0
  · refine yi_aload_n dL_law_684 rfl rfl ?_
    refine yi_aload_n dL_law_685 rfl rfl ?_
    refine yi_iload dL_law_686 rfl ?_
    refine yi_iconst dL_law_688 (v := 1) rfl ?_
    refine yi_iadd dL_law_689 ?_
    refine yi_sld dL_law_690 (by decide) hi.1 ?_
    refine yi_if_eq (tgt := 698) dL_law_691 rfl (fun _ => ?_) (fun q => absurd hz q)
    refine yi_iconst dL_law_698 (v := 0) rfl ?_
    refine ycV (M2 := mX7_setEight) (kr := 0) (ci := 7) (av := [.int 0]) (st := []) dL_law_699 lL_153 rfl ⟨rfl, rfl⟩ rfl ⟨Nat.le_of_ble_eq_true rfl, Nat.le_of_ble_eq_true rfl⟩ hcs0 (by decide) rfl rfl rfl (C_setEight h1 hS (Or.inl rfl)) ?_
    intro r A1 B1 D1 hw
    obtain ⟨rfl, hm1, hk⟩ := bothS (abs.sEight_ok hS (Or.inl rfl)) h2 hw
    refine yi_aload_n dL_law_702 rfl rfl ?_
    refine yi_aload_n dL_law_703 rfl rfl ?_
    refine yi_iload dL_law_704 rfl ?_
    refine yi_iconst dL_law_706 (v := 1) rfl ?_
    refine yi_iadd dL_law_707 ?_
    refine yi_sld dL_law_708 (by decide) hi.1 ?_
    refine yi_if_eq (tgt := 716) dL_law_709 rfl (fun _ => ?_) (fun q => absurd hz q)
    refine yi_iconst dL_law_716 (v := 0) rfl ?_
    refine ycV (M2 := mX8_setEight) (kr := 76) (ci := 8) (av := [.int 0]) (st := [_]) dL_law_717 lL_156 rfl ⟨rfl, rfl⟩ rfl ⟨Nat.le_of_ble_eq_true rfl, Nat.le_of_ble_eq_true rfl⟩ hcs0 (Nat.le_of_ble_eq_true rfl) rfl rfl rfl (M_setEight hm1 hS (Or.inl rfl)) ?_
    intro r2 A2 B2 D2 hq
    obtain ⟨rfl, S2, s1, s2, s3⟩ := hk _ _ _ _ hq
    exact yi_icmp_eq (tgt := 2242) dL_law_720 rfl (fun _ => ygo_room (Nat.le_add_right _ _) (Nat.le_add_right _ _) (K S2 _ _ _ s1 s2 s3)) (fun q => absurd rfl q)
  · refine yi_aload_n dL_law_684 rfl rfl ?_
    refine yi_aload_n dL_law_685 rfl rfl ?_
    refine yi_iload dL_law_686 rfl ?_
    refine yi_iconst dL_law_688 (v := 1) rfl ?_
    refine yi_iadd dL_law_689 ?_
    refine yi_sld dL_law_690 (by decide) hi.1 ?_
    refine yi_if_eq (tgt := 698) dL_law_691 rfl (fun q => absurd q hz) (fun _ => ?_)
    refine yi_iconst dL_law_694 (v := 1) rfl ?_
    refine yi_goto (tgt := 699) dL_law_695 rfl ?_
    refine ycV (M2 := mX7_setEight) (kr := 0) (ci := 7) (av := [.int 1]) (st := []) dL_law_699 lL_153 rfl ⟨rfl, rfl⟩ rfl ⟨Nat.le_of_ble_eq_true rfl, Nat.le_of_ble_eq_true rfl⟩ hcs0 (by decide) rfl rfl rfl (C_setEight h1 hS (Or.inr rfl)) ?_
    intro r A1 B1 D1 hw
    obtain ⟨rfl, hm1, hk⟩ := bothS (abs.sEight_ok hS (Or.inr rfl)) h2 hw
    refine yi_aload_n dL_law_702 rfl rfl ?_
    refine yi_aload_n dL_law_703 rfl rfl ?_
    refine yi_iload dL_law_704 rfl ?_
    refine yi_iconst dL_law_706 (v := 1) rfl ?_
    refine yi_iadd dL_law_707 ?_
    refine yi_sld dL_law_708 (by decide) hi.1 ?_
    refine yi_if_eq (tgt := 716) dL_law_709 rfl (fun q => absurd q hz) (fun _ => ?_)
    refine yi_iconst dL_law_712 (v := 1) rfl ?_
    refine yi_goto (tgt := 717) dL_law_713 rfl ?_
    refine ycV (M2 := mX8_setEight) (kr := 76) (ci := 8) (av := [.int 1]) (st := [_]) dL_law_717 lL_156 rfl ⟨rfl, rfl⟩ rfl ⟨Nat.le_of_ble_eq_true rfl, Nat.le_of_ble_eq_true rfl⟩ hcs0 (Nat.le_of_ble_eq_true rfl) rfl rfl rfl (M_setEight hm1 hS (Or.inr rfl)) ?_
    intro r2 A2 B2 D2 hq
    obtain ⟨rfl, S2, s1, s2, s3⟩ := hk _ _ _ _ hq
    exact yi_icmp_eq (tgt := 2242) dL_law_720 rfl (fun _ => ygo_room (Nat.le_add_right _ _) (Nat.le_add_right _ _) (K S2 _ _ _ s1 s2 s3)) (fun q => absurd rfl q)
theorem lc_undo (hi : vp_in (i + 1) L ∧ vp_in (i + 2) L ∧ vp_in (i + 3) L ∧ vp_in (i + 4) L) (hcs : cs + 4 ≤ (mO (mLaw nm hh)).cells ∧ sl + 24 ≤ (mO (mLaw nm hh)).slots) (hS : S.ok) (h1 : cRel S A B) (h2 : mRel S A B) (K : ∀ (S2 : abs) A2 B2 D2, S2.ok → cRel S2 A2 B2 → mRel S2 A2 B2 → gl0 (eLW L xs) (mLaw nm hh) Q nx (cs + 4) (sl + 24) 2242 (lvL i) [] A2 B2 D2) : gl0 (eLW L xs) (mLaw nm hh) Q nx cs sl 725 (lvL i) [] A B D := by
  refine yi_aload_n dL_law_725 rfl rfl ?_
  refine yi_aload_n dL_law_726 rfl rfl ?_
  refine yi_callW (M2 := mL_undo) (av := [.ref 0, .ref 95]) (st := []) dL_law_727 lW_undo rfl rfl ⟨Nat.le_of_ble_eq_true rfl, Nat.le_of_ble_eq_true rfl⟩ ⟨Nat.le_of_ble_eq_true rfl, Nat.le_of_ble_eq_true rfl⟩ hcs (Nat.le_of_ble_eq_true rfl) (L_undo h1 hS) ?_
  intro r A1 B1 D1 hw
  obtain ⟨k, rfl, rfl, hm1, hk⟩ := bothI hS (fun p1 p2 => abs.sUndo_ok hS p1) h2 hw
  refine yi_istore dL_law_730 (Nat.le_of_ble_eq_true rfl) ?_
  refine yi_aload_n dL_law_732 rfl rfl ?_
  refine ycV (M2 := mX8_undo) (kr := 76) (ci := 8) (av := []) (st := []) dL_law_733 lL_160 rfl ⟨rfl, rfl⟩ rfl ⟨Nat.le_of_ble_eq_true rfl, Nat.le_of_ble_eq_true rfl⟩ hcs (by decide) rfl rfl rfl (M_undo hm1 hS) ?_
  intro r2 A2 B2 D2 hq
  obtain ⟨rfl, w, rfl, ht, ⟨S2, s1, s2, s3⟩, hv⟩ := hk _ _ _ _ hq
  refine yi_istore dL_law_736 (Nat.le_of_ble_eq_true rfl) ?_
  refine yi_aload_n dL_law_738 rfl rfl ?_
  refine ycV1 (M2 := mX8_thrown) (kr := 76) (ci := 8) (av := []) (st := []) dL_law_739 lL_116 rfl ⟨rfl, rfl⟩ rfl ⟨Nat.le_of_ble_eq_true rfl, Nat.le_of_ble_eq_true rfl⟩ hcs (by decide) rfl rfl rfl m_thrown ?_
  rw [ht]
  refine yi_iload dL_law_742 rfl ?_
  refine yi_icmp_eq (tgt := 749) dL_law_744 rfl (fun _ => ?_) (fun z => absurd rfl z)
  refine yi_iload dL_law_749 rfl ?_
  have hend : ∀ w0 D3, gl0 (eLW L xs) (mLaw nm hh) Q nx (cs + 4) (sl + 24) 766 (xst1 7 (.int w0) (xst1 6 (.int k) (lvL i))) [] A2 B2 D3 := fun w0 D3 => yi_goto (tgt := 2242) dL_law_766 rfl (by exact ygo_pick [0, 1, 2, 3, 4, 5] rfl (K S2 _ _ _ s1 s2 s3))
  refine yi_ifne (tgt := 766) dL_law_751 rfl (fun z => hend w _) (fun z => ?_)
  obtain ⟨rfl, hb⟩ := hv z
  refine yi_aload_n dL_law_754 rfl rfl ?_
  refine yi_iconst dL_law_755 (v := 0) rfl ?_
  refine yla (kk := 95) (nn := 1) (j := 0) dL_law_756 rfl rfl rfl (by decide) (by decide) ?_
  refine yi_iload dL_law_757 rfl ?_
  refine yi_i2l dL_law_759 ?_
  exact yi_lcmpeq (tgt := 766) dL_law_760 dL_law_761 rfl (fun _ => hend _ _) (fun q => absurd hb q)
theorem lc_append (hi : vp_in (i + 1) L ∧ vp_in (i + 2) L ∧ vp_in (i + 3) L ∧ vp_in (i + 4) L) (hcs : cs + 4 ≤ (mO (mLaw nm hh)).cells ∧ sl + 24 ≤ (mO (mLaw nm hh)).slots) (hS : S.ok) (h1 : cRel S A B) (h2 : mRel S A B) (K : ∀ (S2 : abs) A2 B2 D2, S2.ok → cRel S2 A2 B2 → mRel S2 A2 B2 → gl0 (eLW L xs) (mLaw nm hh) Q nx (cs + 4) (sl + 24) 2242 (lvL i) [] A2 B2 D2) : gl0 (eLW L xs) (mLaw nm hh) Q nx cs sl 769 (lvL i) [] A B D := by
  refine yi_aload_n dL_law_769 rfl rfl ?_
  refine yi_aload_n dL_law_770 rfl rfl ?_
  refine yi_iload dL_law_771 rfl ?_
  refine yi_iconst dL_law_773 (v := 1) rfl ?_
  refine yi_iadd dL_law_774 ?_
  refine yi_sld dL_law_775 (by decide) hi.1 ?_
  refine yi_aload_n dL_law_776 rfl rfl ?_
  refine yi_callW (M2 := mL_append) (av := [.ref 0, .int (xs (i + 1).toNatClampNeg), .ref 95]) (st := []) dL_law_777 lW_append rfl rfl ⟨Nat.le_of_ble_eq_true rfl, Nat.le_of_ble_eq_true rfl⟩ ⟨Nat.le_of_ble_eq_true rfl, Nat.le_of_ble_eq_true rfl⟩ hcs (Nat.le_of_ble_eq_true rfl) (L_append h1 hS) ?_
  intro r A1 B1 D1 hw
  obtain ⟨k, rfl, rfl, hm1, hk⟩ := bothI hS (fun p1 p2 => abs.sApp_ok hS p2) h2 hw
  refine yi_istore dL_law_780 (Nat.le_of_ble_eq_true rfl) ?_
  refine yi_aload_n dL_law_782 rfl rfl ?_
  refine yi_aload_n dL_law_783 rfl rfl ?_
  refine yi_iload dL_law_784 rfl ?_
  refine yi_iconst dL_law_786 (v := 1) rfl ?_
  refine yi_iadd dL_law_787 ?_
  refine yi_sld dL_law_788 (by decide) hi.1 ?_
  refine ycV (M2 := mX8_append) (kr := 76) (ci := 8) (av := [.int (xs (i + 1).toNatClampNeg)]) (st := []) dL_law_789 lL_163 rfl ⟨rfl, rfl⟩ rfl ⟨Nat.le_of_ble_eq_true rfl, Nat.le_of_ble_eq_true rfl⟩ hcs (by decide) rfl rfl rfl (M_append hm1 hS) ?_
  intro r2 A2 B2 D2 hq
  obtain ⟨rfl, w, rfl, ht, ⟨S2, s1, s2, s3⟩, hv⟩ := hk _ _ _ _ hq
  refine yi_istore dL_law_792 (Nat.le_of_ble_eq_true rfl) ?_
  refine yi_aload_n dL_law_794 rfl rfl ?_
  refine ycV1 (M2 := mX8_thrown) (kr := 76) (ci := 8) (av := []) (st := []) dL_law_795 lL_116 rfl ⟨rfl, rfl⟩ rfl ⟨Nat.le_of_ble_eq_true rfl, Nat.le_of_ble_eq_true rfl⟩ hcs (by decide) rfl rfl rfl m_thrown ?_
  rw [ht]
  refine yi_iload dL_law_798 rfl ?_
  refine yi_icmp_eq (tgt := 805) dL_law_800 rfl (fun _ => ?_) (fun z => absurd rfl z)
  refine yi_iload dL_law_805 rfl ?_
  have hend : ∀ w0 D3, gl0 (eLW L xs) (mLaw nm hh) Q nx (cs + 4) (sl + 24) 822 (xst1 7 (.int w0) (xst1 6 (.int k) (lvL i))) [] A2 B2 D3 := fun w0 D3 => yi_goto (tgt := 2242) dL_law_822 rfl (by exact ygo_pick [0, 1, 2, 3, 4, 5] rfl (K S2 _ _ _ s1 s2 s3))
  refine yi_ifne (tgt := 822) dL_law_807 rfl (fun z => hend w _) (fun z => ?_)
  obtain ⟨rfl, hb⟩ := hv z
  refine yi_aload_n dL_law_810 rfl rfl ?_
  refine yi_iconst dL_law_811 (v := 0) rfl ?_
  refine yla (kk := 95) (nn := 1) (j := 0) dL_law_812 rfl rfl rfl (by decide) (by decide) ?_
  refine yi_iload dL_law_813 rfl ?_
  refine yi_i2l dL_law_815 ?_
  exact yi_lcmpeq (tgt := 822) dL_law_816 dL_law_817 rfl (fun _ => hend _ _) (fun q => absurd hb q)
theorem lc_clearInput (hi : vp_in (i + 1) L ∧ vp_in (i + 2) L ∧ vp_in (i + 3) L ∧ vp_in (i + 4) L) (hcs : cs + 4 ≤ (mO (mLaw nm hh)).cells ∧ sl + 24 ≤ (mO (mLaw nm hh)).slots) (hS : S.ok) (h1 : cRel S A B) (h2 : mRel S A B) (K : ∀ (S2 : abs) A2 B2 D2, S2.ok → cRel S2 A2 B2 → mRel S2 A2 B2 → gl0 (eLW L xs) (mLaw nm hh) Q nx (cs + 4) (sl + 24) 2242 (lvL i) [] A2 B2 D2) : gl0 (eLW L xs) (mLaw nm hh) Q nx cs sl 825 (lvL i) [] A B D := by
  have hcs0 : cs ≤ (mO (mLaw nm hh)).cells ∧ sl ≤ (mO (mLaw nm hh)).slots := ⟨Nat.le_trans (Nat.le_add_right _ _) hcs.1, Nat.le_trans (Nat.le_add_right _ _) hcs.2⟩
  refine yi_aload_n dL_law_825 rfl rfl ?_
  refine ycV (M2 := mX7_clearInput) (kr := 0) (ci := 7) (av := []) (st := []) dL_law_826 lL_164 rfl ⟨rfl, rfl⟩ rfl ⟨Nat.le_of_ble_eq_true rfl, Nat.le_of_ble_eq_true rfl⟩ hcs0 (by decide) rfl rfl rfl (C_clearInput h1) ?_
  intro r A1 B1 D1 hw
  obtain ⟨rfl, hm1, hk⟩ := bothS (abs.sClear_ok hS) h2 hw
  refine yi_aload_n dL_law_829 rfl rfl ?_
  refine ycV (M2 := mX8_clearInput) (kr := 76) (ci := 8) (av := []) (st := [_]) dL_law_830 lL_167 rfl ⟨rfl, rfl⟩ rfl ⟨Nat.le_of_ble_eq_true rfl, Nat.le_of_ble_eq_true rfl⟩ hcs0 (Nat.le_of_ble_eq_true rfl) rfl rfl rfl (M_clearInput hm1) ?_
  intro r2 A2 B2 D2 hq
  obtain ⟨rfl, S2, s1, s2, s3⟩ := hk _ _ _ _ hq
  exact yi_icmp_eq (tgt := 2242) dL_law_833 rfl (fun _ => ygo_room (Nat.le_add_right _ _) (Nat.le_add_right _ _) (K S2 _ _ _ s1 s2 s3)) (fun q => absurd rfl q)
theorem lc_firstError (hi : vp_in (i + 1) L ∧ vp_in (i + 2) L ∧ vp_in (i + 3) L ∧ vp_in (i + 4) L) (hcs : cs + 4 ≤ (mO (mLaw nm hh)).cells ∧ sl + 24 ≤ (mO (mLaw nm hh)).slots) (hS : S.ok) (h1 : cRel S A B) (h2 : mRel S A B) (K : ∀ (S2 : abs) A2 B2 D2, S2.ok → cRel S2 A2 B2 → mRel S2 A2 B2 → gl0 (eLW L xs) (mLaw nm hh) Q nx (cs + 4) (sl + 24) 2242 (lvL i) [] A2 B2 D2) : gl0 (eLW L xs) (mLaw nm hh) Q nx cs sl 838 (lvL i) [] A B D := by
  have hcs0 : cs ≤ (mO (mLaw nm hh)).cells ∧ sl ≤ (mO (mLaw nm hh)).slots := ⟨Nat.le_trans (Nat.le_add_right _ _) hcs.1, Nat.le_trans (Nat.le_add_right _ _) hcs.2⟩
  refine yi_aload_n dL_law_838 rfl rfl ?_
  refine ycV (M2 := mX7_firstError) (kr := 0) (ci := 7) (av := []) (st := []) dL_law_839 lL_168 rfl ⟨rfl, rfl⟩ rfl ⟨Nat.le_of_ble_eq_true rfl, Nat.le_of_ble_eq_true rfl⟩ hcs0 (by decide) rfl rfl rfl (C_firstError h1 hS) ?_
  intro r A1 B1 D1 hw
  obtain ⟨rfl, hm1, hk⟩ := bothS (hS) h2 hw
  refine yi_aload_n dL_law_842 rfl rfl ?_
  refine ycV (M2 := mX8_firstError) (kr := 76) (ci := 8) (av := []) (st := [_]) dL_law_843 lL_171 rfl ⟨rfl, rfl⟩ rfl ⟨Nat.le_of_ble_eq_true rfl, Nat.le_of_ble_eq_true rfl⟩ hcs0 (Nat.le_of_ble_eq_true rfl) rfl rfl rfl (M_firstError hm1 hS) ?_
  intro r2 A2 B2 D2 hq
  obtain ⟨rfl, S2, s1, s2, s3⟩ := hk _ _ _ _ hq
  exact yi_icmp_eq (tgt := 2242) dL_law_846 rfl (fun _ => ygo_room (Nat.le_add_right _ _) (Nat.le_add_right _ _) (K S2 _ _ _ s1 s2 s3)) (fun q => absurd rfl q)
theorem lc_load (hi : vp_in (i + 1) L ∧ vp_in (i + 2) L ∧ vp_in (i + 3) L ∧ vp_in (i + 4) L) (hcs : cs + 4 ≤ (mO (mLaw nm hh)).cells ∧ sl + 24 ≤ (mO (mLaw nm hh)).slots) (hS : S.ok) (h1 : cRel S A B) (h2 : mRel S A B) (K : ∀ (S2 : abs) A2 B2 D2, S2.ok → cRel S2 A2 B2 → mRel S2 A2 B2 → gl0 (eLW L xs) (mLaw nm hh) Q nx (cs + 4) (sl + 24) 2242 (lvL i) [] A2 B2 D2) : gl0 (eLW L xs) (mLaw nm hh) Q nx cs sl 851 (lvL i) [] A B D := by
  refine yi_aload_n dL_law_851 rfl rfl ?_
  refine yi_aload_n dL_law_852 rfl rfl ?_
  refine yi_callW (M2 := mL_load) (av := [.ref 0, .ref 95]) (st := []) dL_law_853 lW_load rfl rfl ⟨Nat.le_of_ble_eq_true rfl, Nat.le_of_ble_eq_true rfl⟩ ⟨Nat.le_of_ble_eq_true rfl, Nat.le_of_ble_eq_true rfl⟩ hcs (Nat.le_of_ble_eq_true rfl) (L_load h1 hS) ?_
  intro r A1 B1 D1 hw
  obtain ⟨k, rfl, rfl, hm1, hk⟩ := bothI hS (fun p1 p2 => abs.sLoad_ok h1 hS p1) h2 hw
  refine yi_istore dL_law_856 (Nat.le_of_ble_eq_true rfl) ?_
  refine yi_aload_n dL_law_858 rfl rfl ?_
  refine ycV (M2 := mX8_load) (kr := 76) (ci := 8) (av := []) (st := []) dL_law_859 lL_174 rfl ⟨rfl, rfl⟩ rfl ⟨Nat.le_of_ble_eq_true rfl, Nat.le_of_ble_eq_true rfl⟩ hcs (by decide) rfl rfl rfl (M_load hm1 hS (ld_hR h1)) ?_
  intro r2 A2 B2 D2 hq
  obtain ⟨rfl, w, rfl, ht, ⟨S2, s1, s2, s3⟩, hv⟩ := hk _ _ _ _ hq
  refine yi_istore dL_law_862 (Nat.le_of_ble_eq_true rfl) ?_
  refine yi_aload_n dL_law_864 rfl rfl ?_
  refine ycV1 (M2 := mX8_thrown) (kr := 76) (ci := 8) (av := []) (st := []) dL_law_865 lL_116 rfl ⟨rfl, rfl⟩ rfl ⟨Nat.le_of_ble_eq_true rfl, Nat.le_of_ble_eq_true rfl⟩ hcs (by decide) rfl rfl rfl m_thrown ?_
  rw [ht]
  refine yi_iload dL_law_868 rfl ?_
  refine yi_icmp_eq (tgt := 875) dL_law_870 rfl (fun _ => ?_) (fun z => absurd rfl z)
  refine yi_iload dL_law_875 rfl ?_
  have hend : ∀ w0 D3, gl0 (eLW L xs) (mLaw nm hh) Q nx (cs + 4) (sl + 24) 892 (xst1 7 (.int w0) (xst1 6 (.int k) (lvL i))) [] A2 B2 D3 := fun w0 D3 => yi_goto (tgt := 2242) dL_law_892 rfl (by exact ygo_pick [0, 1, 2, 3, 4, 5] rfl (K S2 _ _ _ s1 s2 s3))
  refine yi_ifne (tgt := 892) dL_law_877 rfl (fun z => hend w _) (fun z => ?_)
  obtain ⟨rfl, hb⟩ := hv z
  refine yi_aload_n dL_law_880 rfl rfl ?_
  refine yi_iconst dL_law_881 (v := 0) rfl ?_
  refine yla (kk := 95) (nn := 1) (j := 0) dL_law_882 rfl rfl rfl (by decide) (by decide) ?_
  refine yi_iload dL_law_883 rfl ?_
  refine yi_i2l dL_law_885 ?_
  exact yi_lcmpeq (tgt := 892) dL_law_886 dL_law_887 rfl (fun _ => hend _ _) (fun q => absurd hb q)
theorem lc_count (hi : vp_in (i + 1) L ∧ vp_in (i + 2) L ∧ vp_in (i + 3) L ∧ vp_in (i + 4) L) (hcs : cs + 4 ≤ (mO (mLaw nm hh)).cells ∧ sl + 24 ≤ (mO (mLaw nm hh)).slots) (hS : S.ok) (h1 : cRel S A B) (h2 : mRel S A B) (K : ∀ (S2 : abs) A2 B2 D2, S2.ok → cRel S2 A2 B2 → mRel S2 A2 B2 → gl0 (eLW L xs) (mLaw nm hh) Q nx (cs + 4) (sl + 24) 2242 (lvL i) [] A2 B2 D2) : gl0 (eLW L xs) (mLaw nm hh) Q nx cs sl 895 (lvL i) [] A B D := by
  refine yi_aload_n dL_law_895 rfl rfl ?_
  refine yi_aload_n dL_law_896 rfl rfl ?_
  refine yi_iload dL_law_897 rfl ?_
  refine yi_iconst dL_law_899 (v := 1) rfl ?_
  refine yi_iadd dL_law_900 ?_
  refine yi_sld dL_law_901 (by decide) hi.1 ?_
  refine yi_aload_n dL_law_902 rfl rfl ?_
  refine yi_callW (M2 := mL_count) (av := [.ref 0, .int (xs (i + 1).toNatClampNeg), .ref 95]) (st := []) dL_law_903 lW_count rfl rfl ⟨Nat.le_of_ble_eq_true rfl, Nat.le_of_ble_eq_true rfl⟩ ⟨Nat.le_of_ble_eq_true rfl, Nat.le_of_ble_eq_true rfl⟩ hcs (Nat.le_of_ble_eq_true rfl) (L_count h1 hS) ?_
  intro r A1 B1 D1 hw
  obtain ⟨k, rfl, rfl, hm1, hk⟩ := bothI hS (fun _ _ => hS) h2 hw
  refine yi_istore dL_law_906 (Nat.le_of_ble_eq_true rfl) ?_
  refine yi_aload_n dL_law_908 rfl rfl ?_
  refine yi_aload_n dL_law_909 rfl rfl ?_
  refine yi_iload dL_law_910 rfl ?_
  refine yi_iconst dL_law_912 (v := 1) rfl ?_
  refine yi_iadd dL_law_913 ?_
  refine yi_sld dL_law_914 (by decide) hi.1 ?_
  refine ycV (M2 := mX8_count) (kr := 76) (ci := 8) (av := [.int (xs (i + 1).toNatClampNeg)]) (st := []) dL_law_915 lL_177 rfl ⟨rfl, rfl⟩ rfl ⟨Nat.le_of_ble_eq_true rfl, Nat.le_of_ble_eq_true rfl⟩ hcs (by decide) rfl rfl rfl (M_count hm1 hS) ?_
  intro r2 A2 B2 D2 hq
  obtain ⟨rfl, w, rfl, ht, ⟨S2, s1, s2, s3⟩, hv⟩ := hk _ _ _ _ hq
  refine yi_istore dL_law_918 (Nat.le_of_ble_eq_true rfl) ?_
  refine yi_aload_n dL_law_920 rfl rfl ?_
  refine ycV1 (M2 := mX8_thrown) (kr := 76) (ci := 8) (av := []) (st := []) dL_law_921 lL_116 rfl ⟨rfl, rfl⟩ rfl ⟨Nat.le_of_ble_eq_true rfl, Nat.le_of_ble_eq_true rfl⟩ hcs (by decide) rfl rfl rfl m_thrown ?_
  rw [ht]
  refine yi_iload dL_law_924 rfl ?_
  refine yi_icmp_eq (tgt := 931) dL_law_926 rfl (fun _ => ?_) (fun z => absurd rfl z)
  refine yi_iload dL_law_931 rfl ?_
  have hend : ∀ w0 D3, gl0 (eLW L xs) (mLaw nm hh) Q nx (cs + 4) (sl + 24) 948 (xst1 7 (.int w0) (xst1 6 (.int k) (lvL i))) [] A2 B2 D3 := fun w0 D3 => yi_goto (tgt := 2242) dL_law_948 rfl (by exact ygo_pick [0, 1, 2, 3, 4, 5] rfl (K S2 _ _ _ s1 s2 s3))
  refine yi_ifne (tgt := 948) dL_law_933 rfl (fun z => hend w _) (fun z => ?_)
  obtain ⟨rfl, hb⟩ := hv z
  refine yi_aload_n dL_law_936 rfl rfl ?_
  refine yi_iconst dL_law_937 (v := 0) rfl ?_
  refine yla (kk := 95) (nn := 1) (j := 0) dL_law_938 rfl rfl rfl (by decide) (by decide) ?_
  refine yi_iload dL_law_939 rfl ?_
  refine yi_i2l dL_law_941 ?_
  exact yi_lcmpeq (tgt := 948) dL_law_942 dL_law_943 rfl (fun _ => hend _ _) (fun q => absurd hb q)
theorem lc_nodeOf (hi : vp_in (i + 1) L ∧ vp_in (i + 2) L ∧ vp_in (i + 3) L ∧ vp_in (i + 4) L) (hcs : cs + 4 ≤ (mO (mLaw nm hh)).cells ∧ sl + 24 ≤ (mO (mLaw nm hh)).slots) (hS : S.ok) (h1 : cRel S A B) (h2 : mRel S A B) (K : ∀ (S2 : abs) A2 B2 D2, S2.ok → cRel S2 A2 B2 → mRel S2 A2 B2 → gl0 (eLW L xs) (mLaw nm hh) Q nx (cs + 4) (sl + 24) 2242 (lvL i) [] A2 B2 D2) : gl0 (eLW L xs) (mLaw nm hh) Q nx cs sl 951 (lvL i) [] A B D := by
  refine yi_aload_n dL_law_951 rfl rfl ?_
  refine yi_aload_n dL_law_952 rfl rfl ?_
  refine yi_iload dL_law_953 rfl ?_
  refine yi_iconst dL_law_955 (v := 1) rfl ?_
  refine yi_iadd dL_law_956 ?_
  refine yi_sld dL_law_957 (by decide) hi.1 ?_
  refine yi_aload_n dL_law_958 rfl rfl ?_
  refine yi_callW (M2 := mL_nodeOf) (av := [.ref 0, .int (xs (i + 1).toNatClampNeg), .ref 95]) (st := []) dL_law_959 lW_nodeOf rfl rfl ⟨Nat.le_of_ble_eq_true rfl, Nat.le_of_ble_eq_true rfl⟩ ⟨Nat.le_of_ble_eq_true rfl, Nat.le_of_ble_eq_true rfl⟩ hcs (Nat.le_of_ble_eq_true rfl) (L_nodeOf h1 hS) ?_
  intro r A1 B1 D1 hw
  obtain ⟨k, rfl, rfl, hm1, hk⟩ := bothI hS (fun _ _ => hS) h2 hw
  refine yi_istore dL_law_962 (Nat.le_of_ble_eq_true rfl) ?_
  refine yi_aload_n dL_law_964 rfl rfl ?_
  refine yi_aload_n dL_law_965 rfl rfl ?_
  refine yi_iload dL_law_966 rfl ?_
  refine yi_iconst dL_law_968 (v := 1) rfl ?_
  refine yi_iadd dL_law_969 ?_
  refine yi_sld dL_law_970 (by decide) hi.1 ?_
  refine ycV (M2 := mX8_nodeOf) (kr := 76) (ci := 8) (av := [.int (xs (i + 1).toNatClampNeg)]) (st := []) dL_law_971 lL_180 rfl ⟨rfl, rfl⟩ rfl ⟨Nat.le_of_ble_eq_true rfl, Nat.le_of_ble_eq_true rfl⟩ hcs (by decide) rfl rfl rfl (M_nodeOf hm1 hS) ?_
  intro r2 A2 B2 D2 hq
  obtain ⟨rfl, w, rfl, ht, ⟨S2, s1, s2, s3⟩, hv⟩ := hk _ _ _ _ hq
  refine yi_istore dL_law_974 (Nat.le_of_ble_eq_true rfl) ?_
  refine yi_aload_n dL_law_976 rfl rfl ?_
  refine ycV1 (M2 := mX8_thrown) (kr := 76) (ci := 8) (av := []) (st := []) dL_law_977 lL_116 rfl ⟨rfl, rfl⟩ rfl ⟨Nat.le_of_ble_eq_true rfl, Nat.le_of_ble_eq_true rfl⟩ hcs (by decide) rfl rfl rfl m_thrown ?_
  rw [ht]
  refine yi_iload dL_law_980 rfl ?_
  refine yi_icmp_eq (tgt := 987) dL_law_982 rfl (fun _ => ?_) (fun z => absurd rfl z)
  refine yi_iload dL_law_987 rfl ?_
  have hend : ∀ w0 D3, gl0 (eLW L xs) (mLaw nm hh) Q nx (cs + 4) (sl + 24) 1004 (xst1 7 (.int w0) (xst1 6 (.int k) (lvL i))) [] A2 B2 D3 := fun w0 D3 => yi_goto (tgt := 2242) dL_law_1004 rfl (by exact ygo_pick [0, 1, 2, 3, 4, 5] rfl (K S2 _ _ _ s1 s2 s3))
  refine yi_ifne (tgt := 1004) dL_law_989 rfl (fun z => hend w _) (fun z => ?_)
  obtain ⟨rfl, hb⟩ := hv z
  refine yi_aload_n dL_law_992 rfl rfl ?_
  refine yi_iconst dL_law_993 (v := 0) rfl ?_
  refine yla (kk := 95) (nn := 1) (j := 0) dL_law_994 rfl rfl rfl (by decide) (by decide) ?_
  refine yi_iload dL_law_995 rfl ?_
  refine yi_i2l dL_law_997 ?_
  exact yi_lcmpeq (tgt := 1004) dL_law_998 dL_law_999 rfl (fun _ => hend _ _) (fun q => absurd hb q)
theorem lc_attribute (hi : vp_in (i + 1) L ∧ vp_in (i + 2) L ∧ vp_in (i + 3) L ∧ vp_in (i + 4) L) (hcs : cs + 4 ≤ (mO (mLaw nm hh)).cells ∧ sl + 24 ≤ (mO (mLaw nm hh)).slots) (hS : S.ok) (h1 : cRel S A B) (h2 : mRel S A B) (K : ∀ (S2 : abs) A2 B2 D2, S2.ok → cRel S2 A2 B2 → mRel S2 A2 B2 → gl0 (eLW L xs) (mLaw nm hh) Q nx (cs + 4) (sl + 24) 2242 (lvL i) [] A2 B2 D2) : gl0 (eLW L xs) (mLaw nm hh) Q nx cs sl 1007 (lvL i) [] A B D := by
  refine yi_aload_n dL_law_1007 rfl rfl ?_
  refine yi_aload_n dL_law_1008 rfl rfl ?_
  refine yi_iload dL_law_1009 rfl ?_
  refine yi_iconst dL_law_1011 (v := 1) rfl ?_
  refine yi_iadd dL_law_1012 ?_
  refine yi_sld dL_law_1013 (by decide) hi.1 ?_
  refine yi_aload_n dL_law_1014 rfl rfl ?_
  refine yi_iload dL_law_1015 rfl ?_
  refine yi_iconst dL_law_1017 (v := 2) rfl ?_
  refine yi_iadd dL_law_1018 ?_
  refine yi_sld dL_law_1019 (by decide) hi.2.1 ?_
  refine yi_aload_n dL_law_1020 rfl rfl ?_
  refine yi_callW (M2 := mL_attribute) (av := [.ref 0, .int (xs (i + 1).toNatClampNeg), .int (xs (i + 2).toNatClampNeg), .ref 95]) (st := []) dL_law_1021 lW_attribute rfl rfl ⟨Nat.le_of_ble_eq_true rfl, Nat.le_of_ble_eq_true rfl⟩ ⟨Nat.le_of_ble_eq_true rfl, Nat.le_of_ble_eq_true rfl⟩ hcs (Nat.le_of_ble_eq_true rfl) (L_attribute h1 hS) ?_
  intro r A1 B1 D1 hw
  obtain ⟨k, rfl, rfl, hm1, hk⟩ := bothI hS (fun _ _ => hS) h2 hw
  refine yi_istore dL_law_1024 (Nat.le_of_ble_eq_true rfl) ?_
  refine yi_aload_n dL_law_1026 rfl rfl ?_
  refine yi_aload_n dL_law_1027 rfl rfl ?_
  refine yi_iload dL_law_1028 rfl ?_
  refine yi_iconst dL_law_1030 (v := 1) rfl ?_
  refine yi_iadd dL_law_1031 ?_
  refine yi_sld dL_law_1032 (by decide) hi.1 ?_
  refine yi_aload_n dL_law_1033 rfl rfl ?_
  refine yi_iload dL_law_1034 rfl ?_
  refine yi_iconst dL_law_1036 (v := 2) rfl ?_
  refine yi_iadd dL_law_1037 ?_
  refine yi_sld dL_law_1038 (by decide) hi.2.1 ?_
  refine ycV (M2 := mX8_attribute) (kr := 76) (ci := 8) (av := [.int (xs (i + 1).toNatClampNeg), .int (xs (i + 2).toNatClampNeg)]) (st := []) dL_law_1039 lL_183 rfl ⟨rfl, rfl⟩ rfl ⟨Nat.le_of_ble_eq_true rfl, Nat.le_of_ble_eq_true rfl⟩ hcs (by decide) rfl rfl rfl (M_attribute hm1 hS) ?_
  intro r2 A2 B2 D2 hq
  obtain ⟨rfl, w, rfl, ht, ⟨S2, s1, s2, s3⟩, hv⟩ := hk _ _ _ _ hq
  refine yi_istore dL_law_1042 (Nat.le_of_ble_eq_true rfl) ?_
  refine yi_aload_n dL_law_1044 rfl rfl ?_
  refine ycV1 (M2 := mX8_thrown) (kr := 76) (ci := 8) (av := []) (st := []) dL_law_1045 lL_116 rfl ⟨rfl, rfl⟩ rfl ⟨Nat.le_of_ble_eq_true rfl, Nat.le_of_ble_eq_true rfl⟩ hcs (by decide) rfl rfl rfl m_thrown ?_
  rw [ht]
  refine yi_iload dL_law_1048 rfl ?_
  refine yi_icmp_eq (tgt := 1055) dL_law_1050 rfl (fun _ => ?_) (fun z => absurd rfl z)
  refine yi_iload dL_law_1055 rfl ?_
  have hend : ∀ w0 D3, gl0 (eLW L xs) (mLaw nm hh) Q nx (cs + 4) (sl + 24) 1072 (xst1 7 (.int w0) (xst1 6 (.int k) (lvL i))) [] A2 B2 D3 := fun w0 D3 => yi_goto (tgt := 2242) dL_law_1072 rfl (by exact ygo_pick [0, 1, 2, 3, 4, 5] rfl (K S2 _ _ _ s1 s2 s3))
  refine yi_ifne (tgt := 1072) dL_law_1057 rfl (fun z => hend w _) (fun z => ?_)
  obtain ⟨rfl, hb⟩ := hv z
  refine yi_aload_n dL_law_1060 rfl rfl ?_
  refine yi_iconst dL_law_1061 (v := 0) rfl ?_
  refine yla (kk := 95) (nn := 1) (j := 0) dL_law_1062 rfl rfl rfl (by decide) (by decide) ?_
  refine yi_iload dL_law_1063 rfl ?_
  refine yi_i2l dL_law_1065 ?_
  exact yi_lcmpeq (tgt := 1072) dL_law_1066 dL_law_1067 rfl (fun _ => hend _ _) (fun q => absurd hb q)
theorem lc_meanRank (hi : vp_in (i + 1) L ∧ vp_in (i + 2) L ∧ vp_in (i + 3) L ∧ vp_in (i + 4) L) (hcs : cs + 4 ≤ (mO (mLaw nm hh)).cells ∧ sl + 24 ≤ (mO (mLaw nm hh)).slots) (hS : S.ok) (h1 : cRel S A B) (h2 : mRel S A B) (K : ∀ (S2 : abs) A2 B2 D2, S2.ok → cRel S2 A2 B2 → mRel S2 A2 B2 → gl0 (eLW L xs) (mLaw nm hh) Q nx (cs + 4) (sl + 24) 2242 (lvL i) [] A2 B2 D2) : gl0 (eLW L xs) (mLaw nm hh) Q nx cs sl 1075 (lvL i) [] A B D := by
  refine yi_aload_n dL_law_1075 rfl rfl ?_
  refine yi_aload_n dL_law_1076 rfl rfl ?_
  refine yi_iload dL_law_1077 rfl ?_
  refine yi_iconst dL_law_1079 (v := 1) rfl ?_
  refine yi_iadd dL_law_1080 ?_
  refine yi_sld dL_law_1081 (by decide) hi.1 ?_
  refine yi_aload dL_law_1082 rfl ?_
  refine yi_callW (M2 := mL_meanRank) (av := [.ref 0, .int (xs (i + 1).toNatClampNeg), .ref 96]) (st := []) dL_law_1084 lW_meanRank rfl rfl ⟨Nat.le_of_ble_eq_true rfl, Nat.le_of_ble_eq_true rfl⟩ ⟨Nat.le_of_ble_eq_true rfl, Nat.le_of_ble_eq_true rfl⟩ hcs (Nat.le_of_ble_eq_true rfl) (L_meanRank h1 hS) ?_
  intro r A1 B1 D1 hw
  obtain ⟨k, rfl, hm1, hk⟩ := bothD hS h2 hw
  refine yi_istore dL_law_1087 (Nat.le_of_ble_eq_true rfl) ?_
  refine yi_aload_n dL_law_1089 rfl rfl ?_
  refine yi_aload_n dL_law_1090 rfl rfl ?_
  refine yi_iload dL_law_1091 rfl ?_
  refine yi_iconst dL_law_1093 (v := 1) rfl ?_
  refine yi_iadd dL_law_1094 ?_
  refine yi_sld dL_law_1095 (by decide) hi.1 ?_
  refine ycV (M2 := mX8_meanRank) (kr := 76) (ci := 8) (av := [.int (xs (i + 1).toNatClampNeg)]) (st := []) dL_law_1096 lL_187 rfl ⟨rfl, rfl⟩ rfl ⟨Nat.le_of_ble_eq_true rfl, Nat.le_of_ble_eq_true rfl⟩ hcs (by decide) rfl rfl rfl (M_meanRank hm1 hS) ?_
  intro r2 A2 B2 D2 hq
  obtain ⟨w, rfl, ht, s2, s3, hv⟩ := hk _ _ _ _ hq
  refine yi_dstore dL_law_1099 (Nat.le_of_ble_eq_true rfl) ?_
  refine yi_aload_n dL_law_1101 rfl rfl ?_
  refine ycV1 (M2 := mX8_thrown) (kr := 76) (ci := 8) (av := []) (st := []) dL_law_1102 lL_116 rfl ⟨rfl, rfl⟩ rfl ⟨Nat.le_of_ble_eq_true rfl, Nat.le_of_ble_eq_true rfl⟩ hcs (by decide) rfl rfl rfl m_thrown ?_
  rw [ht]
  refine yi_iload dL_law_1105 rfl ?_
  refine yi_icmp_eq (tgt := 1112) dL_law_1107 rfl (fun _ => ?_) (fun z => absurd rfl z)
  refine yi_iload dL_law_1112 rfl ?_
  have hend : ∀ w0 D3, gl0 (eLW L xs) (mLaw nm hh) Q nx (cs + 4) (sl + 24) 1149 (xst2 7 (.double w0) (xst1 6 (.int k) (lvL i))) [] A2 B2 D3 := fun w0 D3 => yi_goto (tgt := 2242) dL_law_1149 rfl (by exact ygo_pick [0, 1, 2, 3, 4, 5] rfl (K S _ _ _ hS s2 s3))
  refine yi_ifne (tgt := 1149) dL_law_1114 rfl (fun z => hend w _) (fun z => ?_)
  obtain ⟨hc, rfl, hb⟩ := hv z
  refine yi_aload dL_law_1117 rfl ?_
  refine yi_iconst dL_law_1119 (v := 0) rfl ?_
  refine yda (kk := 96) (nn := 1) (j := 0) dL_law_1120 rfl rfl rfl (by decide) (by decide) ?_
  rw [hb]
  refine yi_dload dL_law_1121 rfl ?_
  refine yi_dcmp dL_law_1123 ?_
  have hn : vf_n64 (kMn S.X (xs (i + 1).toNatClampNeg).toNatClampNeg) := by
    obtain ⟨v, v1, v2⟩ := inR_nI hc (by have := k_m (abs.Xok hS); omega)
    rw [v2, nI_clamp (by have := k_m (abs.Xok hS); omega)]
    exact (k_mn (abs.Xok hS) v1).1
  refine yi_if_eq (tgt := 1149) dL_law_1124 rfl (fun _ => hend _ _) (fun q => absurd (dcmp_z hn) q)
theorem lc_contains (hi : vp_in (i + 1) L ∧ vp_in (i + 2) L ∧ vp_in (i + 3) L ∧ vp_in (i + 4) L) (hcs : cs + 4 ≤ (mO (mLaw nm hh)).cells ∧ sl + 24 ≤ (mO (mLaw nm hh)).slots) (hS : S.ok) (h1 : cRel S A B) (h2 : mRel S A B) (K : ∀ (S2 : abs) A2 B2 D2, S2.ok → cRel S2 A2 B2 → mRel S2 A2 B2 → gl0 (eLW L xs) (mLaw nm hh) Q nx (cs + 4) (sl + 24) 2242 (lvL i) [] A2 B2 D2) : gl0 (eLW L xs) (mLaw nm hh) Q nx cs sl 1152 (lvL i) [] A B D := by
  refine yi_aload_n dL_law_1152 rfl rfl ?_
  refine yi_aload_n dL_law_1153 rfl rfl ?_
  refine yi_iload dL_law_1154 rfl ?_
  refine yi_iconst dL_law_1156 (v := 1) rfl ?_
  refine yi_iadd dL_law_1157 ?_
  refine yi_sld dL_law_1158 (by decide) hi.1 ?_
  refine yi_aload_n dL_law_1159 rfl rfl ?_
  refine yi_iload dL_law_1160 rfl ?_
  refine yi_iconst dL_law_1162 (v := 2) rfl ?_
  refine yi_iadd dL_law_1163 ?_
  refine yi_sld dL_law_1164 (by decide) hi.2.1 ?_
  refine yi_aload_n dL_law_1165 rfl rfl ?_
  refine yi_callW (M2 := mL_contains) (av := [.ref 0, .int (xs (i + 1).toNatClampNeg), .int (xs (i + 2).toNatClampNeg), .ref 95]) (st := []) dL_law_1166 lW_contains rfl rfl ⟨Nat.le_of_ble_eq_true rfl, Nat.le_of_ble_eq_true rfl⟩ ⟨Nat.le_of_ble_eq_true rfl, Nat.le_of_ble_eq_true rfl⟩ hcs (Nat.le_of_ble_eq_true rfl) (L_contains h1 hS) ?_
  intro r A1 B1 D1 hw
  obtain ⟨k, rfl, rfl, hm1, hk⟩ := bothC hS (fun _ _ => hS) h2 hw
  refine yi_istore dL_law_1169 (Nat.le_of_ble_eq_true rfl) ?_
  refine yi_aload_n dL_law_1171 rfl rfl ?_
  refine yi_aload_n dL_law_1172 rfl rfl ?_
  refine yi_iload dL_law_1173 rfl ?_
  refine yi_iconst dL_law_1175 (v := 1) rfl ?_
  refine yi_iadd dL_law_1176 ?_
  refine yi_sld dL_law_1177 (by decide) hi.1 ?_
  refine yi_aload_n dL_law_1178 rfl rfl ?_
  refine yi_iload dL_law_1179 rfl ?_
  refine yi_iconst dL_law_1181 (v := 2) rfl ?_
  refine yi_iadd dL_law_1182 ?_
  refine yi_sld dL_law_1183 (by decide) hi.2.1 ?_
  refine ycV (M2 := mX8_contains) (kr := 76) (ci := 8) (av := [.int (xs (i + 1).toNatClampNeg), .int (xs (i + 2).toNatClampNeg)]) (st := []) dL_law_1184 lL_190 rfl ⟨rfl, rfl⟩ rfl ⟨Nat.le_of_ble_eq_true rfl, Nat.le_of_ble_eq_true rfl⟩ hcs (by decide) rfl rfl rfl (M_contains hm1 hS) ?_
  intro r2 A2 B2 D2 hq
  obtain ⟨rfl, w, rfl, ht, ⟨S2, s1, s2, s3⟩, hv⟩ := hk _ _ _ _ hq
  refine yi_istore dL_law_1187 (Nat.le_of_ble_eq_true rfl) ?_
  refine yi_aload_n dL_law_1189 rfl rfl ?_
  refine ycV1 (M2 := mX8_thrown) (kr := 76) (ci := 8) (av := []) (st := []) dL_law_1190 lL_116 rfl ⟨rfl, rfl⟩ rfl ⟨Nat.le_of_ble_eq_true rfl, Nat.le_of_ble_eq_true rfl⟩ hcs (by decide) rfl rfl rfl m_thrown ?_
  rw [ht]
  refine yi_iload dL_law_1193 rfl ?_
  refine yi_icmp_eq (tgt := 1200) dL_law_1195 rfl (fun _ => ?_) (fun z => absurd rfl z)
  refine yi_iload dL_law_1200 rfl ?_
  have hend : ∀ w0 D3, gl0 (eLW L xs) (mLaw nm hh) Q nx (cs + 4) (sl + 24) 1224 (xst1 7 (.int w0) (xst1 6 (.int k) (lvL i))) [] A2 B2 D3 := fun w0 D3 => yi_goto (tgt := 2242) dL_law_1224 rfl (by exact ygo_pick [0, 1, 2, 3, 4, 5] rfl (K S2 _ _ _ s1 s2 s3))
  refine yi_ifne (tgt := 1224) dL_law_1202 rfl (fun z => hend w _) (fun z => ?_)
  obtain ⟨rfl, hb⟩ := hv z
  refine yi_aload_n dL_law_1205 rfl rfl ?_
  refine yi_iconst dL_law_1206 (v := 0) rfl ?_
  refine yla (kk := 95) (nn := 1) (j := 0) dL_law_1207 rfl rfl rfl (by decide) (by decide) ?_
  refine yi_iload dL_law_1208 rfl ?_
  refine yi_if_eq (tgt := 1217) dL_law_1210 rfl (fun q => ?_) (fun q => ?_)
  · rw [if_pos q] at hb
    refine yi_lconst dL_law_1217 (v := 0) rfl ?_
    exact yi_lcmpeq (tgt := 1224) dL_law_1218 dL_law_1219 rfl (fun _ => hend _ _) (fun q => absurd hb q)
  · rw [if_neg q] at hb
    refine yi_lconst dL_law_1213 (v := 1) rfl ?_
    refine yi_goto (tgt := 1218) dL_law_1214 rfl ?_
    exact yi_lcmpeq (tgt := 1224) dL_law_1218 dL_law_1219 rfl (fun _ => hend _ _) (fun q => absurd hb q)
theorem lc_child (hi : vp_in (i + 1) L ∧ vp_in (i + 2) L ∧ vp_in (i + 3) L ∧ vp_in (i + 4) L) (hcs : cs + 4 ≤ (mO (mLaw nm hh)).cells ∧ sl + 24 ≤ (mO (mLaw nm hh)).slots) (hS : S.ok) (h1 : cRel S A B) (h2 : mRel S A B) (K : ∀ (S2 : abs) A2 B2 D2, S2.ok → cRel S2 A2 B2 → mRel S2 A2 B2 → gl0 (eLW L xs) (mLaw nm hh) Q nx (cs + 4) (sl + 24) 2242 (lvL i) [] A2 B2 D2) : gl0 (eLW L xs) (mLaw nm hh) Q nx cs sl 1227 (lvL i) [] A B D := by
  refine yi_aload_n dL_law_1227 rfl rfl ?_
  refine yi_aload_n dL_law_1228 rfl rfl ?_
  refine yi_iload dL_law_1229 rfl ?_
  refine yi_iconst dL_law_1231 (v := 1) rfl ?_
  refine yi_iadd dL_law_1232 ?_
  refine yi_sld dL_law_1233 (by decide) hi.1 ?_
  refine yi_aload_n dL_law_1234 rfl rfl ?_
  refine yi_iload dL_law_1235 rfl ?_
  refine yi_iconst dL_law_1237 (v := 2) rfl ?_
  refine yi_iadd dL_law_1238 ?_
  refine yi_sld dL_law_1239 (by decide) hi.2.1 ?_
  refine yi_aload_n dL_law_1240 rfl rfl ?_
  refine yi_callW (M2 := mL_child) (av := [.ref 0, .int (xs (i + 1).toNatClampNeg), .int (xs (i + 2).toNatClampNeg), .ref 95]) (st := []) dL_law_1241 lW_child rfl rfl ⟨Nat.le_of_ble_eq_true rfl, Nat.le_of_ble_eq_true rfl⟩ ⟨Nat.le_of_ble_eq_true rfl, Nat.le_of_ble_eq_true rfl⟩ hcs (Nat.le_of_ble_eq_true rfl) (L_child h1 hS) ?_
  intro r A1 B1 D1 hw
  obtain ⟨k, rfl, rfl, hm1, hk⟩ := bothI hS (fun _ _ => hS) h2 hw
  refine yi_istore dL_law_1244 (Nat.le_of_ble_eq_true rfl) ?_
  refine yi_aload_n dL_law_1246 rfl rfl ?_
  refine yi_aload_n dL_law_1247 rfl rfl ?_
  refine yi_iload dL_law_1248 rfl ?_
  refine yi_iconst dL_law_1250 (v := 1) rfl ?_
  refine yi_iadd dL_law_1251 ?_
  refine yi_sld dL_law_1252 (by decide) hi.1 ?_
  refine yi_aload_n dL_law_1253 rfl rfl ?_
  refine yi_iload dL_law_1254 rfl ?_
  refine yi_iconst dL_law_1256 (v := 2) rfl ?_
  refine yi_iadd dL_law_1257 ?_
  refine yi_sld dL_law_1258 (by decide) hi.2.1 ?_
  refine ycV (M2 := mX8_child) (kr := 76) (ci := 8) (av := [.int (xs (i + 1).toNatClampNeg), .int (xs (i + 2).toNatClampNeg)]) (st := []) dL_law_1259 lL_193 rfl ⟨rfl, rfl⟩ rfl ⟨Nat.le_of_ble_eq_true rfl, Nat.le_of_ble_eq_true rfl⟩ hcs (by decide) rfl rfl rfl (M_child hm1 hS) ?_
  intro r2 A2 B2 D2 hq
  obtain ⟨rfl, w, rfl, ht, ⟨S2, s1, s2, s3⟩, hv⟩ := hk _ _ _ _ hq
  refine yi_istore dL_law_1262 (Nat.le_of_ble_eq_true rfl) ?_
  refine yi_aload_n dL_law_1264 rfl rfl ?_
  refine ycV1 (M2 := mX8_thrown) (kr := 76) (ci := 8) (av := []) (st := []) dL_law_1265 lL_116 rfl ⟨rfl, rfl⟩ rfl ⟨Nat.le_of_ble_eq_true rfl, Nat.le_of_ble_eq_true rfl⟩ hcs (by decide) rfl rfl rfl m_thrown ?_
  rw [ht]
  refine yi_iload dL_law_1268 rfl ?_
  refine yi_icmp_eq (tgt := 1275) dL_law_1270 rfl (fun _ => ?_) (fun z => absurd rfl z)
  refine yi_iload dL_law_1275 rfl ?_
  have hend : ∀ w0 D3, gl0 (eLW L xs) (mLaw nm hh) Q nx (cs + 4) (sl + 24) 1292 (xst1 7 (.int w0) (xst1 6 (.int k) (lvL i))) [] A2 B2 D3 := fun w0 D3 => yi_goto (tgt := 2242) dL_law_1292 rfl (by exact ygo_pick [0, 1, 2, 3, 4, 5] rfl (K S2 _ _ _ s1 s2 s3))
  refine yi_ifne (tgt := 1292) dL_law_1277 rfl (fun z => hend w _) (fun z => ?_)
  obtain ⟨rfl, hb⟩ := hv z
  refine yi_aload_n dL_law_1280 rfl rfl ?_
  refine yi_iconst dL_law_1281 (v := 0) rfl ?_
  refine yla (kk := 95) (nn := 1) (j := 0) dL_law_1282 rfl rfl rfl (by decide) (by decide) ?_
  refine yi_iload dL_law_1283 rfl ?_
  refine yi_i2l dL_law_1285 ?_
  exact yi_lcmpeq (tgt := 1292) dL_law_1286 dL_law_1287 rfl (fun _ => hend _ _) (fun q => absurd hb q)
theorem lc_leaf (hi : vp_in (i + 1) L ∧ vp_in (i + 2) L ∧ vp_in (i + 3) L ∧ vp_in (i + 4) L) (hcs : cs + 4 ≤ (mO (mLaw nm hh)).cells ∧ sl + 24 ≤ (mO (mLaw nm hh)).slots) (hS : S.ok) (h1 : cRel S A B) (h2 : mRel S A B) (K : ∀ (S2 : abs) A2 B2 D2, S2.ok → cRel S2 A2 B2 → mRel S2 A2 B2 → gl0 (eLW L xs) (mLaw nm hh) Q nx (cs + 4) (sl + 24) 2242 (lvL i) [] A2 B2 D2) : gl0 (eLW L xs) (mLaw nm hh) Q nx cs sl 1295 (lvL i) [] A B D := by
  refine yi_aload_n dL_law_1295 rfl rfl ?_
  refine yi_aload_n dL_law_1296 rfl rfl ?_
  refine yi_iload dL_law_1297 rfl ?_
  refine yi_iconst dL_law_1299 (v := 1) rfl ?_
  refine yi_iadd dL_law_1300 ?_
  refine yi_sld dL_law_1301 (by decide) hi.1 ?_
  refine yi_aload_n dL_law_1302 rfl rfl ?_
  refine yi_callW (M2 := mL_leaf) (av := [.ref 0, .int (xs (i + 1).toNatClampNeg), .ref 95]) (st := []) dL_law_1303 lW_leaf rfl rfl ⟨Nat.le_of_ble_eq_true rfl, Nat.le_of_ble_eq_true rfl⟩ ⟨Nat.le_of_ble_eq_true rfl, Nat.le_of_ble_eq_true rfl⟩ hcs (Nat.le_of_ble_eq_true rfl) (L_leaf h1 hS) ?_
  intro r A1 B1 D1 hw
  obtain ⟨k, rfl, rfl, hm1, hk⟩ := bothI hS (fun _ _ => hS) h2 hw
  refine yi_istore dL_law_1306 (Nat.le_of_ble_eq_true rfl) ?_
  refine yi_aload_n dL_law_1308 rfl rfl ?_
  refine yi_aload_n dL_law_1309 rfl rfl ?_
  refine yi_iload dL_law_1310 rfl ?_
  refine yi_iconst dL_law_1312 (v := 1) rfl ?_
  refine yi_iadd dL_law_1313 ?_
  refine yi_sld dL_law_1314 (by decide) hi.1 ?_
  refine ycV (M2 := mX8_leaf) (kr := 76) (ci := 8) (av := [.int (xs (i + 1).toNatClampNeg)]) (st := []) dL_law_1315 lL_196 rfl ⟨rfl, rfl⟩ rfl ⟨Nat.le_of_ble_eq_true rfl, Nat.le_of_ble_eq_true rfl⟩ hcs (by decide) rfl rfl rfl (M_leaf hm1 hS) ?_
  intro r2 A2 B2 D2 hq
  obtain ⟨rfl, w, rfl, ht, ⟨S2, s1, s2, s3⟩, hv⟩ := hk _ _ _ _ hq
  refine yi_istore dL_law_1318 (Nat.le_of_ble_eq_true rfl) ?_
  refine yi_aload_n dL_law_1320 rfl rfl ?_
  refine ycV1 (M2 := mX8_thrown) (kr := 76) (ci := 8) (av := []) (st := []) dL_law_1321 lL_116 rfl ⟨rfl, rfl⟩ rfl ⟨Nat.le_of_ble_eq_true rfl, Nat.le_of_ble_eq_true rfl⟩ hcs (by decide) rfl rfl rfl m_thrown ?_
  rw [ht]
  refine yi_iload dL_law_1324 rfl ?_
  refine yi_icmp_eq (tgt := 1331) dL_law_1326 rfl (fun _ => ?_) (fun z => absurd rfl z)
  refine yi_iload dL_law_1331 rfl ?_
  have hend : ∀ w0 D3, gl0 (eLW L xs) (mLaw nm hh) Q nx (cs + 4) (sl + 24) 1348 (xst1 7 (.int w0) (xst1 6 (.int k) (lvL i))) [] A2 B2 D3 := fun w0 D3 => yi_goto (tgt := 2242) dL_law_1348 rfl (by exact ygo_pick [0, 1, 2, 3, 4, 5] rfl (K S2 _ _ _ s1 s2 s3))
  refine yi_ifne (tgt := 1348) dL_law_1333 rfl (fun z => hend w _) (fun z => ?_)
  obtain ⟨rfl, hb⟩ := hv z
  refine yi_aload_n dL_law_1336 rfl rfl ?_
  refine yi_iconst dL_law_1337 (v := 0) rfl ?_
  refine yla (kk := 95) (nn := 1) (j := 0) dL_law_1338 rfl rfl rfl (by decide) (by decide) ?_
  refine yi_iload dL_law_1339 rfl ?_
  refine yi_i2l dL_law_1341 ?_
  exact yi_lcmpeq (tgt := 1348) dL_law_1342 dL_law_1343 rfl (fun _ => hend _ _) (fun q => absurd hb q)
theorem lc_prominence (hi : vp_in (i + 1) L ∧ vp_in (i + 2) L ∧ vp_in (i + 3) L ∧ vp_in (i + 4) L) (hcs : cs + 4 ≤ (mO (mLaw nm hh)).cells ∧ sl + 24 ≤ (mO (mLaw nm hh)).slots) (hS : S.ok) (h1 : cRel S A B) (h2 : mRel S A B) (K : ∀ (S2 : abs) A2 B2 D2, S2.ok → cRel S2 A2 B2 → mRel S2 A2 B2 → gl0 (eLW L xs) (mLaw nm hh) Q nx (cs + 4) (sl + 24) 2242 (lvL i) [] A2 B2 D2) : gl0 (eLW L xs) (mLaw nm hh) Q nx cs sl 1351 (lvL i) [] A B D := by
  refine yi_aload_n dL_law_1351 rfl rfl ?_
  refine yi_aload_n dL_law_1352 rfl rfl ?_
  refine yi_iload dL_law_1353 rfl ?_
  refine yi_iconst dL_law_1355 (v := 1) rfl ?_
  refine yi_iadd dL_law_1356 ?_
  refine yi_sld dL_law_1357 (by decide) hi.1 ?_
  refine yi_aload_n dL_law_1358 rfl rfl ?_
  refine yi_callW (M2 := mL_prominence) (av := [.ref 0, .int (xs (i + 1).toNatClampNeg), .ref 95]) (st := []) dL_law_1359 lW_prominence rfl rfl ⟨Nat.le_of_ble_eq_true rfl, Nat.le_of_ble_eq_true rfl⟩ ⟨Nat.le_of_ble_eq_true rfl, Nat.le_of_ble_eq_true rfl⟩ hcs (Nat.le_of_ble_eq_true rfl) (L_prominence h1 hS) ?_
  intro r A1 B1 D1 hw
  obtain ⟨k, rfl, rfl, hm1, hk⟩ := bothI hS (fun _ _ => hS) h2 hw
  refine yi_istore dL_law_1362 (Nat.le_of_ble_eq_true rfl) ?_
  refine yi_aload_n dL_law_1364 rfl rfl ?_
  refine yi_aload_n dL_law_1365 rfl rfl ?_
  refine yi_iload dL_law_1366 rfl ?_
  refine yi_iconst dL_law_1368 (v := 1) rfl ?_
  refine yi_iadd dL_law_1369 ?_
  refine yi_sld dL_law_1370 (by decide) hi.1 ?_
  refine ycV (M2 := mX8_prominence) (kr := 76) (ci := 8) (av := [.int (xs (i + 1).toNatClampNeg)]) (st := []) dL_law_1371 lL_199 rfl ⟨rfl, rfl⟩ rfl ⟨Nat.le_of_ble_eq_true rfl, Nat.le_of_ble_eq_true rfl⟩ hcs (by decide) rfl rfl rfl (M_prominence hm1 hS) ?_
  intro r2 A2 B2 D2 hq
  obtain ⟨rfl, w, rfl, ht, ⟨S2, s1, s2, s3⟩, hv⟩ := hk _ _ _ _ hq
  refine yi_istore dL_law_1374 (Nat.le_of_ble_eq_true rfl) ?_
  refine yi_aload_n dL_law_1376 rfl rfl ?_
  refine ycV1 (M2 := mX8_thrown) (kr := 76) (ci := 8) (av := []) (st := []) dL_law_1377 lL_116 rfl ⟨rfl, rfl⟩ rfl ⟨Nat.le_of_ble_eq_true rfl, Nat.le_of_ble_eq_true rfl⟩ hcs (by decide) rfl rfl rfl m_thrown ?_
  rw [ht]
  refine yi_iload dL_law_1380 rfl ?_
  refine yi_icmp_eq (tgt := 1387) dL_law_1382 rfl (fun _ => ?_) (fun z => absurd rfl z)
  refine yi_iload dL_law_1387 rfl ?_
  have hend : ∀ w0 D3, gl0 (eLW L xs) (mLaw nm hh) Q nx (cs + 4) (sl + 24) 1404 (xst1 7 (.int w0) (xst1 6 (.int k) (lvL i))) [] A2 B2 D3 := fun w0 D3 => yi_goto (tgt := 2242) dL_law_1404 rfl (by exact ygo_pick [0, 1, 2, 3, 4, 5] rfl (K S2 _ _ _ s1 s2 s3))
  refine yi_ifne (tgt := 1404) dL_law_1389 rfl (fun z => hend w _) (fun z => ?_)
  obtain ⟨rfl, hb⟩ := hv z
  refine yi_aload_n dL_law_1392 rfl rfl ?_
  refine yi_iconst dL_law_1393 (v := 0) rfl ?_
  refine yla (kk := 95) (nn := 1) (j := 0) dL_law_1394 rfl rfl rfl (by decide) (by decide) ?_
  refine yi_iload dL_law_1395 rfl ?_
  refine yi_i2l dL_law_1397 ?_
  exact yi_lcmpeq (tgt := 1404) dL_law_1398 dL_law_1399 rfl (fun _ => hend _ _) (fun q => absurd hb q)
theorem lc_component (hi : vp_in (i + 1) L ∧ vp_in (i + 2) L ∧ vp_in (i + 3) L ∧ vp_in (i + 4) L) (hcs : cs + 4 ≤ (mO (mLaw nm hh)).cells ∧ sl + 24 ≤ (mO (mLaw nm hh)).slots) (hS : S.ok) (h1 : cRel S A B) (h2 : mRel S A B) (K : ∀ (S2 : abs) A2 B2 D2, S2.ok → cRel S2 A2 B2 → mRel S2 A2 B2 → gl0 (eLW L xs) (mLaw nm hh) Q nx (cs + 4) (sl + 24) 2242 (lvL i) [] A2 B2 D2) : gl0 (eLW L xs) (mLaw nm hh) Q nx cs sl 1407 (lvL i) [] A B D := by
  refine yi_aload_n dL_law_1407 rfl rfl ?_
  refine yi_aload_n dL_law_1408 rfl rfl ?_
  refine yi_iload dL_law_1409 rfl ?_
  refine yi_iconst dL_law_1411 (v := 1) rfl ?_
  refine yi_iadd dL_law_1412 ?_
  refine yi_sld dL_law_1413 (by decide) hi.1 ?_
  refine yi_aload_n dL_law_1414 rfl rfl ?_
  refine yi_iload dL_law_1415 rfl ?_
  refine yi_iconst dL_law_1417 (v := 2) rfl ?_
  refine yi_iadd dL_law_1418 ?_
  refine yi_sld dL_law_1419 (by decide) hi.2.1 ?_
  refine yi_aload_n dL_law_1420 rfl rfl ?_
  refine yi_callW (M2 := mL_component) (av := [.ref 0, .int (xs (i + 1).toNatClampNeg), .int (xs (i + 2).toNatClampNeg), .ref 95]) (st := []) dL_law_1421 lW_component rfl rfl ⟨Nat.le_of_ble_eq_true rfl, Nat.le_of_ble_eq_true rfl⟩ ⟨Nat.le_of_ble_eq_true rfl, Nat.le_of_ble_eq_true rfl⟩ hcs (Nat.le_of_ble_eq_true rfl) (L_component h1 hS) ?_
  intro r A1 B1 D1 hw
  obtain ⟨k, rfl, rfl, hm1, hk⟩ := bothI hS (fun _ _ => hS) h2 hw
  refine yi_istore dL_law_1424 (Nat.le_of_ble_eq_true rfl) ?_
  refine yi_aload_n dL_law_1426 rfl rfl ?_
  refine yi_aload_n dL_law_1427 rfl rfl ?_
  refine yi_iload dL_law_1428 rfl ?_
  refine yi_iconst dL_law_1430 (v := 1) rfl ?_
  refine yi_iadd dL_law_1431 ?_
  refine yi_sld dL_law_1432 (by decide) hi.1 ?_
  refine yi_aload_n dL_law_1433 rfl rfl ?_
  refine yi_iload dL_law_1434 rfl ?_
  refine yi_iconst dL_law_1436 (v := 2) rfl ?_
  refine yi_iadd dL_law_1437 ?_
  refine yi_sld dL_law_1438 (by decide) hi.2.1 ?_
  refine ycV (M2 := mX8_component) (kr := 76) (ci := 8) (av := [.int (xs (i + 1).toNatClampNeg), .int (xs (i + 2).toNatClampNeg)]) (st := []) dL_law_1439 lL_202 rfl ⟨rfl, rfl⟩ rfl ⟨Nat.le_of_ble_eq_true rfl, Nat.le_of_ble_eq_true rfl⟩ hcs (by decide) rfl rfl rfl (M_component hm1 hS) ?_
  intro r2 A2 B2 D2 hq
  obtain ⟨rfl, w, rfl, ht, ⟨S2, s1, s2, s3⟩, hv⟩ := hk _ _ _ _ hq
  refine yi_istore dL_law_1442 (Nat.le_of_ble_eq_true rfl) ?_
  refine yi_aload_n dL_law_1444 rfl rfl ?_
  refine ycV1 (M2 := mX8_thrown) (kr := 76) (ci := 8) (av := []) (st := []) dL_law_1445 lL_116 rfl ⟨rfl, rfl⟩ rfl ⟨Nat.le_of_ble_eq_true rfl, Nat.le_of_ble_eq_true rfl⟩ hcs (by decide) rfl rfl rfl m_thrown ?_
  rw [ht]
  refine yi_iload dL_law_1448 rfl ?_
  refine yi_icmp_eq (tgt := 1455) dL_law_1450 rfl (fun _ => ?_) (fun z => absurd rfl z)
  refine yi_iload dL_law_1455 rfl ?_
  have hend : ∀ w0 D3, gl0 (eLW L xs) (mLaw nm hh) Q nx (cs + 4) (sl + 24) 1472 (xst1 7 (.int w0) (xst1 6 (.int k) (lvL i))) [] A2 B2 D3 := fun w0 D3 => yi_goto (tgt := 2242) dL_law_1472 rfl (by exact ygo_pick [0, 1, 2, 3, 4, 5] rfl (K S2 _ _ _ s1 s2 s3))
  refine yi_ifne (tgt := 1472) dL_law_1457 rfl (fun z => hend w _) (fun z => ?_)
  obtain ⟨rfl, hb⟩ := hv z
  refine yi_aload_n dL_law_1460 rfl rfl ?_
  refine yi_iconst dL_law_1461 (v := 0) rfl ?_
  refine yla (kk := 95) (nn := 1) (j := 0) dL_law_1462 rfl rfl rfl (by decide) (by decide) ?_
  refine yi_iload dL_law_1463 rfl ?_
  refine yi_i2l dL_law_1465 ?_
  exact yi_lcmpeq (tgt := 1472) dL_law_1466 dL_law_1467 rfl (fun _ => hend _ _) (fun q => absurd hb q)
theorem lc_meet (hi : vp_in (i + 1) L ∧ vp_in (i + 2) L ∧ vp_in (i + 3) L ∧ vp_in (i + 4) L) (hcs : cs + 4 ≤ (mO (mLaw nm hh)).cells ∧ sl + 24 ≤ (mO (mLaw nm hh)).slots) (hS : S.ok) (h1 : cRel S A B) (h2 : mRel S A B) (K : ∀ (S2 : abs) A2 B2 D2, S2.ok → cRel S2 A2 B2 → mRel S2 A2 B2 → gl0 (eLW L xs) (mLaw nm hh) Q nx (cs + 4) (sl + 24) 2242 (lvL i) [] A2 B2 D2) : gl0 (eLW L xs) (mLaw nm hh) Q nx cs sl 1475 (lvL i) [] A B D := by
  refine yi_aload_n dL_law_1475 rfl rfl ?_
  refine yi_aload_n dL_law_1476 rfl rfl ?_
  refine yi_iload dL_law_1477 rfl ?_
  refine yi_iconst dL_law_1479 (v := 1) rfl ?_
  refine yi_iadd dL_law_1480 ?_
  refine yi_sld dL_law_1481 (by decide) hi.1 ?_
  refine yi_aload_n dL_law_1482 rfl rfl ?_
  refine yi_iload dL_law_1483 rfl ?_
  refine yi_iconst dL_law_1485 (v := 2) rfl ?_
  refine yi_iadd dL_law_1486 ?_
  refine yi_sld dL_law_1487 (by decide) hi.2.1 ?_
  refine yi_aload_n dL_law_1488 rfl rfl ?_
  refine yi_callW (M2 := mL_meet) (av := [.ref 0, .int (xs (i + 1).toNatClampNeg), .int (xs (i + 2).toNatClampNeg), .ref 95]) (st := []) dL_law_1489 lW_meet rfl rfl ⟨Nat.le_of_ble_eq_true rfl, Nat.le_of_ble_eq_true rfl⟩ ⟨Nat.le_of_ble_eq_true rfl, Nat.le_of_ble_eq_true rfl⟩ hcs (Nat.le_of_ble_eq_true rfl) (L_meet h1 hS) ?_
  intro r A1 B1 D1 hw
  obtain ⟨k, rfl, rfl, hm1, hk⟩ := bothI hS (fun _ _ => hS) h2 hw
  refine yi_istore dL_law_1492 (Nat.le_of_ble_eq_true rfl) ?_
  refine yi_aload_n dL_law_1494 rfl rfl ?_
  refine yi_aload_n dL_law_1495 rfl rfl ?_
  refine yi_iload dL_law_1496 rfl ?_
  refine yi_iconst dL_law_1498 (v := 1) rfl ?_
  refine yi_iadd dL_law_1499 ?_
  refine yi_sld dL_law_1500 (by decide) hi.1 ?_
  refine yi_aload_n dL_law_1501 rfl rfl ?_
  refine yi_iload dL_law_1502 rfl ?_
  refine yi_iconst dL_law_1504 (v := 2) rfl ?_
  refine yi_iadd dL_law_1505 ?_
  refine yi_sld dL_law_1506 (by decide) hi.2.1 ?_
  refine ycV (M2 := mX8_meet) (kr := 76) (ci := 8) (av := [.int (xs (i + 1).toNatClampNeg), .int (xs (i + 2).toNatClampNeg)]) (st := []) dL_law_1507 lL_205 rfl ⟨rfl, rfl⟩ rfl ⟨Nat.le_of_ble_eq_true rfl, Nat.le_of_ble_eq_true rfl⟩ hcs (by decide) rfl rfl rfl (M_meet hm1 hS) ?_
  intro r2 A2 B2 D2 hq
  obtain ⟨rfl, w, rfl, ht, ⟨S2, s1, s2, s3⟩, hv⟩ := hk _ _ _ _ hq
  refine yi_istore dL_law_1510 (Nat.le_of_ble_eq_true rfl) ?_
  refine yi_aload_n dL_law_1512 rfl rfl ?_
  refine ycV1 (M2 := mX8_thrown) (kr := 76) (ci := 8) (av := []) (st := []) dL_law_1513 lL_116 rfl ⟨rfl, rfl⟩ rfl ⟨Nat.le_of_ble_eq_true rfl, Nat.le_of_ble_eq_true rfl⟩ hcs (by decide) rfl rfl rfl m_thrown ?_
  rw [ht]
  refine yi_iload dL_law_1516 rfl ?_
  refine yi_icmp_eq (tgt := 1523) dL_law_1518 rfl (fun _ => ?_) (fun z => absurd rfl z)
  refine yi_iload dL_law_1523 rfl ?_
  have hend : ∀ w0 D3, gl0 (eLW L xs) (mLaw nm hh) Q nx (cs + 4) (sl + 24) 1540 (xst1 7 (.int w0) (xst1 6 (.int k) (lvL i))) [] A2 B2 D3 := fun w0 D3 => yi_goto (tgt := 2242) dL_law_1540 rfl (by exact ygo_pick [0, 1, 2, 3, 4, 5] rfl (K S2 _ _ _ s1 s2 s3))
  refine yi_ifne (tgt := 1540) dL_law_1525 rfl (fun z => hend w _) (fun z => ?_)
  obtain ⟨rfl, hb⟩ := hv z
  refine yi_aload_n dL_law_1528 rfl rfl ?_
  refine yi_iconst dL_law_1529 (v := 0) rfl ?_
  refine yla (kk := 95) (nn := 1) (j := 0) dL_law_1530 rfl rfl rfl (by decide) (by decide) ?_
  refine yi_iload dL_law_1531 rfl ?_
  refine yi_i2l dL_law_1533 ?_
  exact yi_lcmpeq (tgt := 1540) dL_law_1534 dL_law_1535 rfl (fun _ => hend _ _) (fun q => absurd hb q)
theorem lc_distance (hi : vp_in (i + 1) L ∧ vp_in (i + 2) L ∧ vp_in (i + 3) L ∧ vp_in (i + 4) L) (hcs : cs + 4 ≤ (mO (mLaw nm hh)).cells ∧ sl + 24 ≤ (mO (mLaw nm hh)).slots) (hS : S.ok) (h1 : cRel S A B) (h2 : mRel S A B) (K : ∀ (S2 : abs) A2 B2 D2, S2.ok → cRel S2 A2 B2 → mRel S2 A2 B2 → gl0 (eLW L xs) (mLaw nm hh) Q nx (cs + 4) (sl + 24) 2242 (lvL i) [] A2 B2 D2) : gl0 (eLW L xs) (mLaw nm hh) Q nx cs sl 1543 (lvL i) [] A B D := by
  refine yi_aload_n dL_law_1543 rfl rfl ?_
  refine yi_aload_n dL_law_1544 rfl rfl ?_
  refine yi_iload dL_law_1545 rfl ?_
  refine yi_iconst dL_law_1547 (v := 1) rfl ?_
  refine yi_iadd dL_law_1548 ?_
  refine yi_sld dL_law_1549 (by decide) hi.1 ?_
  refine yi_aload_n dL_law_1550 rfl rfl ?_
  refine yi_iload dL_law_1551 rfl ?_
  refine yi_iconst dL_law_1553 (v := 2) rfl ?_
  refine yi_iadd dL_law_1554 ?_
  refine yi_sld dL_law_1555 (by decide) hi.2.1 ?_
  refine yi_aload_n dL_law_1556 rfl rfl ?_
  refine yi_callW (M2 := mL_distance) (av := [.ref 0, .int (xs (i + 1).toNatClampNeg), .int (xs (i + 2).toNatClampNeg), .ref 95]) (st := []) dL_law_1557 lW_distance rfl rfl ⟨Nat.le_of_ble_eq_true rfl, Nat.le_of_ble_eq_true rfl⟩ ⟨Nat.le_of_ble_eq_true rfl, Nat.le_of_ble_eq_true rfl⟩ hcs (Nat.le_of_ble_eq_true rfl) (L_distance h1 hS) ?_
  intro r A1 B1 D1 hw
  obtain ⟨k, rfl, rfl, hm1, hk⟩ := bothI hS (fun _ _ => hS) h2 hw
  refine yi_istore dL_law_1560 (Nat.le_of_ble_eq_true rfl) ?_
  refine yi_aload_n dL_law_1562 rfl rfl ?_
  refine yi_aload_n dL_law_1563 rfl rfl ?_
  refine yi_iload dL_law_1564 rfl ?_
  refine yi_iconst dL_law_1566 (v := 1) rfl ?_
  refine yi_iadd dL_law_1567 ?_
  refine yi_sld dL_law_1568 (by decide) hi.1 ?_
  refine yi_aload_n dL_law_1569 rfl rfl ?_
  refine yi_iload dL_law_1570 rfl ?_
  refine yi_iconst dL_law_1572 (v := 2) rfl ?_
  refine yi_iadd dL_law_1573 ?_
  refine yi_sld dL_law_1574 (by decide) hi.2.1 ?_
  refine ycV (M2 := mX8_distance) (kr := 76) (ci := 8) (av := [.int (xs (i + 1).toNatClampNeg), .int (xs (i + 2).toNatClampNeg)]) (st := []) dL_law_1575 lL_208 rfl ⟨rfl, rfl⟩ rfl ⟨Nat.le_of_ble_eq_true rfl, Nat.le_of_ble_eq_true rfl⟩ hcs (by decide) rfl rfl rfl (M_distance hm1 hS) ?_
  intro r2 A2 B2 D2 hq
  obtain ⟨rfl, w, rfl, ht, ⟨S2, s1, s2, s3⟩, hv⟩ := hk _ _ _ _ hq
  refine yi_istore dL_law_1578 (Nat.le_of_ble_eq_true rfl) ?_
  refine yi_aload_n dL_law_1580 rfl rfl ?_
  refine ycV1 (M2 := mX8_thrown) (kr := 76) (ci := 8) (av := []) (st := []) dL_law_1581 lL_116 rfl ⟨rfl, rfl⟩ rfl ⟨Nat.le_of_ble_eq_true rfl, Nat.le_of_ble_eq_true rfl⟩ hcs (by decide) rfl rfl rfl m_thrown ?_
  rw [ht]
  refine yi_iload dL_law_1584 rfl ?_
  refine yi_icmp_eq (tgt := 1591) dL_law_1586 rfl (fun _ => ?_) (fun z => absurd rfl z)
  refine yi_iload dL_law_1591 rfl ?_
  have hend : ∀ w0 D3, gl0 (eLW L xs) (mLaw nm hh) Q nx (cs + 4) (sl + 24) 1608 (xst1 7 (.int w0) (xst1 6 (.int k) (lvL i))) [] A2 B2 D3 := fun w0 D3 => yi_goto (tgt := 2242) dL_law_1608 rfl (by exact ygo_pick [0, 1, 2, 3, 4, 5] rfl (K S2 _ _ _ s1 s2 s3))
  refine yi_ifne (tgt := 1608) dL_law_1593 rfl (fun z => hend w _) (fun z => ?_)
  obtain ⟨rfl, hb⟩ := hv z
  refine yi_aload_n dL_law_1596 rfl rfl ?_
  refine yi_iconst dL_law_1597 (v := 0) rfl ?_
  refine yla (kk := 95) (nn := 1) (j := 0) dL_law_1598 rfl rfl rfl (by decide) (by decide) ?_
  refine yi_iload dL_law_1599 rfl ?_
  refine yi_i2l dL_law_1601 ?_
  exact yi_lcmpeq (tgt := 1608) dL_law_1602 dL_law_1603 rfl (fun _ => hend _ _) (fun q => absurd hb q)
theorem lc_verdict (hi : vp_in (i + 1) L ∧ vp_in (i + 2) L ∧ vp_in (i + 3) L ∧ vp_in (i + 4) L) (hcs : cs + 4 ≤ (mO (mLaw nm hh)).cells ∧ sl + 24 ≤ (mO (mLaw nm hh)).slots) (hS : S.ok) (h1 : cRel S A B) (h2 : mRel S A B) (K : ∀ (S2 : abs) A2 B2 D2, S2.ok → cRel S2 A2 B2 → mRel S2 A2 B2 → gl0 (eLW L xs) (mLaw nm hh) Q nx (cs + 4) (sl + 24) 2242 (lvL i) [] A2 B2 D2) : gl0 (eLW L xs) (mLaw nm hh) Q nx cs sl 1611 (lvL i) [] A B D := by
  refine yi_aload_n dL_law_1611 rfl rfl ?_
  refine yi_aload_n dL_law_1612 rfl rfl ?_
  refine yi_iload dL_law_1613 rfl ?_
  refine yi_iconst dL_law_1615 (v := 1) rfl ?_
  refine yi_iadd dL_law_1616 ?_
  refine yi_sld dL_law_1617 (by decide) hi.1 ?_
  refine yi_aload_n dL_law_1618 rfl rfl ?_
  refine yi_iload dL_law_1619 rfl ?_
  refine yi_iconst dL_law_1621 (v := 2) rfl ?_
  refine yi_iadd dL_law_1622 ?_
  refine yi_sld dL_law_1623 (by decide) hi.2.1 ?_
  refine yi_aload_n dL_law_1624 rfl rfl ?_
  refine yi_iload dL_law_1625 rfl ?_
  refine yi_iconst dL_law_1627 (v := 3) rfl ?_
  refine yi_iadd dL_law_1628 ?_
  refine yi_sld dL_law_1629 (by decide) hi.2.2.1 ?_
  refine yi_aload_n dL_law_1630 rfl rfl ?_
  refine yi_iload dL_law_1631 rfl ?_
  refine yi_iconst dL_law_1633 (v := 4) rfl ?_
  refine yi_iadd dL_law_1634 ?_
  refine yi_sld dL_law_1635 (by decide) hi.2.2.2 ?_
  refine yi_aload_n dL_law_1636 rfl rfl ?_
  refine yi_callW (M2 := mL_verdict) (av := [.ref 0, .int (xs (i + 1).toNatClampNeg), .int (xs (i + 2).toNatClampNeg), .int (xs (i + 3).toNatClampNeg), .int (xs (i + 4).toNatClampNeg), .ref 95]) (st := []) dL_law_1637 lW_verdict rfl rfl ⟨Nat.le_of_ble_eq_true rfl, Nat.le_of_ble_eq_true rfl⟩ ⟨Nat.le_of_ble_eq_true rfl, Nat.le_of_ble_eq_true rfl⟩ hcs (Nat.le_of_ble_eq_true rfl) (L_verdict h1 hS) ?_
  intro r A1 B1 D1 hw
  obtain ⟨k, rfl, rfl, hm1, hk⟩ := bothI hS (fun _ _ => hS) h2 hw
  refine yi_istore dL_law_1640 (Nat.le_of_ble_eq_true rfl) ?_
  refine yi_aload_n dL_law_1642 rfl rfl ?_
  refine yi_aload_n dL_law_1643 rfl rfl ?_
  refine yi_iload dL_law_1644 rfl ?_
  refine yi_iconst dL_law_1646 (v := 1) rfl ?_
  refine yi_iadd dL_law_1647 ?_
  refine yi_sld dL_law_1648 (by decide) hi.1 ?_
  refine yi_aload_n dL_law_1649 rfl rfl ?_
  refine yi_iload dL_law_1650 rfl ?_
  refine yi_iconst dL_law_1652 (v := 2) rfl ?_
  refine yi_iadd dL_law_1653 ?_
  refine yi_sld dL_law_1654 (by decide) hi.2.1 ?_
  refine yi_aload_n dL_law_1655 rfl rfl ?_
  refine yi_iload dL_law_1656 rfl ?_
  refine yi_iconst dL_law_1658 (v := 3) rfl ?_
  refine yi_iadd dL_law_1659 ?_
  refine yi_sld dL_law_1660 (by decide) hi.2.2.1 ?_
  refine yi_aload_n dL_law_1661 rfl rfl ?_
  refine yi_iload dL_law_1662 rfl ?_
  refine yi_iconst dL_law_1664 (v := 4) rfl ?_
  refine yi_iadd dL_law_1665 ?_
  refine yi_sld dL_law_1666 (by decide) hi.2.2.2 ?_
  refine ycV (M2 := mX8_verdict) (kr := 76) (ci := 8) (av := [.int (xs (i + 1).toNatClampNeg), .int (xs (i + 2).toNatClampNeg), .int (xs (i + 3).toNatClampNeg), .int (xs (i + 4).toNatClampNeg)]) (st := []) dL_law_1667 lL_212 rfl ⟨rfl, rfl⟩ rfl ⟨Nat.le_of_ble_eq_true rfl, Nat.le_of_ble_eq_true rfl⟩ hcs (by decide) rfl rfl rfl (M_verdict hm1 hS) ?_
  intro r2 A2 B2 D2 hq
  obtain ⟨rfl, w, rfl, ht, ⟨S2, s1, s2, s3⟩, hv⟩ := hk _ _ _ _ hq
  refine yi_istore dL_law_1670 (Nat.le_of_ble_eq_true rfl) ?_
  refine yi_aload_n dL_law_1672 rfl rfl ?_
  refine ycV1 (M2 := mX8_thrown) (kr := 76) (ci := 8) (av := []) (st := []) dL_law_1673 lL_116 rfl ⟨rfl, rfl⟩ rfl ⟨Nat.le_of_ble_eq_true rfl, Nat.le_of_ble_eq_true rfl⟩ hcs (by decide) rfl rfl rfl m_thrown ?_
  rw [ht]
  refine yi_iload dL_law_1676 rfl ?_
  refine yi_icmp_eq (tgt := 1683) dL_law_1678 rfl (fun _ => ?_) (fun z => absurd rfl z)
  refine yi_iload dL_law_1683 rfl ?_
  have hend : ∀ w0 D3, gl0 (eLW L xs) (mLaw nm hh) Q nx (cs + 4) (sl + 24) 1700 (xst1 7 (.int w0) (xst1 6 (.int k) (lvL i))) [] A2 B2 D3 := fun w0 D3 => yi_goto (tgt := 2242) dL_law_1700 rfl (by exact ygo_pick [0, 1, 2, 3, 4, 5] rfl (K S2 _ _ _ s1 s2 s3))
  refine yi_ifne (tgt := 1700) dL_law_1685 rfl (fun z => hend w _) (fun z => ?_)
  obtain ⟨rfl, hb⟩ := hv z
  refine yi_aload_n dL_law_1688 rfl rfl ?_
  refine yi_iconst dL_law_1689 (v := 0) rfl ?_
  refine yla (kk := 95) (nn := 1) (j := 0) dL_law_1690 rfl rfl rfl (by decide) (by decide) ?_
  refine yi_iload dL_law_1691 rfl ?_
  refine yi_i2l dL_law_1693 ?_
  exact yi_lcmpeq (tgt := 1700) dL_law_1694 dL_law_1695 rfl (fun _ => hend _ _) (fun q => absurd hb q)
theorem lc_filtered (hi : vp_in (i + 1) L ∧ vp_in (i + 2) L ∧ vp_in (i + 3) L ∧ vp_in (i + 4) L) (hcs : cs + 4 ≤ (mO (mLaw nm hh)).cells ∧ sl + 24 ≤ (mO (mLaw nm hh)).slots) (hS : S.ok) (h1 : cRel S A B) (h2 : mRel S A B) (K : ∀ (S2 : abs) A2 B2 D2, S2.ok → cRel S2 A2 B2 → mRel S2 A2 B2 → gl0 (eLW L xs) (mLaw nm hh) Q nx (cs + 4) (sl + 24) 2242 (lvL i) [] A2 B2 D2) : gl0 (eLW L xs) (mLaw nm hh) Q nx cs sl 1703 (lvL i) [] A B D := by
  refine yi_aload_n dL_law_1703 rfl rfl ?_
  refine yi_aload_n dL_law_1704 rfl rfl ?_
  refine yi_iload dL_law_1705 rfl ?_
  refine yi_iconst dL_law_1707 (v := 1) rfl ?_
  refine yi_iadd dL_law_1708 ?_
  refine yi_sld dL_law_1709 (by decide) hi.1 ?_
  refine yi_aload_n dL_law_1710 rfl rfl ?_
  refine yi_iload dL_law_1711 rfl ?_
  refine yi_iconst dL_law_1713 (v := 2) rfl ?_
  refine yi_iadd dL_law_1714 ?_
  refine yi_sld dL_law_1715 (by decide) hi.2.1 ?_
  refine yi_aload_n dL_law_1716 rfl rfl ?_
  refine yi_iload dL_law_1717 rfl ?_
  refine yi_iconst dL_law_1719 (v := 3) rfl ?_
  refine yi_iadd dL_law_1720 ?_
  refine yi_sld dL_law_1721 (by decide) hi.2.2.1 ?_
  refine yi_aload_n dL_law_1722 rfl rfl ?_
  refine yi_iload dL_law_1723 rfl ?_
  refine yi_iconst dL_law_1725 (v := 4) rfl ?_
  refine yi_iadd dL_law_1726 ?_
  refine yi_sld dL_law_1727 (by decide) hi.2.2.2 ?_
  refine yi_aload_n dL_law_1728 rfl rfl ?_
  refine yi_callW (M2 := mL_filtered) (av := [.ref 0, .int (xs (i + 1).toNatClampNeg), .int (xs (i + 2).toNatClampNeg), .int (xs (i + 3).toNatClampNeg), .int (xs (i + 4).toNatClampNeg), .ref 95]) (st := []) dL_law_1729 lW_filtered rfl rfl ⟨Nat.le_of_ble_eq_true rfl, Nat.le_of_ble_eq_true rfl⟩ ⟨Nat.le_of_ble_eq_true rfl, Nat.le_of_ble_eq_true rfl⟩ hcs (Nat.le_of_ble_eq_true rfl) (L_filtered h1 hS) ?_
  intro r A1 B1 D1 hw
  obtain ⟨k, rfl, rfl, hm1, hk⟩ := bothI hS (fun _ _ => hS) h2 hw
  refine yi_istore dL_law_1732 (Nat.le_of_ble_eq_true rfl) ?_
  refine yi_aload_n dL_law_1734 rfl rfl ?_
  refine yi_aload_n dL_law_1735 rfl rfl ?_
  refine yi_iload dL_law_1736 rfl ?_
  refine yi_iconst dL_law_1738 (v := 1) rfl ?_
  refine yi_iadd dL_law_1739 ?_
  refine yi_sld dL_law_1740 (by decide) hi.1 ?_
  refine yi_aload_n dL_law_1741 rfl rfl ?_
  refine yi_iload dL_law_1742 rfl ?_
  refine yi_iconst dL_law_1744 (v := 2) rfl ?_
  refine yi_iadd dL_law_1745 ?_
  refine yi_sld dL_law_1746 (by decide) hi.2.1 ?_
  refine yi_aload_n dL_law_1747 rfl rfl ?_
  refine yi_iload dL_law_1748 rfl ?_
  refine yi_iconst dL_law_1750 (v := 3) rfl ?_
  refine yi_iadd dL_law_1751 ?_
  refine yi_sld dL_law_1752 (by decide) hi.2.2.1 ?_
  refine yi_aload_n dL_law_1753 rfl rfl ?_
  refine yi_iload dL_law_1754 rfl ?_
  refine yi_iconst dL_law_1756 (v := 4) rfl ?_
  refine yi_iadd dL_law_1757 ?_
  refine yi_sld dL_law_1758 (by decide) hi.2.2.2 ?_
  refine ycV (M2 := mX8_filtered) (kr := 76) (ci := 8) (av := [.int (xs (i + 1).toNatClampNeg), .int (xs (i + 2).toNatClampNeg), .int (xs (i + 3).toNatClampNeg), .int (xs (i + 4).toNatClampNeg)]) (st := []) dL_law_1759 lL_215 rfl ⟨rfl, rfl⟩ rfl ⟨Nat.le_of_ble_eq_true rfl, Nat.le_of_ble_eq_true rfl⟩ hcs (by decide) rfl rfl rfl (M_filtered hm1 hS) ?_
  intro r2 A2 B2 D2 hq
  obtain ⟨rfl, w, rfl, ht, ⟨S2, s1, s2, s3⟩, hv⟩ := hk _ _ _ _ hq
  refine yi_istore dL_law_1762 (Nat.le_of_ble_eq_true rfl) ?_
  refine yi_aload_n dL_law_1764 rfl rfl ?_
  refine ycV1 (M2 := mX8_thrown) (kr := 76) (ci := 8) (av := []) (st := []) dL_law_1765 lL_116 rfl ⟨rfl, rfl⟩ rfl ⟨Nat.le_of_ble_eq_true rfl, Nat.le_of_ble_eq_true rfl⟩ hcs (by decide) rfl rfl rfl m_thrown ?_
  rw [ht]
  refine yi_iload dL_law_1768 rfl ?_
  refine yi_icmp_eq (tgt := 1775) dL_law_1770 rfl (fun _ => ?_) (fun z => absurd rfl z)
  refine yi_iload dL_law_1775 rfl ?_
  have hend : ∀ w0 D3, gl0 (eLW L xs) (mLaw nm hh) Q nx (cs + 4) (sl + 24) 1792 (xst1 7 (.int w0) (xst1 6 (.int k) (lvL i))) [] A2 B2 D3 := fun w0 D3 => yi_goto (tgt := 2242) dL_law_1792 rfl (by exact ygo_pick [0, 1, 2, 3, 4, 5] rfl (K S2 _ _ _ s1 s2 s3))
  refine yi_ifne (tgt := 1792) dL_law_1777 rfl (fun z => hend w _) (fun z => ?_)
  obtain ⟨rfl, hb⟩ := hv z
  refine yi_aload_n dL_law_1780 rfl rfl ?_
  refine yi_iconst dL_law_1781 (v := 0) rfl ?_
  refine yla (kk := 95) (nn := 1) (j := 0) dL_law_1782 rfl rfl rfl (by decide) (by decide) ?_
  refine yi_iload dL_law_1783 rfl ?_
  refine yi_i2l dL_law_1785 ?_
  exact yi_lcmpeq (tgt := 1792) dL_law_1786 dL_law_1787 rfl (fun _ => hend _ _) (fun q => absurd hb q)
theorem lc_loss (hi : vp_in (i + 1) L ∧ vp_in (i + 2) L ∧ vp_in (i + 3) L ∧ vp_in (i + 4) L) (hcs : cs + 4 ≤ (mO (mLaw nm hh)).cells ∧ sl + 24 ≤ (mO (mLaw nm hh)).slots) (hS : S.ok) (h1 : cRel S A B) (h2 : mRel S A B) (K : ∀ (S2 : abs) A2 B2 D2, S2.ok → cRel S2 A2 B2 → mRel S2 A2 B2 → gl0 (eLW L xs) (mLaw nm hh) Q nx (cs + 4) (sl + 24) 2242 (lvL i) [] A2 B2 D2) : gl0 (eLW L xs) (mLaw nm hh) Q nx cs sl 1795 (lvL i) [] A B D := by
  refine yi_aload_n dL_law_1795 rfl rfl ?_
  refine yi_aload_n dL_law_1796 rfl rfl ?_
  refine yi_iload dL_law_1797 rfl ?_
  refine yi_iconst dL_law_1799 (v := 1) rfl ?_
  refine yi_iadd dL_law_1800 ?_
  refine yi_sld dL_law_1801 (by decide) hi.1 ?_
  refine yi_aload_n dL_law_1802 rfl rfl ?_
  refine yi_iload dL_law_1803 rfl ?_
  refine yi_iconst dL_law_1805 (v := 2) rfl ?_
  refine yi_iadd dL_law_1806 ?_
  refine yi_sld dL_law_1807 (by decide) hi.2.1 ?_
  refine yi_aload_n dL_law_1808 rfl rfl ?_
  refine yi_iload dL_law_1809 rfl ?_
  refine yi_iconst dL_law_1811 (v := 3) rfl ?_
  refine yi_iadd dL_law_1812 ?_
  refine yi_sld dL_law_1813 (by decide) hi.2.2.1 ?_
  refine yi_aload_n dL_law_1814 rfl rfl ?_
  refine yi_callW (M2 := mL_loss) (av := [.ref 0, .int (xs (i + 1).toNatClampNeg), .int (xs (i + 2).toNatClampNeg), .int (xs (i + 3).toNatClampNeg), .ref 95]) (st := []) dL_law_1815 lW_loss rfl rfl ⟨Nat.le_of_ble_eq_true rfl, Nat.le_of_ble_eq_true rfl⟩ ⟨Nat.le_of_ble_eq_true rfl, Nat.le_of_ble_eq_true rfl⟩ hcs (Nat.le_of_ble_eq_true rfl) (L_loss h1 hS) ?_
  intro r A1 B1 D1 hw
  obtain ⟨k, rfl, rfl, hm1, hk⟩ := bothI hS (fun _ _ => hS) h2 hw
  refine yi_istore dL_law_1818 (Nat.le_of_ble_eq_true rfl) ?_
  refine yi_aload_n dL_law_1820 rfl rfl ?_
  refine yi_aload_n dL_law_1821 rfl rfl ?_
  refine yi_iload dL_law_1822 rfl ?_
  refine yi_iconst dL_law_1824 (v := 1) rfl ?_
  refine yi_iadd dL_law_1825 ?_
  refine yi_sld dL_law_1826 (by decide) hi.1 ?_
  refine yi_aload_n dL_law_1827 rfl rfl ?_
  refine yi_iload dL_law_1828 rfl ?_
  refine yi_iconst dL_law_1830 (v := 2) rfl ?_
  refine yi_iadd dL_law_1831 ?_
  refine yi_sld dL_law_1832 (by decide) hi.2.1 ?_
  refine yi_aload_n dL_law_1833 rfl rfl ?_
  refine yi_iload dL_law_1834 rfl ?_
  refine yi_iconst dL_law_1836 (v := 3) rfl ?_
  refine yi_iadd dL_law_1837 ?_
  refine yi_sld dL_law_1838 (by decide) hi.2.2.1 ?_
  refine ycV (M2 := mX8_loss) (kr := 76) (ci := 8) (av := [.int (xs (i + 1).toNatClampNeg), .int (xs (i + 2).toNatClampNeg), .int (xs (i + 3).toNatClampNeg)]) (st := []) dL_law_1839 lL_218 rfl ⟨rfl, rfl⟩ rfl ⟨Nat.le_of_ble_eq_true rfl, Nat.le_of_ble_eq_true rfl⟩ hcs (by decide) rfl rfl rfl (M_loss hm1 hS) ?_
  intro r2 A2 B2 D2 hq
  obtain ⟨rfl, w, rfl, ht, ⟨S2, s1, s2, s3⟩, hv⟩ := hk _ _ _ _ hq
  refine yi_istore dL_law_1842 (Nat.le_of_ble_eq_true rfl) ?_
  refine yi_aload_n dL_law_1844 rfl rfl ?_
  refine ycV1 (M2 := mX8_thrown) (kr := 76) (ci := 8) (av := []) (st := []) dL_law_1845 lL_116 rfl ⟨rfl, rfl⟩ rfl ⟨Nat.le_of_ble_eq_true rfl, Nat.le_of_ble_eq_true rfl⟩ hcs (by decide) rfl rfl rfl m_thrown ?_
  rw [ht]
  refine yi_iload dL_law_1848 rfl ?_
  refine yi_icmp_eq (tgt := 1855) dL_law_1850 rfl (fun _ => ?_) (fun z => absurd rfl z)
  refine yi_iload dL_law_1855 rfl ?_
  have hend : ∀ w0 D3, gl0 (eLW L xs) (mLaw nm hh) Q nx (cs + 4) (sl + 24) 1872 (xst1 7 (.int w0) (xst1 6 (.int k) (lvL i))) [] A2 B2 D3 := fun w0 D3 => yi_goto (tgt := 2242) dL_law_1872 rfl (by exact ygo_pick [0, 1, 2, 3, 4, 5] rfl (K S2 _ _ _ s1 s2 s3))
  refine yi_ifne (tgt := 1872) dL_law_1857 rfl (fun z => hend w _) (fun z => ?_)
  obtain ⟨rfl, hb⟩ := hv z
  refine yi_aload_n dL_law_1860 rfl rfl ?_
  refine yi_iconst dL_law_1861 (v := 0) rfl ?_
  refine yla (kk := 95) (nn := 1) (j := 0) dL_law_1862 rfl rfl rfl (by decide) (by decide) ?_
  refine yi_iload dL_law_1863 rfl ?_
  refine yi_i2l dL_law_1865 ?_
  exact yi_lcmpeq (tgt := 1872) dL_law_1866 dL_law_1867 rfl (fun _ => hend _ _) (fun q => absurd hb q)
theorem lc_filter (hi : vp_in (i + 1) L ∧ vp_in (i + 2) L ∧ vp_in (i + 3) L ∧ vp_in (i + 4) L) (hcs : cs + 4 ≤ (mO (mLaw nm hh)).cells ∧ sl + 24 ≤ (mO (mLaw nm hh)).slots) (hS : S.ok) (h1 : cRel S A B) (h2 : mRel S A B) (K : ∀ (S2 : abs) A2 B2 D2, S2.ok → cRel S2 A2 B2 → mRel S2 A2 B2 → gl0 (eLW L xs) (mLaw nm hh) Q nx (cs + 4) (sl + 24) 2242 (lvL i) [] A2 B2 D2) : gl0 (eLW L xs) (mLaw nm hh) Q nx cs sl 1875 (lvL i) [] A B D := by
  refine yi_aload_n dL_law_1875 rfl rfl ?_
  refine yi_aload_n dL_law_1876 rfl rfl ?_
  refine yi_iload dL_law_1877 rfl ?_
  refine yi_iconst dL_law_1879 (v := 1) rfl ?_
  refine yi_iadd dL_law_1880 ?_
  refine yi_sld dL_law_1881 (by decide) hi.1 ?_
  refine yi_aload_n dL_law_1882 rfl rfl ?_
  refine yi_iload dL_law_1883 rfl ?_
  refine yi_iconst dL_law_1885 (v := 2) rfl ?_
  refine yi_iadd dL_law_1886 ?_
  refine yi_sld dL_law_1887 (by decide) hi.2.1 ?_
  refine yi_aload_n dL_law_1888 rfl rfl ?_
  refine yi_iload dL_law_1889 rfl ?_
  refine yi_iconst dL_law_1891 (v := 3) rfl ?_
  refine yi_iadd dL_law_1892 ?_
  refine yi_sld dL_law_1893 (by decide) hi.2.2.1 ?_
  refine yi_aload_n dL_law_1894 rfl rfl ?_
  refine yi_callW (M2 := mL_filter) (av := [.ref 0, .int (xs (i + 1).toNatClampNeg), .int (xs (i + 2).toNatClampNeg), .int (xs (i + 3).toNatClampNeg), .ref 95]) (st := []) dL_law_1895 lW_filter rfl rfl ⟨Nat.le_of_ble_eq_true rfl, Nat.le_of_ble_eq_true rfl⟩ ⟨Nat.le_of_ble_eq_true rfl, Nat.le_of_ble_eq_true rfl⟩ hcs (Nat.le_of_ble_eq_true rfl) (L_filter h1 hS) ?_
  intro r A1 B1 D1 hw
  obtain ⟨k, rfl, rfl, hm1, hk⟩ := bothI hS (fun p1 p2 => abs.paint_ok hS (fun p hp => k_nr16 (abs.Xok hS) hp)) h2 hw
  refine yi_istore dL_law_1898 (Nat.le_of_ble_eq_true rfl) ?_
  refine yi_aload_n dL_law_1900 rfl rfl ?_
  refine yi_aload_n dL_law_1901 rfl rfl ?_
  refine yi_iload dL_law_1902 rfl ?_
  refine yi_iconst dL_law_1904 (v := 1) rfl ?_
  refine yi_iadd dL_law_1905 ?_
  refine yi_sld dL_law_1906 (by decide) hi.1 ?_
  refine yi_aload_n dL_law_1907 rfl rfl ?_
  refine yi_iload dL_law_1908 rfl ?_
  refine yi_iconst dL_law_1910 (v := 2) rfl ?_
  refine yi_iadd dL_law_1911 ?_
  refine yi_sld dL_law_1912 (by decide) hi.2.1 ?_
  refine yi_aload_n dL_law_1913 rfl rfl ?_
  refine yi_iload dL_law_1914 rfl ?_
  refine yi_iconst dL_law_1916 (v := 3) rfl ?_
  refine yi_iadd dL_law_1917 ?_
  refine yi_sld dL_law_1918 (by decide) hi.2.2.1 ?_
  refine ycV (M2 := mX8_filter) (kr := 76) (ci := 8) (av := [.int (xs (i + 1).toNatClampNeg), .int (xs (i + 2).toNatClampNeg), .int (xs (i + 3).toNatClampNeg)]) (st := []) dL_law_1919 lL_221 rfl ⟨rfl, rfl⟩ rfl ⟨Nat.le_of_ble_eq_true rfl, Nat.le_of_ble_eq_true rfl⟩ hcs (by decide) rfl rfl rfl (M_filter hm1 hS) ?_
  intro r2 A2 B2 D2 hq
  obtain ⟨rfl, w, rfl, ht, ⟨S2, s1, s2, s3⟩, hv⟩ := hk _ _ _ _ hq
  refine yi_istore dL_law_1922 (Nat.le_of_ble_eq_true rfl) ?_
  refine yi_aload_n dL_law_1924 rfl rfl ?_
  refine ycV1 (M2 := mX8_thrown) (kr := 76) (ci := 8) (av := []) (st := []) dL_law_1925 lL_116 rfl ⟨rfl, rfl⟩ rfl ⟨Nat.le_of_ble_eq_true rfl, Nat.le_of_ble_eq_true rfl⟩ hcs (by decide) rfl rfl rfl m_thrown ?_
  rw [ht]
  refine yi_iload dL_law_1928 rfl ?_
  refine yi_icmp_eq (tgt := 1935) dL_law_1930 rfl (fun _ => ?_) (fun z => absurd rfl z)
  refine yi_iload dL_law_1935 rfl ?_
  have hend : ∀ w0 D3, gl0 (eLW L xs) (mLaw nm hh) Q nx (cs + 4) (sl + 24) 1952 (xst1 7 (.int w0) (xst1 6 (.int k) (lvL i))) [] A2 B2 D3 := fun w0 D3 => yi_goto (tgt := 2242) dL_law_1952 rfl (by exact ygo_pick [0, 1, 2, 3, 4, 5] rfl (K S2 _ _ _ s1 s2 s3))
  refine yi_ifne (tgt := 1952) dL_law_1937 rfl (fun z => hend w _) (fun z => ?_)
  obtain ⟨rfl, hb⟩ := hv z
  refine yi_aload_n dL_law_1940 rfl rfl ?_
  refine yi_iconst dL_law_1941 (v := 0) rfl ?_
  refine yla (kk := 95) (nn := 1) (j := 0) dL_law_1942 rfl rfl rfl (by decide) (by decide) ?_
  refine yi_iload dL_law_1943 rfl ?_
  refine yi_i2l dL_law_1945 ?_
  exact yi_lcmpeq (tgt := 1952) dL_law_1946 dL_law_1947 rfl (fun _ => hend _ _) (fun q => absurd hb q)
theorem lc_threshold (hi : vp_in (i + 1) L ∧ vp_in (i + 2) L ∧ vp_in (i + 3) L ∧ vp_in (i + 4) L) (hcs : cs + 4 ≤ (mO (mLaw nm hh)).cells ∧ sl + 24 ≤ (mO (mLaw nm hh)).slots) (hS : S.ok) (h1 : cRel S A B) (h2 : mRel S A B) (K : ∀ (S2 : abs) A2 B2 D2, S2.ok → cRel S2 A2 B2 → mRel S2 A2 B2 → gl0 (eLW L xs) (mLaw nm hh) Q nx (cs + 4) (sl + 24) 2242 (lvL i) [] A2 B2 D2) : gl0 (eLW L xs) (mLaw nm hh) Q nx cs sl 1955 (lvL i) [] A B D := by
  refine yi_aload_n dL_law_1955 rfl rfl ?_
  refine yi_aload_n dL_law_1956 rfl rfl ?_
  refine yi_iload dL_law_1957 rfl ?_
  refine yi_iconst dL_law_1959 (v := 1) rfl ?_
  refine yi_iadd dL_law_1960 ?_
  refine yi_sld dL_law_1961 (by decide) hi.1 ?_
  refine yi_aload_n dL_law_1962 rfl rfl ?_
  refine yi_iload dL_law_1963 rfl ?_
  refine yi_iconst dL_law_1965 (v := 2) rfl ?_
  refine yi_iadd dL_law_1966 ?_
  refine yi_sld dL_law_1967 (by decide) hi.2.1 ?_
  refine yi_aload_n dL_law_1968 rfl rfl ?_
  refine yi_callW (M2 := mL_threshold) (av := [.ref 0, .int (xs (i + 1).toNatClampNeg), .int (xs (i + 2).toNatClampNeg), .ref 95]) (st := []) dL_law_1969 lW_threshold rfl rfl ⟨Nat.le_of_ble_eq_true rfl, Nat.le_of_ble_eq_true rfl⟩ ⟨Nat.le_of_ble_eq_true rfl, Nat.le_of_ble_eq_true rfl⟩ hcs (Nat.le_of_ble_eq_true rfl) (L_threshold h1 hS) ?_
  intro r A1 B1 D1 hw
  obtain ⟨k, rfl, rfl, hm1, hk⟩ := bothI hS (fun _ _ => hS) h2 hw
  refine yi_istore dL_law_1972 (Nat.le_of_ble_eq_true rfl) ?_
  refine yi_aload_n dL_law_1974 rfl rfl ?_
  refine yi_aload_n dL_law_1975 rfl rfl ?_
  refine yi_iload dL_law_1976 rfl ?_
  refine yi_iconst dL_law_1978 (v := 1) rfl ?_
  refine yi_iadd dL_law_1979 ?_
  refine yi_sld dL_law_1980 (by decide) hi.1 ?_
  refine yi_aload_n dL_law_1981 rfl rfl ?_
  refine yi_iload dL_law_1982 rfl ?_
  refine yi_iconst dL_law_1984 (v := 2) rfl ?_
  refine yi_iadd dL_law_1985 ?_
  refine yi_sld dL_law_1986 (by decide) hi.2.1 ?_
  refine ycV (M2 := mX8_threshold) (kr := 76) (ci := 8) (av := [.int (xs (i + 1).toNatClampNeg), .int (xs (i + 2).toNatClampNeg)]) (st := []) dL_law_1987 lL_224 rfl ⟨rfl, rfl⟩ rfl ⟨Nat.le_of_ble_eq_true rfl, Nat.le_of_ble_eq_true rfl⟩ hcs (by decide) rfl rfl rfl (M_threshold hm1 hS) ?_
  intro r2 A2 B2 D2 hq
  obtain ⟨rfl, w, rfl, ht, ⟨S2, s1, s2, s3⟩, hv⟩ := hk _ _ _ _ hq
  refine yi_istore dL_law_1990 (Nat.le_of_ble_eq_true rfl) ?_
  refine yi_aload_n dL_law_1992 rfl rfl ?_
  refine ycV1 (M2 := mX8_thrown) (kr := 76) (ci := 8) (av := []) (st := []) dL_law_1993 lL_116 rfl ⟨rfl, rfl⟩ rfl ⟨Nat.le_of_ble_eq_true rfl, Nat.le_of_ble_eq_true rfl⟩ hcs (by decide) rfl rfl rfl m_thrown ?_
  rw [ht]
  refine yi_iload dL_law_1996 rfl ?_
  refine yi_icmp_eq (tgt := 2003) dL_law_1998 rfl (fun _ => ?_) (fun z => absurd rfl z)
  refine yi_iload dL_law_2003 rfl ?_
  have hend : ∀ w0 D3, gl0 (eLW L xs) (mLaw nm hh) Q nx (cs + 4) (sl + 24) 2020 (xst1 7 (.int w0) (xst1 6 (.int k) (lvL i))) [] A2 B2 D3 := fun w0 D3 => yi_goto (tgt := 2242) dL_law_2020 rfl (by exact ygo_pick [0, 1, 2, 3, 4, 5] rfl (K S2 _ _ _ s1 s2 s3))
  refine yi_ifne (tgt := 2020) dL_law_2005 rfl (fun z => hend w _) (fun z => ?_)
  obtain ⟨rfl, hb⟩ := hv z
  refine yi_aload_n dL_law_2008 rfl rfl ?_
  refine yi_iconst dL_law_2009 (v := 0) rfl ?_
  refine yla (kk := 95) (nn := 1) (j := 0) dL_law_2010 rfl rfl rfl (by decide) (by decide) ?_
  refine yi_iload dL_law_2011 rfl ?_
  refine yi_i2l dL_law_2013 ?_
  exact yi_lcmpeq (tgt := 2020) dL_law_2014 dL_law_2015 rfl (fun _ => hend _ _) (fun q => absurd hb q)
theorem lc_reconstruct (hi : vp_in (i + 1) L ∧ vp_in (i + 2) L ∧ vp_in (i + 3) L ∧ vp_in (i + 4) L) (hcs : cs + 4 ≤ (mO (mLaw nm hh)).cells ∧ sl + 24 ≤ (mO (mLaw nm hh)).slots) (hS : S.ok) (h1 : cRel S A B) (h2 : mRel S A B) (K : ∀ (S2 : abs) A2 B2 D2, S2.ok → cRel S2 A2 B2 → mRel S2 A2 B2 → gl0 (eLW L xs) (mLaw nm hh) Q nx (cs + 4) (sl + 24) 2242 (lvL i) [] A2 B2 D2) : gl0 (eLW L xs) (mLaw nm hh) Q nx cs sl 2023 (lvL i) [] A B D := by
  have hcs0 : cs ≤ (mO (mLaw nm hh)).cells ∧ sl ≤ (mO (mLaw nm hh)).slots := ⟨Nat.le_trans (Nat.le_add_right _ _) hcs.1, Nat.le_trans (Nat.le_add_right _ _) hcs.2⟩
  refine yi_aload_n dL_law_2023 rfl rfl ?_
  refine ycV (M2 := mX7_reconstruct) (kr := 0) (ci := 7) (av := []) (st := []) dL_law_2024 lL_225 rfl ⟨rfl, rfl⟩ rfl ⟨Nat.le_of_ble_eq_true rfl, Nat.le_of_ble_eq_true rfl⟩ hcs0 (by decide) rfl rfl rfl (C_reconstruct h1 hS) ?_
  intro r A1 B1 D1 hw
  obtain ⟨rfl, hm1, hk⟩ := bothS (ok_rec hS) h2 hw
  refine yi_aload_n dL_law_2027 rfl rfl ?_
  refine ycV (M2 := mX8_reconstruct) (kr := 76) (ci := 8) (av := []) (st := [_]) dL_law_2028 lL_228 rfl ⟨rfl, rfl⟩ rfl ⟨Nat.le_of_ble_eq_true rfl, Nat.le_of_ble_eq_true rfl⟩ hcs0 (Nat.le_of_ble_eq_true rfl) rfl rfl rfl (M_reconstruct hm1 hS) ?_
  intro r2 A2 B2 D2 hq
  obtain ⟨rfl, S2, s1, s2, s3⟩ := hk _ _ _ _ hq
  exact yi_icmp_eq (tgt := 2242) dL_law_2031 rfl (fun _ => ygo_room (Nat.le_add_right _ _) (Nat.le_add_right _ _) (K S2 _ _ _ s1 s2 s3)) (fun q => absurd rfl q)
theorem lc_suppress (hi : vp_in (i + 1) L ∧ vp_in (i + 2) L ∧ vp_in (i + 3) L ∧ vp_in (i + 4) L) (hcs : cs + 4 ≤ (mO (mLaw nm hh)).cells ∧ sl + 24 ≤ (mO (mLaw nm hh)).slots) (hS : S.ok) (h1 : cRel S A B) (h2 : mRel S A B) (K : ∀ (S2 : abs) A2 B2 D2, S2.ok → cRel S2 A2 B2 → mRel S2 A2 B2 → gl0 (eLW L xs) (mLaw nm hh) Q nx (cs + 4) (sl + 24) 2242 (lvL i) [] A2 B2 D2) : gl0 (eLW L xs) (mLaw nm hh) Q nx cs sl 2036 (lvL i) [] A B D := by
  refine yi_aload_n dL_law_2036 rfl rfl ?_
  refine yi_aload_n dL_law_2037 rfl rfl ?_
  refine yi_iload dL_law_2038 rfl ?_
  refine yi_iconst dL_law_2040 (v := 1) rfl ?_
  refine yi_iadd dL_law_2041 ?_
  refine yi_sld dL_law_2042 (by decide) hi.1 ?_
  refine yi_aload_n dL_law_2043 rfl rfl ?_
  refine yi_callW (M2 := mL_suppress) (av := [.ref 0, .int (xs (i + 1).toNatClampNeg), .ref 95]) (st := []) dL_law_2044 lW_suppress rfl rfl ⟨Nat.le_of_ble_eq_true rfl, Nat.le_of_ble_eq_true rfl⟩ ⟨Nat.le_of_ble_eq_true rfl, Nat.le_of_ble_eq_true rfl⟩ hcs (Nat.le_of_ble_eq_true rfl) (L_suppress h1 hS) ?_
  intro r A1 B1 D1 hw
  obtain ⟨k, rfl, rfl, hm1, hk⟩ := bothI hS (fun p1 p2 => ok_sup hS p1) h2 hw
  refine yi_istore dL_law_2047 (Nat.le_of_ble_eq_true rfl) ?_
  refine yi_aload_n dL_law_2049 rfl rfl ?_
  refine yi_aload_n dL_law_2050 rfl rfl ?_
  refine yi_iload dL_law_2051 rfl ?_
  refine yi_iconst dL_law_2053 (v := 1) rfl ?_
  refine yi_iadd dL_law_2054 ?_
  refine yi_sld dL_law_2055 (by decide) hi.1 ?_
  refine ycV (M2 := mX8_suppress) (kr := 76) (ci := 8) (av := [.int (xs (i + 1).toNatClampNeg)]) (st := []) dL_law_2056 lL_231 rfl ⟨rfl, rfl⟩ rfl ⟨Nat.le_of_ble_eq_true rfl, Nat.le_of_ble_eq_true rfl⟩ hcs (by decide) rfl rfl rfl (M_suppress hm1 hS) ?_
  intro r2 A2 B2 D2 hq
  obtain ⟨rfl, w, rfl, ht, ⟨S2, s1, s2, s3⟩, hv⟩ := hk _ _ _ _ hq
  refine yi_istore dL_law_2059 (Nat.le_of_ble_eq_true rfl) ?_
  refine yi_aload_n dL_law_2061 rfl rfl ?_
  refine ycV1 (M2 := mX8_thrown) (kr := 76) (ci := 8) (av := []) (st := []) dL_law_2062 lL_116 rfl ⟨rfl, rfl⟩ rfl ⟨Nat.le_of_ble_eq_true rfl, Nat.le_of_ble_eq_true rfl⟩ hcs (by decide) rfl rfl rfl m_thrown ?_
  rw [ht]
  refine yi_iload dL_law_2065 rfl ?_
  refine yi_icmp_eq (tgt := 2072) dL_law_2067 rfl (fun _ => ?_) (fun z => absurd rfl z)
  refine yi_iload dL_law_2072 rfl ?_
  have hend : ∀ w0 D3, gl0 (eLW L xs) (mLaw nm hh) Q nx (cs + 4) (sl + 24) 2089 (xst1 7 (.int w0) (xst1 6 (.int k) (lvL i))) [] A2 B2 D3 := fun w0 D3 => yi_goto (tgt := 2242) dL_law_2089 rfl (by exact ygo_pick [0, 1, 2, 3, 4, 5] rfl (K S2 _ _ _ s1 s2 s3))
  refine yi_ifne (tgt := 2089) dL_law_2074 rfl (fun z => hend w _) (fun z => ?_)
  obtain ⟨rfl, hb⟩ := hv z
  refine yi_aload_n dL_law_2077 rfl rfl ?_
  refine yi_iconst dL_law_2078 (v := 0) rfl ?_
  refine yla (kk := 95) (nn := 1) (j := 0) dL_law_2079 rfl rfl rfl (by decide) (by decide) ?_
  refine yi_iload dL_law_2080 rfl ?_
  refine yi_i2l dL_law_2082 ?_
  exact yi_lcmpeq (tgt := 2089) dL_law_2083 dL_law_2084 rfl (fun _ => hend _ _) (fun q => absurd hb q)
theorem lc_keepPeaks (hi : vp_in (i + 1) L ∧ vp_in (i + 2) L ∧ vp_in (i + 3) L ∧ vp_in (i + 4) L) (hcs : cs + 4 ≤ (mO (mLaw nm hh)).cells ∧ sl + 24 ≤ (mO (mLaw nm hh)).slots) (hS : S.ok) (h1 : cRel S A B) (h2 : mRel S A B) (K : ∀ (S2 : abs) A2 B2 D2, S2.ok → cRel S2 A2 B2 → mRel S2 A2 B2 → gl0 (eLW L xs) (mLaw nm hh) Q nx (cs + 4) (sl + 24) 2242 (lvL i) [] A2 B2 D2) : gl0 (eLW L xs) (mLaw nm hh) Q nx cs sl 2092 (lvL i) [] A B D := by
  refine yi_aload_n dL_law_2092 rfl rfl ?_
  refine yi_aload_n dL_law_2093 rfl rfl ?_
  refine yi_iload dL_law_2094 rfl ?_
  refine yi_iconst dL_law_2096 (v := 1) rfl ?_
  refine yi_iadd dL_law_2097 ?_
  refine yi_sld dL_law_2098 (by decide) hi.1 ?_
  refine yi_aload_n dL_law_2099 rfl rfl ?_
  refine yi_callW (M2 := mL_keepPeaks) (av := [.ref 0, .int (xs (i + 1).toNatClampNeg), .ref 95]) (st := []) dL_law_2100 lW_keepPeaks rfl rfl ⟨Nat.le_of_ble_eq_true rfl, Nat.le_of_ble_eq_true rfl⟩ ⟨Nat.le_of_ble_eq_true rfl, Nat.le_of_ble_eq_true rfl⟩ hcs (Nat.le_of_ble_eq_true rfl) (L_keepPeaks h1 hS) ?_
  intro r A1 B1 D1 hw
  obtain ⟨k, rfl, rfl, hm1, hk⟩ := bothI hS (fun p1 p2 => abs.paint_ok hS (fun p hp => kp_16 (abs.Xok hS) hp)) h2 hw
  refine yi_istore dL_law_2103 (Nat.le_of_ble_eq_true rfl) ?_
  refine yi_aload_n dL_law_2105 rfl rfl ?_
  refine yi_aload_n dL_law_2106 rfl rfl ?_
  refine yi_iload dL_law_2107 rfl ?_
  refine yi_iconst dL_law_2109 (v := 1) rfl ?_
  refine yi_iadd dL_law_2110 ?_
  refine yi_sld dL_law_2111 (by decide) hi.1 ?_
  refine ycV (M2 := mX8_keepPeaks) (kr := 76) (ci := 8) (av := [.int (xs (i + 1).toNatClampNeg)]) (st := []) dL_law_2112 lL_234 rfl ⟨rfl, rfl⟩ rfl ⟨Nat.le_of_ble_eq_true rfl, Nat.le_of_ble_eq_true rfl⟩ hcs (by decide) rfl rfl rfl (M_keepPeaks hm1 hS) ?_
  intro r2 A2 B2 D2 hq
  obtain ⟨rfl, w, rfl, ht, ⟨S2, s1, s2, s3⟩, hv⟩ := hk _ _ _ _ hq
  refine yi_istore dL_law_2115 (Nat.le_of_ble_eq_true rfl) ?_
  refine yi_aload_n dL_law_2117 rfl rfl ?_
  refine ycV1 (M2 := mX8_thrown) (kr := 76) (ci := 8) (av := []) (st := []) dL_law_2118 lL_116 rfl ⟨rfl, rfl⟩ rfl ⟨Nat.le_of_ble_eq_true rfl, Nat.le_of_ble_eq_true rfl⟩ hcs (by decide) rfl rfl rfl m_thrown ?_
  rw [ht]
  refine yi_iload dL_law_2121 rfl ?_
  refine yi_icmp_eq (tgt := 2128) dL_law_2123 rfl (fun _ => ?_) (fun z => absurd rfl z)
  refine yi_iload dL_law_2128 rfl ?_
  have hend : ∀ w0 D3, gl0 (eLW L xs) (mLaw nm hh) Q nx (cs + 4) (sl + 24) 2145 (xst1 7 (.int w0) (xst1 6 (.int k) (lvL i))) [] A2 B2 D3 := fun w0 D3 => yi_goto (tgt := 2242) dL_law_2145 rfl (by exact ygo_pick [0, 1, 2, 3, 4, 5] rfl (K S2 _ _ _ s1 s2 s3))
  refine yi_ifne (tgt := 2145) dL_law_2130 rfl (fun z => hend w _) (fun z => ?_)
  obtain ⟨rfl, hb⟩ := hv z
  refine yi_aload_n dL_law_2133 rfl rfl ?_
  refine yi_iconst dL_law_2134 (v := 0) rfl ?_
  refine yla (kk := 95) (nn := 1) (j := 0) dL_law_2135 rfl rfl rfl (by decide) (by decide) ?_
  refine yi_iload dL_law_2136 rfl ?_
  refine yi_i2l dL_law_2138 ?_
  exact yi_lcmpeq (tgt := 2145) dL_law_2139 dL_law_2140 rfl (fun _ => hend _ _) (fun q => absurd hb q)
theorem lc_ifLevel (hi : vp_in (i + 1) L ∧ vp_in (i + 2) L ∧ vp_in (i + 3) L ∧ vp_in (i + 4) L) (hcs : cs + 4 ≤ (mO (mLaw nm hh)).cells ∧ sl + 24 ≤ (mO (mLaw nm hh)).slots) (hS : S.ok) (h1 : cRel S A B) (h2 : mRel S A B) (K : ∀ (S2 : abs) A2 B2 D2, S2.ok → cRel S2 A2 B2 → mRel S2 A2 B2 → gl0 (eLW L xs) (mLaw nm hh) Q nx (cs + 4) (sl + 24) 2242 (lvL i) [] A2 B2 D2) : gl0 (eLW L xs) (mLaw nm hh) Q nx cs sl 2148 (lvL i) [] A B D := by
  refine yi_aload_n dL_law_2148 rfl rfl ?_
  refine yi_aload_n dL_law_2149 rfl rfl ?_
  refine yi_iload dL_law_2150 rfl ?_
  refine yi_iconst dL_law_2152 (v := 1) rfl ?_
  refine yi_iadd dL_law_2153 ?_
  refine yi_sld dL_law_2154 (by decide) hi.1 ?_
  refine yi_aload_n dL_law_2155 rfl rfl ?_
  refine yi_iload dL_law_2156 rfl ?_
  refine yi_iconst dL_law_2158 (v := 2) rfl ?_
  refine yi_iadd dL_law_2159 ?_
  refine yi_sld dL_law_2160 (by decide) hi.2.1 ?_
  refine yi_aload_n dL_law_2161 rfl rfl ?_
  refine yi_iload dL_law_2162 rfl ?_
  refine yi_iconst dL_law_2164 (v := 3) rfl ?_
  refine yi_iadd dL_law_2165 ?_
  refine yi_sld dL_law_2166 (by decide) hi.2.2.1 ?_
  refine yi_aload_n dL_law_2167 rfl rfl ?_
  refine yi_callW (M2 := mL_ifLevel) (av := [.ref 0, .int (xs (i + 1).toNatClampNeg), .int (xs (i + 2).toNatClampNeg), .int (xs (i + 3).toNatClampNeg), .ref 95]) (st := []) dL_law_2168 lW_ifLevel rfl rfl ⟨Nat.le_of_ble_eq_true rfl, Nat.le_of_ble_eq_true rfl⟩ ⟨Nat.le_of_ble_eq_true rfl, Nat.le_of_ble_eq_true rfl⟩ hcs (Nat.le_of_ble_eq_true rfl) (L_ifLevel h1 hS) ?_
  intro r A1 B1 D1 hw
  obtain ⟨k, rfl, rfl, hm1, hk⟩ := bothI hS (fun _ _ => hS) h2 hw
  refine yi_istore dL_law_2171 (Nat.le_of_ble_eq_true rfl) ?_
  refine yi_aload_n dL_law_2173 rfl rfl ?_
  refine yi_aload_n dL_law_2174 rfl rfl ?_
  refine yi_iload dL_law_2175 rfl ?_
  refine yi_iconst dL_law_2177 (v := 1) rfl ?_
  refine yi_iadd dL_law_2178 ?_
  refine yi_sld dL_law_2179 (by decide) hi.1 ?_
  refine yi_aload_n dL_law_2180 rfl rfl ?_
  refine yi_iload dL_law_2181 rfl ?_
  refine yi_iconst dL_law_2183 (v := 2) rfl ?_
  refine yi_iadd dL_law_2184 ?_
  refine yi_sld dL_law_2185 (by decide) hi.2.1 ?_
  refine yi_aload_n dL_law_2186 rfl rfl ?_
  refine yi_iload dL_law_2187 rfl ?_
  refine yi_iconst dL_law_2189 (v := 3) rfl ?_
  refine yi_iadd dL_law_2190 ?_
  refine yi_sld dL_law_2191 (by decide) hi.2.2.1 ?_
  refine ycV (M2 := mX8_ifLevel) (kr := 76) (ci := 8) (av := [.int (xs (i + 1).toNatClampNeg), .int (xs (i + 2).toNatClampNeg), .int (xs (i + 3).toNatClampNeg)]) (st := []) dL_law_2192 lL_237 rfl ⟨rfl, rfl⟩ rfl ⟨Nat.le_of_ble_eq_true rfl, Nat.le_of_ble_eq_true rfl⟩ hcs (by decide) rfl rfl rfl (M_ifLevel hm1 hS) ?_
  intro r2 A2 B2 D2 hq
  obtain ⟨rfl, w, rfl, ht, ⟨S2, s1, s2, s3⟩, hv⟩ := hk _ _ _ _ hq
  refine yi_istore dL_law_2195 (Nat.le_of_ble_eq_true rfl) ?_
  refine yi_aload_n dL_law_2197 rfl rfl ?_
  refine ycV1 (M2 := mX8_thrown) (kr := 76) (ci := 8) (av := []) (st := []) dL_law_2198 lL_116 rfl ⟨rfl, rfl⟩ rfl ⟨Nat.le_of_ble_eq_true rfl, Nat.le_of_ble_eq_true rfl⟩ hcs (by decide) rfl rfl rfl m_thrown ?_
  rw [ht]
  refine yi_iload dL_law_2201 rfl ?_
  refine yi_icmp_eq (tgt := 2208) dL_law_2203 rfl (fun _ => ?_) (fun z => absurd rfl z)
  refine yi_iload dL_law_2208 rfl ?_
  have hend : ∀ w0 D3, gl0 (eLW L xs) (mLaw nm hh) Q nx (cs + 4) (sl + 24) 2225 (xst1 7 (.int w0) (xst1 6 (.int k) (lvL i))) [] A2 B2 D3 := fun w0 D3 => yi_goto (tgt := 2242) dL_law_2225 rfl (by exact ygo_pick [0, 1, 2, 3, 4, 5] rfl (K S2 _ _ _ s1 s2 s3))
  refine yi_ifne (tgt := 2225) dL_law_2210 rfl (fun z => hend w _) (fun z => ?_)
  obtain ⟨rfl, hb⟩ := hv z
  refine yi_aload_n dL_law_2213 rfl rfl ?_
  refine yi_iconst dL_law_2214 (v := 0) rfl ?_
  refine yla (kk := 95) (nn := 1) (j := 0) dL_law_2215 rfl rfl rfl (by decide) (by decide) ?_
  refine yi_iload dL_law_2216 rfl ?_
  refine yi_i2l dL_law_2218 ?_
  exact yi_lcmpeq (tgt := 2225) dL_law_2219 dL_law_2220 rfl (fun _ => hend _ _) (fun q => absurd hb q)
theorem lc_digest (hi : vp_in (i + 1) L ∧ vp_in (i + 2) L ∧ vp_in (i + 3) L ∧ vp_in (i + 4) L) (hcs : cs + 4 ≤ (mO (mLaw nm hh)).cells ∧ sl + 24 ≤ (mO (mLaw nm hh)).slots) (hS : S.ok) (h1 : cRel S A B) (h2 : mRel S A B) (K : ∀ (S2 : abs) A2 B2 D2, S2.ok → cRel S2 A2 B2 → mRel S2 A2 B2 → gl0 (eLW L xs) (mLaw nm hh) Q nx (cs + 4) (sl + 24) 2242 (lvL i) [] A2 B2 D2) : gl0 (eLW L xs) (mLaw nm hh) Q nx cs sl 2228 (lvL i) [] A B D := by
  have hcs0 : cs ≤ (mO (mLaw nm hh)).cells ∧ sl ≤ (mO (mLaw nm hh)).slots := ⟨Nat.le_trans (Nat.le_add_right _ _) hcs.1, Nat.le_trans (Nat.le_add_right _ _) hcs.2⟩
  refine yi_aload_n dL_law_2228 rfl rfl ?_
  refine ycV (M2 := mX7_digest) (kr := 0) (ci := 7) (av := []) (st := []) dL_law_2229 lL_238 rfl ⟨rfl, rfl⟩ rfl ⟨Nat.le_of_ble_eq_true rfl, Nat.le_of_ble_eq_true rfl⟩ hcs0 (by decide) rfl rfl rfl (C_digest h1 hS) ?_
  intro r A1 B1 D1 hw
  obtain ⟨rfl, hm1, hk⟩ := bothS (hS) h2 hw
  refine yi_aload_n dL_law_2232 rfl rfl ?_
  refine ycV (M2 := mX8_digest) (kr := 76) (ci := 8) (av := []) (st := [_]) dL_law_2233 lL_242 rfl ⟨rfl, rfl⟩ rfl ⟨Nat.le_of_ble_eq_true rfl, Nat.le_of_ble_eq_true rfl⟩ hcs0 (Nat.le_of_ble_eq_true rfl) rfl rfl rfl (M_digest hm1 hS) ?_
  intro r2 A2 B2 D2 hq
  obtain ⟨rfl, S2, s1, s2, s3⟩ := hk _ _ _ _ hq
  exact yi_lcmpeq (tgt := 2242) dL_law_2236 dL_law_2237 rfl (fun _ => ygo_room (Nat.le_add_right _ _) (Nat.le_add_right _ _) (K S2 _ _ _ s1 s2 s3)) (fun q => absurd rfl q)
end LC

