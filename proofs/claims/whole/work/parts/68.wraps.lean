/-! the law's wrappers (printed by wraps.py) -/
def midF (A : xA) (B : xB) (A1 : xA) (B1 : xB) : Prop := ∀ k, 76 ≤ k → k < 95 → A1 k = A k ∧ B1 k = B k
abbrev WQ (S S' : abs) (A : xA) (B : xB) (D : xD) (c1 c2 : Prop) (v : Int64) : Option Value → xA → xB → xD → Prop := fun r A1 B1 D1 => D1 = D ∧ midF A B A1 B1 ∧ ((c1 ∧ c2 ∧ r = some (.int 0) ∧ cRel S' A1 B1 ∧ B1 95 0 = v) ∨ (¬ c1 ∧ r = some (.int 1) ∧ cRel S A1 B1) ∨ (c1 ∧ ¬ c2 ∧ r = some (.int 2) ∧ cRel S A1 B1))
abbrev WD (S : abs) (A : xA) (B : xB) (c1 : Prop) (v : UInt64) : Option Value → xA → xB → xD → Prop := fun r A1 B1 D1 => midF A B A1 B1 ∧ ((c1 ∧ r = some (.int 0) ∧ cRel S A1 B1 ∧ D1 96 0 = v) ∨ (¬ c1 ∧ r = some (.int 1) ∧ cRel S A1 B1))
section WDS
variable {EX : State → (Nat → Prop) → (Nat → Nat) → Prop} {M : xMI} {Q : Option Value → xA → xB → xD → Prop} {QX : String → xA → xB → xD → Prop} {cs sl pc : Nat} {lv : xLV} {st : List Value} {A : xA} {B : xB} {D : xD}
theorem yds {kk nn j : Nat} {i : Int32} {x : UInt64} (hd : decode (mC M) pc = .ok (.dastore, 1)) (hg : (xG0 kk).1 = 4) (hn : (xG0 kk).2.1 = nn) (hi : i = nI j) (hj : j < nn) (hs : nn < 2 ^ 31) (k : gl0 EX M Q QX cs sl (pc + 1) lv st A B (updD D kk j x)) : gl0 EX M Q QX cs sl pc lv (.double x :: .int i :: .ref kk :: st) A B D := by
  subst hi
  refine yi_dastore hd hg hn (vp_in_nI hj hs) ?_
  rw [nI_clamp (Nat.lt_trans hj hs)]
  exact k
theorem yda {kk nn j : Nat} {i : Int32} (hd : decode (mC M) pc = .ok (.daload, 1)) (hg : (xG0 kk).1 = 4) (hn : (xG0 kk).2.1 = nn) (hi : i = nI j) (hj : j < nn) (hs : nn < 2 ^ 31) (k : gl0 EX M Q QX cs sl (pc + 1) lv (.double (D kk j) :: st) A B D) : gl0 EX M Q QX cs sl pc lv (.int i :: .ref kk :: st) A B D := by
  subst hi
  refine yi_daload hd hg hn (vp_in_nI hj hs) ?_
  rw [nI_clamp (Nat.lt_trans hj hs)]
  exact k
end WDS
section WR
variable {S S' : abs} {A A1 : xA} {B B1 : xB} {D : xD}
theorem midF_hi (h : hiF A B A1 B1) : midF A B A1 B1 := fun k hk _ => h k hk
theorem WQ_ok {c1 c2 : Prop} {v : Int64} (h1 : c1) (h2 : c2) (hR : cRel S' A1 B1) (hF : hiF A B A1 B1) : WQ S S' A B D c1 c2 v (some (.int 0)) A1 (updB B1 95 0 v) D := by
  refine ⟨rfl, fun k hk hk2 => ?_, Or.inl ⟨h1, h2, rfl, cRel_o hR (fun _ _ => rfl) (fun k hk => updB_n _ _ _ (by omega)), ?_⟩⟩
  · rw [updB_n _ _ _ (by omega)]; exact hF k hk
  · rw [updB_s]; exact if_pos rfl
theorem WD_ok {c1 : Prop} {v : UInt64} (h1 : c1) (hR : cRel S A1 B1) (hF : hiF A B A1 B1) : WD S A B c1 v (some (.int 0)) A1 B1 (updD D 96 0 v) := by
  refine ⟨midF_hi hF, Or.inl ⟨h1, rfl, hR, ?_⟩⟩
  rw [updD_s]; exact if_pos rfl
theorem L_begin (h : cRel S A B) (hS : S.ok) {u v : Int32} : wdoes mL_begin [.ref 0, .int u, .int v, .ref 95] A B D (WQ S (S.sBegin u v) A B D (btw u 1 8 ∧ btw v 1 8) True (nI S.n).toInt64) := by
  refine wdoes_go (by decide) rfl (Nat.le_of_ble_eq_true rfl) ?_
  refine yi_aload_n dL_begin_0 rfl rfl ?_
  refine yi_iconst dL_begin_1 (v := 0) rfl ?_
  refine yi_aload_n dL_begin_2 rfl rfl ?_
  refine yi_iload_n dL_begin_3 rfl rfl ?_
  refine yi_iload_n dL_begin_4 rfl rfl ?_
  refine wcV (M2 := mX7_begin) (kr := 0) (ci := 7) (av := [.int u, .int v]) (st := [.int 0, .ref 95]) dL_begin_5 lL_7 rfl rfl rfl ⟨by decide, by decide, by decide, by decide⟩ (by decide) rfl rfl rfl (C_begin h hS) ?_ ?_
  · rintro E A2 B2 D2 ⟨(⟨q1, rfl⟩ | ⟨q1, q2, rfl⟩), rfl, hR, hF⟩
    · exact ⟨1, ⟨[], _, _, rfl, (fun z hz => nomatch hz), rfl, by decide, wIA, kIA, 4, 2, 1, Or.inl ⟨rfl, dL_begin_13⟩, by decide, dL_begin_15, rfl, dL_begin_16⟩, rfl, midF_hi hF, Or.inr (Or.inl ⟨q1, rfl, hR⟩)⟩
    · exact (q2 trivial).elim
  · rintro r A2 B2 D2 ⟨hc, rfl, rfl, hR, hF⟩
    refine yi_i2l dL_begin_8 ?_
    refine yls (kk := 95) (nn := 1) (j := 0) dL_begin_9 rfl rfl rfl (by decide) (by decide) ?_
    refine yi_goto (tgt := 17) dL_begin_10 rfl ?_
    refine yi_iconst dL_begin_17 (v := 0) rfl ?_
    exact ygo_ret (r := some (.int 0)) dL_begin_18 (Nat.le_of_ble_eq_true rfl) (Nat.le_of_ble_eq_true rfl) (WQ_ok hc trivial hR hF)
theorem L_setLevel (h : cRel S A B) (hS : S.ok) {i v : Int32} : wdoes mL_setLevel [.ref 0, .int i, .int v, .ref 95] A B D (WQ S (S.sLevel i.toNatClampNeg v) A B D (inR i (nI S.n)) (btw v 0 15) (S.lv i.toNatClampNeg).toInt64) := by
  refine wdoes_go (by decide) rfl (Nat.le_of_ble_eq_true rfl) ?_
  refine yi_aload_n dL_setLevel_0 rfl rfl ?_
  refine yi_iconst dL_setLevel_1 (v := 0) rfl ?_
  refine yi_aload_n dL_setLevel_2 rfl rfl ?_
  refine yi_iload_n dL_setLevel_3 rfl rfl ?_
  refine yi_iload_n dL_setLevel_4 rfl rfl ?_
  refine wcV (M2 := mX7_setLevel) (kr := 0) (ci := 7) (av := [.int i, .int v]) (st := [.int 0, .ref 95]) dL_setLevel_5 lL_15 rfl rfl rfl ⟨by decide, by decide, by decide, by decide⟩ (by decide) rfl rfl rfl (C_setLevel h hS) ?_ ?_
  · rintro E A2 B2 D2 ⟨(⟨q1, rfl⟩ | ⟨q1, q2, rfl⟩), rfl, hR, hF⟩
    · exact ⟨1, ⟨[], _, _, rfl, (fun z hz => nomatch hz), rfl, by decide, wIO, kIO, 4, 2, 1, Or.inl ⟨rfl, dL_setLevel_13⟩, by decide, dL_setLevel_15, rfl, dL_setLevel_16⟩, rfl, midF_hi hF, Or.inr (Or.inl ⟨q1, rfl, hR⟩)⟩
    · exact ⟨2, ⟨[_], _, _, rfl, (fun z hz => by cases List.mem_singleton.mp hz; exact ⟨by decide, sIO, wIO, fun s h => h.1⟩), rfl, by decide, wIA, kIA, 4, 2, 2, Or.inl ⟨rfl, dL_setLevel_17⟩, by decide, dL_setLevel_19, rfl, dL_setLevel_20⟩, rfl, midF_hi hF, Or.inr (Or.inr ⟨q1, q2, rfl, hR⟩)⟩
  · rintro r A2 B2 D2 ⟨hc, rfl, rfl, hR, hF⟩
    refine yi_i2l dL_setLevel_8 ?_
    refine yls (kk := 95) (nn := 1) (j := 0) dL_setLevel_9 rfl rfl rfl (by decide) (by decide) ?_
    refine yi_goto (tgt := 21) dL_setLevel_10 rfl ?_
    refine yi_iconst dL_setLevel_21 (v := 0) rfl ?_
    exact ygo_ret (r := some (.int 0)) dL_setLevel_22 (Nat.le_of_ble_eq_true rfl) (Nat.le_of_ble_eq_true rfl) (WQ_ok hc.1 hc.2 hR hF)
theorem L_fill (h : cRel S A B) (hS : S.ok) {i j v : Int32} : wdoes mL_fill [.ref 0, .int i, .int j, .int v, .ref 95] A B D (WQ S (S.sFill i.toNatClampNeg j.toNatClampNeg v) A B D (inR i (nI S.n) ∧ inR j (nI S.n)) (btw v 0 15) (itr (mfS S.c i.toNatClampNeg j.toNatClampNeg v) S.n (0, S.lv)).1.toInt64) := by
  refine wdoes_go (by decide) rfl (Nat.le_of_ble_eq_true rfl) ?_
  refine yi_aload dL_fill_0 rfl ?_
  refine yi_iconst dL_fill_2 (v := 0) rfl ?_
  refine yi_aload_n dL_fill_3 rfl rfl ?_
  refine yi_iload_n dL_fill_4 rfl rfl ?_
  refine yi_iload_n dL_fill_5 rfl rfl ?_
  refine yi_iload_n dL_fill_6 rfl rfl ?_
  refine wcV (M2 := mX7_fill) (kr := 0) (ci := 7) (av := [.int i, .int j, .int v]) (st := [.int 0, .ref 95]) dL_fill_7 lL_20 rfl rfl rfl ⟨by decide, by decide, by decide, by decide⟩ (by decide) rfl rfl rfl (C_fill h hS) ?_ ?_
  · rintro E A2 B2 D2 ⟨(⟨q1, rfl⟩ | ⟨q1, q2, rfl⟩), rfl, hR, hF⟩
    · exact ⟨1, ⟨[], _, _, rfl, (fun z hz => nomatch hz), rfl, by decide, wIO, kIO, 5, 2, 1, Or.inl ⟨rfl, dL_fill_15⟩, by decide, dL_fill_17, rfl, dL_fill_18⟩, rfl, midF_hi hF, Or.inr (Or.inl ⟨q1, rfl, hR⟩)⟩
    · exact ⟨2, ⟨[_], _, _, rfl, (fun z hz => by cases List.mem_singleton.mp hz; exact ⟨by decide, sIO, wIO, fun s h => h.1⟩), rfl, by decide, wIA, kIA, 5, 2, 2, Or.inl ⟨rfl, dL_fill_19⟩, by decide, dL_fill_21, rfl, dL_fill_22⟩, rfl, midF_hi hF, Or.inr (Or.inr ⟨q1, q2, rfl, hR⟩)⟩
  · rintro r A2 B2 D2 ⟨hc, rfl, rfl, hR, hF⟩
    refine yi_i2l dL_fill_10 ?_
    refine yls (kk := 95) (nn := 1) (j := 0) dL_fill_11 rfl rfl rfl (by decide) (by decide) ?_
    refine yi_goto (tgt := 23) dL_fill_12 rfl ?_
    refine yi_iconst dL_fill_23 (v := 0) rfl ?_
    exact ygo_ret (r := some (.int 0)) dL_fill_24 (Nat.le_of_ble_eq_true rfl) (Nat.le_of_ble_eq_true rfl) (WQ_ok hc.1 hc.2 hR hF)
theorem L_setMarker (h : cRel S A B) (hS : S.ok) {i v : Int32} : wdoes mL_setMarker [.ref 0, .int i, .int v, .ref 95] A B D (WQ S (S.sMark i.toNatClampNeg v) A B D (inR i (nI S.n)) (btw v 0 15) (S.mr i.toNatClampNeg).toInt64) := by
  refine wdoes_go (by decide) rfl (Nat.le_of_ble_eq_true rfl) ?_
  refine yi_aload_n dL_setMarker_0 rfl rfl ?_
  refine yi_iconst dL_setMarker_1 (v := 0) rfl ?_
  refine yi_aload_n dL_setMarker_2 rfl rfl ?_
  refine yi_iload_n dL_setMarker_3 rfl rfl ?_
  refine yi_iload_n dL_setMarker_4 rfl rfl ?_
  refine wcV (M2 := mX7_setMarker) (kr := 0) (ci := 7) (av := [.int i, .int v]) (st := [.int 0, .ref 95]) dL_setMarker_5 lL_24 rfl rfl rfl ⟨by decide, by decide, by decide, by decide⟩ (by decide) rfl rfl rfl (C_setMarker h hS) ?_ ?_
  · rintro E A2 B2 D2 ⟨(⟨q1, rfl⟩ | ⟨q1, q2, rfl⟩), rfl, hR, hF⟩
    · exact ⟨1, ⟨[], _, _, rfl, (fun z hz => nomatch hz), rfl, by decide, wIO, kIO, 4, 2, 1, Or.inl ⟨rfl, dL_setMarker_13⟩, by decide, dL_setMarker_15, rfl, dL_setMarker_16⟩, rfl, midF_hi hF, Or.inr (Or.inl ⟨q1, rfl, hR⟩)⟩
    · exact ⟨2, ⟨[_], _, _, rfl, (fun z hz => by cases List.mem_singleton.mp hz; exact ⟨by decide, sIO, wIO, fun s h => h.1⟩), rfl, by decide, wIA, kIA, 4, 2, 2, Or.inl ⟨rfl, dL_setMarker_17⟩, by decide, dL_setMarker_19, rfl, dL_setMarker_20⟩, rfl, midF_hi hF, Or.inr (Or.inr ⟨q1, q2, rfl, hR⟩)⟩
  · rintro r A2 B2 D2 ⟨hc, rfl, rfl, hR, hF⟩
    refine yi_i2l dL_setMarker_8 ?_
    refine yls (kk := 95) (nn := 1) (j := 0) dL_setMarker_9 rfl rfl rfl (by decide) (by decide) ?_
    refine yi_goto (tgt := 21) dL_setMarker_10 rfl ?_
    refine yi_iconst dL_setMarker_21 (v := 0) rfl ?_
    exact ygo_ret (r := some (.int 0)) dL_setMarker_22 (Nat.le_of_ble_eq_true rfl) (Nat.le_of_ble_eq_true rfl) (WQ_ok hc.1 hc.2 hR hF)
theorem L_level (h : cRel S A B) (hS : S.ok) {i : Int32} : wdoes mL_level [.ref 0, .int i, .ref 95] A B D (WQ S S A B D (inR i (nI S.n)) True (S.lv i.toNatClampNeg).toInt64) := by
  refine wdoes_go (by decide) rfl (Nat.le_of_ble_eq_true rfl) ?_
  refine yi_aload_n dL_level_0 rfl rfl ?_
  refine yi_iconst dL_level_1 (v := 0) rfl ?_
  refine yi_aload_n dL_level_2 rfl rfl ?_
  refine yi_iload_n dL_level_3 rfl rfl ?_
  refine wcV (M2 := mX7_level) (kr := 0) (ci := 7) (av := [.int i]) (st := [.int 0, .ref 95]) dL_level_4 lL_27 rfl rfl rfl ⟨by decide, by decide, by decide, by decide⟩ (by decide) rfl rfl rfl (C_level h hS) ?_ ?_
  · rintro E A2 B2 D2 ⟨(⟨q1, rfl⟩ | ⟨q1, q2, rfl⟩), rfl, hR, hF⟩
    · exact ⟨1, ⟨[], _, _, rfl, (fun z hz => nomatch hz), rfl, by decide, wIO, kIO, 3, 1, 1, Or.inr ⟨rfl, 3, rfl, dL_level_12⟩, by decide, dL_level_13, rfl, dL_level_14⟩, rfl, midF_hi hF, Or.inr (Or.inl ⟨q1, rfl, hR⟩)⟩
    · exact (q2 trivial).elim
  · rintro r A2 B2 D2 ⟨hc, rfl, rfl, hR, hF⟩
    refine yi_i2l dL_level_7 ?_
    refine yls (kk := 95) (nn := 1) (j := 0) dL_level_8 rfl rfl rfl (by decide) (by decide) ?_
    refine yi_goto (tgt := 15) dL_level_9 rfl ?_
    refine yi_iconst dL_level_15 (v := 0) rfl ?_
    exact ygo_ret (r := some (.int 0)) dL_level_16 (Nat.le_of_ble_eq_true rfl) (Nat.le_of_ble_eq_true rfl) (WQ_ok hc trivial hR hF)
theorem L_marker (h : cRel S A B) (hS : S.ok) {i : Int32} : wdoes mL_marker [.ref 0, .int i, .ref 95] A B D (WQ S S A B D (inR i (nI S.n)) True (S.mr i.toNatClampNeg).toInt64) := by
  refine wdoes_go (by decide) rfl (Nat.le_of_ble_eq_true rfl) ?_
  refine yi_aload_n dL_marker_0 rfl rfl ?_
  refine yi_iconst dL_marker_1 (v := 0) rfl ?_
  refine yi_aload_n dL_marker_2 rfl rfl ?_
  refine yi_iload_n dL_marker_3 rfl rfl ?_
  refine wcV (M2 := mX7_marker) (kr := 0) (ci := 7) (av := [.int i]) (st := [.int 0, .ref 95]) dL_marker_4 lL_31 rfl rfl rfl ⟨by decide, by decide, by decide, by decide⟩ (by decide) rfl rfl rfl (C_marker h hS) ?_ ?_
  · rintro E A2 B2 D2 ⟨(⟨q1, rfl⟩ | ⟨q1, q2, rfl⟩), rfl, hR, hF⟩
    · exact ⟨1, ⟨[], _, _, rfl, (fun z hz => nomatch hz), rfl, by decide, wIO, kIO, 3, 1, 1, Or.inr ⟨rfl, 3, rfl, dL_marker_12⟩, by decide, dL_marker_13, rfl, dL_marker_14⟩, rfl, midF_hi hF, Or.inr (Or.inl ⟨q1, rfl, hR⟩)⟩
    · exact (q2 trivial).elim
  · rintro r A2 B2 D2 ⟨hc, rfl, rfl, hR, hF⟩
    refine yi_i2l dL_marker_7 ?_
    refine yls (kk := 95) (nn := 1) (j := 0) dL_marker_8 rfl rfl rfl (by decide) (by decide) ?_
    refine yi_goto (tgt := 15) dL_marker_9 rfl ?_
    refine yi_iconst dL_marker_15 (v := 0) rfl ?_
    exact ygo_ret (r := some (.int 0)) dL_marker_16 (Nat.le_of_ble_eq_true rfl) (Nat.le_of_ble_eq_true rfl) (WQ_ok hc trivial hR hF)
theorem L_undo (h : cRel S A B) (hS : S.ok) : wdoes mL_undo [.ref 0, .ref 95] A B D (WQ S S.sUndo A B D (0 < S.sz) True (nI (S.sz - 1)).toInt64) := by
  refine wdoes_go (by decide) rfl (Nat.le_of_ble_eq_true rfl) ?_
  refine yi_aload_n dL_undo_0 rfl rfl ?_
  refine yi_iconst dL_undo_1 (v := 0) rfl ?_
  refine yi_aload_n dL_undo_2 rfl rfl ?_
  refine wcV (M2 := mX7_undo) (kr := 0) (ci := 7) (av := []) (st := [.int 0, .ref 95]) dL_undo_3 lL_34 rfl rfl rfl ⟨by decide, by decide, by decide, by decide⟩ (by decide) rfl rfl rfl (C_undo h hS) ?_ ?_
  · rintro E A2 B2 D2 ⟨(⟨q1, rfl⟩ | ⟨q1, q2, rfl⟩), rfl, hR, hF⟩
    · exact ⟨1, ⟨[], _, _, rfl, (fun z hz => nomatch hz), rfl, by decide, wIS, kIS, 2, 1, 1, Or.inr ⟨rfl, 2, rfl, dL_undo_11⟩, by decide, dL_undo_12, rfl, dL_undo_13⟩, rfl, midF_hi hF, Or.inr (Or.inl ⟨q1, rfl, hR⟩)⟩
    · exact (q2 trivial).elim
  · rintro r A2 B2 D2 ⟨hc, rfl, rfl, hR, hF⟩
    refine yi_i2l dL_undo_6 ?_
    refine yls (kk := 95) (nn := 1) (j := 0) dL_undo_7 rfl rfl rfl (by decide) (by decide) ?_
    refine yi_goto (tgt := 14) dL_undo_8 rfl ?_
    refine yi_iconst dL_undo_14 (v := 0) rfl ?_
    exact ygo_ret (r := some (.int 0)) dL_undo_15 (Nat.le_of_ble_eq_true rfl) (Nat.le_of_ble_eq_true rfl) (WQ_ok hc trivial hR hF)
theorem L_append (h : cRel S A B) (hS : S.ok) {v : Int32} : wdoes mL_append [.ref 0, .int v, .ref 95] A B D (WQ S (S.sApp v) A B D (btw v 32 126) (S.len < 72) (nI (S.len + 1)).toInt64) := by
  refine wdoes_go (by decide) rfl (Nat.le_of_ble_eq_true rfl) ?_
  refine yi_aload_n dL_append_0 rfl rfl ?_
  refine yi_iconst dL_append_1 (v := 0) rfl ?_
  refine yi_aload_n dL_append_2 rfl rfl ?_
  refine yi_iload_n dL_append_3 rfl rfl ?_
  refine wcV (M2 := mX7_append) (kr := 0) (ci := 7) (av := [.int v]) (st := [.int 0, .ref 95]) dL_append_4 lL_40 rfl rfl rfl ⟨by decide, by decide, by decide, by decide⟩ (by decide) rfl rfl rfl (C_append h hS) ?_ ?_
  · rintro E A2 B2 D2 ⟨(⟨q1, rfl⟩ | ⟨q1, q2, rfl⟩), rfl, hR, hF⟩
    · exact ⟨1, ⟨[], _, _, rfl, (fun z hz => nomatch hz), rfl, by decide, wIA, kIA, 3, 1, 1, Or.inr ⟨rfl, 3, rfl, dL_append_12⟩, by decide, dL_append_13, rfl, dL_append_14⟩, rfl, midF_hi hF, Or.inr (Or.inl ⟨q1, rfl, hR⟩)⟩
    · exact ⟨2, ⟨[_], _, _, rfl, (fun z hz => by cases List.mem_singleton.mp hz; exact ⟨by decide, sIA, wIA, fun s h => h.2.1⟩), rfl, by decide, wIS, kIS, 3, 1, 2, Or.inr ⟨rfl, 3, rfl, dL_append_15⟩, by decide, dL_append_16, rfl, dL_append_17⟩, rfl, midF_hi hF, Or.inr (Or.inr ⟨q1, q2, rfl, hR⟩)⟩
  · rintro r A2 B2 D2 ⟨hc, rfl, rfl, hR, hF⟩
    refine yi_i2l dL_append_7 ?_
    refine yls (kk := 95) (nn := 1) (j := 0) dL_append_8 rfl rfl rfl (by decide) (by decide) ?_
    refine yi_goto (tgt := 18) dL_append_9 rfl ?_
    refine yi_iconst dL_append_18 (v := 0) rfl ?_
    exact ygo_ret (r := some (.int 0)) dL_append_19 (Nat.le_of_ble_eq_true rfl) (Nat.le_of_ble_eq_true rfl) (WQ_ok hc.1 hc.2 hR hF)
theorem L_load (h : cRel S A B) (hS : S.ok) : wdoes mL_load [.ref 0, .ref 95] A B D (WQ S S.sLoad A B D (ldC S.rd S.len) True (nI (S.rd.2.2.2.1 * (S.rd.2.2.1 + 1))).toInt64) := by
  refine wdoes_go (by decide) rfl (Nat.le_of_ble_eq_true rfl) ?_
  refine yi_aload_n dL_load_0 rfl rfl ?_
  refine yi_iconst dL_load_1 (v := 0) rfl ?_
  refine yi_aload_n dL_load_2 rfl rfl ?_
  refine wcV (M2 := mX7_load) (kr := 0) (ci := 7) (av := []) (st := [.int 0, .ref 95]) dL_load_3 lL_43 rfl rfl rfl ⟨by decide, by decide, by decide, by decide⟩ (by decide) rfl rfl rfl (C_load h hS) ?_ ?_
  · rintro E A2 B2 D2 ⟨(⟨q1, rfl⟩ | ⟨q1, q2, rfl⟩), rfl, hR, hF⟩
    · exact ⟨1, ⟨[], _, _, rfl, (fun z hz => nomatch hz), rfl, by decide, wIS, kIS, 2, 1, 1, Or.inr ⟨rfl, 2, rfl, dL_load_11⟩, by decide, dL_load_12, rfl, dL_load_13⟩, rfl, midF_hi hF, Or.inr (Or.inl ⟨q1, rfl, hR⟩)⟩
    · exact (q2 trivial).elim
  · rintro r A2 B2 D2 ⟨hc, rfl, rfl, hR, hF⟩
    refine yi_i2l dL_load_6 ?_
    refine yls (kk := 95) (nn := 1) (j := 0) dL_load_7 rfl rfl rfl (by decide) (by decide) ?_
    refine yi_goto (tgt := 14) dL_load_8 rfl ?_
    refine yi_iconst dL_load_14 (v := 0) rfl ?_
    exact ygo_ret (r := some (.int 0)) dL_load_15 (Nat.le_of_ble_eq_true rfl) (Nat.le_of_ble_eq_true rfl) (WQ_ok hc trivial hR hF)
theorem L_count (h : cRel S A B) (hS : S.ok) {v : Int32} : wdoes mL_count [.ref 0, .int v, .ref 95] A B D (WQ S S A B D (inR v 8) True (S.cnt v.toNatClampNeg).toInt64) := by
  refine wdoes_go (by decide) rfl (Nat.le_of_ble_eq_true rfl) ?_
  refine yi_aload_n dL_count_0 rfl rfl ?_
  refine yi_iconst dL_count_1 (v := 0) rfl ?_
  refine yi_aload_n dL_count_2 rfl rfl ?_
  refine yi_iload_n dL_count_3 rfl rfl ?_
  refine wcV (M2 := mX7_count) (kr := 0) (ci := 7) (av := [.int v]) (st := [.int 0, .ref 95]) dL_count_4 lL_46 rfl rfl rfl ⟨by decide, by decide, by decide, by decide⟩ (by decide) rfl rfl rfl (C_count h hS) ?_ ?_
  · rintro E A2 B2 D2 ⟨(⟨q1, rfl⟩ | ⟨q1, q2, rfl⟩), rfl, hR, hF⟩
    · exact ⟨1, ⟨[], _, _, rfl, (fun z hz => nomatch hz), rfl, by decide, wIA, kIA, 3, 1, 1, Or.inr ⟨rfl, 3, rfl, dL_count_12⟩, by decide, dL_count_13, rfl, dL_count_14⟩, rfl, midF_hi hF, Or.inr (Or.inl ⟨q1, rfl, hR⟩)⟩
    · exact (q2 trivial).elim
  · rintro r A2 B2 D2 ⟨hc, rfl, rfl, hR, hF⟩
    refine yi_i2l dL_count_7 ?_
    refine yls (kk := 95) (nn := 1) (j := 0) dL_count_8 rfl rfl rfl (by decide) (by decide) ?_
    refine yi_goto (tgt := 15) dL_count_9 rfl ?_
    refine yi_iconst dL_count_15 (v := 0) rfl ?_
    exact ygo_ret (r := some (.int 0)) dL_count_16 (Nat.le_of_ble_eq_true rfl) (Nat.le_of_ble_eq_true rfl) (WQ_ok hc trivial hR hF)
theorem L_nodeOf (h : cRel S A B) (hS : S.ok) {i : Int32} : wdoes mL_nodeOf [.ref 0, .int i, .ref 95] A B D (WQ S S A B D (inR i (nI S.n)) True (kN S.X i.toNatClampNeg).toInt64) := by
  refine wdoes_go (by decide) rfl (Nat.le_of_ble_eq_true rfl) ?_
  refine yi_aload_n dL_nodeOf_0 rfl rfl ?_
  refine yi_iconst dL_nodeOf_1 (v := 0) rfl ?_
  refine yi_aload_n dL_nodeOf_2 rfl rfl ?_
  refine yi_iload_n dL_nodeOf_3 rfl rfl ?_
  refine wcV (M2 := mX7_nodeOf) (kr := 0) (ci := 7) (av := [.int i]) (st := [.int 0, .ref 95]) dL_nodeOf_4 lL_49 rfl rfl rfl ⟨by decide, by decide, by decide, by decide⟩ (by decide) rfl rfl rfl (C_nodeOf h hS) ?_ ?_
  · rintro E A2 B2 D2 ⟨(⟨q1, rfl⟩ | ⟨q1, q2, rfl⟩), rfl, hR, hF⟩
    · exact ⟨1, ⟨[], _, _, rfl, (fun z hz => nomatch hz), rfl, by decide, wIO, kIO, 3, 1, 1, Or.inr ⟨rfl, 3, rfl, dL_nodeOf_12⟩, by decide, dL_nodeOf_13, rfl, dL_nodeOf_14⟩, rfl, midF_hi hF, Or.inr (Or.inl ⟨q1, rfl, hR⟩)⟩
    · exact (q2 trivial).elim
  · rintro r A2 B2 D2 ⟨hc, rfl, rfl, hR, hF⟩
    refine yi_i2l dL_nodeOf_7 ?_
    refine yls (kk := 95) (nn := 1) (j := 0) dL_nodeOf_8 rfl rfl rfl (by decide) (by decide) ?_
    refine yi_goto (tgt := 15) dL_nodeOf_9 rfl ?_
    refine yi_iconst dL_nodeOf_15 (v := 0) rfl ?_
    exact ygo_ret (r := some (.int 0)) dL_nodeOf_16 (Nat.le_of_ble_eq_true rfl) (Nat.le_of_ble_eq_true rfl) (WQ_ok hc trivial hR hF)
theorem L_attribute (h : cRel S A B) (hS : S.ok) {i a : Int32} : wdoes mL_attribute [.ref 0, .int i, .int a, .ref 95] A B D (WQ S S A B D (inR i (nI (kM S.X))) (inR a 12) (kAt S.X i.toNatClampNeg a.toNatClampNeg).toInt64) := by
  refine wdoes_go (by decide) rfl (Nat.le_of_ble_eq_true rfl) ?_
  refine yi_aload_n dL_attribute_0 rfl rfl ?_
  refine yi_iconst dL_attribute_1 (v := 0) rfl ?_
  refine yi_aload_n dL_attribute_2 rfl rfl ?_
  refine yi_iload_n dL_attribute_3 rfl rfl ?_
  refine yi_iload_n dL_attribute_4 rfl rfl ?_
  refine wcV (M2 := mX7_attribute) (kr := 0) (ci := 7) (av := [.int i, .int a]) (st := [.int 0, .ref 95]) dL_attribute_5 lL_52 rfl rfl rfl ⟨by decide, by decide, by decide, by decide⟩ (by decide) rfl rfl rfl (C_attribute h hS) ?_ ?_
  · rintro E A2 B2 D2 ⟨(⟨q1, rfl⟩ | ⟨q1, q2, rfl⟩), rfl, hR, hF⟩
    · exact ⟨1, ⟨[], _, _, rfl, (fun z hz => nomatch hz), rfl, by decide, wIO, kIO, 4, 2, 1, Or.inl ⟨rfl, dL_attribute_13⟩, by decide, dL_attribute_15, rfl, dL_attribute_16⟩, rfl, midF_hi hF, Or.inr (Or.inl ⟨q1, rfl, hR⟩)⟩
    · exact ⟨2, ⟨[_], _, _, rfl, (fun z hz => by cases List.mem_singleton.mp hz; exact ⟨by decide, sIO, wIO, fun s h => h.1⟩), rfl, by decide, wIA, kIA, 4, 2, 2, Or.inl ⟨rfl, dL_attribute_17⟩, by decide, dL_attribute_19, rfl, dL_attribute_20⟩, rfl, midF_hi hF, Or.inr (Or.inr ⟨q1, q2, rfl, hR⟩)⟩
  · rintro r A2 B2 D2 ⟨hc, rfl, rfl, hR, hF⟩
    refine yi_i2l dL_attribute_8 ?_
    refine yls (kk := 95) (nn := 1) (j := 0) dL_attribute_9 rfl rfl rfl (by decide) (by decide) ?_
    refine yi_goto (tgt := 21) dL_attribute_10 rfl ?_
    refine yi_iconst dL_attribute_21 (v := 0) rfl ?_
    exact ygo_ret (r := some (.int 0)) dL_attribute_22 (Nat.le_of_ble_eq_true rfl) (Nat.le_of_ble_eq_true rfl) (WQ_ok hc.1 hc.2 hR hF)
theorem L_meanRank (h : cRel S A B) (hS : S.ok) {i : Int32} : wdoes mL_meanRank [.ref 0, .int i, .ref 96] A B D (WD S A B (inR i (nI (kM S.X))) (kMn S.X i.toNatClampNeg)) := by
  refine wdoes_go (by decide) rfl (Nat.le_of_ble_eq_true rfl) ?_
  refine yi_aload_n dL_meanRank_0 rfl rfl ?_
  refine yi_iconst dL_meanRank_1 (v := 0) rfl ?_
  refine yi_aload_n dL_meanRank_2 rfl rfl ?_
  refine yi_iload_n dL_meanRank_3 rfl rfl ?_
  refine wcV (M2 := mX7_meanRank) (kr := 0) (ci := 7) (av := [.int i]) (st := [.int 0, .ref 96]) dL_meanRank_4 lL_55 rfl rfl rfl ⟨by decide, by decide, by decide, by decide⟩ (by decide) rfl rfl rfl (C_meanRank h hS) ?_ ?_
  · rintro E A2 B2 D2 ⟨(⟨q1, rfl⟩ | ⟨q1, q2, rfl⟩), rfl, hR, hF⟩
    · exact ⟨1, ⟨[], _, _, rfl, (fun z hz => nomatch hz), rfl, by decide, wIO, kIO, 3, 1, 1, Or.inr ⟨rfl, 3, rfl, dL_meanRank_11⟩, by decide, dL_meanRank_12, rfl, dL_meanRank_13⟩, midF_hi hF, Or.inr ⟨q1, rfl, hR⟩⟩
    · exact (q2 trivial).elim
  · rintro r A2 B2 D2 ⟨hc, rfl, rfl, hR, hF⟩
    refine yds (kk := 96) (nn := 1) (j := 0) dL_meanRank_7 rfl rfl rfl (by decide) (by decide) ?_
    refine yi_goto (tgt := 14) dL_meanRank_8 rfl ?_
    refine yi_iconst dL_meanRank_14 (v := 0) rfl ?_
    exact ygo_ret (r := some (.int 0)) dL_meanRank_15 (Nat.le_of_ble_eq_true rfl) (Nat.le_of_ble_eq_true rfl) (WD_ok hc hR hF)
theorem L_contains (h : cRel S A B) (hS : S.ok) {i j : Int32} : wdoes mL_contains [.ref 0, .int i, .int j, .ref 95] A B D (WQ S S A B D (inR i (nI (kM S.X)) ∧ inR j (nI S.n)) True (if (hasM (kS S.X i.toNatClampNeg) j) = 0 then 0 else 1)) := by
  refine wdoes_go (by decide) rfl (Nat.le_of_ble_eq_true rfl) ?_
  refine yi_aload_n dL_contains_0 rfl rfl ?_
  refine yi_iconst dL_contains_1 (v := 0) rfl ?_
  refine yi_aload_n dL_contains_2 rfl rfl ?_
  refine yi_iload_n dL_contains_3 rfl rfl ?_
  refine yi_iload_n dL_contains_4 rfl rfl ?_
  refine wcV (M2 := mX7_contains) (kr := 0) (ci := 7) (av := [.int i, .int j]) (st := [.int 0, .ref 95]) dL_contains_5 lL_59 rfl rfl rfl ⟨by decide, by decide, by decide, by decide⟩ (by decide) rfl rfl rfl (C_contains h hS) ?_ ?_
  · rintro E A2 B2 D2 ⟨(⟨q1, rfl⟩ | ⟨q1, q2, rfl⟩), rfl, hR, hF⟩
    · exact ⟨1, ⟨[], _, _, rfl, (fun z hz => nomatch hz), rfl, by decide, wIO, kIO, 4, 2, 1, Or.inl ⟨rfl, dL_contains_20⟩, by decide, dL_contains_22, rfl, dL_contains_23⟩, rfl, midF_hi hF, Or.inr (Or.inl ⟨q1, rfl, hR⟩)⟩
    · exact (q2 trivial).elim
  · rintro r A2 B2 D2 ⟨hc, rfl, rfl, hR, hF⟩
    refine yi_if_eq (tgt := 15) dL_contains_8 rfl (fun hz => ?_) (fun hz => ?_)
    · rw [if_pos hz]
      refine yi_lconst dL_contains_15 (v := 0) rfl ?_
      refine yls (kk := 95) (nn := 1) (j := 0) dL_contains_16 rfl rfl rfl (by decide) (by decide) ?_
      refine yi_goto (tgt := 24) dL_contains_17 rfl ?_
      refine yi_iconst dL_contains_24 (v := 0) rfl ?_
      exact ygo_ret (r := some (.int 0)) dL_contains_25 (Nat.le_of_ble_eq_true rfl) (Nat.le_of_ble_eq_true rfl) (WQ_ok hc trivial hR hF)
    · rw [if_neg hz]
      refine yi_lconst dL_contains_11 (v := 1) rfl ?_
      refine yi_goto (tgt := 16) dL_contains_12 rfl ?_
      refine yls (kk := 95) (nn := 1) (j := 0) dL_contains_16 rfl rfl rfl (by decide) (by decide) ?_
      refine yi_goto (tgt := 24) dL_contains_17 rfl ?_
      refine yi_iconst dL_contains_24 (v := 0) rfl ?_
      exact ygo_ret (r := some (.int 0)) dL_contains_25 (Nat.le_of_ble_eq_true rfl) (Nat.le_of_ble_eq_true rfl) (WQ_ok hc trivial hR hF)
theorem L_child (h : cRel S A B) (hS : S.ok) {i j : Int32} : wdoes mL_child [.ref 0, .int i, .int j, .ref 95] A B D (WQ S S A B D (inR i (nI (kM S.X)) ∧ inR j (kC S.X i.toNatClampNeg)) True (itr (chS (kP S.X) i) (kM S.X) (-1, j)).1.toInt64) := by
  refine wdoes_go (by decide) rfl (Nat.le_of_ble_eq_true rfl) ?_
  refine yi_aload_n dL_child_0 rfl rfl ?_
  refine yi_iconst dL_child_1 (v := 0) rfl ?_
  refine yi_aload_n dL_child_2 rfl rfl ?_
  refine yi_iload_n dL_child_3 rfl rfl ?_
  refine yi_iload_n dL_child_4 rfl rfl ?_
  refine wcV (M2 := mX7_child) (kr := 0) (ci := 7) (av := [.int i, .int j]) (st := [.int 0, .ref 95]) dL_child_5 lL_63 rfl rfl rfl ⟨by decide, by decide, by decide, by decide⟩ (by decide) rfl rfl rfl (C_child h hS) ?_ ?_
  · rintro E A2 B2 D2 ⟨(⟨q1, rfl⟩ | ⟨q1, q2, rfl⟩), rfl, hR, hF⟩
    · exact ⟨1, ⟨[], _, _, rfl, (fun z hz => nomatch hz), rfl, by decide, wIO, kIO, 4, 2, 1, Or.inl ⟨rfl, dL_child_13⟩, by decide, dL_child_15, rfl, dL_child_16⟩, rfl, midF_hi hF, Or.inr (Or.inl ⟨q1, rfl, hR⟩)⟩
    · exact (q2 trivial).elim
  · rintro r A2 B2 D2 ⟨hc, rfl, rfl, hR, hF⟩
    refine yi_i2l dL_child_8 ?_
    refine yls (kk := 95) (nn := 1) (j := 0) dL_child_9 rfl rfl rfl (by decide) (by decide) ?_
    refine yi_goto (tgt := 17) dL_child_10 rfl ?_
    refine yi_iconst dL_child_17 (v := 0) rfl ?_
    exact ygo_ret (r := some (.int 0)) dL_child_18 (Nat.le_of_ble_eq_true rfl) (Nat.le_of_ble_eq_true rfl) (WQ_ok hc trivial hR hF)
theorem L_leaf (h : cRel S A B) (hS : S.ok) {i : Int32} : wdoes mL_leaf [.ref 0, .int i, .ref 95] A B D (WQ S S A B D (inR i (nI (kLf S.X))) True (kLo S.X i.toNatClampNeg).toInt64) := by
  refine wdoes_go (by decide) rfl (Nat.le_of_ble_eq_true rfl) ?_
  refine yi_aload_n dL_leaf_0 rfl rfl ?_
  refine yi_iconst dL_leaf_1 (v := 0) rfl ?_
  refine yi_aload_n dL_leaf_2 rfl rfl ?_
  refine yi_iload_n dL_leaf_3 rfl rfl ?_
  refine wcV (M2 := mX7_leaf) (kr := 0) (ci := 7) (av := [.int i]) (st := [.int 0, .ref 95]) dL_leaf_4 lL_66 rfl rfl rfl ⟨by decide, by decide, by decide, by decide⟩ (by decide) rfl rfl rfl (C_leaf h hS) ?_ ?_
  · rintro E A2 B2 D2 ⟨(⟨q1, rfl⟩ | ⟨q1, q2, rfl⟩), rfl, hR, hF⟩
    · exact ⟨1, ⟨[], _, _, rfl, (fun z hz => nomatch hz), rfl, by decide, wIO, kIO, 3, 1, 1, Or.inr ⟨rfl, 3, rfl, dL_leaf_12⟩, by decide, dL_leaf_13, rfl, dL_leaf_14⟩, rfl, midF_hi hF, Or.inr (Or.inl ⟨q1, rfl, hR⟩)⟩
    · exact (q2 trivial).elim
  · rintro r A2 B2 D2 ⟨hc, rfl, rfl, hR, hF⟩
    refine yi_i2l dL_leaf_7 ?_
    refine yls (kk := 95) (nn := 1) (j := 0) dL_leaf_8 rfl rfl rfl (by decide) (by decide) ?_
    refine yi_goto (tgt := 15) dL_leaf_9 rfl ?_
    refine yi_iconst dL_leaf_15 (v := 0) rfl ?_
    exact ygo_ret (r := some (.int 0)) dL_leaf_16 (Nat.le_of_ble_eq_true rfl) (Nat.le_of_ble_eq_true rfl) (WQ_ok hc trivial hR hF)
theorem L_prominence (h : cRel S A B) (hS : S.ok) {i : Int32} : wdoes mL_prominence [.ref 0, .int i, .ref 95] A B D (WQ S S A B D (inR i (nI (kM S.X))) (kC S.X i.toNatClampNeg = 0) (kQ S.X i.toNatClampNeg).toInt64) := by
  refine wdoes_go (by decide) rfl (Nat.le_of_ble_eq_true rfl) ?_
  refine yi_aload_n dL_prominence_0 rfl rfl ?_
  refine yi_iconst dL_prominence_1 (v := 0) rfl ?_
  refine yi_aload_n dL_prominence_2 rfl rfl ?_
  refine yi_iload_n dL_prominence_3 rfl rfl ?_
  refine wcV (M2 := mX7_prominence) (kr := 0) (ci := 7) (av := [.int i]) (st := [.int 0, .ref 95]) dL_prominence_4 lL_69 rfl rfl rfl ⟨by decide, by decide, by decide, by decide⟩ (by decide) rfl rfl rfl (C_prominence h hS) ?_ ?_
  · rintro E A2 B2 D2 ⟨(⟨q1, rfl⟩ | ⟨q1, q2, rfl⟩), rfl, hR, hF⟩
    · exact ⟨1, ⟨[], _, _, rfl, (fun z hz => nomatch hz), rfl, by decide, wIO, kIO, 3, 1, 1, Or.inr ⟨rfl, 3, rfl, dL_prominence_12⟩, by decide, dL_prominence_13, rfl, dL_prominence_14⟩, rfl, midF_hi hF, Or.inr (Or.inl ⟨q1, rfl, hR⟩)⟩
    · exact ⟨2, ⟨[_], _, _, rfl, (fun z hz => by cases List.mem_singleton.mp hz; exact ⟨by decide, sIO, wIO, fun s h => h.2.2⟩), rfl, by decide, wIS, kIS, 3, 1, 2, Or.inr ⟨rfl, 3, rfl, dL_prominence_15⟩, by decide, dL_prominence_16, rfl, dL_prominence_17⟩, rfl, midF_hi hF, Or.inr (Or.inr ⟨q1, q2, rfl, hR⟩)⟩
  · rintro r A2 B2 D2 ⟨hc, rfl, rfl, hR, hF⟩
    refine yi_i2l dL_prominence_7 ?_
    refine yls (kk := 95) (nn := 1) (j := 0) dL_prominence_8 rfl rfl rfl (by decide) (by decide) ?_
    refine yi_goto (tgt := 18) dL_prominence_9 rfl ?_
    refine yi_iconst dL_prominence_18 (v := 0) rfl ?_
    exact ygo_ret (r := some (.int 0)) dL_prominence_19 (Nat.le_of_ble_eq_true rfl) (Nat.le_of_ble_eq_true rfl) (WQ_ok hc.1 hc.2 hR hF)
theorem L_component (h : cRel S A B) (hS : S.ok) {i v : Int32} : wdoes mL_component [.ref 0, .int i, .int v, .ref 95] A B D (WQ S S A B D (inR i (nI S.n)) (btw v 0 15) (cfV (kK S.X) (kS S.X) i v (kM S.X) (-1)).toInt64) := by
  refine wdoes_go (by decide) rfl (Nat.le_of_ble_eq_true rfl) ?_
  refine yi_aload_n dL_component_0 rfl rfl ?_
  refine yi_iconst dL_component_1 (v := 0) rfl ?_
  refine yi_aload_n dL_component_2 rfl rfl ?_
  refine yi_iload_n dL_component_3 rfl rfl ?_
  refine yi_iload_n dL_component_4 rfl rfl ?_
  refine wcV (M2 := mX7_component) (kr := 0) (ci := 7) (av := [.int i, .int v]) (st := [.int 0, .ref 95]) dL_component_5 lL_72 rfl rfl rfl ⟨by decide, by decide, by decide, by decide⟩ (by decide) rfl rfl rfl (C_component h hS) ?_ ?_
  · rintro E A2 B2 D2 ⟨(⟨q1, rfl⟩ | ⟨q1, q2, rfl⟩), rfl, hR, hF⟩
    · exact ⟨1, ⟨[], _, _, rfl, (fun z hz => nomatch hz), rfl, by decide, wIO, kIO, 4, 2, 1, Or.inl ⟨rfl, dL_component_13⟩, by decide, dL_component_15, rfl, dL_component_16⟩, rfl, midF_hi hF, Or.inr (Or.inl ⟨q1, rfl, hR⟩)⟩
    · exact ⟨2, ⟨[_], _, _, rfl, (fun z hz => by cases List.mem_singleton.mp hz; exact ⟨by decide, sIO, wIO, fun s h => h.1⟩), rfl, by decide, wIA, kIA, 4, 2, 2, Or.inl ⟨rfl, dL_component_17⟩, by decide, dL_component_19, rfl, dL_component_20⟩, rfl, midF_hi hF, Or.inr (Or.inr ⟨q1, q2, rfl, hR⟩)⟩
  · rintro r A2 B2 D2 ⟨hc, rfl, rfl, hR, hF⟩
    refine yi_i2l dL_component_8 ?_
    refine yls (kk := 95) (nn := 1) (j := 0) dL_component_9 rfl rfl rfl (by decide) (by decide) ?_
    refine yi_goto (tgt := 21) dL_component_10 rfl ?_
    refine yi_iconst dL_component_21 (v := 0) rfl ?_
    exact ygo_ret (r := some (.int 0)) dL_component_22 (Nat.le_of_ble_eq_true rfl) (Nat.le_of_ble_eq_true rfl) (WQ_ok hc.1 hc.2 hR hF)
theorem L_meet (h : cRel S A B) (hS : S.ok) {i j : Int32} : wdoes mL_meet [.ref 0, .int i, .int j, .ref 95] A B D (WQ S S A B D (inR i (nI S.n) ∧ inR j (nI S.n)) True (itr (meS2 (kS S.X) i j) (kM S.X) 0).toInt64) := by
  refine wdoes_go (by decide) rfl (Nat.le_of_ble_eq_true rfl) ?_
  refine yi_aload_n dL_meet_0 rfl rfl ?_
  refine yi_iconst dL_meet_1 (v := 0) rfl ?_
  refine yi_aload_n dL_meet_2 rfl rfl ?_
  refine yi_iload_n dL_meet_3 rfl rfl ?_
  refine yi_iload_n dL_meet_4 rfl rfl ?_
  refine wcV (M2 := mX7_meet) (kr := 0) (ci := 7) (av := [.int i, .int j]) (st := [.int 0, .ref 95]) dL_meet_5 lL_75 rfl rfl rfl ⟨by decide, by decide, by decide, by decide⟩ (by decide) rfl rfl rfl (C_meet h hS) ?_ ?_
  · rintro E A2 B2 D2 ⟨(⟨q1, rfl⟩ | ⟨q1, q2, rfl⟩), rfl, hR, hF⟩
    · exact ⟨1, ⟨[], _, _, rfl, (fun z hz => nomatch hz), rfl, by decide, wIO, kIO, 4, 2, 1, Or.inl ⟨rfl, dL_meet_13⟩, by decide, dL_meet_15, rfl, dL_meet_16⟩, rfl, midF_hi hF, Or.inr (Or.inl ⟨q1, rfl, hR⟩)⟩
    · exact (q2 trivial).elim
  · rintro r A2 B2 D2 ⟨hc, rfl, rfl, hR, hF⟩
    refine yi_i2l dL_meet_8 ?_
    refine yls (kk := 95) (nn := 1) (j := 0) dL_meet_9 rfl rfl rfl (by decide) (by decide) ?_
    refine yi_goto (tgt := 17) dL_meet_10 rfl ?_
    refine yi_iconst dL_meet_17 (v := 0) rfl ?_
    exact ygo_ret (r := some (.int 0)) dL_meet_18 (Nat.le_of_ble_eq_true rfl) (Nat.le_of_ble_eq_true rfl) (WQ_ok hc trivial hR hF)
theorem L_distance (h : cRel S A B) (hS : S.ok) {i j : Int32} : wdoes mL_distance [.ref 0, .int i, .int j, .ref 95] A B D (WQ S S A B D (inR i (nI (kM S.X)) ∧ inR j (nI (kM S.X))) True (diV (kS S.X) (kP S.X) i.toNatClampNeg j.toNatClampNeg (kM S.X)).toInt64) := by
  refine wdoes_go (by decide) rfl (Nat.le_of_ble_eq_true rfl) ?_
  refine yi_aload_n dL_distance_0 rfl rfl ?_
  refine yi_iconst dL_distance_1 (v := 0) rfl ?_
  refine yi_aload_n dL_distance_2 rfl rfl ?_
  refine yi_iload_n dL_distance_3 rfl rfl ?_
  refine yi_iload_n dL_distance_4 rfl rfl ?_
  refine wcV (M2 := mX7_distance) (kr := 0) (ci := 7) (av := [.int i, .int j]) (st := [.int 0, .ref 95]) dL_distance_5 lL_78 rfl rfl rfl ⟨by decide, by decide, by decide, by decide⟩ (by decide) rfl rfl rfl (C_distance h hS) ?_ ?_
  · rintro E A2 B2 D2 ⟨(⟨q1, rfl⟩ | ⟨q1, q2, rfl⟩), rfl, hR, hF⟩
    · exact ⟨1, ⟨[], _, _, rfl, (fun z hz => nomatch hz), rfl, by decide, wIO, kIO, 4, 2, 1, Or.inl ⟨rfl, dL_distance_13⟩, by decide, dL_distance_15, rfl, dL_distance_16⟩, rfl, midF_hi hF, Or.inr (Or.inl ⟨q1, rfl, hR⟩)⟩
    · exact (q2 trivial).elim
  · rintro r A2 B2 D2 ⟨hc, rfl, rfl, hR, hF⟩
    refine yi_i2l dL_distance_8 ?_
    refine yls (kk := 95) (nn := 1) (j := 0) dL_distance_9 rfl rfl rfl (by decide) (by decide) ?_
    refine yi_goto (tgt := 17) dL_distance_10 rfl ?_
    refine yi_iconst dL_distance_17 (v := 0) rfl ?_
    exact ygo_ret (r := some (.int 0)) dL_distance_18 (Nat.le_of_ble_eq_true rfl) (Nat.le_of_ble_eq_true rfl) (WQ_ok hc trivial hR hF)
theorem L_verdict (h : cRel S A B) (hS : S.ok) {i a t u : Int32} : wdoes mL_verdict [.ref 0, .int i, .int a, .int t, .int u, .ref 95] A B D (WQ S S A B D (inR i (nI (kM S.X))) (fOK a t u) (verV (kAt S.X i.toNatClampNeg a.toNatClampNeg) (kRem S.X a.toNatClampNeg t u i.toNatClampNeg) t).toInt64) := by
  refine wdoes_go (by decide) rfl (Nat.le_of_ble_eq_true rfl) ?_
  refine yi_aload dL_verdict_0 rfl ?_
  refine yi_iconst dL_verdict_2 (v := 0) rfl ?_
  refine yi_aload_n dL_verdict_3 rfl rfl ?_
  refine yi_iload_n dL_verdict_4 rfl rfl ?_
  refine yi_iload_n dL_verdict_5 rfl rfl ?_
  refine yi_iload_n dL_verdict_6 rfl rfl ?_
  refine yi_iload dL_verdict_7 rfl ?_
  refine wcV (M2 := mX7_verdict) (kr := 0) (ci := 7) (av := [.int i, .int a, .int t, .int u]) (st := [.int 0, .ref 95]) dL_verdict_9 lL_81 rfl rfl rfl ⟨by decide, by decide, by decide, by decide⟩ (by decide) rfl rfl rfl (C_verdict h hS) ?_ ?_
  · rintro E A2 B2 D2 ⟨(⟨q1, rfl⟩ | ⟨q1, q2, rfl⟩), rfl, hR, hF⟩
    · exact ⟨1, ⟨[], _, _, rfl, (fun z hz => nomatch hz), rfl, by decide, wIO, kIO, 6, 2, 1, Or.inl ⟨rfl, dL_verdict_17⟩, by decide, dL_verdict_19, rfl, dL_verdict_20⟩, rfl, midF_hi hF, Or.inr (Or.inl ⟨q1, rfl, hR⟩)⟩
    · exact ⟨2, ⟨[_], _, _, rfl, (fun z hz => by cases List.mem_singleton.mp hz; exact ⟨by decide, sIO, wIO, fun s h => h.1⟩), rfl, by decide, wIA, kIA, 6, 2, 2, Or.inl ⟨rfl, dL_verdict_21⟩, by decide, dL_verdict_23, rfl, dL_verdict_24⟩, rfl, midF_hi hF, Or.inr (Or.inr ⟨q1, q2, rfl, hR⟩)⟩
  · rintro r A2 B2 D2 ⟨hc, rfl, rfl, hR, hF⟩
    refine yi_i2l dL_verdict_12 ?_
    refine yls (kk := 95) (nn := 1) (j := 0) dL_verdict_13 rfl rfl rfl (by decide) (by decide) ?_
    refine yi_goto (tgt := 25) dL_verdict_14 rfl ?_
    refine yi_iconst dL_verdict_25 (v := 0) rfl ?_
    exact ygo_ret (r := some (.int 0)) dL_verdict_26 (Nat.le_of_ble_eq_true rfl) (Nat.le_of_ble_eq_true rfl) (WQ_ok hc.1 hc.2 hR hF)
theorem L_filtered (h : cRel S A B) (hS : S.ok) {i a t u : Int32} : wdoes mL_filtered [.ref 0, .int i, .int a, .int t, .int u, .ref 95] A B D (WQ S S A B D (inR i (nI S.n)) (fOK a t u) (trn (kNr S.X a.toNatClampNeg t u i.toNatClampNeg) S.dk).toInt64) := by
  refine wdoes_go (by decide) rfl (Nat.le_of_ble_eq_true rfl) ?_
  refine yi_aload dL_filtered_0 rfl ?_
  refine yi_iconst dL_filtered_2 (v := 0) rfl ?_
  refine yi_aload_n dL_filtered_3 rfl rfl ?_
  refine yi_iload_n dL_filtered_4 rfl rfl ?_
  refine yi_iload_n dL_filtered_5 rfl rfl ?_
  refine yi_iload_n dL_filtered_6 rfl rfl ?_
  refine yi_iload dL_filtered_7 rfl ?_
  refine wcV (M2 := mX7_filtered) (kr := 0) (ci := 7) (av := [.int i, .int a, .int t, .int u]) (st := [.int 0, .ref 95]) dL_filtered_9 lL_85 rfl rfl rfl ⟨by decide, by decide, by decide, by decide⟩ (by decide) rfl rfl rfl (C_filtered h hS) ?_ ?_
  · rintro E A2 B2 D2 ⟨(⟨q1, rfl⟩ | ⟨q1, q2, rfl⟩), rfl, hR, hF⟩
    · exact ⟨1, ⟨[], _, _, rfl, (fun z hz => nomatch hz), rfl, by decide, wIO, kIO, 6, 2, 1, Or.inl ⟨rfl, dL_filtered_17⟩, by decide, dL_filtered_19, rfl, dL_filtered_20⟩, rfl, midF_hi hF, Or.inr (Or.inl ⟨q1, rfl, hR⟩)⟩
    · exact ⟨2, ⟨[_], _, _, rfl, (fun z hz => by cases List.mem_singleton.mp hz; exact ⟨by decide, sIO, wIO, fun s h => h.1⟩), rfl, by decide, wIA, kIA, 6, 2, 2, Or.inl ⟨rfl, dL_filtered_21⟩, by decide, dL_filtered_23, rfl, dL_filtered_24⟩, rfl, midF_hi hF, Or.inr (Or.inr ⟨q1, q2, rfl, hR⟩)⟩
  · rintro r A2 B2 D2 ⟨hc, rfl, rfl, hR, hF⟩
    refine yi_i2l dL_filtered_12 ?_
    refine yls (kk := 95) (nn := 1) (j := 0) dL_filtered_13 rfl rfl rfl (by decide) (by decide) ?_
    refine yi_goto (tgt := 25) dL_filtered_14 rfl ?_
    refine yi_iconst dL_filtered_25 (v := 0) rfl ?_
    exact ygo_ret (r := some (.int 0)) dL_filtered_26 (Nat.le_of_ble_eq_true rfl) (Nat.le_of_ble_eq_true rfl) (WQ_ok hc.1 hc.2 hR hF)
theorem L_loss (h : cRel S A B) (hS : S.ok) {a t u : Int32} : wdoes mL_loss [.ref 0, .int a, .int t, .int u, .ref 95] A B D (WQ S S A B D (fOK a t u) True (S.loss a.toNatClampNeg t u).toInt64) := by
  refine wdoes_go (by decide) rfl (Nat.le_of_ble_eq_true rfl) ?_
  refine yi_aload dL_loss_0 rfl ?_
  refine yi_iconst dL_loss_2 (v := 0) rfl ?_
  refine yi_aload_n dL_loss_3 rfl rfl ?_
  refine yi_iload_n dL_loss_4 rfl rfl ?_
  refine yi_iload_n dL_loss_5 rfl rfl ?_
  refine yi_iload_n dL_loss_6 rfl rfl ?_
  refine wcV (M2 := mX7_loss) (kr := 0) (ci := 7) (av := [.int a, .int t, .int u]) (st := [.int 0, .ref 95]) dL_loss_7 lL_88 rfl rfl rfl ⟨by decide, by decide, by decide, by decide⟩ (by decide) rfl rfl rfl (C_loss h hS) ?_ ?_
  · rintro E A2 B2 D2 ⟨(⟨q1, rfl⟩ | ⟨q1, q2, rfl⟩), rfl, hR, hF⟩
    · exact ⟨1, ⟨[], _, _, rfl, (fun z hz => nomatch hz), rfl, by decide, wIA, kIA, 5, 2, 1, Or.inl ⟨rfl, dL_loss_15⟩, by decide, dL_loss_17, rfl, dL_loss_18⟩, rfl, midF_hi hF, Or.inr (Or.inl ⟨q1, rfl, hR⟩)⟩
    · exact (q2 trivial).elim
  · rintro r A2 B2 D2 ⟨hc, rfl, rfl, hR, hF⟩
    refine yi_i2l dL_loss_10 ?_
    refine yls (kk := 95) (nn := 1) (j := 0) dL_loss_11 rfl rfl rfl (by decide) (by decide) ?_
    refine yi_goto (tgt := 19) dL_loss_12 rfl ?_
    refine yi_iconst dL_loss_19 (v := 0) rfl ?_
    exact ygo_ret (r := some (.int 0)) dL_loss_20 (Nat.le_of_ble_eq_true rfl) (Nat.le_of_ble_eq_true rfl) (WQ_ok hc trivial hR hF)
theorem L_filter (h : cRel S A B) (hS : S.ok) {a t u : Int32} : wdoes mL_filter [.ref 0, .int a, .int t, .int u, .ref 95] A B D (WQ S (S.paint (kNr S.X a.toNatClampNeg t u)) A B D (fOK a t u) True (S.chg (kNr S.X a.toNatClampNeg t u)).toInt64) := by
  refine wdoes_go (by decide) rfl (Nat.le_of_ble_eq_true rfl) ?_
  refine yi_aload dL_filter_0 rfl ?_
  refine yi_iconst dL_filter_2 (v := 0) rfl ?_
  refine yi_aload_n dL_filter_3 rfl rfl ?_
  refine yi_iload_n dL_filter_4 rfl rfl ?_
  refine yi_iload_n dL_filter_5 rfl rfl ?_
  refine yi_iload_n dL_filter_6 rfl rfl ?_
  refine wcV (M2 := mX7_filter) (kr := 0) (ci := 7) (av := [.int a, .int t, .int u]) (st := [.int 0, .ref 95]) dL_filter_7 lL_91 rfl rfl rfl ⟨by decide, by decide, by decide, by decide⟩ (by decide) rfl rfl rfl (C_filter h hS) ?_ ?_
  · rintro E A2 B2 D2 ⟨(⟨q1, rfl⟩ | ⟨q1, q2, rfl⟩), rfl, hR, hF⟩
    · exact ⟨1, ⟨[], _, _, rfl, (fun z hz => nomatch hz), rfl, by decide, wIA, kIA, 5, 2, 1, Or.inl ⟨rfl, dL_filter_15⟩, by decide, dL_filter_17, rfl, dL_filter_18⟩, rfl, midF_hi hF, Or.inr (Or.inl ⟨q1, rfl, hR⟩)⟩
    · exact (q2 trivial).elim
  · rintro r A2 B2 D2 ⟨hc, rfl, rfl, hR, hF⟩
    refine yi_i2l dL_filter_10 ?_
    refine yls (kk := 95) (nn := 1) (j := 0) dL_filter_11 rfl rfl rfl (by decide) (by decide) ?_
    refine yi_goto (tgt := 19) dL_filter_12 rfl ?_
    refine yi_iconst dL_filter_19 (v := 0) rfl ?_
    exact ygo_ret (r := some (.int 0)) dL_filter_20 (Nat.le_of_ble_eq_true rfl) (Nat.le_of_ble_eq_true rfl) (WQ_ok hc trivial hR hF)
theorem L_threshold (h : cRel S A B) (hS : S.ok) {a bd : Int32} : wdoes mL_threshold [.ref 0, .int a, .int bd, .ref 95] A B D (WQ S S A B D (¬ isFAV a = 0 ∧ btw bd 0 999) True (thF (fun t => S.loss a.toNatClampNeg (nI t) 1) bd 1000 0).toInt64) := by
  refine wdoes_go (by decide) rfl (Nat.le_of_ble_eq_true rfl) ?_
  refine yi_aload_n dL_threshold_0 rfl rfl ?_
  refine yi_iconst dL_threshold_1 (v := 0) rfl ?_
  refine yi_aload_n dL_threshold_2 rfl rfl ?_
  refine yi_iload_n dL_threshold_3 rfl rfl ?_
  refine yi_iload_n dL_threshold_4 rfl rfl ?_
  refine wcV (M2 := mX7_threshold) (kr := 0) (ci := 7) (av := [.int a, .int bd]) (st := [.int 0, .ref 95]) dL_threshold_5 lL_94 rfl rfl rfl ⟨by decide, by decide, by decide, by decide⟩ (by decide) rfl rfl rfl (C_threshold h hS) ?_ ?_
  · rintro E A2 B2 D2 ⟨(⟨q1, rfl⟩ | ⟨q1, q2, rfl⟩), rfl, hR, hF⟩
    · exact ⟨1, ⟨[], _, _, rfl, (fun z hz => nomatch hz), rfl, by decide, wIA, kIA, 4, 2, 1, Or.inl ⟨rfl, dL_threshold_13⟩, by decide, dL_threshold_15, rfl, dL_threshold_16⟩, rfl, midF_hi hF, Or.inr (Or.inl ⟨q1, rfl, hR⟩)⟩
    · exact (q2 trivial).elim
  · rintro r A2 B2 D2 ⟨hc, rfl, rfl, hR, hF⟩
    refine yi_i2l dL_threshold_8 ?_
    refine yls (kk := 95) (nn := 1) (j := 0) dL_threshold_9 rfl rfl rfl (by decide) (by decide) ?_
    refine yi_goto (tgt := 17) dL_threshold_10 rfl ?_
    refine yi_iconst dL_threshold_17 (v := 0) rfl ?_
    exact ygo_ret (r := some (.int 0)) dL_threshold_18 (Nat.le_of_ble_eq_true rfl) (Nat.le_of_ble_eq_true rfl) (WQ_ok hc trivial hR hF)
theorem L_suppress (h : cRel S A B) (hS : S.ok) {v : Int32} : wdoes mL_suppress [.ref 0, .int v, .ref 95] A B D (WQ S (S.paint (kRb S.X (S.mkS v))) A B D (btw v 0 15) True (S.chg (kRb S.X (S.mkS v))).toInt64) := by
  refine wdoes_go (by decide) rfl (Nat.le_of_ble_eq_true rfl) ?_
  refine yi_aload_n dL_suppress_0 rfl rfl ?_
  refine yi_iconst dL_suppress_1 (v := 0) rfl ?_
  refine yi_aload_n dL_suppress_2 rfl rfl ?_
  refine yi_iload_n dL_suppress_3 rfl rfl ?_
  refine wcV (M2 := mX7_suppress) (kr := 0) (ci := 7) (av := [.int v]) (st := [.int 0, .ref 95]) dL_suppress_4 lL_97 rfl rfl rfl ⟨by decide, by decide, by decide, by decide⟩ (by decide) rfl rfl rfl (C_suppress h hS) ?_ ?_
  · rintro E A2 B2 D2 ⟨(⟨q1, rfl⟩ | ⟨q1, q2, rfl⟩), rfl, hR, hF⟩
    · exact ⟨1, ⟨[], _, _, rfl, (fun z hz => nomatch hz), rfl, by decide, wIA, kIA, 3, 1, 1, Or.inr ⟨rfl, 3, rfl, dL_suppress_12⟩, by decide, dL_suppress_13, rfl, dL_suppress_14⟩, rfl, midF_hi hF, Or.inr (Or.inl ⟨q1, rfl, hR⟩)⟩
    · exact (q2 trivial).elim
  · rintro r A2 B2 D2 ⟨hc, rfl, rfl, hR, hF⟩
    refine yi_i2l dL_suppress_7 ?_
    refine yls (kk := 95) (nn := 1) (j := 0) dL_suppress_8 rfl rfl rfl (by decide) (by decide) ?_
    refine yi_goto (tgt := 15) dL_suppress_9 rfl ?_
    refine yi_iconst dL_suppress_15 (v := 0) rfl ?_
    exact ygo_ret (r := some (.int 0)) dL_suppress_16 (Nat.le_of_ble_eq_true rfl) (Nat.le_of_ble_eq_true rfl) (WQ_ok hc trivial hR hF)
theorem L_keepPeaks (h : cRel S A B) (hS : S.ok) {v : Int32} : wdoes mL_keepPeaks [.ref 0, .int v, .ref 95] A B D (WQ S (S.paint (kKp S.X (min v.toNatClampNeg (kLf S.X)))) A B D (btw v 0 64) True (S.chg (kKp S.X (min v.toNatClampNeg (kLf S.X)))).toInt64) := by
  refine wdoes_go (by decide) rfl (Nat.le_of_ble_eq_true rfl) ?_
  refine yi_aload_n dL_keepPeaks_0 rfl rfl ?_
  refine yi_iconst dL_keepPeaks_1 (v := 0) rfl ?_
  refine yi_aload_n dL_keepPeaks_2 rfl rfl ?_
  refine yi_iload_n dL_keepPeaks_3 rfl rfl ?_
  refine wcV (M2 := mX7_keepPeaks) (kr := 0) (ci := 7) (av := [.int v]) (st := [.int 0, .ref 95]) dL_keepPeaks_4 lL_100 rfl rfl rfl ⟨by decide, by decide, by decide, by decide⟩ (by decide) rfl rfl rfl (C_keepPeaks h hS) ?_ ?_
  · rintro E A2 B2 D2 ⟨(⟨q1, rfl⟩ | ⟨q1, q2, rfl⟩), rfl, hR, hF⟩
    · exact ⟨1, ⟨[], _, _, rfl, (fun z hz => nomatch hz), rfl, by decide, wIA, kIA, 3, 1, 1, Or.inr ⟨rfl, 3, rfl, dL_keepPeaks_12⟩, by decide, dL_keepPeaks_13, rfl, dL_keepPeaks_14⟩, rfl, midF_hi hF, Or.inr (Or.inl ⟨q1, rfl, hR⟩)⟩
    · exact (q2 trivial).elim
  · rintro r A2 B2 D2 ⟨hc, rfl, rfl, hR, hF⟩
    refine yi_i2l dL_keepPeaks_7 ?_
    refine yls (kk := 95) (nn := 1) (j := 0) dL_keepPeaks_8 rfl rfl rfl (by decide) (by decide) ?_
    refine yi_goto (tgt := 15) dL_keepPeaks_9 rfl ?_
    refine yi_iconst dL_keepPeaks_15 (v := 0) rfl ?_
    exact ygo_ret (r := some (.int 0)) dL_keepPeaks_16 (Nat.le_of_ble_eq_true rfl) (Nat.le_of_ble_eq_true rfl) (WQ_ok hc trivial hR hF)
theorem L_ifLevel (h : cRel S A B) (hS : S.ok) {i v w : Int32} : wdoes mL_ifLevel [.ref 0, .int i, .int v, .int w, .ref 95] A B D (WQ S S A B D (inR i (nI S.n)) (btw v 0 15 ∧ btw w 2 4) ((S.wit i.toNatClampNeg v).cnt w.toNatClampNeg).toInt64) := by
  refine wdoes_go (by decide) rfl (Nat.le_of_ble_eq_true rfl) ?_
  refine yi_aload dL_ifLevel_0 rfl ?_
  refine yi_iconst dL_ifLevel_2 (v := 0) rfl ?_
  refine yi_aload_n dL_ifLevel_3 rfl rfl ?_
  refine yi_iload_n dL_ifLevel_4 rfl rfl ?_
  refine yi_iload_n dL_ifLevel_5 rfl rfl ?_
  refine yi_iload_n dL_ifLevel_6 rfl rfl ?_
  refine wcV (M2 := mX7_ifLevel) (kr := 0) (ci := 7) (av := [.int i, .int v, .int w]) (st := [.int 0, .ref 95]) dL_ifLevel_7 lL_103 rfl rfl rfl ⟨by decide, by decide, by decide, by decide⟩ (by decide) rfl rfl rfl (C_ifLevel h hS) ?_ ?_
  · rintro E A2 B2 D2 ⟨(⟨q1, rfl⟩ | ⟨q1, q2, rfl⟩), rfl, hR, hF⟩
    · exact ⟨1, ⟨[], _, _, rfl, (fun z hz => nomatch hz), rfl, by decide, wIO, kIO, 5, 2, 1, Or.inl ⟨rfl, dL_ifLevel_15⟩, by decide, dL_ifLevel_17, rfl, dL_ifLevel_18⟩, rfl, midF_hi hF, Or.inr (Or.inl ⟨q1, rfl, hR⟩)⟩
    · exact ⟨2, ⟨[_], _, _, rfl, (fun z hz => by cases List.mem_singleton.mp hz; exact ⟨by decide, sIO, wIO, fun s h => h.1⟩), rfl, by decide, wIA, kIA, 5, 2, 2, Or.inl ⟨rfl, dL_ifLevel_19⟩, by decide, dL_ifLevel_21, rfl, dL_ifLevel_22⟩, rfl, midF_hi hF, Or.inr (Or.inr ⟨q1, q2, rfl, hR⟩)⟩
  · rintro r A2 B2 D2 ⟨hc, rfl, rfl, hR, hF⟩
    refine yi_i2l dL_ifLevel_10 ?_
    refine yls (kk := 95) (nn := 1) (j := 0) dL_ifLevel_11 rfl rfl rfl (by decide) (by decide) ?_
    refine yi_goto (tgt := 23) dL_ifLevel_12 rfl ?_
    refine yi_iconst dL_ifLevel_23 (v := 0) rfl ?_
    exact ygo_ret (r := some (.int 0)) dL_ifLevel_24 (Nat.le_of_ble_eq_true rfl) (Nat.le_of_ble_eq_true rfl) (WQ_ok hc.1 hc.2 hR hF)
end WR

