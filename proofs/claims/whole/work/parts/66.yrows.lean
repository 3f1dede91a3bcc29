/-! the rows for a judgement with a fact of the start -/
def ygo (EX : State → (Nat → Prop) → (Nat → Nat) → Prop) (M : xMI) (N0 : Nat) (Q : xQ) (QX : xQX) (cs sl pc : Nat) (lv : xLV) (st : List Value) (N : Nat) (G : xG) (A : xA) (B : xB) (D : xD) : Prop :=
  ∀ (p : Program) (l : Launch) (e : Env) (s : State) (m : MethodId) (args : Array Value) (below : List Frame) (meth : Method) (c : Code) (Dg : va_G) (cT : Nat → ClassId) (As : Nat → Prop) (ad0 ad : Nat → Nat) (H : Heap) (locs : List Loc) (ls : Array Slot) (Z : State → Prop),
    EX s As ad0 → xS M p l s m args meth c Dg cT As → xV M s Dg cT As ad0 ad H locs ls lv N0 N G A B D → xKr M N0 Q p l e s m args below meth c Dg cT As ad0 Z → xKx M N0 QX p l e s m args below meth c Dg cT As ad0 Z →
    W p l e (mO M) s m args below meth c H locs cs sl Z (F0 m pc ls (st.map (xtr ad)))
section YROWS
variable {EX : State → (Nat → Prop) → (Nat → Nat) → Prop} {M : xMI} {N0 : Nat} {Q : xQ} {QX : xQX} {cs sl pc : Nat} {lv : xLV} {st : List Value} {N : Nat} {G : xG} {A : xA} {B : xB} {D : xD}
theorem ygo_sub {lv' : xLV} (hs : ∀ q, q ∈ lv' → q ∈ lv) (k : ygo EX M N0 Q QX cs sl pc lv' st N G A B D) : ygo EX M N0 Q QX cs sl pc lv st N G A B D := by
  intro p l e s m args below meth c Dg cT As ad0 ad H locs ls Z hE0 hS hV hr he
  obtain ⟨v1, v2, v3, v4, v5, v6⟩ := hV
  exact k p l e s m args below meth c Dg cT As ad0 ad H locs ls Z hE0 hS ⟨v1, v2, v3, v4, v5, xlv_sub v6 hs⟩ hr he
theorem ygo_pick {lv' : xLV} (is : List Nat) (hs : xpick lv is = lv') (k : ygo EX M N0 Q QX cs sl pc lv' st N G A B D) : ygo EX M N0 Q QX cs sl pc lv st N G A B D :=
  ygo_sub (fun q hq => by rw [← hs] at hq; exact xpick_mem hq) k
theorem yi_iconst {n : Int} {v : Int32} (hd : decode (mC M) pc = .ok (.iconst n, 1)) (hv : Int32.ofInt n = v) (k : ygo EX M N0 Q QX cs sl (pc + 1) lv (.int v :: st) N G A B D) : ygo EX M N0 Q QX cs sl pc lv (st) N G A B D := by
  intro p l e s m args below meth c Dg cT As ad0 ad H locs ls Z hE0 hS hV hr he
  obtain ⟨hx, hb, hml, hrt, hlk, hnm, hown, hts, hst, htb, hK, hMv, hZ, hA⟩ := id hS
  exact lv_iconst hx hb hd hv (k p l e s m args below meth c Dg cT As ad0 ad H locs ls Z hE0 hS hV hr he)
theorem yi_bipush {n : Int} {v : Int32} (hd : decode (mC M) pc = .ok (.bipush n, 2)) (hv : (Int8.ofInt n).toInt32 = v) (k : ygo EX M N0 Q QX cs sl (pc + 2) lv (.int v :: st) N G A B D) : ygo EX M N0 Q QX cs sl pc lv (st) N G A B D := by
  intro p l e s m args below meth c Dg cT As ad0 ad H locs ls Z hE0 hS hV hr he
  obtain ⟨hx, hb, hml, hrt, hlk, hnm, hown, hts, hst, htb, hK, hMv, hZ, hA⟩ := id hS
  exact lv_bipush hx hb hd hv (k p l e s m args below meth c Dg cT As ad0 ad H locs ls Z hE0 hS hV hr he)
theorem yi_sipush {n : Int} {v : Int32} (hd : decode (mC M) pc = .ok (.sipush n, 3)) (hv : (Int16.ofInt n).toInt32 = v) (k : ygo EX M N0 Q QX cs sl (pc + 3) lv (.int v :: st) N G A B D) : ygo EX M N0 Q QX cs sl pc lv (st) N G A B D := by
  intro p l e s m args below meth c Dg cT As ad0 ad H locs ls Z hE0 hS hV hr he
  obtain ⟨hx, hb, hml, hrt, hlk, hnm, hown, hts, hst, htb, hK, hMv, hZ, hA⟩ := id hS
  exact lv_sipush hx hb hd hv (k p l e s m args below meth c Dg cT As ad0 ad H locs ls Z hE0 hS hV hr he)
theorem yi_lconst {n : Fin 2} {v : Int64} (hd : decode (mC M) pc = .ok (.lconst n, 1)) (hv : Int64.ofNat (n : Nat) = v) (k : ygo EX M N0 Q QX cs sl (pc + 1) lv (.long v :: st) N G A B D) : ygo EX M N0 Q QX cs sl pc lv (st) N G A B D := by
  intro p l e s m args below meth c Dg cT As ad0 ad H locs ls Z hE0 hS hV hr he
  obtain ⟨hx, hb, hml, hrt, hlk, hnm, hown, hts, hst, htb, hK, hMv, hZ, hA⟩ := id hS
  exact lv_lconst hx hb hd hv (k p l e s m args below meth c Dg cT As ad0 ad H locs ls Z hE0 hS hV hr he)
theorem yi_iload_n {n : Fin 4} {i : Nat} {x : Int32} (hd : decode (mC M) pc = .ok (.iload_n n, 1)) (hi : (n : Nat) = i) (hl : xlk lv i = some (.int x)) (k : ygo EX M N0 Q QX cs sl (pc + 1) lv (.int x :: st) N G A B D) : ygo EX M N0 Q QX cs sl pc lv (st) N G A B D := by
  intro p l e s m args below meth c Dg cT As ad0 ad H locs ls Z hE0 hS hV hr he
  obtain ⟨hx, hb, hml, hrt, hlk, hnm, hown, hts, hst, htb, hK, hMv, hZ, hA⟩ := id hS
  exact lv_iload_n hx hb hd hi (xlv_at hV.2.2.2.2.2 hl) (k p l e s m args below meth c Dg cT As ad0 ad H locs ls Z hE0 hS hV hr he)
theorem yi_iload {i : Nat} {x : Int32} (hd : decode (mC M) pc = .ok (.iload i, 2)) (hl : xlk lv i = some (.int x)) (k : ygo EX M N0 Q QX cs sl (pc + 2) lv (.int x :: st) N G A B D) : ygo EX M N0 Q QX cs sl pc lv (st) N G A B D := by
  intro p l e s m args below meth c Dg cT As ad0 ad H locs ls Z hE0 hS hV hr he
  obtain ⟨hx, hb, hml, hrt, hlk, hnm, hown, hts, hst, htb, hK, hMv, hZ, hA⟩ := id hS
  exact lv_iload hx hb hd (xlv_at hV.2.2.2.2.2 hl) (k p l e s m args below meth c Dg cT As ad0 ad H locs ls Z hE0 hS hV hr he)
theorem yi_lload_n {n : Fin 4} {i : Nat} {x : Int64} (hd : decode (mC M) pc = .ok (.lload_n n, 1)) (hi : (n : Nat) = i) (hl : xlk lv i = some (.long x)) (k : ygo EX M N0 Q QX cs sl (pc + 1) lv (.long x :: st) N G A B D) : ygo EX M N0 Q QX cs sl pc lv (st) N G A B D := by
  intro p l e s m args below meth c Dg cT As ad0 ad H locs ls Z hE0 hS hV hr he
  obtain ⟨hx, hb, hml, hrt, hlk, hnm, hown, hts, hst, htb, hK, hMv, hZ, hA⟩ := id hS
  exact lv_lload_n hx hb hd hi (xlv_at hV.2.2.2.2.2 hl) (k p l e s m args below meth c Dg cT As ad0 ad H locs ls Z hE0 hS hV hr he)
theorem yi_lload {i : Nat} {x : Int64} (hd : decode (mC M) pc = .ok (.lload i, 2)) (hl : xlk lv i = some (.long x)) (k : ygo EX M N0 Q QX cs sl (pc + 2) lv (.long x :: st) N G A B D) : ygo EX M N0 Q QX cs sl pc lv (st) N G A B D := by
  intro p l e s m args below meth c Dg cT As ad0 ad H locs ls Z hE0 hS hV hr he
  obtain ⟨hx, hb, hml, hrt, hlk, hnm, hown, hts, hst, htb, hK, hMv, hZ, hA⟩ := id hS
  exact lv_lload hx hb hd (xlv_at hV.2.2.2.2.2 hl) (k p l e s m args below meth c Dg cT As ad0 ad H locs ls Z hE0 hS hV hr he)
theorem yi_dload_n {n : Fin 4} {i : Nat} {x : UInt64} (hd : decode (mC M) pc = .ok (.dload_n n, 1)) (hi : (n : Nat) = i) (hl : xlk lv i = some (.double x)) (k : ygo EX M N0 Q QX cs sl (pc + 1) lv (.double x :: st) N G A B D) : ygo EX M N0 Q QX cs sl pc lv (st) N G A B D := by
  intro p l e s m args below meth c Dg cT As ad0 ad H locs ls Z hE0 hS hV hr he
  obtain ⟨hx, hb, hml, hrt, hlk, hnm, hown, hts, hst, htb, hK, hMv, hZ, hA⟩ := id hS
  exact lv_dload_n hx hb hd hi (xlv_at hV.2.2.2.2.2 hl) (k p l e s m args below meth c Dg cT As ad0 ad H locs ls Z hE0 hS hV hr he)
theorem yi_dload {i : Nat} {x : UInt64} (hd : decode (mC M) pc = .ok (.dload i, 2)) (hl : xlk lv i = some (.double x)) (k : ygo EX M N0 Q QX cs sl (pc + 2) lv (.double x :: st) N G A B D) : ygo EX M N0 Q QX cs sl pc lv (st) N G A B D := by
  intro p l e s m args below meth c Dg cT As ad0 ad H locs ls Z hE0 hS hV hr he
  obtain ⟨hx, hb, hml, hrt, hlk, hnm, hown, hts, hst, htb, hK, hMv, hZ, hA⟩ := id hS
  exact lv_dload hx hb hd (xlv_at hV.2.2.2.2.2 hl) (k p l e s m args below meth c Dg cT As ad0 ad H locs ls Z hE0 hS hV hr he)
theorem yi_aload_n {n : Fin 4} {i : Nat} {x : Nat} (hd : decode (mC M) pc = .ok (.aload_n n, 1)) (hi : (n : Nat) = i) (hl : xlk lv i = some (.ref x)) (k : ygo EX M N0 Q QX cs sl (pc + 1) lv (.ref x :: st) N G A B D) : ygo EX M N0 Q QX cs sl pc lv (st) N G A B D := by
  intro p l e s m args below meth c Dg cT As ad0 ad H locs ls Z hE0 hS hV hr he
  obtain ⟨hx, hb, hml, hrt, hlk, hnm, hown, hts, hst, htb, hK, hMv, hZ, hA⟩ := id hS
  exact lv_aload_n hx hb hd hi (xlv_at hV.2.2.2.2.2 hl) (k p l e s m args below meth c Dg cT As ad0 ad H locs ls Z hE0 hS hV hr he)
theorem yi_aload {i : Nat} {x : Nat} (hd : decode (mC M) pc = .ok (.aload i, 2)) (hl : xlk lv i = some (.ref x)) (k : ygo EX M N0 Q QX cs sl (pc + 2) lv (.ref x :: st) N G A B D) : ygo EX M N0 Q QX cs sl pc lv (st) N G A B D := by
  intro p l e s m args below meth c Dg cT As ad0 ad H locs ls Z hE0 hS hV hr he
  obtain ⟨hx, hb, hml, hrt, hlk, hnm, hown, hts, hst, htb, hK, hMv, hZ, hA⟩ := id hS
  exact lv_aload hx hb hd (xlv_at hV.2.2.2.2.2 hl) (k p l e s m args below meth c Dg cT As ad0 ad H locs ls Z hE0 hS hV hr he)
theorem yi_istore_n {n : Fin 4} {i : Nat} {x : Int32} (hd : decode (mC M) pc = .ok (.istore_n n, 1)) (hi : (n : Nat) = i) (hn : i < mL M) (k : ygo EX M N0 Q QX cs sl (pc + 1) (xst1 i (Value.int x) lv) st N G A B D) : ygo EX M N0 Q QX cs sl pc lv (.int x :: st) N G A B D := by
  intro p l e s m args below meth c Dg cT As ad0 ad H locs ls Z hE0 hS hV hr he
  obtain ⟨hx, hb, hml, hrt, hlk, hnm, hown, hts, hst, htb, hK, hMv, hZ, hA⟩ := id hS
  obtain ⟨v1, v2, v3, v4, v5, v6⟩ := hV
  exact lv_istore_n hx hb hd hi v6 hn (xst1_eq ad i (Value.int x) lv) (fun ls' h' => k p l e s m args below meth c Dg cT As ad0 ad H locs ls' Z hE0 hS ⟨v1, v2, v3, v4, v5, h'⟩ hr he)
theorem yi_istore {i : Nat} {x : Int32} (hd : decode (mC M) pc = .ok (.istore i, 2)) (hn : i < mL M) (k : ygo EX M N0 Q QX cs sl (pc + 2) (xst1 i (Value.int x) lv) st N G A B D) : ygo EX M N0 Q QX cs sl pc lv (.int x :: st) N G A B D := by
  intro p l e s m args below meth c Dg cT As ad0 ad H locs ls Z hE0 hS hV hr he
  obtain ⟨hx, hb, hml, hrt, hlk, hnm, hown, hts, hst, htb, hK, hMv, hZ, hA⟩ := id hS
  obtain ⟨v1, v2, v3, v4, v5, v6⟩ := hV
  exact lv_istore hx hb hd v6 hn (xst1_eq ad i (Value.int x) lv) (fun ls' h' => k p l e s m args below meth c Dg cT As ad0 ad H locs ls' Z hE0 hS ⟨v1, v2, v3, v4, v5, h'⟩ hr he)
theorem yi_dstore_n {n : Fin 4} {i : Nat} {x : UInt64} (hd : decode (mC M) pc = .ok (.dstore_n n, 1)) (hi : (n : Nat) = i) (hn : i + 1 < mL M) (k : ygo EX M N0 Q QX cs sl (pc + 1) (xst2 i (Value.double x) lv) st N G A B D) : ygo EX M N0 Q QX cs sl pc lv (.double x :: st) N G A B D := by
  intro p l e s m args below meth c Dg cT As ad0 ad H locs ls Z hE0 hS hV hr he
  obtain ⟨hx, hb, hml, hrt, hlk, hnm, hown, hts, hst, htb, hK, hMv, hZ, hA⟩ := id hS
  obtain ⟨v1, v2, v3, v4, v5, v6⟩ := hV
  exact lv_dstore_n hx hb hd hi v6 hn (xst2_eq ad i (Value.double x) lv) (fun ls' h' => k p l e s m args below meth c Dg cT As ad0 ad H locs ls' Z hE0 hS ⟨v1, v2, v3, v4, v5, h'⟩ hr he)
theorem yi_dstore {i : Nat} {x : UInt64} (hd : decode (mC M) pc = .ok (.dstore i, 2)) (hn : i + 1 < mL M) (k : ygo EX M N0 Q QX cs sl (pc + 2) (xst2 i (Value.double x) lv) st N G A B D) : ygo EX M N0 Q QX cs sl pc lv (.double x :: st) N G A B D := by
  intro p l e s m args below meth c Dg cT As ad0 ad H locs ls Z hE0 hS hV hr he
  obtain ⟨hx, hb, hml, hrt, hlk, hnm, hown, hts, hst, htb, hK, hMv, hZ, hA⟩ := id hS
  obtain ⟨v1, v2, v3, v4, v5, v6⟩ := hV
  exact lv_dstore hx hb hd v6 hn (xst2_eq ad i (Value.double x) lv) (fun ls' h' => k p l e s m args below meth c Dg cT As ad0 ad H locs ls' Z hE0 hS ⟨v1, v2, v3, v4, v5, h'⟩ hr he)
theorem yi_astore_n {n : Fin 4} {i : Nat} {x : Nat} (hd : decode (mC M) pc = .ok (.astore_n n, 1)) (hi : (n : Nat) = i) (hn : i < mL M) (k : ygo EX M N0 Q QX cs sl (pc + 1) (xst1 i (Value.ref x) lv) st N G A B D) : ygo EX M N0 Q QX cs sl pc lv (.ref x :: st) N G A B D := by
  intro p l e s m args below meth c Dg cT As ad0 ad H locs ls Z hE0 hS hV hr he
  obtain ⟨hx, hb, hml, hrt, hlk, hnm, hown, hts, hst, htb, hK, hMv, hZ, hA⟩ := id hS
  obtain ⟨v1, v2, v3, v4, v5, v6⟩ := hV
  exact lv_astore_n hx hb hd hi v6 hn (xst1_eq ad i (Value.ref x) lv) (fun ls' h' => k p l e s m args below meth c Dg cT As ad0 ad H locs ls' Z hE0 hS ⟨v1, v2, v3, v4, v5, h'⟩ hr he)
theorem yi_astore {i : Nat} {x : Nat} (hd : decode (mC M) pc = .ok (.astore i, 2)) (hn : i < mL M) (k : ygo EX M N0 Q QX cs sl (pc + 2) (xst1 i (Value.ref x) lv) st N G A B D) : ygo EX M N0 Q QX cs sl pc lv (.ref x :: st) N G A B D := by
  intro p l e s m args below meth c Dg cT As ad0 ad H locs ls Z hE0 hS hV hr he
  obtain ⟨hx, hb, hml, hrt, hlk, hnm, hown, hts, hst, htb, hK, hMv, hZ, hA⟩ := id hS
  obtain ⟨v1, v2, v3, v4, v5, v6⟩ := hV
  exact lv_astore hx hb hd v6 hn (xst1_eq ad i (Value.ref x) lv) (fun ls' h' => k p l e s m args below meth c Dg cT As ad0 ad H locs ls' Z hE0 hS ⟨v1, v2, v3, v4, v5, h'⟩ hr he)
theorem yi_iinc {i : Nat} {n : Int} {x v : Int32} (hd : decode (mC M) pc = .ok (.iinc i n, 3)) (hl : xlk lv i = some (.int x)) (hv : Int32.ofInt n = v) (hn : i < mL M) (k : ygo EX M N0 Q QX cs sl (pc + 3) (xst1 i (.int (x + v)) lv) st N G A B D) : ygo EX M N0 Q QX cs sl pc lv st N G A B D := by
  intro p l e s m args below meth c Dg cT As ad0 ad H locs ls Z hE0 hS hV hr he
  obtain ⟨hx, hb, hml, hrt, hlk, hnm, hown, hts, hst, htb, hK, hMv, hZ, hA⟩ := id hS
  obtain ⟨v1, v2, v3, v4, v5, v6⟩ := hV
  obtain ⟨kk, hkk⟩ := List.getElem?_of_mem (List.mem_map.mpr ⟨(i, .int x), xlk_mem hl, rfl⟩ : (i, xtr ad (.int x)) ∈ xlv ad lv)
  subst hv
  exact lv_iinc hx hb hd v6 hkk rfl hn (xst1_eq ad i (.int (x + Int32.ofInt n)) lv) (fun ls' h' => k p l e s m args below meth c Dg cT As ad0 ad H locs ls' Z hE0 hS ⟨v1, v2, v3, v4, v5, h'⟩ hr he)
theorem yi_iadd {x y : Int32} (hd : decode (mC M) pc = .ok (.iadd, 1)) (k : ygo EX M N0 Q QX cs sl (pc + 1) lv (.int (x + y) :: st) N G A B D) : ygo EX M N0 Q QX cs sl pc lv (.int y :: .int x :: st) N G A B D := by
  intro p l e s m args below meth c Dg cT As ad0 ad H locs ls Z hE0 hS hV hr he
  obtain ⟨hx, hb, hml, hrt, hlk, hnm, hown, hts, hst, htb, hK, hMv, hZ, hA⟩ := id hS
  exact lv_iadd hx hb hd (k p l e s m args below meth c Dg cT As ad0 ad H locs ls Z hE0 hS hV hr he)
theorem yi_isub {x y : Int32} (hd : decode (mC M) pc = .ok (.isub, 1)) (k : ygo EX M N0 Q QX cs sl (pc + 1) lv (.int (x - y) :: st) N G A B D) : ygo EX M N0 Q QX cs sl pc lv (.int y :: .int x :: st) N G A B D := by
  intro p l e s m args below meth c Dg cT As ad0 ad H locs ls Z hE0 hS hV hr he
  obtain ⟨hx, hb, hml, hrt, hlk, hnm, hown, hts, hst, htb, hK, hMv, hZ, hA⟩ := id hS
  exact lv_isub hx hb hd (k p l e s m args below meth c Dg cT As ad0 ad H locs ls Z hE0 hS hV hr he)
theorem yi_iand {x y : Int32} (hd : decode (mC M) pc = .ok (.iand, 1)) (k : ygo EX M N0 Q QX cs sl (pc + 1) lv (.int (x &&& y) :: st) N G A B D) : ygo EX M N0 Q QX cs sl pc lv (.int y :: .int x :: st) N G A B D := by
  intro p l e s m args below meth c Dg cT As ad0 ad H locs ls Z hE0 hS hV hr he
  obtain ⟨hx, hb, hml, hrt, hlk, hnm, hown, hts, hst, htb, hK, hMv, hZ, hA⟩ := id hS
  exact lv_iand hx hb hd (k p l e s m args below meth c Dg cT As ad0 ad H locs ls Z hE0 hS hV hr he)
theorem yi_i2l {x : Int32} (hd : decode (mC M) pc = .ok (.i2l, 1)) (k : ygo EX M N0 Q QX cs sl (pc + 1) lv (.long x.toInt64 :: st) N G A B D) : ygo EX M N0 Q QX cs sl pc lv (.int x :: st) N G A B D := by
  intro p l e s m args below meth c Dg cT As ad0 ad H locs ls Z hE0 hS hV hr he
  obtain ⟨hx, hb, hml, hrt, hlk, hnm, hown, hts, hst, htb, hK, hMv, hZ, hA⟩ := id hS
  exact lv_i2l hx hb hd rfl (k p l e s m args below meth c Dg cT As ad0 ad H locs ls Z hE0 hS hV hr he)
theorem yi_lcmp {x y : Int64} (hd : decode (mC M) pc = .ok (.lcmp, 1)) (k : ygo EX M N0 Q QX cs sl (pc + 1) lv (.int (lg_cmp x y) :: st) N G A B D) : ygo EX M N0 Q QX cs sl pc lv (.long y :: .long x :: st) N G A B D := by
  intro p l e s m args below meth c Dg cT As ad0 ad H locs ls Z hE0 hS hV hr he
  obtain ⟨hx, hb, hml, hrt, hlk, hnm, hown, hts, hst, htb, hK, hMv, hZ, hA⟩ := id hS
  exact W.lcmp hx hb hd (k p l e s m args below meth c Dg cT As ad0 ad H locs ls Z hE0 hS hV hr he)
theorem yi_dcmp {x y : UInt64} {op : CmpOp} (hd : decode (mC M) pc = .ok (.dcmp op, 1)) (k : ygo EX M N0 Q QX cs sl (pc + 1) lv (.int (Op.cmpValue (FP.dcmp x y) op) :: st) N G A B D) : ygo EX M N0 Q QX cs sl pc lv (.double y :: .double x :: st) N G A B D := by
  intro p l e s m args below meth c Dg cT As ad0 ad H locs ls Z hE0 hS hV hr he
  obtain ⟨hx, hb, hml, hrt, hlk, hnm, hown, hts, hst, htb, hK, hMv, hZ, hA⟩ := id hS
  exact lv_dcmp hx hb hd (k p l e s m args below meth c Dg cT As ad0 ad H locs ls Z hE0 hS hV hr he)
theorem yi_dup {v : Value} (hd : decode (mC M) pc = .ok (.dup, 1)) (hc : v.category = 1) (k : ygo EX M N0 Q QX cs sl (pc + 1) lv (v :: v :: st) N G A B D) : ygo EX M N0 Q QX cs sl pc lv (v :: st) N G A B D := by
  intro p l e s m args below meth c Dg cT As ad0 ad H locs ls Z hE0 hS hV hr he
  obtain ⟨hx, hb, hml, hrt, hlk, hnm, hown, hts, hst, htb, hK, hMv, hZ, hA⟩ := id hS
  exact lv_dup hx hb hd ((xtr_cat ad v).trans hc) (k p l e s m args below meth c Dg cT As ad0 ad H locs ls Z hE0 hS hV hr he)
theorem yi_if_eq {x : Int32} {off : Int} {tgt : Nat} (hd : decode (mC M) pc = .ok (.ifCond .eq off, 3)) (ht : (pc : Int) + off = (tgt : Int)) (kt : x = 0 → ygo EX M N0 Q QX cs sl tgt lv st N G A B D) (kf : ¬ (x = 0) → ygo EX M N0 Q QX cs sl (pc + 3) lv st N G A B D) : ygo EX M N0 Q QX cs sl pc lv (.int x :: st) N G A B D := by
  intro p l e s m args below meth c Dg cT As ad0 ad H locs ls Z hE0 hS hV hr he
  obtain ⟨hx, hb, hml, hrt, hlk, hnm, hown, hts, hst, htb, hK, hMv, hZ, hA⟩ := id hS
  first
    | exact lv_if_eq hx hb hd ht (fun h => kt h p l e s m args below meth c Dg cT As ad0 ad H locs ls Z hE0 hS hV hr he) (fun h => kf h p l e s m args below meth c Dg cT As ad0 ad H locs ls Z hE0 hS hV hr he)
    | exact lv_if_eq hx hb hd ht (fun h => kt (by first | exact h | exact fun q => h q | simpa using h) p l e s m args below meth c Dg cT As ad0 ad H locs ls Z hE0 hS hV hr he) (fun h => kf (by first | exact h | simpa using h) p l e s m args below meth c Dg cT As ad0 ad H locs ls Z hE0 hS hV hr he)
theorem yi_icmp_eq {x y : Int32} {off : Int} {tgt : Nat} (hd : decode (mC M) pc = .ok (.if_icmp .eq off, 3)) (ht : (pc : Int) + off = (tgt : Int)) (kt : x = y → ygo EX M N0 Q QX cs sl tgt lv st N G A B D) (kf : ¬ (x = y) → ygo EX M N0 Q QX cs sl (pc + 3) lv st N G A B D) : ygo EX M N0 Q QX cs sl pc lv (.int y :: .int x :: st) N G A B D := by
  intro p l e s m args below meth c Dg cT As ad0 ad H locs ls Z hE0 hS hV hr he
  obtain ⟨hx, hb, hml, hrt, hlk, hnm, hown, hts, hst, htb, hK, hMv, hZ, hA⟩ := id hS
  first
    | exact lv_icmp_eq hx hb hd ht (fun h => kt h p l e s m args below meth c Dg cT As ad0 ad H locs ls Z hE0 hS hV hr he) (fun h => kf h p l e s m args below meth c Dg cT As ad0 ad H locs ls Z hE0 hS hV hr he)
    | exact lv_icmp_eq hx hb hd ht (fun h => kt (by first | exact h | exact fun q => h q | simpa using h) p l e s m args below meth c Dg cT As ad0 ad H locs ls Z hE0 hS hV hr he) (fun h => kf (by first | exact h | simpa using h) p l e s m args below meth c Dg cT As ad0 ad H locs ls Z hE0 hS hV hr he)
theorem yi_if_ne {x : Int32} {off : Int} {tgt : Nat} (hd : decode (mC M) pc = .ok (.ifCond .ne off, 3)) (ht : (pc : Int) + off = (tgt : Int)) (kt : ¬ x = 0 → ygo EX M N0 Q QX cs sl tgt lv st N G A B D) (kf : ¬ (¬ x = 0) → ygo EX M N0 Q QX cs sl (pc + 3) lv st N G A B D) : ygo EX M N0 Q QX cs sl pc lv (.int x :: st) N G A B D := by
  intro p l e s m args below meth c Dg cT As ad0 ad H locs ls Z hE0 hS hV hr he
  obtain ⟨hx, hb, hml, hrt, hlk, hnm, hown, hts, hst, htb, hK, hMv, hZ, hA⟩ := id hS
  first
    | exact lv_if_ne hx hb hd ht (fun h => kt h p l e s m args below meth c Dg cT As ad0 ad H locs ls Z hE0 hS hV hr he) (fun h => kf h p l e s m args below meth c Dg cT As ad0 ad H locs ls Z hE0 hS hV hr he)
    | exact lv_if_ne hx hb hd ht (fun h => kt (by first | exact h | exact fun q => h q | simpa using h) p l e s m args below meth c Dg cT As ad0 ad H locs ls Z hE0 hS hV hr he) (fun h => kf (by first | exact h | simpa using h) p l e s m args below meth c Dg cT As ad0 ad H locs ls Z hE0 hS hV hr he)
theorem yi_icmp_ne {x y : Int32} {off : Int} {tgt : Nat} (hd : decode (mC M) pc = .ok (.if_icmp .ne off, 3)) (ht : (pc : Int) + off = (tgt : Int)) (kt : ¬ x = y → ygo EX M N0 Q QX cs sl tgt lv st N G A B D) (kf : ¬ (¬ x = y) → ygo EX M N0 Q QX cs sl (pc + 3) lv st N G A B D) : ygo EX M N0 Q QX cs sl pc lv (.int y :: .int x :: st) N G A B D := by
  intro p l e s m args below meth c Dg cT As ad0 ad H locs ls Z hE0 hS hV hr he
  obtain ⟨hx, hb, hml, hrt, hlk, hnm, hown, hts, hst, htb, hK, hMv, hZ, hA⟩ := id hS
  first
    | exact lv_icmp_ne hx hb hd ht (fun h => kt h p l e s m args below meth c Dg cT As ad0 ad H locs ls Z hE0 hS hV hr he) (fun h => kf h p l e s m args below meth c Dg cT As ad0 ad H locs ls Z hE0 hS hV hr he)
    | exact lv_icmp_ne hx hb hd ht (fun h => kt (by first | exact h | exact fun q => h q | simpa using h) p l e s m args below meth c Dg cT As ad0 ad H locs ls Z hE0 hS hV hr he) (fun h => kf (by first | exact h | simpa using h) p l e s m args below meth c Dg cT As ad0 ad H locs ls Z hE0 hS hV hr he)
theorem yi_if_lt {x : Int32} {off : Int} {tgt : Nat} (hd : decode (mC M) pc = .ok (.ifCond .lt off, 3)) (ht : (pc : Int) + off = (tgt : Int)) (kt : x < 0 → ygo EX M N0 Q QX cs sl tgt lv st N G A B D) (kf : ¬ (x < 0) → ygo EX M N0 Q QX cs sl (pc + 3) lv st N G A B D) : ygo EX M N0 Q QX cs sl pc lv (.int x :: st) N G A B D := by
  intro p l e s m args below meth c Dg cT As ad0 ad H locs ls Z hE0 hS hV hr he
  obtain ⟨hx, hb, hml, hrt, hlk, hnm, hown, hts, hst, htb, hK, hMv, hZ, hA⟩ := id hS
  first
    | exact lv_if_lt hx hb hd ht (fun h => kt h p l e s m args below meth c Dg cT As ad0 ad H locs ls Z hE0 hS hV hr he) (fun h => kf h p l e s m args below meth c Dg cT As ad0 ad H locs ls Z hE0 hS hV hr he)
    | exact lv_if_lt hx hb hd ht (fun h => kt (by first | exact h | exact fun q => h q | simpa using h) p l e s m args below meth c Dg cT As ad0 ad H locs ls Z hE0 hS hV hr he) (fun h => kf (by first | exact h | simpa using h) p l e s m args below meth c Dg cT As ad0 ad H locs ls Z hE0 hS hV hr he)
theorem yi_icmp_lt {x y : Int32} {off : Int} {tgt : Nat} (hd : decode (mC M) pc = .ok (.if_icmp .lt off, 3)) (ht : (pc : Int) + off = (tgt : Int)) (kt : x < y → ygo EX M N0 Q QX cs sl tgt lv st N G A B D) (kf : ¬ (x < y) → ygo EX M N0 Q QX cs sl (pc + 3) lv st N G A B D) : ygo EX M N0 Q QX cs sl pc lv (.int y :: .int x :: st) N G A B D := by
  intro p l e s m args below meth c Dg cT As ad0 ad H locs ls Z hE0 hS hV hr he
  obtain ⟨hx, hb, hml, hrt, hlk, hnm, hown, hts, hst, htb, hK, hMv, hZ, hA⟩ := id hS
  first
    | exact lv_icmp_lt hx hb hd ht (fun h => kt h p l e s m args below meth c Dg cT As ad0 ad H locs ls Z hE0 hS hV hr he) (fun h => kf h p l e s m args below meth c Dg cT As ad0 ad H locs ls Z hE0 hS hV hr he)
    | exact lv_icmp_lt hx hb hd ht (fun h => kt (by first | exact h | exact fun q => h q | simpa using h) p l e s m args below meth c Dg cT As ad0 ad H locs ls Z hE0 hS hV hr he) (fun h => kf (by first | exact h | simpa using h) p l e s m args below meth c Dg cT As ad0 ad H locs ls Z hE0 hS hV hr he)
theorem yi_if_ge {x : Int32} {off : Int} {tgt : Nat} (hd : decode (mC M) pc = .ok (.ifCond .ge off, 3)) (ht : (pc : Int) + off = (tgt : Int)) (kt : 0 ≤ x → ygo EX M N0 Q QX cs sl tgt lv st N G A B D) (kf : ¬ (0 ≤ x) → ygo EX M N0 Q QX cs sl (pc + 3) lv st N G A B D) : ygo EX M N0 Q QX cs sl pc lv (.int x :: st) N G A B D := by
  intro p l e s m args below meth c Dg cT As ad0 ad H locs ls Z hE0 hS hV hr he
  obtain ⟨hx, hb, hml, hrt, hlk, hnm, hown, hts, hst, htb, hK, hMv, hZ, hA⟩ := id hS
  first
    | exact lv_if_ge hx hb hd ht (fun h => kt h p l e s m args below meth c Dg cT As ad0 ad H locs ls Z hE0 hS hV hr he) (fun h => kf h p l e s m args below meth c Dg cT As ad0 ad H locs ls Z hE0 hS hV hr he)
    | exact lv_if_ge hx hb hd ht (fun h => kt (by first | exact h | exact fun q => h q | simpa using h) p l e s m args below meth c Dg cT As ad0 ad H locs ls Z hE0 hS hV hr he) (fun h => kf (by first | exact h | simpa using h) p l e s m args below meth c Dg cT As ad0 ad H locs ls Z hE0 hS hV hr he)
theorem yi_icmp_ge {x y : Int32} {off : Int} {tgt : Nat} (hd : decode (mC M) pc = .ok (.if_icmp .ge off, 3)) (ht : (pc : Int) + off = (tgt : Int)) (kt : y ≤ x → ygo EX M N0 Q QX cs sl tgt lv st N G A B D) (kf : ¬ (y ≤ x) → ygo EX M N0 Q QX cs sl (pc + 3) lv st N G A B D) : ygo EX M N0 Q QX cs sl pc lv (.int y :: .int x :: st) N G A B D := by
  intro p l e s m args below meth c Dg cT As ad0 ad H locs ls Z hE0 hS hV hr he
  obtain ⟨hx, hb, hml, hrt, hlk, hnm, hown, hts, hst, htb, hK, hMv, hZ, hA⟩ := id hS
  first
    | exact lv_icmp_ge hx hb hd ht (fun h => kt h p l e s m args below meth c Dg cT As ad0 ad H locs ls Z hE0 hS hV hr he) (fun h => kf h p l e s m args below meth c Dg cT As ad0 ad H locs ls Z hE0 hS hV hr he)
    | exact lv_icmp_ge hx hb hd ht (fun h => kt (by first | exact h | exact fun q => h q | simpa using h) p l e s m args below meth c Dg cT As ad0 ad H locs ls Z hE0 hS hV hr he) (fun h => kf (by first | exact h | simpa using h) p l e s m args below meth c Dg cT As ad0 ad H locs ls Z hE0 hS hV hr he)
theorem yi_if_gt {x : Int32} {off : Int} {tgt : Nat} (hd : decode (mC M) pc = .ok (.ifCond .gt off, 3)) (ht : (pc : Int) + off = (tgt : Int)) (kt : 0 < x → ygo EX M N0 Q QX cs sl tgt lv st N G A B D) (kf : ¬ (0 < x) → ygo EX M N0 Q QX cs sl (pc + 3) lv st N G A B D) : ygo EX M N0 Q QX cs sl pc lv (.int x :: st) N G A B D := by
  intro p l e s m args below meth c Dg cT As ad0 ad H locs ls Z hE0 hS hV hr he
  obtain ⟨hx, hb, hml, hrt, hlk, hnm, hown, hts, hst, htb, hK, hMv, hZ, hA⟩ := id hS
  first
    | exact lv_if_gt hx hb hd ht (fun h => kt h p l e s m args below meth c Dg cT As ad0 ad H locs ls Z hE0 hS hV hr he) (fun h => kf h p l e s m args below meth c Dg cT As ad0 ad H locs ls Z hE0 hS hV hr he)
    | exact lv_if_gt hx hb hd ht (fun h => kt (by first | exact h | exact fun q => h q | simpa using h) p l e s m args below meth c Dg cT As ad0 ad H locs ls Z hE0 hS hV hr he) (fun h => kf (by first | exact h | simpa using h) p l e s m args below meth c Dg cT As ad0 ad H locs ls Z hE0 hS hV hr he)
theorem yi_icmp_gt {x y : Int32} {off : Int} {tgt : Nat} (hd : decode (mC M) pc = .ok (.if_icmp .gt off, 3)) (ht : (pc : Int) + off = (tgt : Int)) (kt : y < x → ygo EX M N0 Q QX cs sl tgt lv st N G A B D) (kf : ¬ (y < x) → ygo EX M N0 Q QX cs sl (pc + 3) lv st N G A B D) : ygo EX M N0 Q QX cs sl pc lv (.int y :: .int x :: st) N G A B D := by
  intro p l e s m args below meth c Dg cT As ad0 ad H locs ls Z hE0 hS hV hr he
  obtain ⟨hx, hb, hml, hrt, hlk, hnm, hown, hts, hst, htb, hK, hMv, hZ, hA⟩ := id hS
  first
    | exact lv_icmp_gt hx hb hd ht (fun h => kt h p l e s m args below meth c Dg cT As ad0 ad H locs ls Z hE0 hS hV hr he) (fun h => kf h p l e s m args below meth c Dg cT As ad0 ad H locs ls Z hE0 hS hV hr he)
    | exact lv_icmp_gt hx hb hd ht (fun h => kt (by first | exact h | exact fun q => h q | simpa using h) p l e s m args below meth c Dg cT As ad0 ad H locs ls Z hE0 hS hV hr he) (fun h => kf (by first | exact h | simpa using h) p l e s m args below meth c Dg cT As ad0 ad H locs ls Z hE0 hS hV hr he)
theorem yi_if_le {x : Int32} {off : Int} {tgt : Nat} (hd : decode (mC M) pc = .ok (.ifCond .le off, 3)) (ht : (pc : Int) + off = (tgt : Int)) (kt : x ≤ 0 → ygo EX M N0 Q QX cs sl tgt lv st N G A B D) (kf : ¬ (x ≤ 0) → ygo EX M N0 Q QX cs sl (pc + 3) lv st N G A B D) : ygo EX M N0 Q QX cs sl pc lv (.int x :: st) N G A B D := by
  intro p l e s m args below meth c Dg cT As ad0 ad H locs ls Z hE0 hS hV hr he
  obtain ⟨hx, hb, hml, hrt, hlk, hnm, hown, hts, hst, htb, hK, hMv, hZ, hA⟩ := id hS
  first
    | exact lv_if_le hx hb hd ht (fun h => kt h p l e s m args below meth c Dg cT As ad0 ad H locs ls Z hE0 hS hV hr he) (fun h => kf h p l e s m args below meth c Dg cT As ad0 ad H locs ls Z hE0 hS hV hr he)
    | exact lv_if_le hx hb hd ht (fun h => kt (by first | exact h | exact fun q => h q | simpa using h) p l e s m args below meth c Dg cT As ad0 ad H locs ls Z hE0 hS hV hr he) (fun h => kf (by first | exact h | simpa using h) p l e s m args below meth c Dg cT As ad0 ad H locs ls Z hE0 hS hV hr he)
theorem yi_icmp_le {x y : Int32} {off : Int} {tgt : Nat} (hd : decode (mC M) pc = .ok (.if_icmp .le off, 3)) (ht : (pc : Int) + off = (tgt : Int)) (kt : x ≤ y → ygo EX M N0 Q QX cs sl tgt lv st N G A B D) (kf : ¬ (x ≤ y) → ygo EX M N0 Q QX cs sl (pc + 3) lv st N G A B D) : ygo EX M N0 Q QX cs sl pc lv (.int y :: .int x :: st) N G A B D := by
  intro p l e s m args below meth c Dg cT As ad0 ad H locs ls Z hE0 hS hV hr he
  obtain ⟨hx, hb, hml, hrt, hlk, hnm, hown, hts, hst, htb, hK, hMv, hZ, hA⟩ := id hS
  first
    | exact lv_icmp_le hx hb hd ht (fun h => kt h p l e s m args below meth c Dg cT As ad0 ad H locs ls Z hE0 hS hV hr he) (fun h => kf h p l e s m args below meth c Dg cT As ad0 ad H locs ls Z hE0 hS hV hr he)
    | exact lv_icmp_le hx hb hd ht (fun h => kt (by first | exact h | exact fun q => h q | simpa using h) p l e s m args below meth c Dg cT As ad0 ad H locs ls Z hE0 hS hV hr he) (fun h => kf (by first | exact h | simpa using h) p l e s m args below meth c Dg cT As ad0 ad H locs ls Z hE0 hS hV hr he)
theorem yi_goto {off : Int} {tgt : Nat} (hd : decode (mC M) pc = .ok (.goto off, 3)) (ht : (pc : Int) + off = (tgt : Int)) (k : ygo EX M N0 Q QX cs sl tgt lv st N G A B D) : ygo EX M N0 Q QX cs sl pc lv st N G A B D := by
  intro p l e s m args below meth c Dg cT As ad0 ad H locs ls Z hE0 hS hV hr he
  obtain ⟨hx, hb, hml, hrt, hlk, hnm, hown, hts, hst, htb, hK, hMv, hZ, hA⟩ := id hS
  exact lv_goto hx hb hd ht (k p l e s m args below meth c Dg cT As ad0 ad H locs ls Z hE0 hS hV hr he)
theorem yi_tableIn {dflt lo hi off : Int} {offs : Array Int} {len tgt : Nat} {x : Int32} (hd : decode (mC M) pc = .ok (.tableswitch dflt lo hi offs, len)) (h1 : ¬ x.toInt < lo) (h2 : ¬ hi < x.toInt) (ho : offs[(x.toInt - lo).toNat]? = some off) (ht : (pc : Int) + off = (tgt : Int)) (k : ygo EX M N0 Q QX cs sl tgt lv st N G A B D) : ygo EX M N0 Q QX cs sl pc lv (.int x :: st) N G A B D := by
  intro p l e s m args below meth c Dg cT As ad0 ad H locs ls Z hE0 hS hV hr he
  obtain ⟨hx, hb, hml, hrt, hlk, hnm, hown, hts, hst, htb, hK, hMv, hZ, hA⟩ := id hS
  exact lv_tableIn hx hb hd h1 h2 ho ht (k p l e s m args below meth c Dg cT As ad0 ad H locs ls Z hE0 hS hV hr he)
theorem yi_tableOut {dflt lo hi : Int} {offs : Array Int} {len tgt : Nat} {x : Int32} (hd : decode (mC M) pc = .ok (.tableswitch dflt lo hi offs, len)) (h : x.toInt < lo ∨ hi < x.toInt) (ht : (pc : Int) + dflt = (tgt : Int)) (k : ygo EX M N0 Q QX cs sl tgt lv st N G A B D) : ygo EX M N0 Q QX cs sl pc lv (.int x :: st) N G A B D := by
  intro p l e s m args below meth c Dg cT As ad0 ad H locs ls Z hE0 hS hV hr he
  obtain ⟨hx, hb, hml, hrt, hlk, hnm, hown, hts, hst, htb, hK, hMv, hZ, hA⟩ := id hS
  exact lv_tableOut hx hb hd h ht (k p l e s m args below meth c Dg cT As ad0 ad H locs ls Z hE0 hS hV hr he)
theorem yi_ret {r : Option Value} (hd : xret M pc r) (hc : cs ≤ (mO M).cells) (hs : sl ≤ (mO M).slots) (k : Q r N G A B D) : ygo EX M N0 Q QX cs sl pc lv r.toList N G A B D := by
  intro p l e s m args below meth c Dg cT As ad0 ad H locs ls Z hE0 hS hV hr he
  obtain ⟨hx, hb, hml, hrt, hlk, hnm, hown, hts, hst, htb, hK, hMv, hZ, hA⟩ := id hS
  obtain ⟨v1, v2, v3, v4, v5, v6⟩ := hV
  exact hr r N G A B D ad H locs ls pc cs sl k ⟨v1, v2, v3, v4, v5, xlv_sub v6 (fun q hq => nomatch hq)⟩ hc hs hd
theorem yi_laload {kk nn : Nat} {i : Int32} (hd : decode (mC M) pc = .ok (.laload, 1)) (hg : (G kk).1 = 2) (hn : (G kk).2.1 = nn) (hin : vp_in i nn) (k : ygo EX M N0 Q QX cs sl (pc + 1) lv (.long (B kk i.toNatClampNeg) :: st) N G A B D) : ygo EX M N0 Q QX cs sl pc lv (.int i :: .ref kk :: st) N G A B D := by
  intro p l e s m args below meth c Dg cT As ad0 ad H locs ls Z hE0 hS hV hr he
  obtain ⟨hx, hb, hml, hrt, hlk, hnm, hown, hts, hst, htb, hK, hMv, hZ, hA⟩ := id hS
  have hk : kk < N := hV.2.2.2.1 kk (by rw [hg]; decide)
  have hw : (xwl ad cT N G A B D)[kk]? = some (ad kk, .inl (cT 1, nn, .inr (.inl (B kk)))) := by rw [xwl_get hk]; unfold xent; rw [hg, hn]; rfl
  exact va_lald hx hb hK hV.2.1 kk 1 hw rfl hin hd (k p l e s m args below meth c Dg cT As ad0 ad H locs ls Z hE0 hS hV hr he)
theorem yi_daload {kk nn : Nat} {i : Int32} (hd : decode (mC M) pc = .ok (.daload, 1)) (hg : (G kk).1 = 4) (hn : (G kk).2.1 = nn) (hin : vp_in i nn) (k : ygo EX M N0 Q QX cs sl (pc + 1) lv (.double (D kk i.toNatClampNeg) :: st) N G A B D) : ygo EX M N0 Q QX cs sl pc lv (.int i :: .ref kk :: st) N G A B D := by
  intro p l e s m args below meth c Dg cT As ad0 ad H locs ls Z hE0 hS hV hr he
  obtain ⟨hx, hb, hml, hrt, hlk, hnm, hown, hts, hst, htb, hK, hMv, hZ, hA⟩ := id hS
  have hk : kk < N := hV.2.2.2.1 kk (by rw [hg]; decide)
  have hw : (xwl ad cT N G A B D)[kk]? = some (ad kk, .inl (cT 3, nn, .inr (.inr (.inr (.inl (D kk)))))) := by rw [xwl_get hk]; unfold xent; rw [hg, hn]; rfl
  exact va_dald hx hb hK hV.2.1 kk 3 hw rfl hin hd (k p l e s m args below meth c Dg cT As ad0 ad H locs ls Z hE0 hS hV hr he)
theorem yi_lastore {kk nn : Nat} {i : Int32} {x : Int64} (hd : decode (mC M) pc = .ok (.lastore, 1)) (hg : (G kk).1 = 2) (hn : (G kk).2.1 = nn) (hin : vp_in i nn) (k : ygo EX M N0 Q QX cs sl (pc + 1) lv st N G A (updB B kk i.toNatClampNeg x) D) : ygo EX M N0 Q QX cs sl pc lv (.long x :: .int i :: .ref kk :: st) N G A B D := by
  intro p l e s m args below meth c Dg cT As ad0 ad H locs ls Z hE0 hS hV hr he
  obtain ⟨hx, hb, hml, hrt, hlk, hnm, hown, hts, hst, htb, hK, hMv, hZ, hA⟩ := id hS
  have hk : kk < N := hV.2.2.2.1 kk (by rw [hg]; decide)
  have hw : (xwl ad cT N G A B D)[kk]? = some (ad kk, .inl (cT 1, nn, .inr (.inl (B kk)))) := by rw [xwl_get hk]; unfold xent; rw [hg, hn]; rfl
  obtain ⟨v1, v2, v3, v4, v5, v6⟩ := hV
  refine va_last hx hb hK v2 (xdom_D v3) v1 kk 1 hw rfl hin hd (fun H1 locs1 hP hD1 hS1 => ?_)
  rw [xwl_set (G' := G) (A' := A) (B' := (updB B kk i.toNatClampNeg x)) (D' := D) hk (fun j hj => ⟨rfl, rfl, updB_n B _ _ hj, rfl⟩) (by unfold xent; rw [hg, hn, updB_s]; rfl)] at hP
  exact k p l e s m args below meth c Dg cT As ad0 ad H1 locs1 ls Z hE0 hS ⟨hS1, hP, v3, v4, v5, v6⟩ hr he
theorem yi_dastore {kk nn : Nat} {i : Int32} {x : UInt64} (hd : decode (mC M) pc = .ok (.dastore, 1)) (hg : (G kk).1 = 4) (hn : (G kk).2.1 = nn) (hin : vp_in i nn) (k : ygo EX M N0 Q QX cs sl (pc + 1) lv st N G A B (updD D kk i.toNatClampNeg x)) : ygo EX M N0 Q QX cs sl pc lv (.double x :: .int i :: .ref kk :: st) N G A B D := by
  intro p l e s m args below meth c Dg cT As ad0 ad H locs ls Z hE0 hS hV hr he
  obtain ⟨hx, hb, hml, hrt, hlk, hnm, hown, hts, hst, htb, hK, hMv, hZ, hA⟩ := id hS
  have hk : kk < N := hV.2.2.2.1 kk (by rw [hg]; decide)
  have hw : (xwl ad cT N G A B D)[kk]? = some (ad kk, .inl (cT 3, nn, .inr (.inr (.inr (.inl (D kk)))))) := by rw [xwl_get hk]; unfold xent; rw [hg, hn]; rfl
  obtain ⟨v1, v2, v3, v4, v5, v6⟩ := hV
  refine va_dast hx hb hK v2 (xdom_D v3) v1 kk 3 hw rfl hin hd (fun H1 locs1 hP hD1 hS1 => ?_)
  rw [xwl_set (G' := G) (A' := A) (B' := B) (D' := (updD D kk i.toNatClampNeg x)) hk (fun j hj => ⟨rfl, rfl, rfl, updD_n D _ _ hj⟩) (by unfold xent; rw [hg, hn, updD_s]; rfl)] at hP
  exact k p l e s m args below meth c Dg cT As ad0 ad H1 locs1 ls Z hE0 hS ⟨hS1, hP, v3, v4, v5, v6⟩ hr he
end YROWS
section YC
variable {EX : State → (Nat → Prop) → (Nat → Nat) → Prop} {M : xMI} {N0 : Nat} {Q : xQ} {QX : xQX} {cs sl pc : Nat} {lv : xLV} {st : List Value} {N : Nat} {G : xG} {A : xA} {B : xB} {D : xD}
variable {p : Program} {l : Launch} {e : Env} {s : State} {m : MethodId} {args : Array Value} {below : List Frame} {meth : Method} {c : Code} {Dg : va_G} {cT : Nat → ClassId} {As : Nat → Prop} {ad0 ad : Nat → Nat} {H : Heap} {locs : List Loc} {ls : Array Slot} {Z : State → Prop}
/-- what goes on behind a call: it came back (kk), or it threw (kx) -/
theorem ycall {Q2 : xQ} {QX2 : xQX} {mc ms : Nat} {a : Array Value} {st0 : List Value}
    (hS : xS M p l s m args meth c Dg cT As) (hV : xV M s Dg cT As ad0 ad H locs ls lv N0 N G A B D) (hE0 : EX s As ad0) (hr : xKr M N0 Q p l e s m args below meth c Dg cT As ad0 Z) (he : xKx M N0 QX p l e s m args below meth c Dg cT As ad0 Z)
    (hrun : vx_Run p l e (mO M) s m args below meth c H locs cs sl mc ms (F0 m pc ls st0) (st.map (xtr ad)) (xQc Dg cT ad N (xAs ad N H.size) Q2 a) (xXc Dg cT ad N (xAs ad N H.size) QX2) (xAs ad N H.size))
    (kk : ∀ r N' G' A' B' D', Q2 r N' G' A' B' D' → (N' = N ∨ (lv.all (fun q => xsc N q.2) = true ∧ st.all (xsc N) = true)) ∧ ygo EX M N0 Q QX (cs + mc) (sl + ms) (pc + 3) lv (r.toList ++ st) N' G' A' B' D')
    (kx : ∀ E N' G' A' B' D', QX2 E N' G' A' B' D' → (∀ x ∈ tableOf (mH M), covers x pc = false) ∧ QX E N' G' A' B' D' ∧ cs + mc ≤ (mO M).cells ∧ sl + ms ≤ (mO M).slots) :
    W p l e (mO M) s m args below meth c H locs cs sl Z (F0 m pc ls st0) := by
  obtain ⟨v1, v2, v3, v4, v5, v6⟩ := hV
  have hsub : ∀ q, xAs ad N H.size q → As q := by
    rintro q (⟨k, hk, rfl⟩ | h)
    · exact v3.2 k hk
    · exact hS.2.2.2.2.2.2.2.2.2.2.2.2.2 q (Nat.le_trans v1.1 h)
  intro T hT X
  rcases hrun T hT X with ⟨v, st₀, t, T', L, h0, X', hL, e1, e2, ⟨⟨r, N', G', A', B', D', ad', hv, hQ, hE1, hE2, hE3, hE4⟩, hF⟩, stp⟩ | ⟨q, st₀, t, T', L, E, ce, h0, X', hL, e1, e2, ⟨⟨N', G', A', B', D', ad', hQ, hE1, hE2, hE3, hE4⟩, hF⟩, hce, hcv, hcl, stp⟩
  · cases hv
    obtain ⟨k1, k2, k3⟩ := vx_keep h0 e1 v1 (fun q _ h => hsub q h) hsub hL hF
    obtain ⟨hsc, hgo⟩ := kk r N' G' A' B' D' hQ
    have hlv : xlv ad' lv = xlv ad lv := by
      rcases hsc with rfl | ⟨h1, -⟩
      · have : ad' = ad := funext fun k => hE1.2 k (Nat.lt_or_ge k _)
        rw [this]
      · exact xlv_sc (fun k hk => hE1.2 k (Or.inl hk)) h1
    have hst : st.map (xtr ad') = st.map (xtr ad) := by
      rcases hsc with rfl | ⟨-, h1⟩
      · have : ad' = ad := funext fun k => hE1.2 k (Nat.lt_or_ge k _)
        rw [this]
      · exact xmap_sc (fun k hk => hE1.2 k (Or.inl hk)) h1
    have hgo2 := hgo p l e s m args below meth c Dg cT As ad0 ad' T'.heap (locs ++ L) ls Z hE0 hS
      ⟨k3, by rw [e1]; exact hE2, ⟨hE3.1, fun k hk => hsub _ (hE3.2 k hk)⟩, hE4, ⟨Nat.le_trans v5.1 hE1.1, fun k hk => by
        rcases hk with hk | hk
        · rw [hE1.2 k (Or.inl (Nat.lt_of_lt_of_le hk v5.1)), v5.2 k (Or.inl hk)]
        · rw [hE1.2 k (Or.inr hk), v5.2 k (Or.inr (Nat.le_trans hE1.1 hk))]⟩, by rw [hlv]; exact v6⟩ hr he
    obtain ⟨t2, a1, b1⟩ := hgo2 T' rfl X'
    refine ⟨t2, stp t2 ?_, b1⟩
    have hl : (r.toList ++ st).map (xtr ad') = (r.map (xtr ad')).toList ++ st.map (xtr ad) := by
      rw [List.map_append, hst]; cases r <;> rfl
    rw [hl] at a1
    exact a1
  · obtain ⟨k1, k2, k3⟩ := vx_keep h0 e1 v1 (fun q _ h => hsub q h) hsub hL hF
    obtain ⟨hcov, hQ2, hc1, hs1⟩ := kx E N' G' A' B' D' hQ
    have hgo2 := he E ce q N' G' A' B' D' ad' T'.heap (locs ++ L) ls (st.map (xtr ad)) pc (cs + mc) (sl + ms) hQ2
      ⟨k3, by rw [e1]; exact hE2, ⟨hE3.1, fun k hk => hsub _ (hE3.2 k hk)⟩, hE4, ⟨Nat.le_trans v5.1 hE1.1, fun k hk => by
        rcases hk with hk | hk
        · rw [hE1.2 k (Or.inl (Nat.lt_of_lt_of_le hk v5.1)), v5.2 k (Or.inl hk)]
        · rw [hE1.2 k (Or.inr hk), v5.2 k (Or.inr (Nat.le_trans hE1.1 hk))]⟩, ⟨v6.1, v6.2.1, fun q hq => nomatch hq⟩⟩ hc1 hs1 hcov (by rw [e1]; exact hce) hcv hcl
    obtain ⟨t2, a1, b1⟩ := hgo2 T' rfl X'
    exact ⟨t2, stp.trans a1, b1⟩
end YC
section YC2
variable {EX : State → (Nat → Prop) → (Nat → Nat) → Prop} {M : xMI} {N0 : Nat} {Q : xQ} {QX : xQX} {cs sl pc : Nat} {lv : xLV} {st : List Value} {N : Nat} {G : xG} {A : xA} {B : xB} {D : xD}
theorem yi_callS {M2 : xMI} {av : List Value} {Q2 : xQ} {QX2 : xQX} {idx n : Nat} (hd : decode (mC M) pc = .ok (.invokestatic idx, 3)) (hw : xlS (mY M).cls idx M2 n) (hh : mH M2 = []) (hn : av.length = n) (hR : xroom M M2 cs sl) (hst : (st.map fun v => v.category).sum ≤ 8)
    (hC : xdoes M2 av N G A B D Q2 QX2)
    (kx : ∀ E N' G' A' B' D', QX2 E N' G' A' B' D' → (∀ x ∈ tableOf (mH M), covers x pc = false) ∧ QX E N' G' A' B' D' ∧ cs + (mO M2).cells ≤ (mO M).cells ∧ sl + (mO M2).slots ≤ (mO M).slots)
    (kk : ∀ r N' G' A' B' D', Q2 r N' G' A' B' D' → (N' = N ∨ (lv.all (fun q => xsc N q.2) = true ∧ st.all (xsc N) = true)) ∧ ygo EX M N0 Q QX (cs + (mO M2).cells) (sl + (mO M2).slots) (pc + 3) lv (r.toList ++ st) N' G' A' B' D') :
    ygo EX M N0 Q QX cs sl pc lv (av.reverse ++ st) N G A B D := by
  intro p l e s m args below meth c Dg cT As ad0 ad H locs ls Z hE0 hS hV hr he
  obtain ⟨hx, hb, hml, hrt, hlk, hnm, hown, hts, hsk, htb, hK, hMv, hZ, hA⟩ := id hS
  obtain ⟨w1, w2, w3, w4, w5⟩ := hw
  have hcw := xcw_nil hh
  have hpre := xpre_ok hS hV av
  rw [List.map_append, List.map_reverse]
  refine ycall hS hV hE0 hr he (vx_runS (n := n) (bytes := mC M2) (maxL := mL M2) (ret := mR M2) ⟨hx, hb, hml, hown, hts⟩ (hC l hsk Dg cT ad H.size)
    ⟨callB_of n hts (xws_good (by rw [hcw]; exact w4)) (by rw [xws, hcw]) rfl rfl (hts _ w3) (hts _ w1) w5 ⟨hR.1, hR.2.1⟩, hts _ w2⟩ hpre rfl (by rw [List.length_map]; exact hn) hV.2.2.2.2.2.1 rfl (lv_room (by
      have : (List.map (fun v => v.category) (st.map (xtr ad))) = st.map fun v => v.category := by rw [List.map_map]; exact List.map_congr_left fun v _ => xtr_cat ad v
      rw [this]; exact hst)) hd ⟨hR.2.2.1, hR.2.2.2⟩) kk kx
theorem yi_callV {M2 : xMI} {av : List Value} {Q2 : xQ} {QX2 : xQX} {idx n kr ci : Nat} {q : vw_C} (hd : decode (mC M) pc = .ok (.invokevirtual idx, 3)) (hw : xlV (mY M).cls idx M2 n) (hh : mH M2 = []) (hn : av.length = n) (hR : xroom M M2 cs sl) (hst : (st.map fun v => v.category).sum ≤ 8)
    (hg : (G kr).1 = ci + 7) (hc : vwCl[ci]? = some q) (hcn : q.1 = (mY M2).cls)
    (hC : xdoes M2 (.ref kr :: av) N G A B D Q2 QX2)
    (kx : ∀ E N' G' A' B' D', QX2 E N' G' A' B' D' → (∀ x ∈ tableOf (mH M), covers x pc = false) ∧ QX E N' G' A' B' D' ∧ cs + (mO M2).cells ≤ (mO M).cells ∧ sl + (mO M2).slots ≤ (mO M).slots)
    (kk : ∀ r N' G' A' B' D', Q2 r N' G' A' B' D' → (N' = N ∨ (lv.all (fun q => xsc N q.2) = true ∧ st.all (xsc N) = true)) ∧ ygo EX M N0 Q QX (cs + (mO M2).cells) (sl + (mO M2).slots) (pc + 3) lv (r.toList ++ st) N' G' A' B' D') :
    ygo EX M N0 Q QX cs sl pc lv (av.reverse ++ .ref kr :: st) N G A B D := by
  intro p l e s m args below meth c Dg cT As ad0 ad H locs ls Z hE0 hS hV hr he
  obtain ⟨hx, hb, hml, hrt, hlk, hnm, hown, hts, hsk, htb, hK, hMv, hZ, hA⟩ := id hS
  obtain ⟨w1, w2, w2b, w3, w4, w5⟩ := hw
  have hcw := xcw_nil hh
  have hpre := xpre_ok hS hV (.ref kr :: av)
  have hk : kr < N := hV.2.2.2.1 kr (by rw [hg]; omega)
  have hwc : (xwl ad cT N G A B D)[kr]? = some (ad kr, .inr (ci, xfl ad (A kr) (B kr) (G kr).2.2 ci)) := by rw [xwl_get hk]; unfold xent; rw [hg]; rfl
  have hrecv := va_recv hK hV.2.1 hc hwc
  rw [hcn] at hrecv
  rw [List.map_append, List.map_reverse]
  refine ycall hS hV hE0 hr he (vx_runV (n := n) (C := (mY M2).cls) (b := ad kr) (As := av.map (xtr ad)) (bytes := mC M2) (maxL := mL M2) (ret := mR M2) ⟨hx, hb, hml, hown, hts⟩ (hC l hsk Dg cT ad H.size)
    ⟨callB_of n hts (xws_good (by rw [hcw]; exact w4)) (by rw [xws, hcw]) rfl rfl (hts _ w3) (hts _ w1) w5 ⟨hR.1, hR.2.1⟩, hts _ w2, hts _ w2b⟩ ⟨hpre.1, hrecv, hpre.2⟩ rfl (by rw [List.length_map]; exact hn) hV.2.2.2.2.2.1 rfl (lv_room (by
      have : (List.map (fun v => v.category) (st.map (xtr ad))) = st.map fun v => v.category := by rw [List.map_map]; exact List.map_congr_left fun v _ => xtr_cat ad v
      rw [this]; exact hst)) hd ⟨hR.2.2.1, hR.2.2.2⟩) kk kx
end YC2
abbrev gl0 (EX : State → (Nat → Prop) → (Nat → Nat) → Prop) (M : xMI) (Q : Option Value → xA → xB → xD → Prop) (QX : String → xA → xB → xD → Prop) (cs sl pc : Nat) (lv : xLV) (st : List Value) (A : xA) (B : xB) (D : xD) : Prop := ygo EX M 97 (q0 Q) (x0 QX) cs sl pc lv st 97 xG0 A B D
section YR0
variable {EX : State → (Nat → Prop) → (Nat → Nat) → Prop} {M : xMI} {Q : Option Value → xA → xB → xD → Prop} {QX : String → xA → xB → xD → Prop} {cs sl pc : Nat} {lv : xLV} {st : List Value} {A : xA} {B : xB} {D : xD}
theorem ygo_ret {r : Option Value} (hd : xret M pc r) (hc : cs ≤ (mO M).cells) (hs : sl ≤ (mO M).slots) (k : Q r A B D) : gl0 EX M Q QX cs sl pc lv r.toList A B D := yi_ret hd hc hs ⟨rfl, rfl, k⟩
/-- calls of what never throws -/
theorem ycV {M2 : xMI} {av : List Value} {P : Option Value → xA → xB → xD → Prop} {idx n kr ci : Nat} {q : vw_C} (hd : decode (mC M) pc = .ok (.invokevirtual idx, 3)) (hw : xlV (mY M).cls idx M2 n) (hh : mH M2 = []) (hz : (mO M2).cells = 0 ∧ (mO M2).slots = 0) (hn : av.length = n) (hR : (mO M2).frames + 1 ≤ (mO M).frames ∧ 8 + (mL M2 + 11) + (mO M2).locals ≤ (mO M).locals) (hcs : cs ≤ (mO M).cells ∧ sl ≤ (mO M).slots) (hst : (st.map fun v => v.category).sum ≤ 8)
    (hg : (xG0 kr).1 = ci + 7) (hc : vwCl[ci]? = some q) (hcn : q.1 = (mY M2).cls) (hC : does0 M2 (.ref kr :: av) A B D P nx) (kk : ∀ r A' B' D', P r A' B' D' → gl0 EX M Q QX cs sl (pc + 3) lv (r.toList ++ st) A' B' D') : gl0 EX M Q QX cs sl pc lv (av.reverse ++ .ref kr :: st) A B D := by
  refine yi_callV hd hw hh hn ⟨hR.1, hR.2, by rw [hz.1]; exact hcs.1, by rw [hz.2]; exact hcs.2⟩ hst hg hc hcn hC (fun E N' G' A' B' D' h => h.2.2.elim) (fun r N' G' A' B' D' h => ?_)
  obtain ⟨rfl, rfl, h⟩ := h
  refine ⟨Or.inl rfl, ?_⟩
  rw [hz.1, hz.2]
  exact kk r A' B' D' h
theorem ycV1 {M2 : xMI} {av : List Value} {v : Option Value} {A1 : xA} {B1 : xB} {D1 : xD} {idx n kr ci : Nat} {q : vw_C} (hd : decode (mC M) pc = .ok (.invokevirtual idx, 3)) (hw : xlV (mY M).cls idx M2 n) (hh : mH M2 = []) (hz : (mO M2).cells = 0 ∧ (mO M2).slots = 0) (hn : av.length = n) (hR : (mO M2).frames + 1 ≤ (mO M).frames ∧ 8 + (mL M2 + 11) + (mO M2).locals ≤ (mO M).locals) (hcs : cs ≤ (mO M).cells ∧ sl ≤ (mO M).slots) (hst : (st.map fun v => v.category).sum ≤ 8)
    (hg : (xG0 kr).1 = ci + 7) (hc : vwCl[ci]? = some q) (hcn : q.1 = (mY M2).cls) (hC : does0 M2 (.ref kr :: av) A B D (eqQ v A1 B1 D1) nx) (kk : gl0 EX M Q QX cs sl (pc + 3) lv (v.toList ++ st) A1 B1 D1) : gl0 EX M Q QX cs sl pc lv (av.reverse ++ .ref kr :: st) A B D :=
  ycV hd hw hh hz hn hR hcs hst hg hc hcn hC (fun r A' B' D' h => by obtain ⟨rfl, rfl, rfl, rfl⟩ := h; exact kk)
theorem ycS {M2 : xMI} {av : List Value} {P : Option Value → xA → xB → xD → Prop} {idx n : Nat} (hd : decode (mC M) pc = .ok (.invokestatic idx, 3)) (hw : xlS (mY M).cls idx M2 n) (hh : mH M2 = []) (hz : (mO M2).cells = 0 ∧ (mO M2).slots = 0) (hn : av.length = n) (hR : (mO M2).frames + 1 ≤ (mO M).frames ∧ 8 + (mL M2 + 11) + (mO M2).locals ≤ (mO M).locals) (hcs : cs ≤ (mO M).cells ∧ sl ≤ (mO M).slots) (hst : (st.map fun v => v.category).sum ≤ 8)
    (hC : does0 M2 av A B D P nx) (kk : ∀ r A' B' D', P r A' B' D' → gl0 EX M Q QX cs sl (pc + 3) lv (r.toList ++ st) A' B' D') : gl0 EX M Q QX cs sl pc lv (av.reverse ++ st) A B D := by
  refine yi_callS hd hw hh hn ⟨hR.1, hR.2, by rw [hz.1]; exact hcs.1, by rw [hz.2]; exact hcs.2⟩ hst hC (fun E N' G' A' B' D' h => h.2.2.elim) (fun r N' G' A' B' D' h => ?_)
  obtain ⟨rfl, rfl, h⟩ := h
  refine ⟨Or.inl rfl, ?_⟩
  rw [hz.1, hz.2]
  exact kk r A' B' D' h
theorem ycS1 {M2 : xMI} {av : List Value} {v : Option Value} {A1 : xA} {B1 : xB} {D1 : xD} {idx n : Nat} (hd : decode (mC M) pc = .ok (.invokestatic idx, 3)) (hw : xlS (mY M).cls idx M2 n) (hh : mH M2 = []) (hz : (mO M2).cells = 0 ∧ (mO M2).slots = 0) (hn : av.length = n) (hR : (mO M2).frames + 1 ≤ (mO M).frames ∧ 8 + (mL M2 + 11) + (mO M2).locals ≤ (mO M).locals) (hcs : cs ≤ (mO M).cells ∧ sl ≤ (mO M).slots) (hst : (st.map fun v => v.category).sum ≤ 8)
    (hC : does0 M2 av A B D (eqQ v A1 B1 D1) nx) (kk : gl0 EX M Q QX cs sl (pc + 3) lv (v.toList ++ st) A1 B1 D1) : gl0 EX M Q QX cs sl pc lv (av.reverse ++ st) A B D :=
  ycS hd hw hh hz hn hR hcs hst hC (fun r A' B' D' h => by obtain ⟨rfl, rfl, rfl, rfl⟩ := h; exact kk)
/-- array rows by a natural index -/
theorem yla {kk nn j : Nat} {i : Int32} (hd : decode (mC M) pc = .ok (.laload, 1)) (hg : (xG0 kk).1 = 2) (hn : (xG0 kk).2.1 = nn) (hi : i = nI j) (hj : j < nn) (hs : nn < 2 ^ 31) (k : gl0 EX M Q QX cs sl (pc + 1) lv (.long (B kk j) :: st) A B D) : gl0 EX M Q QX cs sl pc lv (.int i :: .ref kk :: st) A B D := by
  subst hi
  refine yi_laload hd hg hn (vp_in_nI hj hs) ?_
  rw [nI_clamp (Nat.lt_trans hj hs)]
  exact k
theorem yls {kk nn j : Nat} {i : Int32} {x : Int64} (hd : decode (mC M) pc = .ok (.lastore, 1)) (hg : (xG0 kk).1 = 2) (hn : (xG0 kk).2.1 = nn) (hi : i = nI j) (hj : j < nn) (hs : nn < 2 ^ 31) (k : gl0 EX M Q QX cs sl (pc + 1) lv st A (updB B kk j x) D) : gl0 EX M Q QX cs sl pc lv (.long x :: .int i :: .ref kk :: st) A B D := by
  subst hi
  refine yi_lastore hd hg hn (vp_in_nI hj hs) ?_
  rw [nI_clamp (Nat.lt_trans hj hs)]
  exact k
end YR0
section YL
variable {EX : State → (Nat → Prop) → (Nat → Nat) → Prop} {M : xMI} {N0 : Nat} {Q : xQ} {QX : xQX} {cs sl pc : Nat} {lv : xLV} {st : List Value} {N : Nat} {G : xG} {A : xA} {B : xB} {D : xD}
theorem yi_lcmpeq {x y : Int64} {off : Int} {tgt : Nat} (hd : decode (mC M) pc = .ok (.lcmp, 1)) (hd2 : decode (mC M) (pc + 1) = .ok (.ifCond .eq off, 3)) (ht : ((pc + 1 : Nat) : Int) + off = (tgt : Int)) (kt : x = y → ygo EX M N0 Q QX cs sl tgt lv st N G A B D) (kf : ¬ x = y → ygo EX M N0 Q QX cs sl (pc + 1 + 3) lv st N G A B D) : ygo EX M N0 Q QX cs sl pc lv (.long y :: .long x :: st) N G A B D :=
  yi_lcmp hd (yi_if_eq hd2 ht (fun h => kt ((lgc x y).mp h)) (fun h => kf (fun q => h ((lgc x y).mpr q))))
theorem yi_lcmpne {x y : Int64} {off : Int} {tgt : Nat} (hd : decode (mC M) pc = .ok (.lcmp, 1)) (hd2 : decode (mC M) (pc + 1) = .ok (.ifCond .ne off, 3)) (ht : ((pc + 1 : Nat) : Int) + off = (tgt : Int)) (kt : ¬ x = y → ygo EX M N0 Q QX cs sl tgt lv st N G A B D) (kf : x = y → ygo EX M N0 Q QX cs sl (pc + 1 + 3) lv st N G A B D) : ygo EX M N0 Q QX cs sl pc lv (.long y :: .long x :: st) N G A B D :=
  yi_lcmp hd (yi_if_ne hd2 ht (fun h => kt (fun q => h ((lgc x y).mpr q))) (fun h => kf ((lgc x y).mp (Classical.not_not.mp h))))
theorem yi_ifne {x : Int32} {off : Int} {tgt : Nat} (hd : decode (mC M) pc = .ok (.ifCond .ne off, 3)) (ht : (pc : Int) + off = (tgt : Int)) (kt : ¬ x = 0 → ygo EX M N0 Q QX cs sl tgt lv st N G A B D) (kf : x = 0 → ygo EX M N0 Q QX cs sl (pc + 3) lv st N G A B D) : ygo EX M N0 Q QX cs sl pc lv (.int x :: st) N G A B D :=
  yi_if_ne hd ht kt (fun h => kf (Classical.not_not.mp h))
theorem yi_icmpne {x y : Int32} {off : Int} {tgt : Nat} (hd : decode (mC M) pc = .ok (.if_icmp .ne off, 3)) (ht : (pc : Int) + off = (tgt : Int)) (kt : ¬ x = y → ygo EX M N0 Q QX cs sl tgt lv st N G A B D) (kf : x = y → ygo EX M N0 Q QX cs sl (pc + 3) lv st N G A B D) : ygo EX M N0 Q QX cs sl pc lv (.int y :: .int x :: st) N G A B D :=
  yi_icmp_ne hd ht kt (fun h => kf (Classical.not_not.mp h))
end YL

