/-! the state that both sides stand for -/
abbrev absT : Type := Nat × Nat × Nat × Nat × Nat × Int32 × Int32 × (Nat → Int32) × (Nat → Int32) × (Nat → Int32) × (Nat → Int32) × (Nat → Int32) × (Nat → Nat → Int32) × (Nat → Nat → Int32)
def abs : Type := absT
def abs.tup (S : abs) : absT := S
def abs.c (S : abs) : Nat := S.tup.1
def abs.r (S : abs) : Nat := S.tup.2.1
def abs.n (S : abs) : Nat := S.tup.2.2.1
def abs.sz (S : abs) : Nat := S.tup.2.2.2.1
def abs.len (S : abs) : Nat := S.tup.2.2.2.2.1
def abs.dk (S : abs) : Int32 := S.tup.2.2.2.2.2.1
def abs.ei (S : abs) : Int32 := S.tup.2.2.2.2.2.2.1
def abs.lv (S : abs) : Nat → Int32 := S.tup.2.2.2.2.2.2.2.1
def abs.mr (S : abs) : Nat → Int32 := S.tup.2.2.2.2.2.2.2.2.1
def abs.co (S : abs) : Nat → Int32 := S.tup.2.2.2.2.2.2.2.2.2.1
def abs.hc (S : abs) : Nat → Int32 := S.tup.2.2.2.2.2.2.2.2.2.2.1
def abs.hr (S : abs) : Nat → Int32 := S.tup.2.2.2.2.2.2.2.2.2.2.2.1
def abs.hl (S : abs) : Nat → Nat → Int32 := S.tup.2.2.2.2.2.2.2.2.2.2.2.2.1
def abs.hm (S : abs) : Nat → Nat → Int32 := S.tup.2.2.2.2.2.2.2.2.2.2.2.2.2
def abs.of (c_ : Nat) (r_ : Nat) (n_ : Nat) (sz_ : Nat) (len_ : Nat) (dk_ : Int32) (ei_ : Int32) (lv_ : Nat → Int32) (mr_ : Nat → Int32) (co_ : Nat → Int32) (hc_ : Nat → Int32) (hr_ : Nat → Int32) (hl_ : Nat → Nat → Int32) (hm_ : Nat → Nat → Int32) : abs := show absT from (c_, r_, n_, sz_, len_, dk_, ei_, lv_, mr_, co_, hc_, hr_, hl_, hm_)
def abs.X (S : abs) : img := img.of S.c S.r S.n S.ei (fun p => (trn (S.lv p) S.dk).toNatClampNeg)
def abs.ok (S : abs) : Prop := (gOK S.c S.r S.n) ∧ (S.sz ≤ 8) ∧ (S.len ≤ 72) ∧ (lv16 S.lv 64) ∧ (lv16 S.mr 64) ∧ (S.dk = 0 ∨ S.dk = 1) ∧ (S.ei = 0 ∨ S.ei = 1) ∧ (∀ i, i < S.sz → (∃ c' r', S.hc i = nI c' ∧ S.hr i = nI r' ∧ 0 < c' ∧ c' ≤ 8 ∧ 0 < r' ∧ r' ≤ 8) ∧ lv16 (S.hl i) 64 ∧ lv16 (S.hm i) 64)
theorem abs.ok.g {S : abs} (h_ : abs.ok S) : gOK S.c S.r S.n := h_.1
theorem abs.ok.sz {S : abs} (h_ : abs.ok S) : S.sz ≤ 8 := h_.2.1
theorem abs.ok.len {S : abs} (h_ : abs.ok S) : S.len ≤ 72 := h_.2.2.1
theorem abs.ok.lv {S : abs} (h_ : abs.ok S) : lv16 S.lv 64 := h_.2.2.2.1
theorem abs.ok.mr {S : abs} (h_ : abs.ok S) : lv16 S.mr 64 := h_.2.2.2.2.1
theorem abs.ok.dk {S : abs} (h_ : abs.ok S) : S.dk = 0 ∨ S.dk = 1 := h_.2.2.2.2.2.1
theorem abs.ok.ei {S : abs} (h_ : abs.ok S) : S.ei = 0 ∨ S.ei = 1 := h_.2.2.2.2.2.2.1
theorem abs.ok.h {S : abs} (h_ : abs.ok S) : ∀ i, i < S.sz → (∃ c' r', S.hc i = nI c' ∧ S.hr i = nI r' ∧ 0 < c' ∧ c' ≤ 8 ∧ 0 < r' ∧ r' ≤ 8) ∧ lv16 (S.hl i) 64 ∧ lv16 (S.hm i) 64 := h_.2.2.2.2.2.2.2
theorem abs.ok.mk' {S : abs} (g : gOK S.c S.r S.n) (sz : S.sz ≤ 8) (len : S.len ≤ 72) (lv : lv16 S.lv 64) (mr : lv16 S.mr 64) (dk : S.dk = 0 ∨ S.dk = 1) (ei : S.ei = 0 ∨ S.ei = 1) (h : ∀ i, i < S.sz → (∃ c' r', S.hc i = nI c' ∧ S.hr i = nI r' ∧ 0 < c' ∧ c' ≤ 8 ∧ 0 < r' ∧ r' ≤ 8) ∧ lv16 (S.hl i) 64 ∧ lv16 (S.hm i) 64) : abs.ok S := ⟨g, sz, len, lv, mr, dk, ei, h⟩
theorem trn_16 {x dk : Int32} (h : ∃ a, a < 16 ∧ x = nI a) : ∃ b, b < 16 ∧ trn x dk = nI b := by
  obtain ⟨a, a1, rfl⟩ := h
  unfold trn
  by_cases e : dk = 0
  · rw [if_pos e]; exact ⟨a, a1, rfl⟩
  · rw [if_neg e, show (15 : Int32) = nI 15 from rfl, pk_sub (by omega)]; exact ⟨15 - a, by omega, rfl⟩
theorem abs.rk {S : abs} (h : S.ok) {p : Nat} (hp : p < 64) : trn (S.lv p) S.dk = nI (S.X.rk p) ∧ S.X.rk p < 16 := by
  obtain ⟨b, b1, b2⟩ := trn_16 (dk := S.dk) (h.lv p hp)
  have e : S.X.rk p = b := by
    show (trn (S.lv p) S.dk).toNatClampNeg = b
    rw [b2, nI_clamp (by omega)]
  rw [e]
  exact ⟨b2, b1⟩
theorem abs.Xok {S : abs} (h : S.ok) : S.X.ok := ⟨h.g, fun p hp => (abs.rk h (Nat.lt_of_lt_of_le hp h.g.n.2)).2⟩
def cSl (A : xA) (s : Nat) (c r : Int32) (l m : Nat → Int32) : Prop := A (9 + 3 * s) 0 = c ∧ A (9 + 3 * s) 1 = r ∧ (∀ j, j < 64 → A (9 + 3 * s + 1) j = l j) ∧ ∀ j, j < 64 → A (9 + 3 * s + 2) j = m j
/-- the class stands for S -/
def cRel (S : abs) (A : xA) (B : xB) : Prop := (A 1 0 = nI S.c) ∧ (A 1 1 = nI S.r) ∧ (∀ j, j < 64 → A 2 j = S.lv j) ∧ (∀ j, j < 64 → A 3 j = S.mr j) ∧ (A 0 9 = S.dk) ∧ (A 0 10 = S.ei) ∧ (A 0 11 = 0 → cLd S.X A B) ∧ (∃ x, x < 8 ∧ A 7 1 = nI x ∧ ∀ i, i < S.sz → cSl A ((x + 8 - S.sz + i) % 8) (S.hc i) (S.hr i) (S.hl i) (S.hm i)) ∧ (A 7 2 = nI S.sz) ∧ (A 33 1 = nI S.len) ∧ (∀ i, i < S.len → A 34 i = S.co i)
theorem cRel.c {S : abs} {A : xA} {B : xB} (h_ : cRel S A B) : A 1 0 = nI S.c := h_.1
theorem cRel.r {S : abs} {A : xA} {B : xB} (h_ : cRel S A B) : A 1 1 = nI S.r := h_.2.1
theorem cRel.lv {S : abs} {A : xA} {B : xB} (h_ : cRel S A B) : ∀ j, j < 64 → A 2 j = S.lv j := h_.2.2.1
theorem cRel.mr {S : abs} {A : xA} {B : xB} (h_ : cRel S A B) : ∀ j, j < 64 → A 3 j = S.mr j := h_.2.2.2.1
theorem cRel.dk {S : abs} {A : xA} {B : xB} (h_ : cRel S A B) : A 0 9 = S.dk := h_.2.2.2.2.1
theorem cRel.ei {S : abs} {A : xA} {B : xB} (h_ : cRel S A B) : A 0 10 = S.ei := h_.2.2.2.2.2.1
theorem cRel.st {S : abs} {A : xA} {B : xB} (h_ : cRel S A B) : A 0 11 = 0 → cLd S.X A B := h_.2.2.2.2.2.2.1
theorem cRel.hx {S : abs} {A : xA} {B : xB} (h_ : cRel S A B) : ∃ x, x < 8 ∧ A 7 1 = nI x ∧ ∀ i, i < S.sz → cSl A ((x + 8 - S.sz + i) % 8) (S.hc i) (S.hr i) (S.hl i) (S.hm i) := h_.2.2.2.2.2.2.2.1
theorem cRel.sz {S : abs} {A : xA} {B : xB} (h_ : cRel S A B) : A 7 2 = nI S.sz := h_.2.2.2.2.2.2.2.2.1
theorem cRel.len {S : abs} {A : xA} {B : xB} (h_ : cRel S A B) : A 33 1 = nI S.len := h_.2.2.2.2.2.2.2.2.2.1
theorem cRel.co {S : abs} {A : xA} {B : xB} (h_ : cRel S A B) : ∀ i, i < S.len → A 34 i = S.co i := h_.2.2.2.2.2.2.2.2.2.2
theorem cRel.mk' {S : abs} {A : xA} {B : xB} (c : A 1 0 = nI S.c) (r : A 1 1 = nI S.r) (lv : ∀ j, j < 64 → A 2 j = S.lv j) (mr : ∀ j, j < 64 → A 3 j = S.mr j) (dk : A 0 9 = S.dk) (ei : A 0 10 = S.ei) (st : A 0 11 = 0 → cLd S.X A B) (hx : ∃ x, x < 8 ∧ A 7 1 = nI x ∧ ∀ i, i < S.sz → cSl A ((x + 8 - S.sz + i) % 8) (S.hc i) (S.hr i) (S.hl i) (S.hm i)) (sz : A 7 2 = nI S.sz) (len : A 33 1 = nI S.len) (co : ∀ i, i < S.len → A 34 i = S.co i) : cRel S A B := ⟨c, r, lv, mr, dk, ei, st, hx, sz, len, co⟩
/-- the model stands for S -/
def mRel (S : abs) (A : xA) (B : xB) : Prop := (A 76 1 = nI S.c) ∧ (A 76 2 = nI S.r) ∧ (∀ j, j < 64 → A 77 j = S.lv j) ∧ (∀ j, j < 64 → A 78 j = S.mr j) ∧ (A 76 5 = S.dk) ∧ (A 76 6 = S.ei) ∧ (¬ A 76 18 = 0 → mLd S.X A B) ∧ (∀ i, i < S.sz → A 79 (2 * i) = S.hc i ∧ A 79 (2 * i + 1) = S.hr i ∧ (∀ j, j < 64 → A 80 (64 * i + j) = S.hl i j) ∧ ∀ j, j < 64 → A 81 (64 * i + j) = S.hm i j) ∧ (A 76 7 = nI S.sz) ∧ (A 76 11 = nI S.len) ∧ (∀ i, i < S.len → A 82 i = S.co i)
theorem mRel.c {S : abs} {A : xA} {B : xB} (h_ : mRel S A B) : A 76 1 = nI S.c := h_.1
theorem mRel.r {S : abs} {A : xA} {B : xB} (h_ : mRel S A B) : A 76 2 = nI S.r := h_.2.1
theorem mRel.lv {S : abs} {A : xA} {B : xB} (h_ : mRel S A B) : ∀ j, j < 64 → A 77 j = S.lv j := h_.2.2.1
theorem mRel.mr {S : abs} {A : xA} {B : xB} (h_ : mRel S A B) : ∀ j, j < 64 → A 78 j = S.mr j := h_.2.2.2.1
theorem mRel.dk {S : abs} {A : xA} {B : xB} (h_ : mRel S A B) : A 76 5 = S.dk := h_.2.2.2.2.1
theorem mRel.ei {S : abs} {A : xA} {B : xB} (h_ : mRel S A B) : A 76 6 = S.ei := h_.2.2.2.2.2.1
theorem mRel.st {S : abs} {A : xA} {B : xB} (h_ : mRel S A B) : ¬ A 76 18 = 0 → mLd S.X A B := h_.2.2.2.2.2.2.1
theorem mRel.hx {S : abs} {A : xA} {B : xB} (h_ : mRel S A B) : ∀ i, i < S.sz → A 79 (2 * i) = S.hc i ∧ A 79 (2 * i + 1) = S.hr i ∧ (∀ j, j < 64 → A 80 (64 * i + j) = S.hl i j) ∧ ∀ j, j < 64 → A 81 (64 * i + j) = S.hm i j := h_.2.2.2.2.2.2.2.1
theorem mRel.sz {S : abs} {A : xA} {B : xB} (h_ : mRel S A B) : A 76 7 = nI S.sz := h_.2.2.2.2.2.2.2.2.1
theorem mRel.len {S : abs} {A : xA} {B : xB} (h_ : mRel S A B) : A 76 11 = nI S.len := h_.2.2.2.2.2.2.2.2.2.1
theorem mRel.co {S : abs} {A : xA} {B : xB} (h_ : mRel S A B) : ∀ i, i < S.len → A 82 i = S.co i := h_.2.2.2.2.2.2.2.2.2.2
theorem mRel.mk' {S : abs} {A : xA} {B : xB} (c : A 76 1 = nI S.c) (r : A 76 2 = nI S.r) (lv : ∀ j, j < 64 → A 77 j = S.lv j) (mr : ∀ j, j < 64 → A 78 j = S.mr j) (dk : A 76 5 = S.dk) (ei : A 76 6 = S.ei) (st : ¬ A 76 18 = 0 → mLd S.X A B) (hx : ∀ i, i < S.sz → A 79 (2 * i) = S.hc i ∧ A 79 (2 * i + 1) = S.hr i ∧ (∀ j, j < 64 → A 80 (64 * i + j) = S.hl i j) ∧ ∀ j, j < 64 → A 81 (64 * i + j) = S.hm i j) (sz : A 76 7 = nI S.sz) (len : A 76 11 = nI S.len) (co : ∀ i, i < S.len → A 82 i = S.co i) : mRel S A B := ⟨c, r, lv, mr, dk, ei, st, hx, sz, len, co⟩
/-- only the class's cells, only the model's cells have changed -/
def hiF (A : xA) (B : xB) (A1 : xA) (B1 : xB) : Prop := ∀ k, 76 ≤ k → A1 k = A k ∧ B1 k = B k
def loF (A : xA) (B : xB) (A1 : xA) (B1 : xB) : Prop := ∀ k, (k < 76 ∨ 94 < k) → A1 k = A k ∧ B1 k = B k
theorem cLd_o {X : img} {A A1 : xA} {B B1 : xB} (h : cLd X A B) (hA : ∀ k, k < 76 → k ≠ 0 → A1 k = A k) (hB : ∀ k, k < 76 → B1 k = B k) : cLd X A1 B1 := by
  obtain ⟨⟨c1, c2, c3, c4, c5⟩, l2, l3, l4⟩ := h
  refine ⟨⟨?_, ?_, ?_, fun v hv => ?_, fun p hp => ?_⟩, ?_, fun v w hv hw => ?_, fun i hi => ?_⟩
  · rw [hA 35 (by decide) (by decide)]; exact c1
  · rw [hA 35 (by decide) (by decide)]; exact c2
  · rw [hA 35 (by decide) (by decide)]; exact c3
  · rw [hB 37 (by decide), hA 38 (by decide) (by decide), hA 39 (by decide) (by decide), hA 40 (by decide) (by decide), hA 41 (by decide) (by decide)]; exact c4 v hv
  · rw [hA 42 (by decide) (by decide)]; exact c5 p hp
  · rw [hA 36 (by decide) (by decide)]; exact l2
  · rw [hA (57 + w) (by omega) (by omega)]; exact l3 v w hv hw
  · rw [hA 69 (by decide) (by decide)]; exact l4 i hi
theorem cLd_t {X : img} {A A1 : xA} {B B1 : xB} (h : cLd X A B) (hA : ∀ k, 34 < k → k < 70 → A1 k = A k) (hB : ∀ k, k < 76 → B1 k = B k) : cLd X A1 B1 := by
  obtain ⟨⟨c1, c2, c3, c4, c5⟩, l2, l3, l4⟩ := h
  refine ⟨⟨?_, ?_, ?_, fun v hv => ?_, fun p hp => ?_⟩, ?_, fun v w hv hw => ?_, fun i hi => ?_⟩
  · rw [hA 35 (by decide) (by decide)]; exact c1
  · rw [hA 35 (by decide) (by decide)]; exact c2
  · rw [hA 35 (by decide) (by decide)]; exact c3
  · rw [hB 37 (by decide), hA 38 (by decide) (by decide), hA 39 (by decide) (by decide), hA 40 (by decide) (by decide), hA 41 (by decide) (by decide)]; exact c4 v hv
  · rw [hA 42 (by decide) (by decide)]; exact c5 p hp
  · rw [hA 36 (by decide) (by decide)]; exact l2
  · rw [hA (57 + w) (by omega) (by omega)]; exact l3 v w hv hw
  · rw [hA 69 (by decide) (by decide)]; exact l4 i hi
theorem cSl_o {A A1 : xA} {s : Nat} {c r : Int32} {l m : Nat → Int32} (hs : s < 8) (h : cSl A s c r l m) (hA : ∀ k, 8 < k → k < 33 → A1 k = A k) : cSl A1 s c r l m := by
  obtain ⟨h1, h2, h3, h4⟩ := h
  refine ⟨?_, ?_, fun j hj => ?_, fun j hj => ?_⟩
  · rw [hA _ (by omega) (by omega)]; exact h1
  · rw [hA _ (by omega) (by omega)]; exact h2
  · rw [hA _ (by omega) (by omega)]; exact h3 j hj
  · rw [hA _ (by omega) (by omega)]; exact h4 j hj
theorem cRel_o {S : abs} {A A1 : xA} {B B1 : xB} (h : cRel S A B) (hA : ∀ k, k < 76 → A1 k = A k) (hB : ∀ k, k < 76 → B1 k = B k) : cRel S A1 B1 := (cRel.mk'
      (c := by rw [hA 1 (by decide)]; exact h.c)
      (r := by rw [hA 1 (by decide)]; exact h.r)
      (lv := fun j hj => by rw [hA 2 (by decide)]; exact h.lv j hj)
      (mr := fun j hj => by rw [hA 3 (by decide)]; exact h.mr j hj)
      (dk := by rw [hA 0 (by decide)]; exact h.dk)
      (ei := by rw [hA 0 (by decide)]; exact h.ei)
      (st := fun z => by rw [hA 0 (by decide)] at z; exact cLd_o (h.st z) (fun k hk _ => hA k hk) hB)
      (hx := by
    obtain ⟨x, x1, x2, x3⟩ := h.hx
    exact ⟨x, x1, by rw [hA 7 (by decide)]; exact x2, fun i hi => cSl_o (Nat.mod_lt _ (by decide)) (x3 i hi) (fun k _ hk => hA k (by omega))⟩)
      (sz := by rw [hA 7 (by decide)]; exact h.sz)
      (len := by rw [hA 33 (by decide)]; exact h.len)
      (co := fun i hi => by rw [hA 34 (by decide)]; exact h.co i hi))
theorem mLd_o {X : img} {A A1 : xA} {B B1 : xB} (h : mLd X A B) (hA : ∀ k, 84 < k → k < 91 → A1 k = A k) (h19 : A1 76 19 = A 76 19) (h26 : A1 76 26 = A 76 26) (hB : B1 84 = B 84) : mLd X A1 B1 := by
  obtain ⟨l1, l2, l3, l4, l5⟩ := h
  refine ⟨h19.trans l1, h26.trans l2, fun v hv => ?_, fun p hp => ?_, fun i hi => ?_⟩
  · rw [hB, hA 85 (by decide) (by decide), hA 86 (by decide) (by decide), hA 87 (by decide) (by decide), hA 89 (by decide) (by decide)]; exact l3 v hv
  · rw [hA 88 (by decide) (by decide)]; exact l4 p hp
  · rw [hA 90 (by decide) (by decide)]; exact l5 i hi
theorem mRel_o {S : abs} {A A1 : xA} {B B1 : xB} (h : mRel S A B) (hA : ∀ k, 76 ≤ k → k < 95 → A1 k = A k) (hB : ∀ k, 76 ≤ k → k < 95 → B1 k = B k) : mRel S A1 B1 := (mRel.mk'
      (c := by rw [hA 76 (by decide) (by decide)]; exact h.c)
      (r := by rw [hA 76 (by decide) (by decide)]; exact h.r)
      (lv := fun j hj => by rw [hA 77 (by decide) (by decide)]; exact h.lv j hj)
      (mr := fun j hj => by rw [hA 78 (by decide) (by decide)]; exact h.mr j hj)
      (dk := by rw [hA 76 (by decide) (by decide)]; exact h.dk)
      (ei := by rw [hA 76 (by decide) (by decide)]; exact h.ei)
      (st := fun z => by
    have e := hA 76 (by decide) (by decide)
    rw [e] at z
    exact mLd_o (h.st z) (fun k h1 h2 => hA k (by omega) (by omega)) (by rw [e]) (by rw [e]) (hB 84 (by decide) (by decide)))
      (hx := fun i hi => by rw [hA 79 (by decide) (by decide), hA 80 (by decide) (by decide), hA 81 (by decide) (by decide)]; exact h.hx i hi)
      (sz := by rw [hA 76 (by decide) (by decide)]; exact h.sz)
      (len := by rw [hA 76 (by decide) (by decide)]; exact h.len)
      (co := fun i hi => by rw [hA 82 (by decide) (by decide)]; exact h.co i hi))
theorem cRel.ok {S : abs} {A : xA} {B : xB} (h : cRel S A B) (hS : S.ok) {x : Nat} (hx8 : x < 8) (hx : A 7 1 = nI x) : cOK A S.c S.r S.n x S.sz S.len := ⟨⟨h.c, h.r, hS.g.1, hS.g.2.1, hS.g.2.2.1, hS.g.2.2.2.1, hS.g.2.2.2.2⟩, ⟨hx, hx8, h.sz, hS.sz⟩, h.len, hS.len⟩
theorem mRel.ok {S : abs} {A : xA} {B : xB} (h : mRel S A B) (hS : S.ok) : mOK A S.c S.r S.n S.sz S.len := ⟨⟨h.c, h.r, hS.g.1, hS.g.2.1, hS.g.2.2.1, hS.g.2.2.2.1, hS.g.2.2.2.2⟩, ⟨h.sz, hS.sz⟩, h.len, hS.len⟩
theorem mRel.g {S : abs} {A : xA} {B : xB} (h : mRel S A B) (hS : S.ok) : mG A S.c S.r S.n := ⟨h.c, h.r, hS.g.1, hS.g.2.1, hS.g.2.2.1, hS.g.2.2.2.1, hS.g.2.2.2.2⟩
/-! a step's image is saved -/
def psh {α : Type} (sz : Nat) (f : Nat → α) (x : α) (i : Nat) : α := if i = min sz 7 then x else if sz = 8 then f (i + 1) else f i
theorem psh_n {α : Type} {sz i : Nat} {f : Nat → α} {x : α} (h : i = min sz 7) : psh sz f x i = x := if_pos h
theorem psh_8 {α : Type} {sz i : Nat} {f : Nat → α} {x : α} (h : ¬ i = min sz 7) (h8 : sz = 8) : psh sz f x i = f (i + 1) := by unfold psh; rw [if_neg h, if_pos h8]
theorem psh_l {α : Type} {sz i : Nat} {f : Nat → α} {x : α} (h : ¬ i = min sz 7) (h8 : ¬ sz = 8) : psh sz f x i = f i := by unfold psh; rw [if_neg h, if_neg h8]
def abs.push (S : abs) : abs := (abs.of S.c S.r S.n (min S.sz 7 + 1) S.len S.dk S.ei S.lv S.mr S.co (psh S.sz S.hc (nI S.c)) (psh S.sz S.hr (nI S.r)) (psh S.sz S.hl S.lv) (psh S.sz S.hm S.mr))
theorem abs.push_h {S : abs} (h : S.ok) : S.push.sz ≤ 8 ∧ ∀ i, i < S.push.sz → (∃ c' r', S.push.hc i = nI c' ∧ S.push.hr i = nI r' ∧ 0 < c' ∧ c' ≤ 8 ∧ 0 < r' ∧ r' ≤ 8) ∧ lv16 (S.push.hl i) 64 ∧ lv16 (S.push.hm i) 64 := by
  have hs := h.sz
  refine ⟨by show min S.sz 7 + 1 ≤ 8; omega, fun i hi => ?_⟩
  change i < min S.sz 7 + 1 at hi
  show (∃ c' r', psh S.sz S.hc (nI S.c) i = nI c' ∧ psh S.sz S.hr (nI S.r) i = nI r' ∧ _) ∧ lv16 (psh S.sz S.hl S.lv i) 64 ∧ lv16 (psh S.sz S.hm S.mr i) 64
  by_cases e : i = min S.sz 7
  · rw [psh_n e, psh_n e, psh_n e, psh_n e]
    exact ⟨⟨S.c, S.r, rfl, rfl, h.g.1, h.g.2.1, h.g.2.2.1, h.g.2.2.2.1⟩, h.lv, h.mr⟩
  · by_cases e2 : S.sz = 8
    · rw [psh_8 e e2, psh_8 e e2, psh_8 e e2, psh_8 e e2]
      exact h.h (i + 1) (by omega)
    · rw [psh_l e e2, psh_l e e2, psh_l e e2, psh_l e e2]
      exact h.h i (by omega)
/-- the class's keep -/
theorem keep_rel {S : abs} {A : xA} {B : xB} (h : cRel S A B) (hS : S.ok) {x : Nat} (hx8 : x < 8) (hx : A 7 1 = nI x) (hh : ∀ i, i < S.sz → cSl A ((x + 8 - S.sz + i) % 8) (S.hc i) (S.hr i) (S.hl i) (S.hm i)) {A1 : xA} (hA : ∀ k, k ≠ 0 → k ≠ 1 → k ≠ 2 → k ≠ 3 → k < 70 → A1 k = keepA A x S.sz k) : ∃ x', x' < 8 ∧ A1 7 1 = nI x' ∧ ∀ i, i < S.push.sz → cSl A1 ((x' + 8 - S.push.sz + i) % 8) (S.push.hc i) (S.push.hr i) (S.push.hl i) (S.push.hm i) := by
  have hs := hS.sz
  refine ⟨(x + 1) % 8, Nat.mod_lt _ (by decide), ?_, fun i hi => ?_⟩
  · rw [hA 7 (by decide) (by decide) (by decide) (by decide) (by decide)]
    unfold keepA
    rw [updA_sj _ _ _ (by decide), updA_ss]
  · change i < min S.sz 7 + 1 at hi
    show cSl A1 (((x + 1) % 8 + 8 - (min S.sz 7 + 1) + i) % 8) (psh S.sz S.hc (nI S.c) i) (psh S.sz S.hr (nI S.r) i) (psh S.sz S.hl S.lv i) (psh S.sz S.hm S.mr i)
    have hk : ∀ k, 8 < k → k < 33 → k ≠ 9 + 3 * x → k ≠ 9 + 3 * x + 1 → k ≠ 9 + 3 * x + 2 → A1 k = A k := fun k a1 a2 a3 a4 a5 => by
      rw [hA k (by omega) (by omega) (by omega) (by omega) (by omega)]
      unfold keepA
      rw [updA_n _ _ _ (by omega), updA_n _ _ _ (by omega)]
      exact copyA_o a3 a4 a5
    by_cases e : i = min S.sz 7
    · rw [psh_n e, psh_n e, psh_n e, psh_n e, e]
      have es : ((x + 1) % 8 + 8 - (min S.sz 7 + 1) + min S.sz 7) % 8 = x := by omega
      rw [es]
      have hc : ∀ k j, 8 < k → k < 33 → A1 k j = copyA A (9 + 3 * x) 1 k j := fun k j a1 a2 => by
        rw [hA k (by omega) (by omega) (by omega) (by omega) (by omega)]
        unfold keepA
        rw [updA_n _ _ _ (by omega), updA_n _ _ _ (by omega)]
      refine ⟨?_, ?_, fun j hj => ?_, fun j hj => ?_⟩
      · rw [hc _ _ (by omega) (by omega)]
        unfold copyA
        rw [cpA_n _ _ (by omega), cpA_n _ _ (by omega), updA_sj _ _ _ (by decide), updA_ss]
        exact h.c
      · rw [hc _ _ (by omega) (by omega)]
        unfold copyA
        rw [cpA_n _ _ (by omega), cpA_n _ _ (by omega), updA_ss]
        exact h.r
      · rw [hc _ _ (by omega) (by omega)]
        unfold copyA
        rw [cpA_n _ _ (by omega), cpA_s _ _ _ hj, updA_n _ _ _ (by omega), updA_n _ _ _ (by omega)]
        exact h.lv j hj
      · rw [hc _ _ (by omega) (by omega)]
        unfold copyA
        rw [cpA_s _ _ _ hj, cpA_n _ _ (by omega), updA_n _ _ _ (by omega), updA_n _ _ _ (by omega)]
        exact h.mr j hj
    · have hgo : ∀ i' s, i' < S.sz → s = (x + 8 - S.sz + i') % 8 → s ≠ x → cSl A1 s (S.hc i') (S.hr i') (S.hl i') (S.hm i') := fun i' s a1 a2 a3 => by
        have hs8 : s < 8 := by rw [a2]; exact Nat.mod_lt _ (by decide)
        obtain ⟨b1, b2, b3, b4⟩ := hh i' a1
        rw [← a2] at b1 b2 b3 b4
        refine ⟨?_, ?_, fun j hj => ?_, fun j hj => ?_⟩
        · rw [hk _ (by omega) (by omega) (by omega) (by omega) (by omega)]; exact b1
        · rw [hk _ (by omega) (by omega) (by omega) (by omega) (by omega)]; exact b2
        · rw [hk _ (by omega) (by omega) (by omega) (by omega) (by omega)]; exact b3 j hj
        · rw [hk _ (by omega) (by omega) (by omega) (by omega) (by omega)]; exact b4 j hj
      by_cases e2 : S.sz = 8
      · rw [psh_8 e e2, psh_8 e e2, psh_8 e e2, psh_8 e e2]
        have e3 : ((x + 1) % 8 + 8 - (min S.sz 7 + 1) + i) % 8 = (x + 8 - S.sz + (i + 1)) % 8 := by omega
        exact hgo (i + 1) _ (by omega) e3 (by omega)
      · rw [psh_l e e2, psh_l e e2, psh_l e e2, psh_l e e2]
        have e3 : ((x + 1) % 8 + 8 - (min S.sz 7 + 1) + i) % 8 = (x + 8 - S.sz + i) % 8 := by omega
        exact hgo i _ (by omega) e3 (by omega)
/-- the model's save -/
theorem save_rel {S : abs} {A : xA} {B : xB} (h : mRel S A B) (hS : S.ok) {A0 A1 : xA} (h0 : ∀ k, 76 < k → k < 82 → A0 k = A k) (h1 : A0 76 1 = A 76 1) (h2 : A0 76 2 = A 76 2) (hA : A1 79 = svA A0 S.sz 79 ∧ A1 80 = svA A0 S.sz 80 ∧ A1 81 = svA A0 S.sz 81) : ∀ i, i < S.push.sz → A1 79 (2 * i) = S.push.hc i ∧ A1 79 (2 * i + 1) = S.push.hr i ∧ (∀ j, j < 64 → A1 80 (64 * i + j) = S.push.hl i j) ∧ ∀ j, j < 64 → A1 81 (64 * i + j) = S.push.hm i j := by
  have hs := hS.sz
  intro i hi
  change i < min S.sz 7 + 1 at hi
  obtain ⟨e79, e80, e81⟩ := hA
  have f79 : svA A0 S.sz 79 = sv2 (A 79) S.sz (A 76 1) (A 76 2) := by
    show sv2 (A0 79) S.sz (A0 76 1) (A0 76 2) = _
    rw [h0 79 (by decide) (by decide), h1, h2]
  have f80 : svA A0 S.sz 80 = sv64 (A 80) (A 77) S.sz 64 := by
    show sv64 (A0 80) (A0 77) S.sz 64 = _
    rw [h0 80 (by decide) (by decide), h0 77 (by decide) (by decide)]
  have f81 : svA A0 S.sz 81 = sv64 (A 81) (A 78) S.sz 64 := by
    show sv64 (A0 81) (A0 78) S.sz 64 = _
    rw [h0 81 (by decide) (by decide), h0 78 (by decide) (by decide)]
  rw [e79, e80, e81, f79, f80, f81]
  show _ = psh S.sz S.hc (nI S.c) i ∧ _ = psh S.sz S.hr (nI S.r) i ∧ (∀ j, j < 64 → _ = psh S.sz S.hl S.lv i j) ∧ ∀ j, j < 64 → _ = psh S.sz S.hm S.mr i j
  unfold sv2 sv64
  by_cases e : i = min S.sz 7
  · rw [psh_n e, psh_n e, psh_n e, psh_n e]
    subst e
    refine ⟨?_, ?_, fun j hj => ?_, fun j hj => ?_⟩
    · rw [if_pos rfl]; exact h.c
    · rw [if_neg (by omega), if_pos rfl]; exact h.r
    · rw [if_pos (by omega), show 64 * min S.sz 7 + j - 64 * min S.sz 7 = j by omega]; exact h.lv j hj
    · rw [if_pos (by omega), show 64 * min S.sz 7 + j - 64 * min S.sz 7 = j by omega]; exact h.mr j hj
  · have g1 : ¬ 2 * i = 2 * min S.sz 7 := by omega
    have g2 : ¬ 2 * i = 2 * min S.sz 7 + 1 := by omega
    have g3 : ¬ 2 * i + 1 = 2 * min S.sz 7 := by omega
    have g4 : ¬ 2 * i + 1 = 2 * min S.sz 7 + 1 := by omega
    by_cases e2 : S.sz = 8
    · obtain ⟨b1, b2, b3, b4⟩ := h.hx (i + 1) (by omega)
      rw [psh_8 e e2, psh_8 e e2, psh_8 e e2, psh_8 e e2]
      refine ⟨?_, ?_, fun j hj => ?_, fun j hj => ?_⟩
      · rw [if_neg g1, if_neg g2, if_pos ⟨e2, by omega⟩]; exact b1
      · rw [if_neg g3, if_neg g4, if_pos ⟨e2, by omega⟩, show 2 * i + 1 + 2 = 2 * (i + 1) + 1 by omega]; exact b2
      · rw [if_neg (by omega), if_pos ⟨e2, by omega⟩, show 64 * i + j + 64 = 64 * (i + 1) + j by omega]; exact b3 j hj
      · rw [if_neg (by omega), if_pos ⟨e2, by omega⟩, show 64 * i + j + 64 = 64 * (i + 1) + j by omega]; exact b4 j hj
    · obtain ⟨b1, b2, b3, b4⟩ := h.hx i (by omega)
      rw [psh_l e e2, psh_l e e2, psh_l e e2, psh_l e e2]
      refine ⟨?_, ?_, fun j hj => ?_, fun j hj => ?_⟩
      · rw [if_neg g1, if_neg g2, if_neg (fun z => e2 z.1)]; exact b1
      · rw [if_neg g3, if_neg g4, if_neg (fun z => e2 z.1)]; exact b2
      · rw [if_neg (by omega), if_neg (fun z => e2 z.1)]; exact b3 j hj
      · rw [if_neg (by omega), if_neg (fun z => e2 z.1)]; exact b4 j hj
theorem does_mo {M : xMI} {av : List Value} {A : xA} {B : xB} {D : xD} {Q Q2 : Option Value → xA → xB → xD → Prop} {QX QX2 : String → xA → xB → xD → Prop} (h : does0 M av A B D Q QX) (h1 : ∀ r A' B' D', Q r A' B' D' → Q2 r A' B' D') (h2 : ∀ E A' B' D', QX E A' B' D' → QX2 E A' B' D') : does0 M av A B D Q2 QX2 := xdoes_mono h (fun r N' G' A' B' D' z => ⟨z.1, z.2.1, h1 _ _ _ _ z.2.2⟩) (fun E N' G' A' B' D' z => ⟨z.1, z.2.1, h2 _ _ _ _ z.2.2⟩)

