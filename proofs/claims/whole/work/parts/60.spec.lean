/-! what the calls answer, said of the state alone -/
section SC
variable {n m : Nat} {se : Nat → Int64} {rk tn pa nd : Nat → Nat}
theorem si_cg (h : TF n m se rk tn pa nd) {kr kr' rem rem' s s' : Nat → Int32} (hk : ∀ v, v < m → kr v = kr' v) (hr : ∀ v, v < m → (rem v = 0 ↔ rem' v = 0)) : ∀ v, v < m → siV kr rem pa m s v = siV kr' rem' pa m s' v := by
  obtain ⟨k0, k1⟩ := si_rec h kr rem s
  obtain ⟨j0, j1⟩ := si_rec h kr' rem' s'
  intro v
  induction v using Nat.strongRecOn with
  | ind v ih =>
    intro hv
    rcases Nat.eq_zero_or_pos v with z | z
    · subst z; rw [k0, j0, hk 0 hv]
    · rw [k1 v z hv, j1 v z hv, ih _ (h.pal v z hv) (h.pam' z hv), hk v hv]
      by_cases e : rem v = 0
      · rw [if_pos e, if_pos ((hr v hv).mp e)]
      · rw [if_neg e, if_neg (fun q => e ((hr v hv).mpr q))]
theorem as_cg (h : TF n m se rk tn pa nd) {kr kr' rem rem' s s' : Nat → Int32} (hk : ∀ v, v < m → kr v = kr' v) (hr : ∀ v, v < m → (rem v = 0 ↔ rem' v = 0)) : ∀ v, v < m → asV kr rem pa m s v = asV kr' rem' pa m s' v := by
  obtain ⟨k0, k1⟩ := as_rec h kr rem s
  obtain ⟨j0, j1⟩ := as_rec h kr' rem' s'
  intro v
  induction v using Nat.strongRecOn with
  | ind v ih =>
    intro hv
    rcases Nat.eq_zero_or_pos v with z | z
    · subst z; rw [k0, j0, hk 0 hv]
    · rw [k1 v z hv, j1 v z hv, ih _ (h.pal v z hv) (h.pam' z hv), hk v hv, hk _ (h.pam' z hv)]
      by_cases e : rem v = 0
      · rw [if_pos e, if_pos ((hr v hv).mp e)]
      · rw [if_neg e, if_neg (fun q => e ((hr v hv).mpr q))]
end SC
theorem rm_cg {va va' : Nat → Int32} {se se' : Nat → Int64} {th u : Int32} {m v : Nat} (hv : v < m) (ha : ∀ w, w < m → va w = va' w) (hs : ∀ w, w < m → se w = se' w) : rmV va se th u m v = rmV va' se' th u m v := by
  unfold rmV
  rw [ha v hv, itr_cg (g := rmS va' se' th u v) (m - 1) _ (fun k b hk => by
    unfold rmS rm1 rm2 blV
    rw [ha (k + 1) (by omega), hs v hv, hs (k + 1) (by omega)])]
theorem kp_cg {lo lo' : Nat → Int32} {se se' : Nat → Int64} {m v K : Nat} (hm : m ≤ 64) (hv : v < m) (hl : ∀ i, i < K → lo i = lo' i ∧ ∃ a, a < m ∧ lo i = nI a) (hs : ∀ w, w < m → se w = se' w) : kpV lo se K v = kpV lo' se' K v := by
  unfold kpV
  refine itr_cg K _ (fun k b hk => ?_)
  obtain ⟨h1, a, a1, a2⟩ := hl k hk
  unfold kpO blV
  rw [← h1, a2, nI_clamp (by omega), hs a a1, hs v hv]
def kRem (X : img) (a : Nat) (t u : Int32) (v : Nat) : Int32 := rmV (fun w => kAt X w a) (kS X) t u (kM X) v
def kSi (X : img) (rem : Nat → Int32) (v : Nat) : Int32 := siV (kK X) rem (kpa X) (kM X) (fun _ => 0) v
def kAs (X : img) (rem : Nat → Int32) (v : Nat) : Int32 := asV (kK X) rem (kpa X) (kM X) (fun _ => 0) v
def kNv (X : img) (a : Nat) (t u : Int32) (v : Nat) : Int32 := if u = 3 then kAs X (kRem X a t u) v else kSi X (kRem X a t u) v
def kNr (X : img) (a : Nat) (t u : Int32) (p : Nat) : Int32 := kNv X a t u (knd X p)
def kRb (X : img) (mk : Nat → Int32) (p : Nat) : Int32 := rbV (kN X) mk (fun _ => 0) (kK X) (kpa X) X.n (kM X) (knd X p)
def kKp (X : img) (K p : Nat) : Int32 := kSi X (fun v => kpV (kLo X) (kS X) K v) (knd X p)
def abs.loss (S : abs) (a : Nat) (t u : Int32) : Int32 := isum (fun p => apV (S.lv p) (trn (kNr S.X a t u p) S.dk)) S.n
def abs.chg (S : abs) (nr : Nat → Int32) : Int32 := isum (fun p => if S.lv p = trn (nr p) S.dk then 0 else 1) S.n
def abs.paint (S : abs) (nr : Nat → Int32) : abs := (abs.of S.c S.r S.n S.push.sz S.len S.dk S.ei (fun p => if p < S.n then trn (nr p) S.dk else S.lv p) S.mr S.co S.push.hc S.push.hr S.push.hl S.push.hm)
def thF (L : Nat → Int32) (bd : Int32) : Nat → Nat → Int32
  | 0, _ => -1
  | d + 1, t => if L t ≤ bd then thF L bd d (t + 1) else nI t
theorem thF_W {L : Nat → Int32} {Ln : Nat → Nat} {b W : Nat} (hb : b < 1000) (hL : ∀ t, t ≤ 999 → L t = nI (Ln t) ∧ Ln t < 1000000) (hW : W ≤ 999) (h1 : ∀ t, t ≤ W → Ln t ≤ b) (h2 : ∀ t, W < t → t ≤ 999 → b < Ln t) : ∀ d t, t + d = 1000 → t ≤ W + 1 → thF L (nI b) d t = if W = 999 then -1 else nI (W + 1)
  | 0, t, ht, hw => by
    have : W = 999 := by omega
    rw [if_pos this]; rfl
  | d + 1, t, ht, hw => by
    obtain ⟨l1, l2⟩ := hL t (by omega)
    unfold thF
    rw [l1]
    by_cases e : t ≤ W
    · rw [if_pos (nI_le (h1 t e) (by omega))]
      exact thF_W hb hL hW h1 h2 d (t + 1) (by omega) (by omega)
    · have e2 : t = W + 1 := by omega
      have := h2 t (by omega) (by omega)
      rw [if_neg (nI_ge (by omega) (by omega)), if_neg (by omega), e2]
theorem thM_F {A2 : xA} {B : xB} {m n : Nat} {bd : Int32} {L : Nat → Int32} (h : ∀ t, t < 1000 → loV (thH A2 B m (t + 1)) B m 0 n = L t) : ∀ d t, t + d = 1000 → (thM A2 B m n bd d t).1 = thF L bd d t
  | 0, t, ht => rfl
  | d + 1, t, ht => by
    unfold thM thF
    rw [h t (by omega)]
    by_cases e : L t ≤ bd
    · rw [if_pos e, if_pos e]; exact thM_F h d (t + 1) (by omega)
    · rw [if_neg e, if_neg e]
/-! states after the calls -/
def abs.sBegin (S : abs) (u v : Int32) : abs := (abs.of (u.toNatClampNeg) (v.toNatClampNeg) (u.toNatClampNeg * v.toNatClampNeg) S.push.sz S.len S.dk S.ei (fun _ => 0) (fun _ => 0) S.co S.push.hc S.push.hr S.push.hl S.push.hm)
def abs.sLevel (S : abs) (p : Nat) (v : Int32) : abs := (abs.of S.c S.r S.n S.push.sz S.len S.dk S.ei (upd S.lv p v) S.mr S.co S.push.hc S.push.hr S.push.hl S.push.hm)
def abs.sMark (S : abs) (p : Nat) (v : Int32) : abs := (abs.of S.c S.r S.n S.sz S.len S.dk S.ei S.lv (upd S.mr p v) S.co S.hc S.hr S.hl S.hm)
def abs.sFill (S : abs) (a b : Nat) (v : Int32) : abs := (abs.of S.c S.r S.n S.push.sz S.len S.dk S.ei ((itr (mfS S.c a b v) S.n (0, S.lv)).2) S.mr S.co S.push.hc S.push.hr S.push.hl S.push.hm)
def abs.sComp (S : abs) : abs := (abs.of S.c S.r S.n S.push.sz S.len S.dk S.ei (fun p => if p < S.n then 15 - S.lv p else S.lv p) S.mr S.co S.push.hc S.push.hr S.push.hl S.push.hm)
def abs.sMarkAll (S : abs) : abs := (abs.of S.c S.r S.n S.sz S.len S.dk S.ei S.lv (fun p => if p < S.n then S.lv p else S.mr p) S.co S.hc S.hr S.hl S.hm)
def abs.sDark (S : abs) (v : Int32) : abs := (abs.of S.c S.r S.n S.sz S.len (v) S.ei S.lv S.mr S.co S.hc S.hr S.hl S.hm)
def abs.sEight (S : abs) (v : Int32) : abs := (abs.of S.c S.r S.n S.sz S.len S.dk (v) S.lv S.mr S.co S.hc S.hr S.hl S.hm)
def abs.sUndo (S : abs) : abs := (abs.of ((S.hc (S.sz - 1)).toNatClampNeg) ((S.hr (S.sz - 1)).toNatClampNeg) ((S.hc (S.sz - 1)).toNatClampNeg * (S.hr (S.sz - 1)).toNatClampNeg) (S.sz - 1) S.len S.dk S.ei (S.hl (S.sz - 1)) (S.hm (S.sz - 1)) S.co S.hc S.hr S.hl S.hm)
def abs.sApp (S : abs) (v : Int32) : abs := (abs.of S.c S.r S.n S.sz (S.len + 1) S.dk S.ei S.lv S.mr (upd S.co S.len v) S.hc S.hr S.hl S.hm)
def abs.sClear (S : abs) : abs := (abs.of S.c S.r S.n S.sz (0) S.dk S.ei S.lv S.mr S.co S.hc S.hr S.hl S.hm)
/-- what the input reads as -/
def abs.rd (S : abs) : Nat × rdT := rlV S.co S.len 0 (0, 0, 0, 0, fun _ => 0)
def abs.sLoad (S : abs) : abs := (abs.of (S.rd.2.2.2.1) (S.rd.2.2.1 + 1) (S.rd.2.2.2.1 * (S.rd.2.2.1 + 1)) S.push.sz (0) S.dk S.ei (fun p => if p < S.rd.2.2.2.2.1 then S.rd.2.2.2.2.2 p else 0) (fun _ => 0) S.co S.push.hc S.push.hr S.push.hl S.push.hm)
/-- a number about the state -/
def abs.cnt (S : abs) (w : Nat) : Int32 := match w with
  | 0 => nI S.c
  | 1 => nI S.r
  | 2 => nI (kM S.X)
  | 3 => nI (kLf S.X)
  | 4 => itr (dpS (kP S.X)) (kM S.X) 0
  | 5 => c1V (lvb S.lv S.n).toInt64 64
  | 6 => isum S.lv S.n
  | _ => nI S.sz
def abs.dg1 (S : abs) : Int64 := itr (fun w h => mixV h (S.cnt w)) 8 (mixV (mixV 1879 (if S.dk = 0 then 0 else 1)) (if S.ei = 0 then 0 else 1))
def abs.dg2 (S : abs) : Int64 := itr (hlS (kLo S.X)) (kLf S.X) (itr (fun v h => itr (fun a h => mixV h (kAt S.X v a)) 12 h) (kM S.X) (itr (hpS S.lv S.mr (kN S.X)) S.n S.dg1))
def abs.dg (S : abs) : Int64 := itr (hlS S.co) S.len (mixV (mixV (mixV S.dg2 (S.loss 1 3 1)) (S.loss 6 4 3)) (nI S.len))
/-! the states are good -/
theorem abs.push_ok {S : abs} (h : S.ok) {c r n : Nat} {lv mr : Nat → Int32} (hg : gOK c r n) (hl : lv16 lv 64) (hm : lv16 mr 64) : abs.ok (abs.of (c) (r) (n) S.push.sz S.len S.dk S.ei (lv) (mr) S.co S.push.hc S.push.hr S.push.hl S.push.hm) := (abs.ok.mk'
      (g := hg)
      (sz := (abs.push_h h).1)
      (len := h.len)
      (lv := hl)
      (mr := hm)
      (dk := h.dk)
      (ei := h.ei)
      (h := (abs.push_h h).2))
theorem btw_nI {v : Int32} {lo hi : Nat} (hl : lo < 2 ^ 31) (h : btw v (nI lo) (nI hi)) : ∃ x, lo ≤ x ∧ x ≤ hi ∧ x < 2 ^ 31 ∧ v = nI x := by
  obtain ⟨h1, h2⟩ := h
  obtain ⟨x, x1, rfl⟩ := nI_of (x := v) (fun e => h1 (Int32.lt_of_lt_of_le e (nI_pos' hl)))
  refine ⟨x, ?_, ?_, x1, rfl⟩
  · rcases Nat.lt_or_ge x lo with q | q
    · exact absurd (nI_lt q hl) h1
    · exact q
  · rcases Nat.lt_or_ge hi x with q | q
    · exact absurd (nI_lt q x1) h2
    · exact q
theorem btw15 {v : Int32} (h : btw v 0 15) : ∃ x, x < 16 ∧ v = nI x := by
  obtain ⟨x, _, x2, _, x3⟩ := btw_nI (lo := 0) (hi := 15) (by decide) h
  exact ⟨x, by omega, x3⟩
theorem lv16_upd {f : Nat → Int32} {n p : Nat} {v : Int32} (h : lv16 f n) (hv : ∃ x, x < 16 ∧ v = nI x) : lv16 (upd f p v) n := fun q hq => by
  by_cases e : q = p
  · subst e; rw [up_s]; exact hv
  · rw [up_n _ _ e]; exact h q hq
theorem lv16_0 (n : Nat) : lv16 (fun _ => 0) n := fun _ _ => ⟨0, by omega, rfl⟩
theorem abs.sBegin_ok {S : abs} (h : S.ok) {u v : Int32} (hu : btw u 1 8) (hv : btw v 1 8) : (S.sBegin u v).ok := by
  obtain ⟨x, x1, x2, x3, rfl⟩ := btw_nI (lo := 1) (hi := 8) (by decide) hu
  obtain ⟨y, y1, y2, y3, rfl⟩ := btw_nI (lo := 1) (hi := 8) (by decide) hv
  unfold abs.sBegin
  rw [nI_clamp x3, nI_clamp y3]
  exact abs.push_ok h ⟨x1, x2, y1, y2, rfl⟩ (lv16_0 _) (lv16_0 _)
theorem abs.sLevel_ok {S : abs} (h : S.ok) {p : Nat} {v : Int32} (hv : btw v 0 15) : (S.sLevel p v).ok := abs.push_ok h h.g (lv16_upd h.lv (btw15 hv)) h.mr
theorem abs.sMark_ok {S : abs} (h : S.ok) {p : Nat} {v : Int32} (hv : btw v 0 15) : (S.sMark p v).ok := (abs.ok.mk'
      (g := h.g)
      (sz := h.sz)
      (len := h.len)
      (lv := h.lv)
      (mr := lv16_upd h.mr (btw15 hv))
      (dk := h.dk)
      (ei := h.ei)
      (h := h.h))
theorem abs.sFill_ok {S : abs} (h : S.ok) {a b : Nat} {v : Int32} (ha : a < S.n) (hb : b < S.n) (hv : btw v 0 15) : (S.sFill a b v).ok := by
  refine abs.push_ok h h.g (fun p hp => ?_) h.mr
  rw [← (fill_eq (v := v) h.g ha hb (fun q _ => rfl)).2 p hp]
  exact fill_16 h.g ha hb (btw15 hv) h.lv p hp
theorem c15 {x : Int32} (h : ∃ a, a < 16 ∧ x = nI a) : ∃ b, b < 16 ∧ 15 - x = nI b := by
  obtain ⟨a, a1, rfl⟩ := h
  exact ⟨15 - a, by omega, by rw [show (15 : Int32) = nI 15 from rfl, pk_sub (by omega)]⟩
theorem abs.sComp_ok {S : abs} (h : S.ok) : S.sComp.ok := abs.push_ok h h.g (fun p hp => by
  split
  · exact c15 (h.lv p hp)
  · exact h.lv p hp) h.mr
theorem abs.sMarkAll_ok {S : abs} (h : S.ok) : S.sMarkAll.ok := by
  have hm : lv16 S.sMarkAll.mr 64 := fun p hp => by
    show ∃ a, a < 16 ∧ (if p < S.n then S.lv p else S.mr p) = nI a
    split
    · exact h.lv p hp
    · exact h.mr p hp
  exact (abs.ok.mk'
      (g := h.g)
      (sz := h.sz)
      (len := h.len)
      (lv := h.lv)
      (mr := hm)
      (dk := h.dk)
      (ei := h.ei)
      (h := h.h))
theorem abs.sDark_ok {S : abs} (h : S.ok) {v : Int32} (hv : v = 0 ∨ v = 1) : (S.sDark v).ok := (abs.ok.mk'
      (g := h.g)
      (sz := h.sz)
      (len := h.len)
      (lv := h.lv)
      (mr := h.mr)
      (dk := hv)
      (ei := h.ei)
      (h := h.h))
theorem abs.sEight_ok {S : abs} (h : S.ok) {v : Int32} (hv : v = 0 ∨ v = 1) : (S.sEight v).ok := (abs.ok.mk'
      (g := h.g)
      (sz := h.sz)
      (len := h.len)
      (lv := h.lv)
      (mr := h.mr)
      (dk := h.dk)
      (ei := hv)
      (h := h.h))
theorem abs.sUndo_ok {S : abs} (h : S.ok) (h0 : 0 < S.sz) : S.sUndo.ok := by
  obtain ⟨⟨c', r', e1, e2, a1, a2, a3, a4⟩, b1, b2⟩ := h.h (S.sz - 1) (by omega)
  have k1 : (S.hc (S.sz - 1)).toNatClampNeg = c' := by rw [e1]; exact nI_clamp (by omega)
  have k2 : (S.hr (S.sz - 1)).toNatClampNeg = r' := by rw [e2]; exact nI_clamp (by omega)
  exact (abs.ok.mk'
      (g := by show gOK (S.hc (S.sz - 1)).toNatClampNeg (S.hr (S.sz - 1)).toNatClampNeg _; rw [k1, k2]; refine ⟨a1, a2, a3, a4, ?_⟩; show c' * r' = (S.hc (S.sz - 1)).toNatClampNeg * (S.hr (S.sz - 1)).toNatClampNeg; rw [k1, k2])
      (sz := by show S.sz - 1 ≤ 8; have := h.sz; omega)
      (len := h.len)
      (lv := b1)
      (mr := b2)
      (dk := h.dk)
      (ei := h.ei)
      (h := fun i hi => h.h i (by change i < S.sz - 1 at hi; omega)))
theorem abs.sApp_ok {S : abs} (h : S.ok) {v : Int32} (hl : S.len < 72) : (S.sApp v).ok := (abs.ok.mk'
      (g := h.g)
      (sz := h.sz)
      (len := by show S.len + 1 ≤ 72; omega)
      (lv := h.lv)
      (mr := h.mr)
      (dk := h.dk)
      (ei := h.ei)
      (h := h.h))
theorem abs.sClear_ok {S : abs} (h : S.ok) : S.sClear.ok := (abs.ok.mk'
      (g := h.g)
      (sz := h.sz)
      (len := by show 0 ≤ 72; omega)
      (lv := h.lv)
      (mr := h.mr)
      (dk := h.dk)
      (ei := h.ei)
      (h := h.h))
theorem abs.paint_ok {S : abs} (h : S.ok) {nr : Nat → Int32} (hn : ∀ p, p < S.n → ∃ x, x < 16 ∧ nr p = nI x) : (S.paint nr).ok := abs.push_ok h h.g (fun p hp => by
  split
  · exact trn_16 (hn p ‹_›)
  · exact h.lv p hp) h.mr

