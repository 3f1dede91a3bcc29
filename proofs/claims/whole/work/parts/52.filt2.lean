/-! filters, on both sides -/
theorem itr_up {F : Nat → Int32 → Int32 → Int32} {pa : Nat → Nat} {m : Nat} (hp : ∀ v, 0 < v → v < m → pa v < v) {step : Nat → (Nat → Int32) → (Nat → Int32)} (hstep : ∀ i s, step i s = upd s (i + 1) (F (i + 1) (s (i + 1)) (s (pa (i + 1))))) (s0 : Nat → Int32) : itr step (m - 1) s0 0 = s0 0 ∧ ∀ v, 0 < v → v < m → itr step (m - 1) s0 v = F v (s0 v) (itr step (m - 1) s0 (pa v)) := by
  have key : ∀ k, k ≤ m - 1 → (∀ v, k < v → itr step k s0 v = s0 v) ∧ itr step k s0 0 = s0 0 ∧ ∀ v, 0 < v → v ≤ k → itr step k s0 v = F v (s0 v) (itr step k s0 (pa v)) := by
    intro k
    induction k with
    | zero => intro _; exact ⟨fun v _ => rfl, rfl, fun v h1 h2 => by omega⟩
    | succ k ih =>
      intro hk
      obtain ⟨i1, i2, i3⟩ := ih (by omega)
      have hpk := hp (k + 1) (by omega) (by omega)
      rw [itr_s, hstep]
      refine ⟨fun v hv => ?_, ?_, fun v h1 h2 => ?_⟩
      · rw [up_n _ _ (by omega)]; exact i1 v (by omega)
      · rw [up_n _ _ (by omega)]; exact i2
      · rcases Nat.lt_or_eq_of_le h2 with e | e
        · have := hp v h1 (by omega)
          rw [up_n _ _ (by omega), up_n _ _ (by omega)]; exact i3 v h1 (by omega)
        · subst e
          rw [up_s, up_n _ _ (by omega), i1 _ (by omega)]
  obtain ⟨k1, k2, k3⟩ := key (m - 1) (Nat.le_refl _)
  exact ⟨k2, fun v h1 h2 => k3 v h1 (by omega)⟩
def remP (se : Nat → Int64) (m : Nat) (va : Nat → Int32) (th u : Int32) (v : Nat) : Prop := v = 0 ∨ (if u = 1 then ∀ w, 0 < w → w < m → sb se v w → ¬ va w < th else if u = 2 then ∃ w, w < m ∧ sb se w v ∧ ¬ va w < th else ¬ va v < th)
theorem ne01 {x : Int32} (h : x = 0 ∨ x = 1) {P : Prop} (h1 : ¬ x = 0 ↔ P) {y : Int32} (h' : y = 0 ∨ y = 1) (h2 : ¬ y = 0 ↔ P) : x = y := by
  rcases h with e | e <;> rcases h' with e' | e' <;> rw [e, e']
  · exact ((h1.mpr (h2.mp (by rw [e']; decide))) e).elim
  · exact ((h2.mpr (h1.mp (by rw [e]; decide))) e').elim
section FC
variable {n m : Nat} {se : Nat → Int64} {rk tn pa nd : Nat → Nat}
theorem TF.sb0 (h : TF n m se rk tn pa nd) {v : Nat} (hv : v < m) : sb se 0 v ↔ v = 0 := ⟨fun z => by have := h.str v 0 hv h.m0 z; omega, fun z => by subst z; exact sb_rf _ _⟩
theorem re0_01 (va old : Nat → Int32) (th : Int32) {j i : Nat} (h : i < j) : re0 va old th j i = 0 ∨ re0 va old th j i = 1 := by
  unfold re0
  rw [if_pos h]
  split
  · exact Or.inr rfl
  · split
    · exact Or.inl rfl
    · exact Or.inr rfl
theorem re0_ne (va old : Nat → Int32) (th : Int32) {j i : Nat} (h : i < j) : ¬ re0 va old th j i = 0 ↔ (i = 0 ∨ ¬ va i < th) := by
  unfold re0
  rw [if_pos h]
  by_cases e : i = 0
  · rw [if_pos e]; exact ⟨fun _ => Or.inl e, fun _ => by decide⟩
  · rw [if_neg e]
    by_cases e2 : va i < th
    · rw [if_pos e2]; exact ⟨fun z => (z rfl).elim, fun z => z.elim (fun q => (e q).elim) (fun q => (q e2).elim)⟩
    · rw [if_neg e2]; exact ⟨fun _ => Or.inr e2, fun _ => by decide⟩
theorem dr_ok (h : TF n m se rk tn pa nd) {s : Nat → Int32} {Q : Nat → Prop} (h01 : ∀ v, v < m → (s v = 0 ∨ s v = 1)) (hs : ∀ v, v < m → (¬ s v = 0 ↔ (v = 0 ∨ Q v))) : ∀ v, v < m → (drV pa m s v = 0 ∨ drV pa m s v = 1) ∧ (¬ drV pa m s v = 0 ↔ (v = 0 ∨ ∀ w, 0 < w → w < m → sb se v w → Q w)) := by
  obtain ⟨k0, k1⟩ := itr_up (F := fun v x y => if x = 0 then 0 else if y = 0 then 0 else 1) (step := drS pa) h.pal (fun i s => rfl) s
  intro v
  induction v using Nat.strongRecOn with
  | ind v ih =>
    intro hv
    rcases Nat.eq_zero_or_pos v with z | z
    · subst z
      unfold drV
      rw [k0]
      exact ⟨h01 0 hv, fun _ => Or.inl rfl, fun _ => (hs 0 hv).mpr (Or.inl rfl)⟩
    · have e : drV pa m s v = if s v = 0 then 0 else if drV pa m s (pa v) = 0 then 0 else 1 := k1 v z hv
      obtain ⟨_, j2⟩ := ih (pa v) (h.pal v z hv) (h.pam' z hv)
      have hsv := hs v hv
      rw [e]
      by_cases e1 : s v = 0
      · rw [if_pos e1]
        refine ⟨Or.inl rfl, fun q => (q rfl).elim, fun q => ?_⟩
        rcases q with q | q
        · omega
        · exact ((hsv.mpr (Or.inr (q v z hv (sb_rf _ _)))) e1).elim
      · rw [if_neg e1]
        have hQ : Q v := (hsv.mp e1).resolve_left (by omega)
        by_cases e2 : drV pa m s (pa v) = 0
        · rw [if_pos e2]
          refine ⟨Or.inl rfl, fun q => (q rfl).elim, fun q => ?_⟩
          rcases q with q | q
          · omega
          · exact (j2.mpr (Or.inr (fun w w1 w2 w3 => q w w1 w2 ((h.up hv w2).mpr (Or.inr ⟨z, w3⟩)))) e2).elim
        · rw [if_neg e2]
          refine ⟨Or.inr rfl, fun _ => Or.inr (fun w w1 w2 w3 => ?_), fun _ => by decide⟩
          rcases (h.up hv w2).mp w3 with q | ⟨_, q⟩
          · rw [q]; exact hQ
          · rcases j2.mp e2 with y | y
            · rw [y] at q; have := (h.sb0 w2).mp q; omega
            · exact y w w1 w2 q
theorem ka_ok (h : TF n m se rk tn pa nd) {s : Nat → Int32} (h01 : ∀ v, v < m → (s v = 0 ∨ s v = 1)) : ∀ v, v < m → (kaV pa m s v = 0 ∨ kaV pa m s v = 1) ∧ (¬ kaV pa m s v = 0 ↔ ∃ u, u < m ∧ sb se u v ∧ ¬ s u = 0) := by
  obtain ⟨k1, k2⟩ := dit_ex h (Pr := fun x => ¬ x = 0) (I := fun _ s => ∀ v, v < m → (s v = 0 ∨ s v = 1)) (step := kaS pa) (s0 := s) (fun v s hv hI w hw => by
      unfold kaS
      split
      · exact hI w hw
      · by_cases e : w = pa (v + 1)
        · rw [e, up_s]; exact Or.inr rfl
        · rw [up_n _ _ e]; exact hI w hw) (fun v s hv hI w hw => by
      unfold kaS
      by_cases e : s (v + 1) = 0
      · rw [if_pos e]; exact ⟨Or.inl, fun z => z.elim id (fun q => (q.2 e).elim)⟩
      · rw [if_neg e]
        by_cases e2 : w = pa (v + 1)
        · rw [e2, up_s]; exact ⟨fun _ => Or.inr ⟨rfl, e⟩, fun _ => by decide⟩
        · rw [up_n _ _ e2]; exact ⟨Or.inl, fun z => z.elim id (fun q => (e2 q.1).elim)⟩) h01
  exact fun v hv => ⟨k1 v hv, k2 v hv⟩
theorem rem_c (h : TF n m se rk tn pa nd) (va old : Nat → Int32) (th u : Int32) {v : Nat} (hv : v < m) : (remV va old th u pa m v = 0 ∨ remV va old th u pa m v = 1) ∧ (¬ remV va old th u pa m v = 0 ↔ remP se m va th u v) := by
  unfold remV remP
  have a1 : ∀ w, w < m → _ := fun w hw => re0_01 va old th (j := m) (i := w) hw
  have a2 : ∀ w, w < m → _ := fun w hw => re0_ne va old th (j := m) (i := w) hw
  by_cases e1 : u = 1
  · rw [if_pos e1, if_pos e1]
    exact dr_ok h (Q := fun w => ¬ va w < th) a1 a2 v hv
  · rw [if_neg e1, if_neg e1]
    by_cases e2 : u = 2
    · rw [if_pos e2, if_pos e2]
      obtain ⟨b1, b2⟩ := ka_ok h a1 v hv
      refine ⟨b1, ?_⟩
      rw [b2]
      constructor
      · rintro ⟨w, w1, w2, w3⟩
        rcases (a2 w w1).mp w3 with q | q
        · subst q; exact Or.inl ((h.sb0 hv).mp w2)
        · exact Or.inr ⟨w, w1, w2, q⟩
      · rintro (q | ⟨w, w1, w2, w3⟩)
        · subst q; exact ⟨0, hv, sb_rf _ _, (a2 0 hv).mpr (Or.inl rfl)⟩
        · exact ⟨w, w1, w2, (a2 w w1).mpr (Or.inr w3)⟩
    · rw [if_neg e2, if_neg e2]
      exact ⟨a1 v hv, a2 v hv⟩
theorem rem_m (h : TF n m se rk tn pa nd) (va : Nat → Int32) (th u : Int32) {v : Nat} (hv : v < m) : ¬ rmV va se th u m v = 0 ↔ remP se m va th u v := by
  have bl : ∀ a b, ¬ blV se a b = 0 ↔ (a ≠ b ∧ sb se a b) := fun a b => by
    unfold blV
    by_cases z : a = b
    · rw [if_pos z]; exact ⟨fun y => (y rfl).elim, fun y => (y.1 z).elim⟩
    · rw [if_neg z, ← sb_sub0]; exact ⟨fun y => ⟨z, Classical.not_not.mp y⟩, fun y w => w y.2⟩
  have tail : ∀ (b : Int32) (X : Prop), (v = 0 → True) → (¬ b = 0 ↔ X) → (¬ (if b = 0 then (if v = 0 then (1 : Int32) else 0) else 1) = 0 ↔ (v = 0 ∨ X)) := fun b X _ hX => by
    by_cases e : b = 0
    · rw [if_pos e]
      by_cases e2 : v = 0
      · rw [if_pos e2]; exact ⟨fun _ => Or.inl e2, fun _ => by decide⟩
      · rw [if_neg e2]; exact ⟨fun q => (q rfl).elim, fun q => q.elim (fun z => (e2 z).elim) (fun z => ((hX.mpr z) e).elim)⟩
    · rw [if_neg e]; exact ⟨fun _ => Or.inr (hX.mp e), fun _ => by decide⟩
  have b0 : ¬ (if va v < th then (0 : Int32) else 1) = 0 ↔ ¬ va v < th := by
    by_cases e : va v < th
    · rw [if_pos e]; exact ⟨fun q => (q rfl).elim, fun q => (q e).elim⟩
    · rw [if_neg e]; exact ⟨fun _ => e, fun _ => by decide⟩
  unfold rmV
  generalize (if va v < th then (0 : Int32) else 1) = b at *
  by_cases e1 : u = 1
  · subst e1
    have key : ∀ k, k ≤ m - 1 → (¬ itr (rmS va se th 1 v) k b = 0 ↔ (¬ va v < th ∧ ∀ w, 0 < w → w ≤ k → w ≠ v → sb se v w → ¬ va w < th)) := by
      intro k
      induction k with
      | zero => intro _; rw [itr_0, b0]; exact ⟨fun q => ⟨q, fun w w1 w2 => by omega⟩, fun q => q.1⟩
      | succ k ih =>
        intro hk
        have ih := ih (by omega)
        rw [itr_s]
        generalize itr (rmS va se th 1 v) k b = x at *
        unfold rmS rm2 rm1
        rw [if_neg (by decide), if_pos rfl]
        have hbl := bl v (k + 1)
        by_cases e : blV se v (k + 1) = 0
        · rw [if_pos e, ih]
          have hn : ¬ (v ≠ k + 1 ∧ sb se v (k + 1)) := fun z => hbl.mpr z e
          refine and_congr Iff.rfl ⟨fun q w w1 w2 w3 w4 => ?_, fun q w w1 w2 => q w w1 (by omega)⟩
          rcases Nat.lt_or_eq_of_le w2 with y | y
          · exact q w w1 (by omega) w3 w4
          · subst y; exact (hn ⟨fun z => w3 z.symm, w4⟩).elim
        · rw [if_neg e]
          obtain ⟨y1, y2⟩ := hbl.mp e
          by_cases e2 : x = 0
          · rw [if_pos e2]
            refine ⟨fun q => (q rfl).elim, fun q => ?_⟩
            exact ((ih.mpr ⟨q.1, fun w w1 w2 => q.2 w w1 (by omega)⟩) e2).elim
          · rw [if_neg e2]
            obtain ⟨z1, z2⟩ := ih.mp e2
            by_cases e3 : va (k + 1) < th
            · rw [if_pos e3]
              exact ⟨fun q => (q rfl).elim, fun q => (q.2 (k + 1) (by omega) (Nat.le_refl _) (fun z => y1 z.symm) y2 e3).elim⟩
            · rw [if_neg e3]
              refine ⟨fun _ => ⟨z1, fun w w1 w2 w3 w4 => ?_⟩, fun _ => by decide⟩
              rcases Nat.lt_or_eq_of_le w2 with y | y
              · exact z2 w w1 (by omega) w3 w4
              · subst y; exact e3
    rw [tail _ _ (fun _ => trivial) (key (m - 1) (Nat.le_refl _))]
    unfold remP
    rw [if_pos rfl]
    constructor
    · rintro (q | ⟨q1, q2⟩)
      · exact Or.inl q
      · by_cases z : v = 0
        · exact Or.inl z
        · refine Or.inr (fun w w1 w2 w3 => ?_)
          by_cases y : w = v
          · rw [y]; exact q1
          · exact q2 w w1 (by omega) y w3
    · rintro (q | q)
      · exact Or.inl q
      · by_cases z : v = 0
        · exact Or.inl z
        · exact Or.inr ⟨q v (by omega) hv (sb_rf _ _), fun w w1 w2 _ w4 => q w w1 (by omega) w4⟩
  · by_cases e2 : u = 2
    · subst e2
      have key : ∀ k, k ≤ m - 1 → (¬ itr (rmS va se th 2 v) k b = 0 ↔ (¬ va v < th ∨ ∃ w, 0 < w ∧ w ≤ k ∧ w ≠ v ∧ sb se w v ∧ ¬ va w < th)) := by
        intro k
        induction k with
        | zero => intro _; rw [itr_0, b0]; exact ⟨Or.inl, fun q => q.elim id (fun ⟨w, w1, w2, _⟩ => by omega)⟩
        | succ k ih =>
          intro hk
          have ih := ih (by omega)
          rw [itr_s]
          generalize itr (rmS va se th 2 v) k b = x at *
          unfold rmS rm2 rm1
          rw [if_pos rfl, if_neg (show ¬ (2 : Int32) = 1 by decide)]
          have hbl := bl (k + 1) v
          by_cases e : blV se (k + 1) v = 0
          · rw [if_pos e, ih]
            have hn : ¬ (k + 1 ≠ v ∧ sb se (k + 1) v) := fun z => hbl.mpr z e
            refine or_congr Iff.rfl ⟨fun ⟨w, w1, w2, w3⟩ => ⟨w, w1, by omega, w3⟩, fun ⟨w, w1, w2, w3, w4, w5⟩ => ⟨w, w1, ?_, w3, w4, w5⟩⟩
            rcases Nat.lt_or_eq_of_le w2 with y | y
            · omega
            · subst y; exact (hn ⟨w3, w4⟩).elim
          · rw [if_neg e]
            obtain ⟨y1, y2⟩ := hbl.mp e
            by_cases e2 : x = 0
            · rw [if_pos e2]
              have ihn : ¬ (¬ va v < th ∨ ∃ w, 0 < w ∧ w ≤ k ∧ w ≠ v ∧ sb se w v ∧ ¬ va w < th) := fun z => ih.mpr z e2
              by_cases e3 : va (k + 1) < th
              · rw [if_pos e3]
                refine ⟨fun q => (q rfl).elim, fun q => (ihn (q.imp id (fun ⟨w, w1, w2, w3, w4, w5⟩ => ⟨w, w1, ?_, w3, w4, w5⟩))).elim⟩
                rcases Nat.lt_or_eq_of_le w2 with y | y
                · omega
                · subst y; exact (w5 e3).elim
              · rw [if_neg e3]
                exact ⟨fun _ => Or.inr ⟨k + 1, by omega, Nat.le_refl _, y1, y2, e3⟩, fun _ => by decide⟩
            · rw [if_neg e2]
              exact ⟨fun _ => (ih.mp e2).imp id (fun ⟨w, w1, w2, w3⟩ => ⟨w, w1, by omega, w3⟩), fun _ => by decide⟩
      rw [tail _ _ (fun _ => trivial) (key (m - 1) (Nat.le_refl _))]
      unfold remP
      rw [if_neg (by decide), if_pos rfl]
      constructor
      · rintro (q | q | ⟨w, w1, w2, w3, w4, w5⟩)
        · exact Or.inl q
        · exact Or.inr ⟨v, hv, sb_rf _ _, q⟩
        · exact Or.inr ⟨w, by omega, w4, w5⟩
      · rintro (q | ⟨w, w1, w2, w3⟩)
        · exact Or.inl q
        · by_cases z : w = v
          · rw [z] at w3; exact Or.inr (Or.inl w3)
          · by_cases y : v = 0
            · exact Or.inl y
            · have := h.str v w hv w1 w2
              exact Or.inr (Or.inr ⟨w, by omega, by omega, z, w2, w3⟩)
    · have key : ∀ k, itr (rmS va se th u v) k b = b := by
        intro k
        induction k with
        | zero => rfl
        | succ k ih =>
          rw [itr_s, ih]
          unfold rmS rm2 rm1
          rw [if_neg e2, if_neg e1]
      rw [key, tail _ _ (fun _ => trivial) b0]
      unfold remP
      rw [if_neg e1, if_neg e2]
theorem remP_cg {va va' : Nat → Int32} {th u : Int32} {v : Nat} (hv : v < m) (h : ∀ w, w < m → va w = va' w) : remP se m va th u v ↔ remP se m va' th u v := by
  unfold remP
  refine or_congr Iff.rfl ?_
  by_cases e1 : u = 1
  · rw [if_pos e1, if_pos e1]
    exact ⟨fun q w w1 w2 w3 => by rw [← h w w2]; exact q w w1 w2 w3, fun q w w1 w2 w3 => by rw [h w w2]; exact q w w1 w2 w3⟩
  · rw [if_neg e1, if_neg e1]
    by_cases e2 : u = 2
    · rw [if_pos e2, if_pos e2]
      exact ⟨fun ⟨w, w1, w2, w3⟩ => ⟨w, w1, w2, by rw [← h w w1]; exact w3⟩, fun ⟨w, w1, w2, w3⟩ => ⟨w, w1, w2, by rw [h w w1]; exact w3⟩⟩
    · rw [if_neg e2, if_neg e2, h v hv]
theorem rem_eq (h : TF n m se rk tn pa nd) {va va' old : Nat → Int32} {th u : Int32} (hva : ∀ w, w < m → va w = va' w) {v : Nat} (hv : v < m) : remV va old th u pa m v = rmV va' se th u m v := by
  obtain ⟨a1, a2⟩ := rem_c h va old th u hv
  exact ne01 a1 (a2.trans (remP_cg hv hva)) (rm01 va' se th u m v) (rem_m h va' th u hv)
/-! new ranks -/
theorem si_rec (h : TF n m se rk tn pa nd) (kr rem s : Nat → Int32) : siV kr rem pa m s 0 = kr 0 ∧ ∀ v, 0 < v → v < m → siV kr rem pa m s v = if rem v = 0 then siV kr rem pa m s (pa v) else kr v := by
  obtain ⟨k0, k1⟩ := itr_up (F := fun v _ y => if rem v = 0 then y else kr v) (step := siS kr rem pa) h.pal (fun i s => rfl) (upd s 0 (kr 0))
  exact ⟨k0.trans (up_s _ _ _), k1⟩
theorem as_rec (h : TF n m se rk tn pa nd) (kr rem s : Nat → Int32) : asV kr rem pa m s 0 = kr 0 ∧ ∀ v, 0 < v → v < m → asV kr rem pa m s v = asV kr rem pa m s (pa v) + (if rem v = 0 then 0 else kr v - kr (pa v)) := by
  obtain ⟨k0, k1⟩ := itr_up (F := fun v _ y => y + (if rem v = 0 then 0 else kr v - kr (pa v))) (step := asS kr rem pa) h.pal (fun i s => rfl) (upd s 0 (kr 0))
  exact ⟨k0.trans (up_s _ _ _), k1⟩
theorem si_nw (h : TF n m se rk tn pa nd) {kr rem rem' pr s : Nat → Int32} (hpp : ∀ v, 0 < v → v < m → pr v = nI (pa v)) (hr : ∀ v, v < m → (rem v = 0 ↔ rem' v = 0)) (hr0 : ¬ rem 0 = 0) : ∀ d v, v < m → v ≤ d → siV kr rem pa m s v = kr (nwV rem' pr d v) := by
  have hm := h.m64
  obtain ⟨k0, k1⟩ := si_rec h kr rem s
  intro d
  induction d with
  | zero =>
    intro v hv hd
    have : v = 0 := by omega
    subst this
    exact k0
  | succ d ih =>
    intro v hv hd
    unfold nwV
    rcases Nat.eq_zero_or_pos v with z | z
    · subst z
      rw [if_neg (fun q => hr0 ((hr 0 hv).mpr q))]
      exact k0
    · have hp := h.pal v z hv
      rw [k1 v z hv]
      by_cases e : rem v = 0
      · rw [if_pos e, if_pos ((hr v hv).mp e), hpp v z hv, nI_clamp (by omega)]
        exact ih (pa v) (by omega) (by omega)
      · rw [if_neg e, if_neg (fun q => e ((hr v hv).mpr q))]
theorem si_le (h : TF n m se rk tn pa nd) {kr rem s : Nat → Int32} (hk : ∀ v, v < m → kr v = nI (tn v)) : ∀ v, v < m → ∃ x, x ≤ tn v ∧ siV kr rem pa m s v = nI x := by
  obtain ⟨k0, k1⟩ := si_rec h kr rem s
  intro v
  induction v using Nat.strongRecOn with
  | ind v ih =>
    intro hv
    rcases Nat.eq_zero_or_pos v with z | z
    · subst z; exact ⟨tn 0, Nat.le_refl _, by rw [k0, hk 0 hv]⟩
    · rw [k1 v z hv]
      by_cases e : rem v = 0
      · rw [if_pos e]
        obtain ⟨x, x1, x2⟩ := ih (pa v) (h.pal v z hv) (h.pam' z hv)
        exact ⟨x, by have := h.tnp v z hv; omega, x2⟩
      · rw [if_neg e]; exact ⟨tn v, Nat.le_refl _, hk v hv⟩
theorem as_le (h : TF n m se rk tn pa nd) {kr rem s : Nat → Int32} (hk : ∀ v, v < m → kr v = nI (tn v)) : ∀ v, v < m → ∃ x, x ≤ tn v ∧ asV kr rem pa m s v = nI x := by
  obtain ⟨k0, k1⟩ := as_rec h kr rem s
  intro v
  induction v using Nat.strongRecOn with
  | ind v ih =>
    intro hv
    rcases Nat.eq_zero_or_pos v with z | z
    · subst z; exact ⟨tn 0, Nat.le_refl _, by rw [k0, hk 0 hv]⟩
    · obtain ⟨x, x1, x2⟩ := ih (pa v) (h.pal v z hv) (h.pam' z hv)
      have ht := h.tnp v z hv
      rw [k1 v z hv, x2]
      by_cases e : rem v = 0
      · rw [if_pos e, Int32.add_zero]
        exact ⟨x, by omega, rfl⟩
      · rw [if_neg e, hk v hv, hk (pa v) (h.pam' z hv), pk_sub (by omega), nI_add]
        exact ⟨_, by omega, rfl⟩
theorem isum_sh (f : Nat → Int32) : ∀ k, isum f (k + 1) = f 0 + isum (fun i => f (i + 1)) k
  | 0 => by show 0 + f 0 = f 0 + 0; rw [Int32.zero_add, Int32.add_zero]
  | k + 1 => by
    show isum f (k + 1) + f (k + 1) = f 0 + (isum (fun i => f (i + 1)) k + f (k + 1))
    rw [isum_sh f k, Int32.add_assoc]
theorem itr_isum (g : Nat → Int32) (x : Int32) : ∀ k, itr (fun i s => s + g i) k x = x + isum g k
  | 0 => (Int32.add_zero x).symm
  | k + 1 => by rw [itr_s, itr_isum g x k]; show _ = x + (isum g k + g k); rw [Int32.add_assoc]
theorem as_ns (h : TF n m se rk tn pa nd) {kr rem rem' pr s : Nat → Int32} (hpp : ∀ v, 0 < v → v < m → pr v = nI (pa v)) (hr : ∀ v, v < m → (rem v = 0 ↔ rem' v = 0)) {p : Nat} (hp : p < n) : asV kr rem pa m s (nd p) = itr (nsS rem' kr pr se p) (m - 1) (kr 0) := by
  have hm := h.m64
  have hn := h.n64
  have hm0 := h.m0
  obtain ⟨k0, k1⟩ := as_rec h kr rem s
  have key : ∀ v, v < m → asV kr rem pa m s v = kr 0 + isum (fun i => ind (sb se v (i + 1)) (if rem (i + 1) = 0 then 0 else kr (i + 1) - kr (pa (i + 1)))) (m - 1) := by
    intro v
    induction v using Nat.strongRecOn with
    | ind v ih =>
      intro hv
      rcases Nat.eq_zero_or_pos v with z | z
      · subst z
        rw [k0, isum_0 (m - 1) (fun i hi => ind_f (fun q => by have := (h.sb0 (show i + 1 < m by omega)).mp q; omega) _), Int32.add_zero]
      · rw [k1 v z hv, ih (pa v) (h.pal v z hv) (h.pam' z hv), Int32.add_assoc]
        congr 1
        obtain ⟨w, rfl⟩ : ∃ w, v = w + 1 := ⟨v - 1, by omega⟩
        rw [← isum_one (f := fun i => if i = w then (if rem (i + 1) = 0 then 0 else kr (i + 1) - kr (pa (i + 1))) else 0) (a := w) (m - 1) (by omega) (fun u hu hne => if_neg hne) |>.trans (if_pos rfl), ← isum_add]
        refine isum_cg (m - 1) (fun i hi => ?_)
        by_cases e : i = w
        · subst e
          rw [if_pos rfl, ind_f (h.pan z hv), ind_t (sb_rf _ _), Int32.zero_add]
        · rw [if_neg e, Int32.add_zero]
          refine ind_cg ?_ _
          rw [h.up hv (show i + 1 < m by omega)]
          exact ⟨fun q => Or.inr ⟨z, q⟩, fun q => q.elim (fun y => by omega) (fun y => y.2)⟩
  rw [key (nd p) (h.ndl p hp), show nsS rem' kr pr se p = fun i s => s + (if rem' (i + 1) = 0 then 0 else if hasM (se (i + 1)) (nI p) = 0 then 0 else kr (i + 1) - kr (pr (i + 1)).toNatClampNeg) from rfl, itr_isum]
  congr 1
  refine isum_cg (m - 1) (fun i hi => ?_)
  have hi2 : i + 1 < m := by omega
  have h1 := h.ndh (i + 1) p hi2 hp
  rw [hpp (i + 1) (by omega) hi2, nI_clamp (by have := h.pal (i + 1) (by omega) hi2; omega)]
  by_cases e : rem (i + 1) = 0
  · rw [if_pos e, if_pos ((hr _ hi2).mp e)]
    by_cases e2 : sb se (nd p) (i + 1)
    · rw [ind_t e2]
    · rw [ind_f e2]
  · rw [if_neg e, if_neg (fun q => e ((hr _ hi2).mpr q))]
    by_cases e2 : sb se (nd p) (i + 1)
    · rw [ind_t e2, if_neg (fun z => by rw [hasM0 _ (by omega), h1.mpr e2] at z; exact absurd z (by decide))]
    · rw [ind_f e2, if_pos ((hasM0 _ (by omega)).mpr (by
        cases z : hb (se (i + 1)) p
        · rfl
        · exact (e2 (h1.mp z)).elim))]
/-! losses and changes -/
theorem ab_tab : ∀ a, a < 16 → ∀ b, b < 16 → iabs (nI a - nI b) = apV (nI a) (nI b) ∧ iabs (nI a - nI b) = apV (15 - nI a) (15 - nI b) ∧ iabs (nI a - nI b) = nI ((a - b) + (b - a)) := by decide
theorem trn2 (x dk : Int32) : trn (trn x dk) dk = x := by
  unfold trn
  by_cases e : dk = 0
  · rw [if_pos e, if_pos e]
  · rw [if_neg e, if_neg e]
    have g : ∀ a b : Int32, a - (a - b) = b := fun a b => by grind
    exact g 15 x
theorem ap_trn {lv dk : Int32} {a b : Nat} (ha : a < 16) (hb : b < 16) (h : trn lv dk = nI a) : apV lv (trn (nI b) dk) = iabs (nI a - nI b) := by
  obtain ⟨t1, t2, _⟩ := ab_tab a ha b hb
  have e : lv = trn (nI a) dk := by rw [← h, trn2]
  rw [e]
  unfold trn
  by_cases e : dk = 0
  · rw [if_pos e, if_pos e, t1]
  · rw [if_neg e, if_neg e, t2]
theorem eq_trn {lv dk y : Int32} {a : Nat} (h : trn lv dk = nI a) : lv = trn y dk ↔ nI a = y := by
  rw [← h]
  constructor
  · intro e; rw [e, trn2]
  · intro e; rw [← e, trn2]
theorem loss_ok (h : TF n m se rk tn pa nd) {ow kr nr nrm lv : Nat → Int32} {dk : Int32} (hk : ∀ v, v < m → kr v = nI (tn v)) (how : ∀ v, v < m → ow v = owV (fun p => nI (nd p)) (nI v) n) (hnr : ∀ v, v < m → ∃ x, x ≤ tn v ∧ nr v = nI x) (hlv : ∀ p, p < n → trn (lv p) dk = nI (rk p)) (hm : ∀ p, p < n → nrm p = nr (nd p)) : lossV ow kr nr m = isum (fun p => apV (lv p) (trn (nrm p) dk)) n := by
  have hm64 := h.m64
  unfold lossV
  rw [isum_cg (g := fun v => owV (fun p => nI (nd p)) (nI v) n * iabs (kr v - nr v)) m (fun v hv => by rw [how v hv]), own_sum (by omega) _ n h.ndl]
  refine isum_cg n (fun p hp => ?_)
  have h1 := h.ndl p hp
  obtain ⟨x, x1, x2⟩ := hnr _ h1
  have := h.t16 _ h1
  rw [hm p hp, x2, ap_trn (h.r16 p hp) (by omega) (hlv p hp), hk _ h1, h.ndr p hp]
theorem chg_ok (h : TF n m se rk tn pa nd) {ow kr nr nrm lv : Nat → Int32} {dk : Int32} (hk : ∀ v, v < m → kr v = nI (tn v)) (how : ∀ v, v < m → ow v = owV (fun p => nI (nd p)) (nI v) n) (hlv : ∀ p, p < n → trn (lv p) dk = nI (rk p)) (hm : ∀ p, p < n → nrm p = nr (nd p)) : chgV ow kr nr m = isum (fun p => if lv p = trn (nrm p) dk then 0 else 1) n := by
  have hm64 := h.m64
  unfold chgV
  rw [isum_cg (g := fun v => owV (fun p => nI (nd p)) (nI v) n * (if kr v = nr v then 0 else 1)) m (fun v hv => by
    rw [how v hv]
    by_cases e : kr v = nr v
    · rw [if_pos e, if_pos e, Int32.mul_zero]
    · rw [if_neg e, if_neg e, Int32.mul_one]), own_sum (by omega) _ n h.ndl]
  refine isum_cg n (fun p hp => ?_)
  have h1 := h.ndl p hp
  have e := eq_trn (y := nr (nd p)) (hlv p hp)
  rw [hm p hp, hk _ h1, ← h.ndr p hp]
  by_cases z : nI (rk p) = nr (nd p)
  · rw [if_pos z, if_pos (e.mpr z)]
  · rw [if_neg z, if_neg (fun q => z (e.mp q))]
end FC
theorem md_ok (now f : Nat → Int32) : ∀ n, (itr (mdS now) n (0, f)).1 = isum (fun p => if f p = now p then 0 else 1) n ∧ ∀ p, (itr (mdS now) n (0, f)).2 p = if p < n then now p else f p
  | 0 => ⟨rfl, fun p => by rw [itr_0, if_neg (Nat.not_lt_zero _)]⟩
  | n + 1 => by
    obtain ⟨i1, i2⟩ := md_ok now f n
    rw [itr_s]
    generalize itr (mdS now) n (0, f) = q at *
    unfold mdS
    refine ⟨?_, fun p => ?_⟩
    · show q.1 + _ = isum _ n + _
      rw [i1, i2 n, if_neg (Nat.lt_irrefl _)]
    · simp only [upd]
      by_cases e : p = n
      · rw [if_pos e, if_pos (by omega), e]
      · rw [if_neg e, i2 p]
        by_cases e2 : p < n
        · rw [if_pos e2, if_pos (by omega)]
        · rw [if_neg e2, if_neg (by omega)]
theorem rp_ok (nd nr : Nat → Int32) (dk : Int32) (f : Nat → Int32) : ∀ n p, itr (rpS nd nr dk) n f p = if p < n then trn (nr (nd p).toNatClampNeg) dk else f p
  | 0, p => by rw [itr_0, if_neg (Nat.not_lt_zero _)]
  | n + 1, p => by
    have ih := rp_ok nd nr dk f n
    rw [itr_s]
    unfold rpS
    by_cases e : p = n
    · subst e; rw [up_s, if_pos (by omega)]
    · rw [up_n _ _ e]
      show itr (rpS nd nr dk) n f p = _
      rw [ih p]
      by_cases e2 : p < n
      · rw [if_pos e2, if_pos (by omega)]
      · rw [if_neg e2, if_neg (by omega)]

