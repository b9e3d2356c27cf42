/-! the ten days on which one comes at 0 to 9 -/
def Cu (C : Nat → Nat) (p c : Nat) : Nat → Nat := fun j => if j = p then c else C j
theorem Cu_ok {n : Nat} {C : Nat → Nat} {p c : Nat} (h : okCm n C) (hc : c ≤ 9) : okCm n (Cu C p c) := fun j hj => by
  unfold Cu; split
  · exact hc
  · exact h j hj
def sMM (n : Nat) (K T C : Nat → Nat) (P p c : Nat) : Nat := sMt (sW n K T (Cu C p c) P) 20
/-- what the trials of the class hold for p -/
def trX (v : obV) (w : Nat → Nat → Int32) (n : Nat) (K T C : Nat → Nat) (P p : Nat) : Prop := ∀ c, c < 10 → (∀ j, j < 20 → w c j = nI (sW n K T (Cu C p c) P j)) ∧ v.2 2 c = nI (sMM n K T C P p c)
theorem x_tpass {v vc vd : obV} {w : Nat → Nat → Int32} {n : Nat} {K T C : Nat → Nat} {P p : Nat} {ch : Int32} (hc : cvX vc n K T C P ch) (ho : okC n K T C P) (hp : p < n) : ∃ u : obV × (Nat → Nat → Int32) × obV, f_X5_pass v w vc vd (nI p) = some u ∧ trX u.1 u.2.1 n K T C P p := by
  have hn := ho.1
  have key : ∃ u : obV × (Nat → Nat → Int32) × obV, f_X5_pass_l10 vc (nI p) fu (v, w, oC vd 0 (va_cpy (vc.2 2) (vd.2 0) 0 0 5), 0) = some u ∧ trX u.1 u.2.1 n K T C P p := by
    refine lp_up (σ := obV × (Nat → Nat → Int32) × obV) (fun i s => (s.1, s.2.1, s.2.2, nI i)) 10 (fun i s => (∀ j, j < n → j ≠ p → s.2.2.2 0 j = nI (C j)) ∧ ∀ c, c < i → (∀ j, j < 20 → s.2.1 c j = nI (sW n K T (Cu C p c) P j)) ∧ s.1.2 2 c = nI (sMM n K T C P p c)) (fun z => ∃ u : obV × (Nat → Nat → Int32) × obV, z = some u ∧ trX u.1 u.2.1 n K T C P p) ?_ ?_ fu 0 (v, w, oC vd 0 (va_cpy (vc.2 2) (vd.2 0) 0 0 5)) ⟨fun j hj _ => ?_, fun c h => absurd h (Nat.not_lt_zero _)⟩ (Nat.zero_le _) (q_fu (by decide))
    · rintro i ⟨v, w, d⟩ hi ⟨hd, ht⟩
      have hd : ∀ j, j < n → j ≠ p → d.2 0 j = nI (C j) := hd
      have ht : ∀ c, c < i → (∀ j, j < 20 → w c j = nI (sW n K T (Cu C p c) P j)) ∧ v.2 2 c = nI (sMM n K T C P p c) := ht
      obtain ⟨d', r1, r2⟩ := x_passAs (v := oA d 0 p (nI i)) (C := Cu C p i) hc ho (Cu_ok ho.c (by omega)) (fun j hj => by
        show upd (d.2 0) p (nI i) j = nI (if j = p then i else C j)
        rw [q_upd]
        by_cases e : j = p
        · rw [if_pos e, if_pos e]
        · rw [if_neg e, if_neg e]; exact hd j hj e)
      refine ⟨(oA v 2 i (nI (sMM n K T C P p i)), va_up w i (va_cpy (d'.2 3) (w i) 0 0 20), d'), ⟨fun j hj hne => ?_, fun c hc2 => ?_⟩, fun k => ?_⟩
      · show d'.2 0 j = nI (C j)
        rw [(r2.1.2.2.2.2 j hj).1]
        show nI (if j = p then i else C j) = _
        rw [if_neg hne]
      · show (∀ j, j < 20 → (if c = i then va_cpy (d'.2 3) (w i) 0 0 20 else w c) j = _) ∧ upd (v.2 2) i _ c = _
        rw [q_upd]
        by_cases e : c = i
        · rw [if_pos e, if_pos e, e]
          refine ⟨fun j hj => ?_, rfl⟩
          rw [q_cpy hj, r2.2 j hj, sW_eq hj]
        · rw [if_neg e, if_neg e]; exact ht c (by omega)
      · show f_X5_pass_b10 v w vc d (nI p) (nI i) k = _
        unfold f_X5_pass_b10
        simp only [hlet]
        rw [if_neg (show ¬ (10 : Int32) ≤ nI i from nI_ge hi (by decide)), if_neg (nI_in (show p < 5 by omega) (by decide)), nI_clamp (by omega), r1]
        simp only [Option.bind]
        rw [if_neg (nI_in hi (by decide)), nI_clamp (by omega), x_meetings hn r2]
        simp only []
        rw [if_neg (by rw [q_gF (show i < 10 by omega) (by omega)]; exact id), ← nI_1]
        rfl
    · rintro ⟨v, w, d⟩ ⟨-, ht⟩
      exact ⟨_, ⟨(v, w, d), rfl, ht⟩, fun k => by
        show f_X5_pass_b10 v w vc d (nI p) (nI 10) k = _
        unfold f_X5_pass_b10
        rw [if_pos (by decide)]⟩
    · show va_cpy (vc.2 2) (vd.2 0) 0 0 5 j = _
      rw [q_cpy (by omega)]
      exact (hc.2.2.2 j hj).2.2
  obtain ⟨u, h1, h2⟩ := key
  refine ⟨u, ?_, h2⟩
  unfold f_X5_pass f_X2_takeComings
  simp only [hlet, Option.bind]
  exact h1
/-- where g is least, of like ones the first -/
def sLm (g : Nat → Nat) : Nat → Nat
  | 0 => 0
  | i + 1 => if g (sLm g i) ≤ g i then sLm g i else i
theorem sLm_lt (g : Nat → Nat) : ∀ i, sLm g (i + 1) < i + 1 := by
  intro i
  induction i with
  | zero => unfold sLm sLm; split <;> omega
  | succ i ih =>
    show (if g (sLm g (i + 1)) ≤ g (i + 1) then sLm g (i + 1) else i + 1) < i + 2
    split <;> omega
theorem sMt_le {n : Nat} {K T C : Nat → Nat} {P : Nat} (hn : n ≤ 5) : ∀ j, sMt (sW n K T C P) j ≤ 10 * j := by
  have t : ∀ w, w < 6 → w * (w - 1) / 2 ≤ 10 := by decide
  intro j
  induction j with
  | zero => exact Nat.le_refl _
  | succ j ih =>
    have h := t (sW n K T C P j) (by have := sW_le (n := n) (K := K) (T := T) (C := C) (P := P) (j := j); omega)
    show sMt (sW n K T C P) j + _ ≤ _
    omega
theorem sMM_le {n : Nat} {K T C : Nat → Nat} {P p c : Nat} (hn : n ≤ 5) : sMM n K T C P p c ≤ 200 := sMt_le hn 20
theorem x_least {v : obV} {w : Nat → Nat → Int32} {n : Nat} {K T C : Nat → Nat} {P p : Nat} (hn : n ≤ 5) (h : trX v w n K T C P p) : f_X5_leastMeetings v = some (nI (sLm (sMM n K T C P p) 10)) := by
  rw [show f_X5_leastMeetings v = lp (fun k y => f_X5_leastMeetings_b4 v y.1 y.2 k) fu (nI 0, nI 1) from rfl]
  have e1 : sLm (sMM n K T C P p) 1 = 0 := by have h : sLm (sMM n K T C P p) 1 < 1 := sLm_lt (sMM n K T C P p) 0; omega
  have key := lp_sum (σ := Int32) (body := fun k y => f_X5_leastMeetings_b4 v y.1 y.2 k) (fun i s => (s, nI (i + 1))) 9 (fun i => nI (sLm (sMM n K T C P p) (i + 1))) (some (nI (sLm (sMM n K T C P p) 10))) ?_ ?_ fu 0 (Nat.zero_le _) (q_fu (by decide))
  · have key : lp (fun k y => f_X5_leastMeetings_b4 v y.1 y.2 k) fu (nI (sLm (sMM n K T C P p) 1), nI 1) = some (nI (sLm (sMM n K T C P p) 10)) := key
    rw [e1] at key
    exact key
  · intro i hi k
    have hl := sLm_lt (sMM n K T C P p) i
    have m1 := sMM_le (K := K) (T := T) (C := C) (P := P) (p := p) (c := i + 1) hn
    have m2 := sMM_le (K := K) (T := T) (C := C) (P := P) (p := p) (c := sLm (sMM n K T C P p) (i + 1)) hn
    show f_X5_leastMeetings_b4 v (nI (sLm (sMM n K T C P p) (i + 1))) (nI (i + 1)) k = k (nI (if sMM n K T C P p (sLm (sMM n K T C P p) (i + 1)) ≤ sMM n K T C P p (i + 1) then sLm (sMM n K T C P p) (i + 1) else i + 1), nI (i + 1 + 1))
    unfold f_X5_leastMeetings_b4
    rw [if_neg (show ¬ (10 : Int32) ≤ nI (i + 1) from nI_ge (show i + 1 < 10 by omega) (by decide)), if_neg (nI_in (show i + 1 < 10 by omega) (by decide)), if_neg (nI_in (show sLm (sMM n K T C P p) (i + 1) < 10 by omega) (by decide)), nI_clamp (by omega), nI_clamp (by omega), (h (i + 1) (by omega)).2, (h _ (show sLm (sMM n K T C P p) (i + 1) < 10 by omega)).2, nI_1]
    by_cases hle : sMM n K T C P p (sLm (sMM n K T C P p) (i + 1)) ≤ sMM n K T C P p (i + 1)
    · rw [if_pos hle, if_pos ((nI_leI (by exact Nat.lt_of_le_of_lt m2 (by decide)) (by exact Nat.lt_of_le_of_lt m1 (by decide))).mpr hle)]
    · rw [if_neg hle, if_neg (fun e => hle ((nI_leI (by exact Nat.lt_of_le_of_lt m2 (by decide)) (by exact Nat.lt_of_le_of_lt m1 (by decide))).mp e))]
  · intro k
    show f_X5_leastMeetings_b4 v _ (nI 10) k = _
    unfold f_X5_leastMeetings_b4
    rw [if_pos (by decide)]
