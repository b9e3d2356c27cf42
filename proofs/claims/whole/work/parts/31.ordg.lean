/-! ORDER: the walk over all orders -/
theorem hlet_e {α β : Type} (a : α) (k : α → β) : hlet a k = k a := rfl
theorem bind_e {α β : Type} (a : α) (k : α → Option β) : Option.bind (some a) k = k a := rfl
theorem x_begin0k {vb vc : obV} {n : Nat} (hc : vc.1 4 = nI n) : ∃ v1 : obV, f_X0_begin_l12 fu (oF (oF vb 2 (vc.1 4)) 3 (-1), 0) = some v1 ∧ v1.1 2 = nI n ∧ v1.1 3 = NO ∧ trd v1 (fL [0, 1, 2, 3, 4]) := by
    refine lp_up (σ := obV) (fun i s => (s, nI i)) 5 (fun i s => s.1 2 = nI n ∧ s.1 3 = NO ∧ ∀ j, j < i → s.2 0 j = nI j) (fun z => ∃ v1 : obV, z = some v1 ∧ v1.1 2 = nI n ∧ v1.1 3 = NO ∧ trd v1 (fL [0, 1, 2, 3, 4])) ?_ ?_ fu 0 (oF (oF vb 2 (vc.1 4)) 3 (-1)) ⟨hc, rfl, fun j h => absurd h (Nat.not_lt_zero _)⟩ (Nat.zero_le _) (q_fu (by decide))
    · rintro i s hi ⟨h1, h2, h3⟩
      refine ⟨oA s 0 i (nI i), ⟨h1, h2, fun j hj => ?_⟩, fun k => ?_⟩
      · show upd (s.2 0) i (nI i) j = _
        rw [q_upd]
        by_cases e : j = i
        · rw [if_pos e, e]
        · rw [if_neg e]; exact h3 j (by omega)
      · show f_X0_begin_b12 s (nI i) k = _
        unfold f_X0_begin_b12
        simp only [hlet]
        rw [if_neg (show ¬ (5 : Int32) ≤ nI i from nI_ge hi (by decide)), if_neg (nI_in hi (by decide)), nI_clamp (by omega), nI_1]
    · rintro s ⟨h1, h2, h3⟩
      refine ⟨_, ⟨s, rfl, h1, h2, fun j hj => ⟨?_, ?_⟩⟩, fun k => ?_⟩
      · rw [h3 j hj, show [0, 1, 2, 3, 4] = l5 id from rfl, fL_l5 id j hj]; rfl
      · rw [show [0, 1, 2, 3, 4] = l5 id from rfl, fL_l5 id j hj]; show j ≤ 4; omega
      · show f_X0_begin_b12 s (nI 5) k = _
        unfold f_X0_begin_b12
        rw [if_pos (by decide)]

theorem x_begin0 {vb vc : obV} {n : Nat} (hc : vc.1 4 = nI n) : ∃ v1, f_X0_begin vb (vc.1 4) = some v1 ∧ v1.1 2 = nI n ∧ v1.1 3 = NO ∧ trd v1 (fL [0, 1, 2, 3, 4]) := by
  obtain ⟨v1, h1, h2⟩ := x_begin0k (vb := vb) hc
  refine ⟨v1, ?_, h2⟩
  unfold f_X0_begin
  rw [hlet_e, hlet_e]
  exact h1
theorem x_findloop {v1 vc : obV} {n : Nat} {K T C : Nat → Nat} {P : Nat} {ch : Int32} {hb : List Nat → Nat} (hn1 : 1 ≤ n) (hc : cvX vc n K T C P ch) (ho : okC n K T C P) (hbi : ∀ l, hb l = hB n K T P (fL l)) (b2 : v1.1 2 = nI n) (b3 : v1.1 3 = NO) (b4 : trd v1 (fL [0, 1, 2, 3, 4])) : ∃ v' : obV, f_X0_find_l12 vc fu (v1, 1, 0) = some v' ∧ v'.1 2 = nI n ∧ bsX v' (foP hb (sqP n) 120) := by
  have hn := ho.1
  have hbl : ∀ l, hb l ≤ 6 := fun l => by rw [hbi]; exact pc6_le _

  refine lp_any (fun y : obV × Int32 × Int32 => ∃ i, i ≤ 120 ∧ y.2.2 = nI i ∧ y.1.1 2 = nI n ∧ bsX y.1 (foP hb (sqP n) i) ∧ ((y.2.1 = 1 ∧ ∃ l, sqP n i = some l ∧ trd y.1 (fL l)) ∨ (y.2.1 = 0 ∧ sqP n i = none))) (fun y => 120 - y.2.2.toNatClampNeg) (fun z => ∃ v' : obV, z = some v' ∧ v'.1 2 = nI n ∧ bsX v' (foP hb (sqP n) 120)) ?_ fu (v1, 1, 0) ⟨0, by decide, rfl, b2, ⟨b3, fun h => absurd rfl h⟩, Or.inl ⟨rfl, _, rfl, b4⟩⟩ (Nat.lt_of_le_of_lt (Nat.sub_le _ _) (q_fu (by decide)))
  rintro ⟨v, x, y⟩ ⟨i, hi, hy, hsz, hbs, hx⟩
  have hy : y = nI i := hy
  have hsz : v.1 2 = nI n := hsz
  have hbs : bsX v (foP hb (sqP n) i) := hbs
  subst hy
  by_cases h120 : i = 120
  · right
    refine ⟨_, ⟨v, rfl, hsz, by rw [← h120]; exact hbs⟩, fun k => ?_⟩
    show f_X0_find_b12 v vc x (nI i) k = _
    unfold f_X0_find_b12
    rw [h120, if_pos (by decide)]
  have hi : i < 120 := by omega
  rcases hx with ⟨hx, l, hl, htr⟩ | ⟨hx, hno⟩
  · left
    have hx : x = 1 := hx
    have htr : trd v (fL l) := htr
    subst hx
    have hsq := t_sq n (by omega) hn1 i hi
    rw [hl] at hsq
    have hsq : ((List.range 5).all (fun j => decide (fL l j ≤ 4)) && (List.range n).all (fun j => decide (fL l j < n))) = true := hsq
    rw [Bool.and_eq_true] at hsq
    have hln : ∀ j, j < n → fL l j < n := fun j hj => of_decide_eq_true (List.all_eq_true.mp hsq.2 j (List.mem_range.mpr hj))
    have hh : f_X0_helpedWhenTried v vc = some (nI (hb l)) := by rw [hbi]; exact x_helpedWT hc ho hsz htr hln
    have hF : foP hb (sqP n) (i + 1) = stP hb (foP hb (sqP n) i) l := by rw [foP_s, hl]
    -- the state behind the comparison
    have hcmp : ∃ w : obV, w.1 2 = nI n ∧ bsX w (foP hb (sqP n) (i + 1)) ∧ trd w (fL l) ∧ ∀ k, f_X0_find_b12 v vc 1 (nI i) k = f_X0_find_b58 w vc (nI i) k := by
      rw [hF]
      have hbd : ∀ m, (foP hb (sqP n) i).1 = some m → m ≤ 6 := foP_bound hbl i
      have hcase : (nI (hb l) ≤ en (foP hb (sqP n) i).1) ↔ ¬ btP (foP hb (sqP n) i).1 (hb l) = true := by
        have hbl' := hbl l
        cases hm : (foP hb (sqP n) i).1 with
        | none => simp only [en, btP]; exact ⟨fun q => absurd q (q_NOle (by omega)), fun q => absurd trivial q⟩
        | some m =>
          have hm6 := hbd m hm
          simp only [en, btP, decide_eq_true_eq]
          rw [nI_leI (by omega) (by omega)]
          omega
      by_cases hc2 : nI (hb l) ≤ en (foP hb (sqP n) i).1
      · refine ⟨v, hsz, ?_, htr, fun k => ?_⟩
        · unfold stP; rw [if_neg (hcase.mp hc2)]; exact hbs
        · unfold f_X0_find_b12
          rw [if_neg (show ¬ (120 : Int32) ≤ nI i from nI_ge hi (by decide)), if_neg (by decide), hh]
          simp only [Option.bind]
          rw [hbs.1, if_pos hc2]
      · refine ⟨oC (oF v 3 (nI (hb l))) 1 (va_cpy (v.2 0) (v.2 1) 0 0 5), hsz, ?_, htr, fun k => ?_⟩
        · unfold stP
          rw [if_pos (Classical.not_not.mp (fun q => hc2 (hcase.mpr q)))]
          refine ⟨rfl, fun _ j hj => ?_⟩
          show va_cpy (v.2 0) (v.2 1) 0 0 5 j = _
          rw [q_cpy hj]
          exact (htr j hj).1
        · unfold f_X0_find_b12
          rw [if_neg (show ¬ (120 : Int32) ≤ nI i from nI_ge hi (by decide)), if_neg (by decide), hh]
          simp only [Option.bind, hlet]
          rw [hbs.1, if_neg hc2]
          rfl
    obtain ⟨w, w1, w2, w3, w4⟩ := hcmp
    obtain ⟨t1, t2⟩ := x_turn hn1 hn w1 w3
    have hsn : sqP n (i + 1) = (nxP n (fL l)).map l5 := by show (sqP n i).bind _ = _; rw [hl]; rfl
    have mu : 120 - Int32.toNatClampNeg (nI (i + 1)) < 120 - Int32.toNatClampNeg (nI i) := by rw [nI_clamp (by omega), nI_clamp (by omega)]; omega
    cases hnx : nxP n (fL l) with
    | none =>
      refine ⟨(w, 0, nI (i + 1)), ⟨i + 1, hi, rfl, w1, w2, Or.inr ⟨rfl, by rw [hsn, hnx]; rfl⟩⟩, mu, fun k => ?_⟩
      show f_X0_find_b12 v vc 1 (nI i) k = _
      rw [w4]
      unfold f_X0_find_b58
      rw [t1 hnx, nI_1]
      rfl
    | some t' =>
      obtain ⟨w', q1, q2, q3⟩ := t2 t' hnx
      refine ⟨(w', 1, nI (i + 1)), ⟨i + 1, hi, rfl, (q3.1 2 (by decide)).trans w1, ⟨(q3.1 3 (by decide)).trans w2.1, fun h j hj => by rw [q3.2 1 (by decide)]; exact w2.2 h j hj⟩, Or.inl ⟨rfl, l5 t', by rw [hsn, hnx]; rfl, fun j hj => by rw [fL_l5 t' j hj]; exact q2 j hj⟩⟩, mu, fun k => ?_⟩
      show f_X0_find_b12 v vc 1 (nI i) k = _
      rw [w4]
      unfold f_X0_find_b58
      rw [q1, nI_1]
      rfl
  · right
    have hx : x = 0 := hx
    subst hx
    have hF := foP_none (hb := hb) hno (120 - i)
    rw [show i + (120 - i) = 120 by omega] at hF
    refine ⟨_, ⟨v, rfl, hsz, by rw [hF]; exact hbs⟩, fun k => ?_⟩
    show f_X0_find_b12 v vc 0 (nI i) k = _
    unfold f_X0_find_b12
    rw [if_neg (show ¬ (120 : Int32) ≤ nI i from nI_ge hi (by decide)), if_pos rfl]
theorem x_find {vb vc : obV} {n : Nat} {K T C : Nat → Nat} {P : Nat} {ch : Int32} {hb : List Nat → Nat} (hn1 : 1 ≤ n) (hc : cvX vc n K T C P ch) (ho : okC n K T C P) (hbi : ∀ l, hb l = hB n K T P (fL l)) : ∃ v', f_X0_find vb vc = some v' ∧ v'.1 2 = nI n ∧ bsX v' (foP hb (sqP n) 120) := by
  obtain ⟨v1, b1, b2, b3, b4⟩ := x_begin0 (vb := vb) hc.1
  obtain ⟨v', r1, r2, r3⟩ := x_findloop hn1 hc ho hbi b2 b3 b4
  refine ⟨v', ?_, r2, r3⟩
  unfold f_X0_find
  rw [b1, bind_e]
  exact r1
