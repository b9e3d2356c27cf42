/-! PILGRIM, DAY, WAITING, ORDER, FIT -/
def sPl (n : Nat) (K T C : Nat → Nat) (P k : Nat) (sl sm : Nat → Nat) (p w : Nat) : Int32 := if w = 0 then nI (K p) else if w = 1 then nI (T p) else if w = 2 then nI (C p) else if w = 3 then nI (sSt K p) else if w = 4 then nI (sWr K p) else if w = 5 then en ((dRn n K T C P 20).1 p) else if w = 6 then nI (sWs n K T C P p) else if w = 7 then en ((dRn n K T C P 20).2.1 p) else if w = 8 then nI (sBi (sWh n K T C P p k sl sm) 10) else en (sLk n K T C P p (sBi (sWh n K T C P p k sl sm) 10))
theorem sPl_0 {n : Nat} {K T C : Nat → Nat} {P k : Nat} {sl sm : Nat → Nat} {p : Nat} : sPl n K T C P k sl sm p 0 = nI (K p) := by unfold sPl; rw [if_pos rfl]
theorem sPl_1 {n : Nat} {K T C : Nat → Nat} {P k : Nat} {sl sm : Nat → Nat} {p : Nat} : sPl n K T C P k sl sm p 1 = nI (T p) := by unfold sPl; rw [if_neg (show ¬ (1 : Nat) = 0 by decide), if_pos rfl]
theorem sPl_2 {n : Nat} {K T C : Nat → Nat} {P k : Nat} {sl sm : Nat → Nat} {p : Nat} : sPl n K T C P k sl sm p 2 = nI (C p) := by unfold sPl; rw [if_neg (show ¬ (2 : Nat) = 0 by decide), if_neg (show ¬ (2 : Nat) = 1 by decide), if_pos rfl]
theorem sPl_3 {n : Nat} {K T C : Nat → Nat} {P k : Nat} {sl sm : Nat → Nat} {p : Nat} : sPl n K T C P k sl sm p 3 = nI (sSt K p) := by unfold sPl; rw [if_neg (show ¬ (3 : Nat) = 0 by decide), if_neg (show ¬ (3 : Nat) = 1 by decide), if_neg (show ¬ (3 : Nat) = 2 by decide), if_pos rfl]
theorem sPl_4 {n : Nat} {K T C : Nat → Nat} {P k : Nat} {sl sm : Nat → Nat} {p : Nat} : sPl n K T C P k sl sm p 4 = nI (sWr K p) := by unfold sPl; rw [if_neg (show ¬ (4 : Nat) = 0 by decide), if_neg (show ¬ (4 : Nat) = 1 by decide), if_neg (show ¬ (4 : Nat) = 2 by decide), if_neg (show ¬ (4 : Nat) = 3 by decide), if_pos rfl]
theorem sPl_5 {n : Nat} {K T C : Nat → Nat} {P k : Nat} {sl sm : Nat → Nat} {p : Nat} : sPl n K T C P k sl sm p 5 = en ((dRn n K T C P 20).1 p) := by unfold sPl; rw [if_neg (show ¬ (5 : Nat) = 0 by decide), if_neg (show ¬ (5 : Nat) = 1 by decide), if_neg (show ¬ (5 : Nat) = 2 by decide), if_neg (show ¬ (5 : Nat) = 3 by decide), if_neg (show ¬ (5 : Nat) = 4 by decide), if_pos rfl]
theorem sPl_6 {n : Nat} {K T C : Nat → Nat} {P k : Nat} {sl sm : Nat → Nat} {p : Nat} : sPl n K T C P k sl sm p 6 = nI (sWs n K T C P p) := by unfold sPl; rw [if_neg (show ¬ (6 : Nat) = 0 by decide), if_neg (show ¬ (6 : Nat) = 1 by decide), if_neg (show ¬ (6 : Nat) = 2 by decide), if_neg (show ¬ (6 : Nat) = 3 by decide), if_neg (show ¬ (6 : Nat) = 4 by decide), if_neg (show ¬ (6 : Nat) = 5 by decide), if_pos rfl]
theorem sPl_7 {n : Nat} {K T C : Nat → Nat} {P k : Nat} {sl sm : Nat → Nat} {p : Nat} : sPl n K T C P k sl sm p 7 = en ((dRn n K T C P 20).2.1 p) := by unfold sPl; rw [if_neg (show ¬ (7 : Nat) = 0 by decide), if_neg (show ¬ (7 : Nat) = 1 by decide), if_neg (show ¬ (7 : Nat) = 2 by decide), if_neg (show ¬ (7 : Nat) = 3 by decide), if_neg (show ¬ (7 : Nat) = 4 by decide), if_neg (show ¬ (7 : Nat) = 5 by decide), if_neg (show ¬ (7 : Nat) = 6 by decide), if_pos rfl]
theorem sPl_8 {n : Nat} {K T C : Nat → Nat} {P k : Nat} {sl sm : Nat → Nat} {p : Nat} : sPl n K T C P k sl sm p 8 = nI (sBi (sWh n K T C P p k sl sm) 10) := by unfold sPl; rw [if_neg (show ¬ (8 : Nat) = 0 by decide), if_neg (show ¬ (8 : Nat) = 1 by decide), if_neg (show ¬ (8 : Nat) = 2 by decide), if_neg (show ¬ (8 : Nat) = 3 by decide), if_neg (show ¬ (8 : Nat) = 4 by decide), if_neg (show ¬ (8 : Nat) = 5 by decide), if_neg (show ¬ (8 : Nat) = 6 by decide), if_neg (show ¬ (8 : Nat) = 7 by decide), if_pos rfl]
theorem sPl_9 {n : Nat} {K T C : Nat → Nat} {P k : Nat} {sl sm : Nat → Nat} {p : Nat} : sPl n K T C P k sl sm p 9 = en (sLk n K T C P p (sBi (sWh n K T C P p k sl sm) 10)) := by unfold sPl; rw [if_neg (show ¬ (9 : Nat) = 0 by decide), if_neg (show ¬ (9 : Nat) = 1 by decide), if_neg (show ¬ (9 : Nat) = 2 by decide), if_neg (show ¬ (9 : Nat) = 3 by decide), if_neg (show ¬ (9 : Nat) = 4 by decide), if_neg (show ¬ (9 : Nat) = 5 by decide), if_neg (show ¬ (9 : Nat) = 6 by decide), if_neg (show ¬ (9 : Nat) = 7 by decide), if_neg (show ¬ (9 : Nat) = 8 by decide)]
theorem x_tellPilgrim {vt vn vs vd : obV} {wt : Nat → Nat → Int32} {n : Nat} {K T C : Nat → Nat} {P : Nat} {ch : Int32} {k : Nat} {sl sm : Nat → Nat} {p w : Nat} (hc : cvX vn n K T C P ch) (ho : okC n K T C P) (hs : snX vs k sl sm) (hso : okS k sl sm) (hp : p < n) (hw : w ≤ 9) (hd : 5 ≤ w → w ≤ 7 → dzX vd n K T C P 20) (ht : 8 ≤ w → trX vt wt n K T C P p) : ∃ v', f_X6_tellPilgrim vt wt vn vs vd (nI p) (nI w) = some (sPl n K T C P k sl sm p w, v') ∧ v'.2 2 = vt.2 2 := by
  have hn := ho.1
  have i1 := nI_in (show p < 5 by omega) (by decide)
  have i2 := nI_clamp (show p < 2 ^ 31 by omega)
  unfold f_X6_tellPilgrim
  obtain rfl | rfl | rfl | rfl | rfl | rfl | rfl | rfl | rfl | rfl : w = 0 ∨ w = 1 ∨ w = 2 ∨ w = 3 ∨ w = 4 ∨ w = 5 ∨ w = 6 ∨ w = 7 ∨ w = 8 ∨ w = 9 := by omega
  · rw [if_pos (show nI 0 = 0 by decide), if_neg i1, i2, (hc.2.2.2 p hp).1, sPl_0]
    exact ⟨_, rfl, rfl⟩
  · rw [if_neg (show ¬ nI 1 = 0 by decide), if_pos (show nI 1 = 1 by decide), if_neg i1, i2, (hc.2.2.2 p hp).2.1, sPl_1]
    exact ⟨_, rfl, rfl⟩
  · rw [if_neg (show ¬ nI 2 = 0 by decide), if_neg (show ¬ nI 2 = 1 by decide), if_pos (show nI 2 = 2 by decide), if_neg i1, i2, (hc.2.2.2 p hp).2.2, sPl_2]
    exact ⟨_, rfl, rfl⟩
  · rw [if_neg (show ¬ nI 3 = 0 by decide), if_neg (show ¬ nI 3 = 1 by decide), if_neg (show ¬ nI 3 = 2 by decide), if_pos (show nI 3 = 3 by decide), x_stays (K := K) (by omega) (hc.2.2.2 p hp).1 (ho.2.2 p hp).1, bind_e, sPl_3]
    exact ⟨_, rfl, rfl⟩
  · rw [if_neg (show ¬ nI 4 = 0 by decide), if_neg (show ¬ nI 4 = 1 by decide), if_neg (show ¬ nI 4 = 2 by decide), if_neg (show ¬ nI 4 = 3 by decide), if_pos (show nI 4 = 4 by decide), x_wears (K := K) (by omega) (hc.2.2.2 p hp).1 (ho.2.2 p hp).1, bind_e, sPl_4]
    exact ⟨_, rfl, rfl⟩
  · rw [if_neg (show ¬ nI 5 = 0 by decide), if_neg (show ¬ nI 5 = 1 by decide), if_neg (show ¬ nI 5 = 2 by decide), if_neg (show ¬ nI 5 = 3 by decide), if_neg (show ¬ nI 5 = 4 by decide), if_pos (show nI 5 = 5 by decide), if_neg i1, i2, ((hd (by decide) (by decide)).1.2.2.2.2 p hp).2.1, sPl_5]
    exact ⟨_, rfl, rfl⟩
  · rw [if_neg (show ¬ nI 6 = 0 by decide), if_neg (show ¬ nI 6 = 1 by decide), if_neg (show ¬ nI 6 = 2 by decide), if_neg (show ¬ nI 6 = 3 by decide), if_neg (show ¬ nI 6 = 4 by decide), if_neg (show ¬ nI 6 = 5 by decide), if_pos (show nI 6 = 6 by decide), x_slotsWaited hn ho.k ho.c ho.2.1 (hd (by decide) (by decide)) hp, bind_e, sPl_6]
    exact ⟨_, rfl, rfl⟩
  · rw [if_neg (show ¬ nI 7 = 0 by decide), if_neg (show ¬ nI 7 = 1 by decide), if_neg (show ¬ nI 7 = 2 by decide), if_neg (show ¬ nI 7 = 3 by decide), if_neg (show ¬ nI 7 = 4 by decide), if_neg (show ¬ nI 7 = 5 by decide), if_neg (show ¬ nI 7 = 6 by decide), if_pos (show nI 7 = 7 by decide), if_neg i1, i2, ((hd (by decide) (by decide)).1.2.2.2.2 p hp).2.2, sPl_7]
    exact ⟨_, rfl, rfl⟩
  · rw [if_neg (show ¬ nI 8 = 0 by decide), if_neg (show ¬ nI 8 = 1 by decide), if_neg (show ¬ nI 8 = 2 by decide), if_neg (show ¬ nI 8 = 3 by decide), if_neg (show ¬ nI 8 = 4 by decide), if_neg (show ¬ nI 8 = 5 by decide), if_neg (show ¬ nI 8 = 6 by decide), if_neg (show ¬ nI 8 = 7 by decide), if_pos (show nI 8 = 8 by decide), x_possible hn (ht (by decide)) hs hso, bind_e, sPl_8]
    exact ⟨_, rfl, rfl⟩
  · rw [if_neg (show ¬ nI 9 = 0 by decide), if_neg (show ¬ nI 9 = 1 by decide), if_neg (show ¬ nI 9 = 2 by decide), if_neg (show ¬ nI 9 = 3 by decide), if_neg (show ¬ nI 9 = 4 by decide), if_neg (show ¬ nI 9 = 5 by decide), if_neg (show ¬ nI 9 = 6 by decide), if_neg (show ¬ nI 9 = 7 by decide), if_neg (show ¬ nI 9 = 8 by decide), x_possible hn (ht (by decide)) hs hso, bind_e, sPl_9]
    have hb : sBi (sWh n K T C P p k sl sm) 10 < 1024 := sBi_lt _ 10
    generalize sBi (sWh n K T C P p k sl sm) 10 = b at hb ⊢
    unfold sLk
    by_cases h0 : b = 0
    · unfold f_X5_bestLook
      rw [if_pos h0, h0, if_pos nI_0, bind_e]
      exact ⟨_, rfl, rfl⟩
    · obtain ⟨v', r1, r2⟩ := x_look hn hb h0 (ht (by decide))
      rw [if_neg h0, r1, bind_e]
      exact ⟨_, rfl, r2⟩
theorem m_tell {v : obV} {n : Nat} {K T C : Nat → Nat} {P : Nat} {ch : Int32} {k : Nat} {sl sm : Nat → Nat} {p w : Nat} (hc : cvM v n K T C P ch) (ho : okC n K T C P) (hs : snM v k sl sm) (hso : okS k sl sm) (hp : p < n) (hw : w ≤ 9) : ∃ v', f_X7_tell v (nI p) (nI w) = some (sPl n K T C P k sl sm p w, v') ∧ chM [13, 14, 15] [11, 12, 20] v v' := by
  have hn := ho.1
  obtain ⟨u, l1, l2, l3⟩ := m_layDay hc ho
  have l3 : chM [13, 14, 15] [11, 12, 20] v u := l3.mono (by decide) (by decide)
  have hcu : cvM u n K T C P ch := hc.w (l3.1 6 (by decide)) (l3.1 7 (by decide)) (l3.1 8 (by decide)) (l3.2 10 (by decide))
  have hsu : snM u k sl sm := ⟨(l3.1 18 (by decide)).trans hs.1, by rw [l3.2 19 (by decide)]; exact hs.2⟩
  have hok := dRn_ok (C := C) ho.k ho.2.1 20
  have i1 := nI_in (show p < 5 by omega) (by decide)
  have i2 := nI_clamp (show p < 2 ^ 31 by omega)
  obtain ⟨r1, r2, r3⟩ := hcu.2.2.2 p hp
  unfold f_X7_tell
  rw [l1, bind_e]
  obtain rfl | rfl | rfl | rfl | rfl | rfl | rfl | rfl | rfl | rfl : w = 0 ∨ w = 1 ∨ w = 2 ∨ w = 3 ∨ w = 4 ∨ w = 5 ∨ w = 6 ∨ w = 7 ∨ w = 8 ∨ w = 9 := by omega
  · rw [if_pos (show nI 0 = 0 by decide), q_l3, pk_mul, nI_add, if_neg (nI_in (show 3 * p + 0 < 15 by omega) (by decide)), nI_clamp (by omega), Nat.add_zero, r1, sPl_0]
    exact ⟨_, rfl, l3⟩
  · rw [if_neg (show ¬ nI 1 = 0 by decide), if_pos (show nI 1 = 1 by decide), q_l3, pk_mul, nI_add, if_neg (nI_in (show 3 * p + 1 < 15 by omega) (by decide)), nI_clamp (by omega), r2, sPl_1]
    exact ⟨_, rfl, l3⟩
  · rw [if_neg (show ¬ nI 2 = 0 by decide), if_neg (show ¬ nI 2 = 1 by decide), if_pos (show nI 2 = 2 by decide), q_l3, pk_mul, nI_add, if_neg (nI_in (show 3 * p + 2 < 15 by omega) (by decide)), nI_clamp (by omega), r3, sPl_2]
    exact ⟨_, rfl, l3⟩
  · rw [if_neg (show ¬ nI 3 = 0 by decide), if_neg (show ¬ nI 3 = 1 by decide), if_neg (show ¬ nI 3 = 2 by decide), if_pos (show nI 3 = 3 by decide), m_stays (K := K) (by omega) r1 (ho.2.2 p hp).1, bind_e, sPl_3]
    exact ⟨_, rfl, l3⟩
  · rw [if_neg (show ¬ nI 4 = 0 by decide), if_neg (show ¬ nI 4 = 1 by decide), if_neg (show ¬ nI 4 = 2 by decide), if_neg (show ¬ nI 4 = 3 by decide), if_pos (show nI 4 = 4 by decide), m_wears (K := K) (by omega) r1 (ho.2.2 p hp).1, bind_e, sPl_4]
    exact ⟨_, rfl, l3⟩
  · rw [if_neg (show ¬ nI 5 = 0 by decide), if_neg (show ¬ nI 5 = 1 by decide), if_neg (show ¬ nI 5 = 2 by decide), if_neg (show ¬ nI 5 = 3 by decide), if_neg (show ¬ nI 5 = 4 by decide), if_pos (show nI 5 = 5 by decide), if_neg i1, i2, (l2.2.2.2 p hp).1, sPl_5]
    exact ⟨_, rfl, l3⟩
  · rw [if_neg (show ¬ nI 6 = 0 by decide), if_neg (show ¬ nI 6 = 1 by decide), if_neg (show ¬ nI 6 = 2 by decide), if_neg (show ¬ nI 6 = 3 by decide), if_neg (show ¬ nI 6 = 4 by decide), if_neg (show ¬ nI 6 = 5 by decide), if_pos (show nI 6 = 6 by decide), m_waitsOf hn hcu.2.2.2 ho.c l2 hok hp, bind_e, sPl_6]
    exact ⟨_, rfl, l3⟩
  · rw [if_neg (show ¬ nI 7 = 0 by decide), if_neg (show ¬ nI 7 = 1 by decide), if_neg (show ¬ nI 7 = 2 by decide), if_neg (show ¬ nI 7 = 3 by decide), if_neg (show ¬ nI 7 = 4 by decide), if_neg (show ¬ nI 7 = 5 by decide), if_neg (show ¬ nI 7 = 6 by decide), if_pos (show nI 7 = 7 by decide), if_neg i1, i2, (l2.2.2.2 p hp).2, sPl_7]
    exact ⟨_, rfl, l3⟩
  · obtain ⟨v', q1, q2⟩ := m_when hcu ho hp hsu hso
    rw [if_neg (show ¬ nI 8 = 0 by decide), if_neg (show ¬ nI 8 = 1 by decide), if_neg (show ¬ nI 8 = 2 by decide), if_neg (show ¬ nI 8 = 3 by decide), if_neg (show ¬ nI 8 = 4 by decide), if_neg (show ¬ nI 8 = 5 by decide), if_neg (show ¬ nI 8 = 6 by decide), if_neg (show ¬ nI 8 = 7 by decide), if_pos (show nI 8 = 8 by decide), q1, bind_e, sPl_8]
    exact ⟨_, rfl, l3.tr q2⟩
  · obtain ⟨v', q1, q2⟩ := m_look hcu ho hp hsu hso
    rw [if_neg (show ¬ nI 9 = 0 by decide), if_neg (show ¬ nI 9 = 1 by decide), if_neg (show ¬ nI 9 = 2 by decide), if_neg (show ¬ nI 9 = 3 by decide), if_neg (show ¬ nI 9 = 4 by decide), if_neg (show ¬ nI 9 = 5 by decide), if_neg (show ¬ nI 9 = 6 by decide), if_neg (show ¬ nI 9 = 7 by decide), if_neg (show ¬ nI 9 = 8 by decide), if_pos (show nI 9 = 9 by decide), q1, bind_e, sPl_9]
    exact ⟨_, rfl, l3.tr q2⟩
theorem m_tellOut {v : obV} {n : Nat} {K T C : Nat → Nat} {P : Nat} {ch : Int32} {x1 x : Int32} (hc : cvM v n K T C P ch) (ho : okC n K T C P) (hx : f_X6_isWithin x 0 9 = some 0) : ∃ v', f_X7_tell v x1 x = some (-102, v') ∧ chM [13, 14, 15] [11, 12, 20] v v' := by
  obtain ⟨u, l1, l2, l3⟩ := m_layDay hc ho
  refine ⟨u, ?_, l3.mono (by decide) (by decide)⟩
  have hne : ∀ i : Nat, i ≤ 9 → ¬ x = nI i := fun i hi e => by
    have : ∀ i, i < 10 → f_X6_isWithin (nI i) 0 9 = some 1 := by decide
    rw [e, this i (by omega)] at hx
    exact absurd (Option.some.inj hx) q_10
  unfold f_X7_tell
  rw [l1, bind_e, if_neg (show ¬ x = 0 from fun q => hne 0 (by decide) (q.trans (by decide))), if_neg (show ¬ x = 1 from fun q => hne 1 (by decide) (q.trans (by decide))), if_neg (show ¬ x = 2 from fun q => hne 2 (by decide) (q.trans (by decide))), if_neg (show ¬ x = 3 from fun q => hne 3 (by decide) (q.trans (by decide))), if_neg (show ¬ x = 4 from fun q => hne 4 (by decide) (q.trans (by decide))), if_neg (show ¬ x = 5 from fun q => hne 5 (by decide) (q.trans (by decide))), if_neg (show ¬ x = 6 from fun q => hne 6 (by decide) (q.trans (by decide))), if_neg (show ¬ x = 7 from fun q => hne 7 (by decide) (q.trans (by decide))), if_neg (show ¬ x = 8 from fun q => hne 8 (by decide) (q.trans (by decide))), if_neg (show ¬ x = 9 from fun q => hne 9 (by decide) (q.trans (by decide)))]
def sDy (n : Nat) (K T C : Nat → Nat) (P w : Nat) : Int32 := if w = 0 then nI (sRv n K T C P) else if w = 1 then nI (sHp n K T C P 20) else if w = 2 then nI (sMt (sW n K T C P) 20) else if w = 3 then nI (dRn n K T C P 20).2.2.1 else en (dRn n K T C P 20).2.2.2.2.1
theorem sDy_0 {n : Nat} {K T C : Nat → Nat} {P : Nat} : sDy n K T C P 0 = nI (sRv n K T C P) := by unfold sDy; rw [if_pos rfl]
theorem sDy_1 {n : Nat} {K T C : Nat → Nat} {P : Nat} : sDy n K T C P 1 = nI (sHp n K T C P 20) := by unfold sDy; rw [if_neg (show ¬ (1 : Nat) = 0 by decide), if_pos rfl]
theorem sDy_2 {n : Nat} {K T C : Nat → Nat} {P : Nat} : sDy n K T C P 2 = nI (sMt (sW n K T C P) 20) := by unfold sDy; rw [if_neg (show ¬ (2 : Nat) = 0 by decide), if_neg (show ¬ (2 : Nat) = 1 by decide), if_pos rfl]
theorem sDy_3 {n : Nat} {K T C : Nat → Nat} {P : Nat} : sDy n K T C P 3 = nI (dRn n K T C P 20).2.2.1 := by unfold sDy; rw [if_neg (show ¬ (3 : Nat) = 0 by decide), if_neg (show ¬ (3 : Nat) = 1 by decide), if_neg (show ¬ (3 : Nat) = 2 by decide), if_pos rfl]
theorem sDy_4 {n : Nat} {K T C : Nat → Nat} {P : Nat} : sDy n K T C P 4 = en (dRn n K T C P 20).2.2.2.2.1 := by unfold sDy; rw [if_neg (show ¬ (4 : Nat) = 0 by decide), if_neg (show ¬ (4 : Nat) = 1 by decide), if_neg (show ¬ (4 : Nat) = 2 by decide), if_neg (show ¬ (4 : Nat) = 3 by decide)]
theorem x_tellDay {vd : obV} {n : Nat} {K T C : Nat → Nat} {P w : Nat} (ho : okC n K T C P) (hw : w ≤ 4) (hd : dzX vd n K T C P 20) : f_X6_tellDay vd (nI w) = some (sDy n K T C P w) := by
  have hn := ho.1
  unfold f_X6_tellDay
  obtain rfl | rfl | rfl | rfl | rfl : w = 0 ∨ w = 1 ∨ w = 2 ∨ w = 3 ∨ w = 4 := by omega
  · rw [if_pos (show nI 0 = 0 by decide), x_received hn ho.k ho.c ho.2.1 hd, bind_e, sDy_0]
  · rw [if_neg (show ¬ nI 1 = 0 by decide), if_pos (show nI 1 = 1 by decide), x_helped ho.k ho.2.1 hd, bind_e, sDy_1]
  · rw [if_neg (show ¬ nI 2 = 0 by decide), if_neg (show ¬ nI 2 = 1 by decide), if_pos (show nI 2 = 2 by decide), x_meetings hn hd, bind_e, sDy_2]
  · rw [if_neg (show ¬ nI 3 = 0 by decide), if_neg (show ¬ nI 3 = 1 by decide), if_neg (show ¬ nI 3 = 2 by decide), if_pos (show nI 3 = 3 by decide), hd.1.2.1, sDy_3]
  · rw [if_neg (show ¬ nI 4 = 0 by decide), if_neg (show ¬ nI 4 = 1 by decide), if_neg (show ¬ nI 4 = 2 by decide), if_neg (show ¬ nI 4 = 3 by decide), hd.1.2.2.2.1, sDy_4]
theorem m_dayOf {v : obV} {n : Nat} {K T C : Nat → Nat} {P w : Nat} {ch : Int32} (hc : cvM v n K T C P ch) (ho : okC n K T C P) (hw : w ≤ 4) : ∃ v', f_X7_dayOf v (nI w) = some (sDy n K T C P w, v') ∧ chM [13, 14, 15] [11, 12] v v' := by
  have hn := ho.1
  obtain ⟨u, l1, l2, l3⟩ := m_layDay hc ho
  have hcu : cvM u n K T C P ch := hc.w (l3.1 6 (by decide)) (l3.1 7 (by decide)) (l3.1 8 (by decide)) (l3.2 10 (by decide))
  have hok := dRn_ok (C := C) ho.k ho.2.1 20
  unfold f_X7_dayOf
  rw [l1, bind_e]
  refine ⟨u, ?_, l3⟩
  obtain rfl | rfl | rfl | rfl | rfl : w = 0 ∨ w = 1 ∨ w = 2 ∨ w = 3 ∨ w = 4 := by omega
  · rw [if_pos (show nI 0 = 0 by decide), m_received hn hcu.1 l2 hok, bind_e, sDy_0]
  · rw [if_neg (show ¬ nI 1 = 0 by decide), if_pos (show nI 1 = 1 by decide), m_helped hn hcu.1 l2 hok, bind_e, sDy_1]
  · rw [if_neg (show ¬ nI 2 = 0 by decide), if_neg (show ¬ nI 2 = 1 by decide), if_pos (show nI 2 = 2 by decide), m_meetings hn hcu.1 hcu.2.2.2 ho.c l2 hok, bind_e, sDy_2]
  · rw [if_neg (show ¬ nI 3 = 0 by decide), if_neg (show ¬ nI 3 = 1 by decide), if_neg (show ¬ nI 3 = 2 by decide), if_pos (show nI 3 = 3 by decide), l2.1, sDy_3]
  · rw [if_neg (show ¬ nI 4 = 0 by decide), if_neg (show ¬ nI 4 = 1 by decide), if_neg (show ¬ nI 4 = 2 by decide), if_neg (show ¬ nI 4 = 3 by decide), l2.2.1, sDy_4]
theorem x_row {vd : obV} {n : Nat} {K T C : Nat → Nat} {P j : Nat} (hd : dzX vd n K T C P 20) (hj : j < 20) : vd.2 3 j = nI (sW n K T C P j) := by rw [hd.2 j hj, sW_eq hj]
theorem m_waitingOf {v : obV} {n : Nat} {K T C : Nat → Nat} {P j : Nat} {ch : Int32} (hc : cvM v n K T C P ch) (ho : okC n K T C P) (hj : j < 20) : ∃ v', f_X7_waitingOf v (nI j) = some (nI (sW n K T C P j), v') ∧ chM [13, 14, 15] [11, 12] v v' := by
  obtain ⟨u, l1, l2, l3⟩ := m_layDay hc ho
  have hcu : cvM u n K T C P ch := hc.w (l3.1 6 (by decide)) (l3.1 7 (by decide)) (l3.1 8 (by decide)) (l3.2 10 (by decide))
  unfold f_X7_waitingOf
  rw [l1, bind_e, m_waitingAt ho.1 hcu.1 hcu.2.2.2 ho.c l2 (dRn_ok ho.k ho.2.1 20) hj, bind_e]
  exact ⟨u, rfl, l3⟩

theorem op_pilgrim {t : Nat} {v_x : obV} {v_x_page : obV} {v_x_now : obV} {v_x_now_seen : obV} {v_x_kept : obV} {v_x_kept_seen : obV} {v_x_today : obV} {v_x_trials : obV} {w_x_trials : Nat → Nat → Int32} {v_x_trials_day : obV} {v_x_best : obV} {v_m : obV} {h_m : Int64} (hR : Rel t v_x v_x_page v_x_now v_x_now_seen v_x_kept v_x_kept_seen v_m) (x1 : Int32) (x2 : Int32) : ∃ (ux : Int32 × obV × obV × (Nat → Nat → Int32) × obV) (um : Int32 × obV), f_X6_pilgrim v_x_now v_x_today v_x_trials w_x_trials v_x_trials_day v_x_now_seen x1 x2 = some ux ∧ f_X7_pilgrim v_m x1 x2 = some um ∧ ux.1 = um.1 ∧ Rel (t + 1) (v_x) (v_x_page) (v_x_now) (v_x_now_seen) (v_x_kept) (v_x_kept_seen) (um.2) := by
  obtain ⟨pg, ⟨k, sl, sm, s1, s2, s3⟩, n, rd, ⟨K, T, C, P, ch, a, b, ho⟩, d, e, f, g⟩ := id hR
  have hn := ho.1
  unfold f_X6_pilgrim f_X7_pilgrim
  rw [m_isPilgrim x1 hn b.1 a.1]
  rcases x_has x1 hn a.1 with h | ⟨p, hp, rfl, h⟩
  · rw [h, bind_e, bind_e, if_pos rfl, if_pos rfl]
    exact ⟨_, _, rfl, rfl, rfl, hR.up⟩
  · rw [h, bind_e, bind_e, if_neg q_10, if_neg q_10]
    rcases w_case x2 (lo := 0) (hi := 9) 0 9 (by decide) (by decide) (by decide) (by decide) with h | ⟨w, h1, h2, rfl, h⟩
    · obtain ⟨v', q1, q2⟩ := m_tellOut (x1 := nI p) b ho h
      rw [h, bind_e, if_pos rfl, q1, bind_e]
      exact ⟨_, _, rfl, rfl, rfl, hR.s (q2.s (by decide) (by decide))⟩
    · obtain ⟨v', q1, q2⟩ := m_tell (w := w) b ho s2 s3 hp h2
      rw [h, bind_e, if_neg q_10, q1, bind_e]
      have hR' := hR.s (q2.s (by decide) (by decide))
      -- behind the day
      have tail : ∀ vd : obV, (5 ≤ w → w ≤ 7 → dzX vd n K T C P 20) → ∃ ux : Int32 × obV × obV × (Nat → Nat → Int32) × obV, f_X6_pilgrim_b48 v_x_now vd v_x_trials w_x_trials v_x_trials_day v_x_now_seen (nI p) (nI w) = some ux ∧ ux.1 = sPl n K T C P k sl sm p w := by
        intro vd hd
        unfold f_X6_pilgrim_b48
        by_cases h8 : w < 8
        · obtain ⟨v', r1, _⟩ := x_tellPilgrim (vt := v_x_trials) (wt := w_x_trials) (w := w) a ho s1 s3 hp h2 hd (fun q => by omega)
          unfold f_X6_pilgrim_b66
          rw [if_pos (by rw [q_l8]; exact nI_lt h8 (by decide)), r1, bind_e]
          exact ⟨_, rfl, rfl⟩
        · obtain ⟨u, t1, t2⟩ := x_tpass (v := v_x_trials) (w := w_x_trials) (vd := v_x_trials_day) a ho hp
          obtain ⟨v', r1, _⟩ := x_tellPilgrim (vt := u.1) (wt := u.2.1) (w := w) a ho s1 s3 hp h2 hd (fun _ => t2)
          unfold f_X6_pilgrim_b66
          rw [if_neg (by rw [q_l8]; exact nI_nlt (by omega) (by omega)), t1, bind_e, r1, bind_e]
          exact ⟨_, rfl, rfl⟩
      rcases w_case (nI w) (lo := 5) (hi := 7) 5 7 (by decide) (by decide) (by decide) (by decide) with h | ⟨w', h3, h4, e5, h⟩
      · obtain ⟨ux, t1, t2⟩ := tail v_x_today (fun q1 q2 => by
          have : ∀ i, i < 8 → 5 ≤ i → f_X6_isWithin (nI i) 5 7 = some 1 := by decide
          rw [this w (by omega) q1] at h
          exact absurd (Option.some.inj h) q_10)
        rw [h, bind_e, if_pos rfl, t1]
        exact ⟨_, _, rfl, rfl, t2, hR'⟩
      · obtain ⟨vd, d1, d2⟩ := x_pass (v := v_x_today) a ho
        obtain ⟨ux, t1, t2⟩ := tail vd (fun _ _ => d2)
        rw [h, bind_e, if_neg q_10, d1, bind_e, t1]
        exact ⟨_, _, rfl, rfl, t2, hR'⟩
theorem op_day {t : Nat} {v_x : obV} {v_x_page : obV} {v_x_now : obV} {v_x_now_seen : obV} {v_x_kept : obV} {v_x_kept_seen : obV} {v_x_today : obV} {v_x_trials : obV} {w_x_trials : Nat → Nat → Int32} {v_x_trials_day : obV} {v_x_best : obV} {v_m : obV} {h_m : Int64} (hR : Rel t v_x v_x_page v_x_now v_x_now_seen v_x_kept v_x_kept_seen v_m) (x1 : Int32) : ∃ (ux : Int32 × obV) (um : Int32 × obV), f_X6_day v_x_now v_x_today x1 = some ux ∧ f_X7_day v_m x1 = some um ∧ ux.1 = um.1 ∧ Rel (t + 1) (v_x) (v_x_page) (v_x_now) (v_x_now_seen) (v_x_kept) (v_x_kept_seen) (um.2) := by
  obtain ⟨pg, sn, n, rd, ⟨K, T, C, P, ch, a, b, ho⟩, d, e, f, g⟩ := id hR
  have hn := ho.1
  unfold f_X6_day f_X7_day
  rw [show (0 : Int64) = (0 : Int32).toInt64 from rfl, show (4 : Int64) = (4 : Int32).toInt64 from rfl, q_in]
  rcases w_case x1 (lo := 0) (hi := 4) 0 4 (by decide) (by decide) (by decide) (by decide) with h | ⟨k, h1, h2, rfl, h⟩
  · rw [h, bind_e, bind_e, if_pos rfl, if_pos rfl]
    exact ⟨_, _, rfl, rfl, rfl, hR.up⟩
  · rw [h, bind_e, bind_e, if_neg q_10, if_neg q_10, x_isNone hn a.1, m_lacks hn b.1, bind_e, bind_e]
    by_cases h0 : n = 0
    · rw [if_pos h0, if_neg (show ¬ nI 1 = 0 by decide), if_neg (show ¬ nI 1 = 0 by decide)]
      exact ⟨_, _, rfl, rfl, rfl, hR.up⟩
    · obtain ⟨vd, d1, d2⟩ := x_pass (v := v_x_today) a ho
      obtain ⟨v', q1, q2⟩ := m_dayOf (w := k) b ho h2
      rw [if_neg h0, if_pos nI_0, if_pos nI_0, d1, bind_e, x_tellDay ho h2 d2, bind_e, q1, bind_e]
      exact ⟨_, _, rfl, rfl, rfl, hR.s (q2.s (by decide) (by decide))⟩
theorem op_waiting {t : Nat} {v_x : obV} {v_x_page : obV} {v_x_now : obV} {v_x_now_seen : obV} {v_x_kept : obV} {v_x_kept_seen : obV} {v_x_today : obV} {v_x_trials : obV} {w_x_trials : Nat → Nat → Int32} {v_x_trials_day : obV} {v_x_best : obV} {v_m : obV} {h_m : Int64} (hR : Rel t v_x v_x_page v_x_now v_x_now_seen v_x_kept v_x_kept_seen v_m) (x1 : Int32) : ∃ (ux : Int32 × obV) (um : Int32 × obV), f_X6_waiting v_x_now v_x_today x1 = some ux ∧ f_X7_waiting v_m x1 = some um ∧ ux.1 = um.1 ∧ Rel (t + 1) (v_x) (v_x_page) (v_x_now) (v_x_now_seen) (v_x_kept) (v_x_kept_seen) (um.2) := by
  obtain ⟨pg, sn, n, rd, ⟨K, T, C, P, ch, a, b, ho⟩, d, e, f, g⟩ := id hR
  have hn := ho.1
  unfold f_X6_waiting f_X7_waiting
  rw [show (0 : Int64) = (0 : Int32).toInt64 from rfl, show (19 : Int64) = (19 : Int32).toInt64 from rfl, q_in]
  rcases w_case x1 (lo := 0) (hi := 19) 0 19 (by decide) (by decide) (by decide) (by decide) with h | ⟨k, h1, h2, rfl, h⟩
  · rw [h, bind_e, bind_e, if_pos rfl, if_pos rfl]
    exact ⟨_, _, rfl, rfl, rfl, hR.up⟩
  · rw [h, bind_e, bind_e, if_neg q_10, if_neg q_10, x_isNone hn a.1, m_lacks hn b.1, bind_e, bind_e]
    by_cases h0 : n = 0
    · rw [if_pos h0, if_neg (show ¬ nI 1 = 0 by decide), if_neg (show ¬ nI 1 = 0 by decide)]
      exact ⟨_, _, rfl, rfl, rfl, hR.up⟩
    · obtain ⟨vd, d1, d2⟩ := x_pass (v := v_x_today) a ho
      obtain ⟨v', q1, q2⟩ := m_waitingOf (j := k) b ho (by omega)
      rw [if_neg h0, if_pos nI_0, if_pos nI_0, d1, bind_e, if_neg (nI_in (show k < 20 by omega) (by decide)), nI_clamp (by omega), x_row d2 (by omega), q1, bind_e]
      exact ⟨_, _, rfl, rfl, rfl, hR.s (q2.s (by decide) (by decide))⟩
theorem x_find' {vb vc : obV} {n : Nat} {K T C : Nat → Nat} {P : Nat} {ch : Int32} (hn1 : 1 ≤ n) (hc : cvX vc n K T C P ch) (ho : okC n K T C P) : ∃ v', f_X0_find vb vc = some v' ∧ v'.1 2 = nI n ∧ bsX v' (sOF n K T P) := x_find (hb := hbF n K T P) hn1 hc ho (fun _ => rfl)
theorem or_b {v_x_now v_x_best v_m : obV} {n : Nat} {K T C : Nat → Nat} {P x : Nat} {ch : Int32} (a : cvX v_x_now n K T C P ch) (b : cvM v_m n K T C P ch) (ho : okC n K T C P) (hx : x = 0 ∨ 10 ≤ x) (hx2 : x < 15) : ∃ (ux : Int32 × obV) (um : Int32 × obV), f_X6_order_b18 v_x_now v_x_best (nI x) = some ux ∧ f_X7_order_b21 v_m (nI x) = some um ∧ ux.1 = um.1 ∧ chS v_m um.2 := by
  have hn := ho.1
  unfold f_X6_order_b18 f_X7_order_b21
  rw [x_isNone hn a.1, m_lacks hn b.1, bind_e, bind_e]
  by_cases h0 : n = 0
  · rw [if_pos h0, if_neg (show ¬ nI 1 = 0 by decide), if_neg (show ¬ nI 1 = 0 by decide)]
    exact ⟨_, _, rfl, rfl, rfl, chS.rf⟩
  · obtain ⟨vb, d1, d2, d3⟩ := x_find' (vb := v_x_best) (by omega) a ho
    obtain ⟨v', q1, q2⟩ := m_orderOf (x := x) (by omega) b ho hx hx2
    rw [if_neg h0, if_pos nI_0, if_pos nI_0, d1, bind_e, x_tellOrder hn d2 d3 hx hx2, bind_e, q1, bind_e]
    exact ⟨_, _, rfl, rfl, rfl, q2.s (by decide) (by decide)⟩
theorem op_order {t : Nat} {v_x : obV} {v_x_page : obV} {v_x_now : obV} {v_x_now_seen : obV} {v_x_kept : obV} {v_x_kept_seen : obV} {v_x_today : obV} {v_x_trials : obV} {w_x_trials : Nat → Nat → Int32} {v_x_trials_day : obV} {v_x_best : obV} {v_m : obV} {h_m : Int64} (hR : Rel t v_x v_x_page v_x_now v_x_now_seen v_x_kept v_x_kept_seen v_m) (x1 : Int32) : ∃ (ux : Int32 × obV) (um : Int32 × obV), f_X6_order v_x_now v_x_best x1 = some ux ∧ f_X7_order v_m x1 = some um ∧ ux.1 = um.1 ∧ Rel (t + 1) (v_x) (v_x_page) (v_x_now) (v_x_now_seen) (v_x_kept) (v_x_kept_seen) (um.2) := by
  obtain ⟨pg, sn, n, rd, ⟨K, T, C, P, ch, a, b, ho⟩, d, e, f, g⟩ := id hR
  unfold f_X6_order f_X7_order
  by_cases h0 : x1 = 0
  · obtain ⟨ux, um, r1, r2, r3, r4⟩ := or_b (v_x_best := v_x_best) (x := 0) a b ho (Or.inl rfl) (by decide)
    rw [if_pos h0, if_pos h0, h0]
    exact ⟨ux, um, r1, r2, r3, hR.s r4⟩
  · rw [if_neg h0, if_neg h0, show (10 : Int64) = (10 : Int32).toInt64 from rfl, show (14 : Int64) = (14 : Int32).toInt64 from rfl, q_in]
    rcases w_case x1 (lo := 10) (hi := 14) 10 14 (by decide) (by decide) (by decide) (by decide) with h | ⟨k, h1, h2, rfl, h⟩
    · rw [h, bind_e, bind_e, if_pos rfl, if_pos rfl]
      exact ⟨_, _, rfl, rfl, rfl, hR.up⟩
    · obtain ⟨ux, um, r1, r2, r3, r4⟩ := or_b (v_x_best := v_x_best) (x := k) a b ho (Or.inr h1) (by omega)
      rw [h, bind_e, bind_e, if_neg q_10, if_neg q_10]
      exact ⟨ux, um, r1, r2, r3, hR.s r4⟩
def sFt (n : Nat) (K T C : Nat → Nat) (P p w : Nat) : Int32 := if w = 0 then nI (sLm (sMM n K T C P p) 10) else nI (sMM n K T C P p (sLm (sMM n K T C P p) 10))
theorem x_tellFit {v : obV} {wt : Nat → Nat → Int32} {n : Nat} {K T C : Nat → Nat} {P p w : Nat} (hn : n ≤ 5) (h : trX v wt n K T C P p) (hw : w ≤ 1) : f_X6_tellFit v (nI w) = some (sFt n K T C P p w) := by
  have hl : sLm (sMM n K T C P p) 10 < 10 := sLm_lt _ 9
  unfold f_X6_tellFit sFt
  rw [x_least hn h, bind_e]
  by_cases h0 : w = 0
  · rw [h0, if_pos nI_0, if_pos rfl]
  · rw [if_neg (nI_ne0 (by omega) (by omega)), if_neg h0, if_neg (nI_in hl (by decide)), nI_clamp (by omega), (h _ hl).2]
theorem m_fit' {v : obV} {n : Nat} {K T C : Nat → Nat} {P p w : Nat} {ch : Int32} (hc : cvM v n K T C P ch) (ho : okC n K T C P) (hp : p < n) (hw : w ≤ 1) : ∃ v', f_X7_fitOf v (nI p) (nI w) = some (sFt n K T C P p w, v') ∧ chM [13, 14, 15] [11, 12, 20] v v' := by
  obtain ⟨v', q1, q2⟩ := m_fit (x2 := nI w) hc ho hp
  refine ⟨v', ?_, q2⟩
  rw [q1]
  unfold sFt
  by_cases h0 : w = 0
  · rw [h0, if_pos nI_0, if_pos rfl]
  · rw [if_neg (nI_ne0 (by omega) (by omega)), if_neg h0]
theorem op_fit {t : Nat} {v_x : obV} {v_x_page : obV} {v_x_now : obV} {v_x_now_seen : obV} {v_x_kept : obV} {v_x_kept_seen : obV} {v_x_today : obV} {v_x_trials : obV} {w_x_trials : Nat → Nat → Int32} {v_x_trials_day : obV} {v_x_best : obV} {v_m : obV} {h_m : Int64} (hR : Rel t v_x v_x_page v_x_now v_x_now_seen v_x_kept v_x_kept_seen v_m) (x1 : Int32) (x2 : Int32) : ∃ (ux : Int32 × obV × (Nat → Nat → Int32) × obV) (um : Int32 × obV), f_X6_fit v_x_now v_x_trials w_x_trials v_x_trials_day x1 x2 = some ux ∧ f_X7_fit v_m x1 x2 = some um ∧ ux.1 = um.1 ∧ Rel (t + 1) (v_x) (v_x_page) (v_x_now) (v_x_now_seen) (v_x_kept) (v_x_kept_seen) (um.2) := by
  obtain ⟨pg, sn, n, rd, ⟨K, T, C, P, ch, a, b, ho⟩, d, e, f, g⟩ := id hR
  have hn := ho.1
  unfold f_X6_fit f_X7_fit
  rw [m_isPilgrim x1 hn b.1 a.1]
  rcases x_has x1 hn a.1 with h | ⟨p, hp, rfl, h⟩
  · rw [h, bind_e, bind_e, if_pos rfl, if_pos rfl]
    exact ⟨_, _, rfl, rfl, rfl, hR.up⟩
  · rw [h, bind_e, bind_e, if_neg q_10, if_neg q_10, show (0 : Int64) = (0 : Int32).toInt64 from rfl, show (1 : Int64) = (1 : Int32).toInt64 from rfl, q_in]
    rcases w_case x2 (lo := 0) (hi := 1) 0 1 (by decide) (by decide) (by decide) (by decide) with h | ⟨k, h1, h2, rfl, h⟩
    · rw [h, bind_e, bind_e, if_pos rfl, if_pos rfl]
      exact ⟨_, _, rfl, rfl, rfl, hR.up⟩
    · obtain ⟨u, t1, t2⟩ := x_tpass (v := v_x_trials) (w := w_x_trials) (vd := v_x_trials_day) a ho hp
      obtain ⟨v', q1, q2⟩ := m_fit' (w := k) b ho hp h2
      rw [h, bind_e, bind_e, if_neg q_10, if_neg q_10, t1, bind_e, x_tellFit hn t2 h2, bind_e, q1, bind_e]
      exact ⟨_, _, rfl, rfl, rfl, hR.s (q2.s (by decide) (by decide))⟩
