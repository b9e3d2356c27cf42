/-! SEASONS -/
def sd (a : Nat) : Nat := (1103515245 * a + 12345) % 2147483648
theorem sd_lt (a : Nat) : sd a < 2147483648 := Nat.mod_lt _ (by decide)
theorem l_div {Q : Nat} (h : Q < 2 ^ 63) : lN Q / 2147483648 = lN (Q / 2147483648) := by
  rw [← Int64.toInt_inj, lg_ldiv_nonneg (by rw [show (lN Q).toInt = (Q : Int) from lg_ofNat_toInt h]; omega) (by decide), show (lN Q).toInt = (Q : Int) from lg_ofNat_toInt h, show (lN (Q / 2147483648)).toInt = ((Q / 2147483648 : Nat) : Int) from lg_ofNat_toInt (by omega), show (2147483648 : Int64).toInt = 2147483648 by decide]
  omega
theorem l_nat {n : Nat} (h : n < 2 ^ 64) : (lN n).toBitVec.toNat = n := by
  show (BitVec.ofNat 64 n).toNat = n
  rw [BitVec.toNat_ofNat, Nat.mod_eq_of_lt h]
theorem l_and {Q : Nat} (h : Q < 2 ^ 64) : lN Q &&& 2147483647 = lN (Q % 2147483648) := by
  rw [← Int64.toBitVec_inj, Int64.toBitVec_and]
  apply BitVec.eq_of_toNat_eq
  rw [BitVec.toNat_and, l_nat h, l_nat (by omega), show (2147483647 : Int64).toBitVec.toNat = 2 ^ 31 - 1 by decide, Nat.and_two_pow_sub_one_eq_mod]
theorem sd_l {a : Nat} (ha : a < 2147483648) : (1103515245 * (nI a).toInt64) + 12345 = lN (1103515245 * a + 12345) := by
  rw [nI_l (by omega), show (1103515245 : Int64) = lN 1103515245 from rfl, lN_mul, show (12345 : Int64) = lN 12345 from rfl, lN_add]
theorem x_nextSeed {a : Nat} (ha : a < 2147483648) : f_X6_nextSeed (nI a) = some (nI (sd a)) := by
  unfold f_X6_nextSeed sd
  rw [sd_l ha]
  have hQ : 1103515245 * a + 12345 < 2 ^ 63 := by omega
  generalize 1103515245 * a + 12345 = Q at hQ ⊢
  rw [l_div hQ, show (2147483648 : Int64) = lN 2147483648 from rfl, lN_mul, lN_sub (by omega), lN_i, show Q - Q / 2147483648 * 2147483648 = Q % 2147483648 by omega]
theorem m_draw {v : obV} {a : Nat} (ha : a < 2147483648) (h : v.1 21 = nI a) : f_X7_draw v 10 = some (nI (sd a / 65536 % 10), oF v 21 (nI (sd a))) := by
  have hs := sd_lt a
  have hQ : 1103515245 * a + 12345 < 2 ^ 64 := by omega
  have e : ((1103515245 * (nI a).toInt64 + 12345) &&& 2147483647).toInt32 = nI (sd a) := by
    rw [sd_l ha, l_and hQ, lN_i]; rfl
  unfold f_X7_draw
  rw [h, e, hlet_e, if_neg (by decide)]
  show some (nI (sd a) / 65536 - nI (sd a) / 65536 / 10 * 10, _) = _
  rw [q_l65536, q_l10, pk_div (by omega) (by decide) (by decide), pk_rem (by omega) (by decide) (by decide)]
def dsS (a : Nat) : Nat → Nat
  | 0 => a
  | i + 1 => sd (dsS a i)
def cmS (a p : Nat) : Nat := dsS a (p + 1) / 65536 % 10
theorem dsS_lt {a : Nat} (h : a < 2147483648) : ∀ i, dsS a i < 2147483648 := by
  intro i
  cases i with
  | zero => exact h
  | succ i => exact sd_lt _
theorem cmS_ok (a n : Nat) : okCm n (cmS a) := fun p _ => by unfold cmS; omega
theorem x_draw {v vn : obV} {n a : Nat} (hn : n ≤ 5) (h4 : vn.1 4 = nI n) (ha : a < 2147483648) : ∃ v', f_X6_drawComings v vn (nI a) = some (nI (dsS a n), v') ∧ ∀ p, p < n → v'.2 0 p = nI (cmS a p) := by
  have h := lp_up (body := fun k (y : obV × Int32 × Int32) => f_X6_drawComings_b5 y.1 vn y.2.1 y.2.2 k) (σ := obV) (fun i s => (s, nI (dsS a i), nI i)) n (fun i s => ∀ p, p < i → s.2 0 p = nI (cmS a p)) (fun z => ∃ v', z = some (nI (dsS a n), v') ∧ ∀ p, p < n → v'.2 0 p = nI (cmS a p)) ?_ ?_ fu 0 v (fun p hp => absurd hp (Nat.not_lt_zero _)) (Nat.zero_le _) (q_fu (by omega))
  · exact h
  · intro i s hi hs
    have hq := dsS_lt ha (i + 1)
    refine ⟨oA s 0 i (nI (cmS a i)), fun p hp => ?_, fun k => ?_⟩
    · show upd (s.2 0) i (nI (cmS a i)) p = _
      rw [q_upd]
      by_cases e : p = i
      · rw [if_pos e, e]
      · rw [if_neg e]; exact hs p (by omega)
    · show f_X6_drawComings_b5 s vn (nI (dsS a i)) (nI i) k = _
      unfold f_X6_drawComings_b5
      rw [h4, if_neg (nI_ge hi (by omega)), x_nextSeed (dsS_lt ha i), bind_e, if_neg (nI_in (show i < 5 by omega) (by decide)), nI_clamp (by omega), hlet_e, show sd (dsS a i) = dsS a (i + 1) from rfl, q_l65536, q_l10, pk_div (by omega) (by decide) (by decide), pk_rem (by omega) (by decide) (by decide), nI_1]
      rfl
  · intro s hs
    refine ⟨_, ⟨s, rfl, hs⟩, fun k => ?_⟩
    show f_X6_drawComings_b5 s vn (nI (dsS a n)) (nI n) k = _
    unfold f_X6_drawComings_b5
    rw [h4, if_pos (Int32.le_refl _)]
def ssn (n : Nat) (K T : Nat → Nat) (P a : Nat) : Nat → Nat × Nat × Nat
  | 0 => (a, 0, 0)
  | i + 1 => (dsS (ssn n K T P a i).1 n, (ssn n K T P a i).2.1 + sHp n K T (cmS (ssn n K T P a i).1) P 20, (ssn n K T P a i).2.2 + sMt (sW n K T (cmS (ssn n K T P a i).1) P) 20)
theorem ssn_s (n : Nat) (K T : Nat → Nat) (P a i : Nat) : ssn n K T P a (i + 1) = (dsS (ssn n K T P a i).1 n, (ssn n K T P a i).2.1 + sHp n K T (cmS (ssn n K T P a i).1) P 20, (ssn n K T P a i).2.2 + sMt (sW n K T (cmS (ssn n K T P a i).1) P) 20) := rfl
theorem ssn_lt {n : Nat} {K T : Nat → Nat} {P a : Nat} (h : a < 2147483648) : ∀ i, (ssn n K T P a i).1 < 2147483648 := by
  intro i
  induction i with
  | zero => exact h
  | succ i ih => rw [ssn_s]; exact dsS_lt ih n
def sSn (r : Nat × Nat × Nat) (w : Int32) : Int32 := if w = 0 then nI r.2.1 else if w = 1 then nI r.2.2 else nI r.1
theorem okC.m {n : Nat} {K T C C' : Nat → Nat} {P : Nat} (h : okC n K T C P) (hC : okCm n C') : okC n K T C' P := ⟨h.1, h.2.1, fun p hp => ⟨(h.2.2 p hp).1, (h.2.2 p hp).2.1, hC p hp⟩⟩
theorem x_seasons {vd vn : obV} {n : Nat} {K T C : Nat → Nat} {P a d : Nat} {ch x3 : Int32} (hc : cvX vn n K T C P ch) (ho : okC n K T C P) (ha : a < 2147483648) (hd : d ≤ 30) : ∃ v', f_X6_seasons_l60 vn (nI d) x3 fu (vd, nI a, 0, 0, 0) = some (sSn (ssn n K T P a d) x3, v') := by
  have hn := ho.1
  have h := lp_up (body := fun k (y : obV × Int32 × Int32 × Int32 × Int32) => f_X6_seasons_b60 vn y.1 (nI d) x3 y.2.1 y.2.2.1 y.2.2.2.1 y.2.2.2.2 k) (σ := obV) (fun i s => (s, nI (ssn n K T P a i).1, nI (ssn n K T P a i).2.1, nI (ssn n K T P a i).2.2, nI i)) d (fun _ _ => True) (fun z => ∃ v', z = some (sSn (ssn n K T P a d) x3, v')) ?_ ?_ fu 0 vd trivial (Nat.zero_le _) (q_fu (by omega))
  · have e : (vd, nI (ssn n K T P a 0).1, nI (ssn n K T P a 0).2.1, nI (ssn n K T P a 0).2.2, nI 0) = (vd, nI a, 0, 0, 0) := by rw [show ssn n K T P a 0 = (a, 0, 0) from rfl, nI_0]
    rw [e] at h
    exact h
  · intro i s hi _
    have hs := ssn_lt (n := n) (K := K) (T := T) (P := P) ha i
    obtain ⟨v1, d1, d2⟩ := x_draw (v := s) hn hc.1 hs
    obtain ⟨v2, e1, e2⟩ := x_passAs (v := v1) (C := cmS (ssn n K T P a i).1) hc ho (cmS_ok _ n) d2
    refine ⟨v2, trivial, fun k => ?_⟩
    show f_X6_seasons_b60 vn s (nI d) x3 (nI (ssn n K T P a i).1) (nI (ssn n K T P a i).2.1) (nI (ssn n K T P a i).2.2) (nI i) k = k (v2, nI (ssn n K T P a (i + 1)).1, nI (ssn n K T P a (i + 1)).2.1, nI (ssn n K T P a (i + 1)).2.2, nI (i + 1))
    unfold f_X6_seasons_b60
    rw [if_neg (nI_ge hi (by omega)), d1, bind_e, e1, bind_e, x_helped ho.k ho.2.1 e2, bind_e, x_meetings hn e2, bind_e, nI_add, nI_add, nI_1, ssn_s]
  · intro s _
    refine ⟨_, ⟨s, rfl⟩, fun k => ?_⟩
    show f_X6_seasons_b60 vn s (nI d) x3 (nI (ssn n K T P a d).1) (nI (ssn n K T P a d).2.1) (nI (ssn n K T P a d).2.2) (nI d) k = _
    unfold f_X6_seasons_b60 sSn
    rw [if_pos (Int32.le_refl _)]
    by_cases q0 : x3 = 0
    · rw [if_pos q0, if_pos q0]
    · rw [if_neg q0, if_neg q0]
      by_cases q1 : x3 = 1
      · rw [if_pos q1, if_pos q1]
      · rw [if_neg q1, if_neg q1]
/-- the reference, within its seasons -/
def ssM (v0' v : obV) (n : Nat) (K T : Nat → Nat) (P a : Nat) : Prop := chM [13, 14, 15, 21] [10, 11, 12, 22] v0' v ∧ v.1 21 = nI a ∧ (∀ j, j < 15 → v.2 22 j = v0'.2 10 j) ∧ ∀ p, p < n → v.2 10 (3 * p) = nI (K p) ∧ v.2 10 (3 * p + 1) = nI (T p)
theorem m_season {v0' v : obV} {n : Nat} {K T C : Nat → Nat} {P a : Nat} {ch x1 x3 x4 x5 x6 : Int32} (hc : cvM v0' n K T C P ch) (ho : okC n K T C P) (ha : a < 2147483648) (hs : ssM v0' v n K T P a) : ∃ y : obV × Int32 × Int32 × Int32, (y.2 = (x4 + nI (sHp n K T (cmS a) P 20), x5 + nI (sMt (sW n K T (cmS a) P) 20), x6 + 1) ∧ ssM v0' y.1 n K T P (dsS a n)) ∧ ∀ k66, f_X7_seasons_l75 x1 x3 x4 x5 x6 k66 fu (v, 0) = k66 y := by
  have hn := ho.1
  have h := lp_upK (body := fun k66 k (y : obV × Int32) => f_X7_seasons_b75 y.1 x1 x3 x4 x5 x6 y.2 k66 k) (σ := obV) (fun i s => (s, nI i)) n (fun i s => ssM v0' s n K T P (dsS a i) ∧ ∀ p, p < i → s.2 10 (3 * p + 2) = nI (cmS a p)) (fun y : obV × Int32 × Int32 × Int32 => y.2 = (x4 + nI (sHp n K T (cmS a) P 20), x5 + nI (sMt (sW n K T (cmS a) P) 20), x6 + 1) ∧ ssM v0' y.1 n K T P (dsS a n)) ?_ ?_ fu 0 v ⟨hs, fun p hp => absurd hp (Nat.not_lt_zero _)⟩ (Nat.zero_le _) (q_fu (by omega))
  · exact h
  · rintro i s hi ⟨⟨c1, c2, c3, c4⟩, c5⟩
    have h6 : s.1 6 = nI n := (c1.1 6 (by decide)).trans hc.1
    refine ⟨oA (oF s 21 (nI (dsS a (i + 1)))) 10 (3 * i + 2) (nI (cmS a i)), ⟨⟨(c1.F (by decide)).A (by decide), rfl, c3, fun p hp => ?_⟩, fun p hp => ?_⟩, fun k66 k => ?_⟩
    · show upd (s.2 10) (3 * i + 2) (nI (cmS a i)) (3 * p) = _ ∧ upd (s.2 10) (3 * i + 2) (nI (cmS a i)) (3 * p + 1) = _
      rw [q_upd, q_upd, if_neg (by omega), if_neg (by omega)]
      exact c4 p hp
    · show upd (s.2 10) (3 * i + 2) (nI (cmS a i)) (3 * p + 2) = _
      rw [q_upd]
      by_cases e : p = i
      · rw [if_pos (by omega), e]
      · rw [if_neg (by omega)]; exact c5 p (by omega)
    · show f_X7_seasons_b75 s x1 x3 x4 x5 x6 (nI i) k66 k = _
      unfold f_X7_seasons_b75
      rw [h6, if_neg (nI_ge hi (by omega)), m_draw (dsS_lt ha i) c2, bind_e, q_l3, pk_mul, q_l2, nI_add, if_neg (nI_in (show 3 * i + 2 < 15 by omega) (by decide)), nI_clamp (by omega), hlet_e, nI_1]
      rfl
  · rintro s ⟨⟨c1, c2, c3, c4⟩, c5⟩
    have h6 : s.1 6 = nI n := (c1.1 6 (by decide)).trans hc.1
    have hcs : cvM s n K T (cmS a) P ch := ⟨h6, (c1.1 7 (by decide)).trans hc.2.1, (c1.1 8 (by decide)).trans hc.2.2.1, fun p hp => ⟨(c4 p hp).1, (c4 p hp).2, c5 p hp⟩⟩
    have hos : okC n K T (cmS a) P := ho.m (cmS_ok a n)
    obtain ⟨u, l1, l2, l3⟩ := m_layDay hcs hos
    have hok := dRn_ok (C := cmS a) ho.k ho.2.1 20
    have hcu : cvM u n K T (cmS a) P ch := hcs.w (l3.1 6 (by decide)) (l3.1 7 (by decide)) (l3.1 8 (by decide)) (l3.2 10 (by decide))
    refine ⟨(u, x4 + nI (sHp n K T (cmS a) P 20), x5 + nI (sMt (sW n K T (cmS a) P) 20), x6 + 1), ⟨rfl, c1.tr (l3.mono (by decide) (by decide)), (l3.1 21 (by decide)).trans c2, by rw [l3.2 22 (by decide)]; exact c3, by rw [l3.2 10 (by decide)]; exact c4⟩, fun k66 k => ?_⟩
    show f_X7_seasons_b75 s x1 x3 x4 x5 x6 (nI n) k66 k = _
    unfold f_X7_seasons_b75
    rw [h6, if_pos (Int32.le_refl _), l1, bind_e, m_helped hn hcu.1 l2 hok, bind_e, m_meetings hn hcu.1 hcu.2.2.2 hos.c l2 hok, bind_e]
theorem m_seasons {v0' v : obV} {n : Nat} {K T C : Nat → Nat} {P a d : Nat} {ch x3 : Int32} (hc : cvM v0' n K T C P ch) (ho : okC n K T C P) (ha : a < 2147483648) (hd : d ≤ 30) (hs : ssM v0' v n K T P a) : ∃ v', f_X7_seasons_l66 (nI d) x3 fu (v, 0, 0, 0) = some (sSn (ssn n K T P a d) x3, v') ∧ chM [13, 14, 15, 21] [10, 11, 12, 22] v0' v' ∧ ∀ j, j < 15 → v'.2 10 j = v0'.2 10 j := by
  have h := lp_up (body := fun k (y : obV × Int32 × Int32 × Int32) => f_X7_seasons_b66 y.1 (nI d) x3 y.2.1 y.2.2.1 y.2.2.2 k) (σ := obV) (fun i s => (s, nI (ssn n K T P a i).2.1, nI (ssn n K T P a i).2.2, nI i)) d (fun i s => ssM v0' s n K T P (ssn n K T P a i).1) (fun z => ∃ v', z = some (sSn (ssn n K T P a d) x3, v') ∧ chM [13, 14, 15, 21] [10, 11, 12, 22] v0' v' ∧ ∀ j, j < 15 → v'.2 10 j = v0'.2 10 j) ?_ ?_ fu 0 v hs (Nat.zero_le _) (q_fu (by omega))
  · have e : (v, nI (ssn n K T P a 0).2.1, nI (ssn n K T P a 0).2.2, nI 0) = (v, 0, 0, 0) := by rw [show ssn n K T P a 0 = (a, 0, 0) from rfl, nI_0]
    rw [e] at h
    exact h
  · intro i s hi hs
    obtain ⟨y, ⟨y1, y2⟩, y3⟩ := m_season (v := s) (x1 := nI d) (x3 := x3) (x4 := nI (ssn n K T P a i).2.1) (x5 := nI (ssn n K T P a i).2.2) (x6 := nI i) hc ho (ssn_lt ha i) hs
    refine ⟨y.1, y2, fun k => ?_⟩
    show f_X7_seasons_b66 s (nI d) x3 (nI (ssn n K T P a i).2.1) (nI (ssn n K T P a i).2.2) (nI i) k = k (y.1, nI (ssn n K T P a (i + 1)).2.1, nI (ssn n K T P a (i + 1)).2.2, nI (i + 1))
    unfold f_X7_seasons_b66
    rw [if_neg (nI_ge hi (by omega)), y3]
    obtain ⟨q1, q2⟩ := y
    have y1 : q2 = _ := y1
    rw [y1, nI_add, nI_add, nI_1]
    rfl
  · intro s hs
    obtain ⟨c1, c2, c3, c4⟩ := hs
    obtain ⟨g, d1, d2⟩ := m_copy (f := s.2 22) (g := s.2 10) (n := 15) (by decide)
    refine ⟨_, ⟨oC s 10 g, rfl, c1.C (by decide), fun j hj => (d2 j hj).trans (c3 j hj)⟩, fun k => ?_⟩
    show f_X7_seasons_b66 s (nI d) x3 (nI (ssn n K T P a d).2.1) (nI (ssn n K T P a d).2.2) (nI d) k = _
    unfold f_X7_seasons_b66 sSn
    rw [if_pos (Int32.le_refl _), d1, bind_e, c2]
    by_cases q0 : x3 = 0
    · rw [if_pos q0, if_pos q0]
    · rw [if_neg q0, if_neg q0]
      by_cases q1 : x3 = 1
      · rw [if_pos q1, if_pos q1]
      · rw [if_neg q1, if_neg q1]
theorem op_seasons {t : Nat} {v_x : obV} {v_x_page : obV} {v_x_now : obV} {v_x_now_seen : obV} {v_x_kept : obV} {v_x_kept_seen : obV} {v_x_today : obV} {v_x_trials : obV} {w_x_trials : Nat → Nat → Int32} {v_x_trials_day : obV} {v_x_best : obV} {v_m : obV} {h_m : Int64} (hR : Rel t v_x v_x_page v_x_now v_x_now_seen v_x_kept v_x_kept_seen v_m) (x1 : Int32) (x2 : Int32) (x3 : Int32) : ∃ (ux : Int32 × obV) (um : Int32 × obV), f_X6_seasons v_x_now v_x_trials_day x1 x2 x3 = some ux ∧ f_X7_seasons v_m x1 x2 x3 = some um ∧ ux.1 = um.1 ∧ Rel (t + 1) (v_x) (v_x_page) (v_x_now) (v_x_now_seen) (v_x_kept) (v_x_kept_seen) (um.2) := by
  obtain ⟨pg, sn, n, rd, ⟨K, T, C, P, ch, a, b, ho⟩, d, e, f, g⟩ := id hR
  have hn := ho.1
  unfold f_X6_seasons f_X7_seasons
  rw [show (0 : Int64) = (0 : Int32).toInt64 from rfl, show (1 : Int64) = (1 : Int32).toInt64 from rfl, show (2 : Int64) = (2 : Int32).toInt64 from rfl, show (30 : Int64) = (30 : Int32).toInt64 from rfl, q_in, q_in]
  rcases w_case x1 (lo := 1) (hi := 30) 1 30 (by decide) (by decide) (by decide) (by decide) with h | ⟨k, h1, h2, rfl, h⟩
  · rw [h, bind_e, bind_e, if_pos rfl, if_pos rfl]
    exact ⟨_, _, rfl, rfl, rfl, hR.up⟩
  · rw [h, bind_e, bind_e, if_neg q_10, if_neg q_10]
    by_cases hx2 : x2 < 0
    · rw [if_pos hx2, if_pos hx2]
      exact ⟨_, _, rfl, rfl, rfl, hR.up⟩
    · rw [if_neg hx2, if_neg hx2]
      obtain ⟨s, hs, rfl⟩ := nI_of hx2
      rcases w_case x3 (lo := 0) (hi := 2) 0 2 (by decide) (by decide) (by decide) (by decide) with h | ⟨w, h3, h4, rfl, h⟩
      · rw [h, bind_e, bind_e, if_pos rfl, if_pos rfl]
        exact ⟨_, _, rfl, rfl, rfl, hR.up⟩
      · rw [h, bind_e, bind_e, if_neg q_10, if_neg q_10, x_isNone hn a.1, m_lacks hn b.1, bind_e, bind_e]
        by_cases h0 : n = 0
        · rw [if_pos h0, if_neg (show ¬ nI 1 = 0 by decide), if_neg (show ¬ nI 1 = 0 by decide)]
          exact ⟨_, _, rfl, rfl, rfl, hR.up⟩
        · obtain ⟨vd, r1⟩ := x_seasons (vd := v_x_trials_day) (x3 := nI w) a ho (show s < 2147483648 from hs) h2
          obtain ⟨g1, d1, d2⟩ := m_copy (f := v_m.2 10) (g := v_m.2 22) (n := 15) (by decide)
          have hs0 : ssM v_m (oF (oC v_m 22 g1) 21 (nI s)) n K T P s := ⟨(chM.rf.C (by decide)).F (by decide), rfl, d2, fun p hp => ⟨(b.2.2.2 p hp).1, (b.2.2.2 p hp).2.1⟩⟩
          obtain ⟨v', m1, m2, m3⟩ := m_seasons (x3 := nI w) b ho (show s < 2147483648 from hs) h2 hs0
          rw [if_neg h0, if_pos nI_0, if_pos nI_0, r1, d1, bind_e, hlet_e, m1]
          refine ⟨_, _, rfl, rfl, rfl, pg.w (m2.1 1 (by decide)) (m2.2 0 (by decide)), sn.w (m2.1 18 (by decide)) (m2.2 19 (by decide)), n, rd, ⟨K, T, C, P, ch, a, ⟨(m2.1 6 (by decide)).trans b.1, (m2.1 7 (by decide)).trans b.2.1, (m2.1 8 (by decide)).trans b.2.2.1, fun p hp => ?_⟩, ho⟩, Nat.le_succ_of_le d, e, (m2.1 9 (by decide)).trans f, g.w rfl (m2.1 23 (by decide)) (m2.1 24 (by decide)) (m2.1 25 (by decide)) (m2.1 26 (by decide)) (m2.2 27 (by decide)) (m2.2 28 (by decide))⟩
          show v'.2 10 (3 * p) = _ ∧ v'.2 10 (3 * p + 1) = _ ∧ v'.2 10 (3 * p + 2) = _
          rw [m3 _ (by omega), m3 _ (by omega), m3 _ (by omega)]
          exact b.2.2.2 p hp
