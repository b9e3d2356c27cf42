/-! AS, COME, TROUBLE, PATIENCE, SEE, FORGET, IMAGE, RESTORE -/
theorem op_as {t : Nat} {v_x v_x_page v_x_now v_x_now_seen v_x_kept v_x_kept_seen v_m : obV} (hR : Rel t v_x v_x_page v_x_now v_x_now_seen v_x_kept v_x_kept_seen v_m) (x1 : Int32) (x2 : Int32) : ∃ (ux : Int32) (um : Int32), f_X6_as v_x_now x1 x2 = some ux ∧ f_X7_as v_m x1 x2 = some um ∧ ux = um ∧ Rel (t + 1) (v_x) (v_x_page) (v_x_now) (v_x_now_seen) (v_x_kept) (v_x_kept_seen) (v_m) := by
  obtain ⟨n, rd, ⟨K, T, C, P, ch, a, b, ho⟩, _⟩ := hR.2.2
  have hn := ho.1
  unfold f_X6_as f_X7_as
  rw [m_isPilgrim x1 hn b.1 a.1]
  rcases x_has x1 hn a.1 with h | ⟨p, hp, rfl, h⟩
  · rw [h, bind_e, bind_e, if_pos rfl, if_pos rfl]
    exact ⟨_, _, rfl, rfl, rfl, hR.up⟩
  · rw [h, bind_e, bind_e, if_neg q_10, if_neg q_10, show (0 : Int64) = (0 : Int32).toInt64 from rfl, show (4 : Int64) = (4 : Int32).toInt64 from rfl, q_in]
    rcases w_case x2 (lo := 0) (hi := 4) 0 4 (by decide) (by decide) (by decide) (by decide) with h | ⟨k, h1, h2, rfl, h⟩
    · rw [h, bind_e, bind_e, if_pos rfl, if_pos rfl]
      exact ⟨_, _, rfl, rfl, rfl, hR.up⟩
    · have hK := (ho.2.2 p hp).1
      unfold f_X1_isKind f_X7_as_b59
      rw [h, bind_e, bind_e, if_neg q_10, if_neg q_10, q_l3, pk_mul, if_neg (nI_in (show p < 5 by omega) (by decide)), if_neg (nI_in (show 3 * p < 15 by omega) (by decide)), nI_clamp (by omega), nI_clamp (by omega), (a.2.2.2 p hp).1, (b.2.2.2 p hp).1]
      by_cases e1 : nI k = 0
      · rw [if_pos e1, if_pos e1, bind_e, if_neg q_10]
        exact ⟨_, _, rfl, rfl, rfl, hR.up⟩
      · rw [if_neg e1, if_neg e1]
        by_cases e2 : nI k = nI (K p)
        · rw [if_pos e2, if_pos e2, bind_e, if_neg q_10]
          exact ⟨_, _, rfl, rfl, rfl, hR.up⟩
        · rw [if_neg e2, if_neg e2]
          by_cases e3 : nI k = 2
          · rw [if_pos e3, if_pos e3]
            by_cases e4 : nI (K p) = 4
            · rw [if_pos e4, if_pos e4, bind_e, if_neg q_10]
              exact ⟨_, _, rfl, rfl, rfl, hR.up⟩
            · rw [if_neg e4, if_neg e4, bind_e, if_pos rfl]
              exact ⟨_, _, rfl, rfl, rfl, hR.up⟩
          · rw [if_neg e3, if_neg e3, bind_e, if_pos rfl]
            exact ⟨_, _, rfl, rfl, rfl, hR.up⟩
theorem op_come {t : Nat} {v_x v_x_page v_x_now v_x_now_seen v_x_kept v_x_kept_seen v_m : obV} (hR : Rel t v_x v_x_page v_x_now v_x_now_seen v_x_kept v_x_kept_seen v_m) (x1 : Int32) (x2 : Int32) : ∃ (ux : Int32 × obV) (um : Int32 × obV), f_X6_come v_x_now x1 x2 = some ux ∧ f_X7_come v_m x1 x2 = some um ∧ ux.1 = um.1 ∧ Rel (t + 1) (v_x) (v_x_page) (ux.2) (v_x_now_seen) (v_x_kept) (v_x_kept_seen) (um.2) := by
  obtain ⟨pg, sn, n, rd, ⟨K, T, C, P, ch, a, b, ho⟩, d, e, f, g⟩ := id hR
  have hn := ho.1
  unfold f_X6_come f_X7_come
  rw [m_isPilgrim x1 hn b.1 a.1]
  rcases x_has x1 hn a.1 with h | ⟨p, hp, rfl, h⟩
  · rw [h, bind_e, bind_e, if_pos rfl, if_pos rfl]
    exact ⟨_, _, rfl, rfl, rfl, hR.up⟩
  · rw [h, bind_e, bind_e, if_neg q_10, if_neg q_10, show (0 : Int64) = (0 : Int32).toInt64 from rfl, show (9 : Int64) = (9 : Int32).toInt64 from rfl, q_in]
    rcases w_case x2 (lo := 0) (hi := 9) 0 9 (by decide) (by decide) (by decide) (by decide) with h | ⟨k, h1, h2, rfl, h⟩
    · rw [h, bind_e, bind_e, if_pos rfl, if_pos rfl]
      exact ⟨_, _, rfl, rfl, rfl, hR.up⟩
    · rw [h, bind_e, bind_e, if_neg q_10, if_neg q_10, q_l3, pk_mul, q_l2, nI_add]
      have i1 := nI_in (show p < 5 by omega) (by decide)
      have i2 := nI_in (show 3 * p + 2 < 15 by omega) (by decide)
      rw [if_neg i1, if_neg i1, if_neg i2, if_neg i2, nI_clamp (by omega), nI_clamp (by omega), hlet_e, hlet_e, hlet_e, hlet_e]
      refine ⟨_, _, rfl, rfl, ?_, pg.w rfl rfl, sn.w rfl rfl, n, rd, ⟨K, T, fun j => if j = p then k else C j, P, ch + 1, ⟨a.1, a.2.1, ?_, fun j hj => ⟨(a.2.2.2 j hj).1, (a.2.2.2 j hj).2.1, ?_⟩⟩, ⟨b.1, b.2.1, ?_, fun j hj => ?_⟩, ⟨hn, ho.2.1, fun j hj => ⟨(ho.2.2 j hj).1, (ho.2.2 j hj).2.1, ?_⟩⟩⟩, Nat.le_succ_of_le d, e, f, g.w rfl rfl rfl rfl rfl rfl rfl⟩
      · show v_x_now.2 2 p = v_m.2 10 (3 * p + 2)
        rw [(a.2.2.2 p hp).2.2, (b.2.2.2 p hp).2.2]
      · show v_x_now.1 6 + 1 = _
        rw [a.2.2.1]
      · show upd (v_x_now.2 2) p (nI k) j = nI (if j = p then k else C j)
        rw [q_upd]
        by_cases z : j = p
        · rw [if_pos z, if_pos z]
        · rw [if_neg z, if_neg z]; exact (a.2.2.2 j hj).2.2
      · show v_m.1 8 + 1 = _
        rw [b.2.2.1]
      · show upd (v_m.2 10) (3 * p + 2) (nI k) (3 * j) = _ ∧ upd (v_m.2 10) (3 * p + 2) (nI k) (3 * j + 1) = _ ∧ upd (v_m.2 10) (3 * p + 2) (nI k) (3 * j + 2) = nI (if j = p then k else C j)
        obtain ⟨r1, r2, r3⟩ := b.2.2.2 j hj
        rw [q_upd, q_upd, q_upd, if_neg (by omega), if_neg (by omega)]
        refine ⟨r1, r2, ?_⟩
        by_cases z : j = p
        · rw [if_pos (by omega), if_pos z]
        · rw [if_neg (by omega), if_neg z]; exact r3
      · show (if j = p then k else C j) ≤ 9
        by_cases z : j = p
        · rw [if_pos z]; exact h2
        · rw [if_neg z]; exact (ho.2.2 j hj).2.2
theorem op_trouble {t : Nat} {v_x v_x_page v_x_now v_x_now_seen v_x_kept v_x_kept_seen v_m : obV} (hR : Rel t v_x v_x_page v_x_now v_x_now_seen v_x_kept v_x_kept_seen v_m) (x1 : Int32) (x2 : Int32) : ∃ (ux : Int32 × obV) (um : Int32 × obV), f_X6_trouble v_x_now x1 x2 = some ux ∧ f_X7_trouble v_m x1 x2 = some um ∧ ux.1 = um.1 ∧ Rel (t + 1) (v_x) (v_x_page) (ux.2) (v_x_now_seen) (v_x_kept) (v_x_kept_seen) (um.2) := by
  obtain ⟨pg, sn, n, rd, ⟨K, T, C, P, ch, a, b, ho⟩, d, e, f, g⟩ := id hR
  have hn := ho.1
  unfold f_X6_trouble f_X7_trouble
  rw [m_isPilgrim x1 hn b.1 a.1]
  rcases x_has x1 hn a.1 with h | ⟨p, hp, rfl, h⟩
  · rw [h, bind_e, bind_e, if_pos rfl, if_pos rfl]
    exact ⟨_, _, rfl, rfl, rfl, hR.up⟩
  · rw [h, bind_e, bind_e, if_neg q_10, if_neg q_10, show (0 : Int64) = (0 : Int32).toInt64 from rfl, show (5 : Int64) = (5 : Int32).toInt64 from rfl, q_in]
    rcases w_case x2 (lo := 0) (hi := 5) 0 5 (by decide) (by decide) (by decide) (by decide) with h | ⟨k, h1, h2, rfl, h⟩
    · rw [h, bind_e, bind_e, if_pos rfl, if_pos rfl]
      exact ⟨_, _, rfl, rfl, rfl, hR.up⟩
    · rw [h, bind_e, bind_e, if_neg q_10, if_neg q_10, q_l3, pk_mul, nI_1]
      have i1 := nI_in (show p < 5 by omega) (by decide)
      have i2 := nI_in (show 3 * p + 1 < 15 by omega) (by decide)
      rw [if_neg i1, if_neg i1, if_neg i2, if_neg i2, nI_clamp (by omega), nI_clamp (by omega), hlet_e, hlet_e, hlet_e, hlet_e]
      refine ⟨_, _, rfl, rfl, ?_, pg.w rfl rfl, sn.w rfl rfl, n, rd, ⟨K, fun j => if j = p then k else T j, C, P, ch + 1, ⟨a.1, a.2.1, ?_, fun j hj => ⟨(a.2.2.2 j hj).1, ?_, (a.2.2.2 j hj).2.2⟩⟩, ⟨b.1, b.2.1, ?_, fun j hj => ?_⟩, ⟨hn, ho.2.1, fun j hj => ⟨(ho.2.2 j hj).1, ?_, (ho.2.2 j hj).2.2⟩⟩⟩, Nat.le_succ_of_le d, e, f, g.w rfl rfl rfl rfl rfl rfl rfl⟩
      · show v_x_now.2 1 p = v_m.2 10 (3 * p + 1)
        rw [(a.2.2.2 p hp).2.1, (b.2.2.2 p hp).2.1]
      · show v_x_now.1 6 + 1 = _
        rw [a.2.2.1]
      · show upd (v_x_now.2 1) p (nI k) j = nI (if j = p then k else T j)
        rw [q_upd]
        by_cases z : j = p
        · rw [if_pos z, if_pos z]
        · rw [if_neg z, if_neg z]; exact (a.2.2.2 j hj).2.1
      · show v_m.1 8 + 1 = _
        rw [b.2.2.1]
      · show upd (v_m.2 10) (3 * p + 1) (nI k) (3 * j) = _ ∧ upd (v_m.2 10) (3 * p + 1) (nI k) (3 * j + 1) = nI (if j = p then k else T j) ∧ upd (v_m.2 10) (3 * p + 1) (nI k) (3 * j + 2) = _
        obtain ⟨r1, r2, r3⟩ := b.2.2.2 j hj
        rw [q_upd, q_upd, q_upd, if_neg (show ¬ 3 * j = 3 * p + 1 by omega), if_neg (show ¬ 3 * j + 2 = 3 * p + 1 by omega)]
        refine ⟨r1, ?_, r3⟩
        by_cases z : j = p
        · rw [if_pos (by omega), if_pos z]
        · rw [if_neg (by omega), if_neg z]; exact r2
      · show (if j = p then k else T j) ≤ 5
        by_cases z : j = p
        · rw [if_pos z]; exact h2
        · rw [if_neg z]; exact (ho.2.2 j hj).2.1
theorem op_patience {t : Nat} {v_x v_x_page v_x_now v_x_now_seen v_x_kept v_x_kept_seen v_m : obV} (hR : Rel t v_x v_x_page v_x_now v_x_now_seen v_x_kept v_x_kept_seen v_m) (x1 : Int32) : ∃ (ux : Int32 × obV) (um : Int32 × obV), f_X6_patience v_x_now x1 = some ux ∧ f_X7_patience v_m x1 = some um ∧ ux.1 = um.1 ∧ Rel (t + 1) (v_x) (v_x_page) (ux.2) (v_x_now_seen) (v_x_kept) (v_x_kept_seen) (um.2) := by
  obtain ⟨pg, sn, n, rd, ⟨K, T, C, P, ch, a, b, ho⟩, d, e, f, g⟩ := id hR
  have hn := ho.1
  unfold f_X6_patience f_X7_patience
  rw [show (0 : Int64) = (0 : Int32).toInt64 from rfl, show (20 : Int64) = (20 : Int32).toInt64 from rfl, q_in]
  rcases w_case x1 (lo := 0) (hi := 20) 0 20 (by decide) (by decide) (by decide) (by decide) with h | ⟨k, h1, h2, rfl, h⟩
  · rw [h, bind_e, bind_e, if_pos rfl, if_pos rfl]
    exact ⟨_, _, rfl, rfl, rfl, hR.up⟩
  · rw [h, bind_e, bind_e, if_neg q_10, if_neg q_10, x_isNone hn a.1, m_lacks hn b.1, bind_e, bind_e]
    by_cases h0 : n = 0
    · rw [if_pos h0, if_neg (show ¬ nI 1 = 0 by decide), if_neg (show ¬ nI 1 = 0 by decide)]
      exact ⟨_, _, rfl, rfl, rfl, hR.up⟩
    · rw [if_neg h0, if_pos nI_0, if_pos nI_0, hlet_e, hlet_e, hlet_e, hlet_e]
      refine ⟨_, _, rfl, rfl, ?_, pg.w rfl rfl, sn.w rfl rfl, n, rd, ⟨K, T, C, k, ch + 1, ⟨a.1, rfl, ?_, a.2.2.2⟩, ⟨b.1, rfl, ?_, b.2.2.2⟩, ⟨hn, h2, ho.2.2⟩⟩, Nat.le_succ_of_le d, e, f, g.w rfl rfl rfl rfl rfl rfl rfl⟩
      · show v_x_now.1 5 = v_m.1 7
        rw [a.2.1, b.2.1]
      · show v_x_now.1 6 + 1 = _
        rw [a.2.2.1]
      · show v_m.1 8 + 1 = _
        rw [b.2.2.1]
theorem op_forget {t : Nat} {v_x v_x_page v_x_now v_x_now_seen v_x_kept v_x_kept_seen v_m : obV} (hR : Rel t v_x v_x_page v_x_now v_x_now_seen v_x_kept v_x_kept_seen v_m) : ∃ (ux : Int32 × obV) (um : Int32 × obV), f_X6_forget v_x_now_seen = some ux ∧ f_X7_forget v_m = some um ∧ ux.1 = um.1 ∧ Rel (t + 1) (v_x) (v_x_page) (v_x_now) (ux.2) (v_x_kept) (v_x_kept_seen) (um.2) := by
  obtain ⟨pg, ⟨k, sl, sm, s1, s2, s3⟩, n, rd, c1, d, e, f, g⟩ := hR
  unfold f_X6_forget f_X7_forget
  rw [hlet_e, hlet_e]
  refine ⟨_, _, rfl, rfl, ?_, pg.w rfl rfl, ⟨0, id, id, ⟨rfl, fun j hj => absurd hj (Nat.not_lt_zero _)⟩, ⟨rfl, fun j hj => absurd hj (Nat.not_lt_zero _)⟩, ⟨by decide, fun j hj => absurd hj (Nat.not_lt_zero _)⟩⟩, n, rd, c1.w rfl rfl rfl rfl, Nat.le_succ_of_le d, e, f, g.w rfl rfl rfl rfl rfl rfl rfl⟩
  show v_x_now_seen.1 2 = v_m.1 18
  rw [s1.1, s2.1]
theorem op_see {t : Nat} {v_x v_x_page v_x_now v_x_now_seen v_x_kept v_x_kept_seen v_m : obV} (hR : Rel t v_x v_x_page v_x_now v_x_now_seen v_x_kept v_x_kept_seen v_m) (x1 : Int32) (x2 : Int32) : ∃ (ux : Int32 × obV) (um : Int32 × obV), f_X6_see v_x_now_seen x1 x2 = some ux ∧ f_X7_see v_m x1 x2 = some um ∧ ux.1 = um.1 ∧ Rel (t + 1) (v_x) (v_x_page) (v_x_now) (ux.2) (v_x_kept) (v_x_kept_seen) (um.2) := by
  obtain ⟨pg, ⟨m, sl, sm, s1, s2, s3⟩, n, rd, c1, d, e, f, g⟩ := id hR
  have hm := s3.1
  unfold f_X6_see f_X7_see
  rw [show (0 : Int64) = (0 : Int32).toInt64 from rfl, show (19 : Int64) = (19 : Int32).toInt64 from rfl, show (5 : Int64) = (5 : Int32).toInt64 from rfl, q_in, q_in]
  rcases w_case x1 (lo := 0) (hi := 19) 0 19 (by decide) (by decide) (by decide) (by decide) with h | ⟨k, h1, h2, rfl, h⟩
  · rw [h, bind_e, bind_e, if_pos rfl, if_pos rfl]
    exact ⟨_, _, rfl, rfl, rfl, hR.up⟩
  · rw [h, bind_e, bind_e, if_neg q_10, if_neg q_10]
    rcases w_case x2 (lo := 0) (hi := 5) 0 5 (by decide) (by decide) (by decide) (by decide) with h | ⟨l, h3, h4, rfl, h⟩
    · rw [h, bind_e, bind_e, if_pos rfl, if_pos rfl]
      exact ⟨_, _, rfl, rfl, rfl, hR.up⟩
    · rw [h, bind_e, bind_e, if_neg q_10, if_neg q_10, s1.1, s2.1, q_l8]
      by_cases h8 : m = 8
      · rw [if_neg (nI_nlt (by omega) (by omega)), if_pos (by rw [h8])]
        exact ⟨_, _, rfl, rfl, rfl, hR.up⟩
      · unfold f_X4_add
        rw [if_pos (nI_lt (by omega) (by omega)), if_neg (fun q => h8 ((nI_eq (by omega) (by decide)).mp q)), s1.1, q_l8, if_neg (nI_ge (by omega) (by omega)), if_neg (nI_in (show m < 8 by omega) (by decide)), hlet_e, q_l2, pk_mul, if_neg (nI_in (show 2 * m < 16 by omega) (by decide)), hlet_e, nI_clamp (by omega), nI_clamp (by omega), hlet_e, hlet_e]
        have y1 : (oA v_x_now_seen 0 m (nI k)).1 2 = nI m := s1.1
        have y2 : (oA v_m 19 (2 * m) (nI k)).1 18 = nI m := s2.1
        rw [y1, y2, if_neg (nI_in (show m < 8 by omega) (by decide)), pk_mul, nI_1, if_neg (nI_in (show 2 * m + 1 < 16 by omega) (by decide)), hlet_e, hlet_e, bind_e, nI_clamp (by omega), nI_clamp (by omega)]
        refine ⟨_, _, rfl, rfl, ?_, pg.w rfl rfl, ⟨m + 1, fun j => if j = m then k else sl j, fun j => if j = m then l else sm j, ⟨?_, fun j hj => ?_⟩, ⟨?_, fun j hj => ?_⟩, ⟨by omega, fun j hj => ?_⟩⟩, n, rd, c1.w rfl rfl rfl rfl, Nat.le_succ_of_le d, e, f, g.w rfl rfl rfl rfl rfl rfl rfl⟩
        · show v_x_now_seen.1 2 + 1 = v_m.1 18 + 1
          rw [s1.1, s2.1]
        · show v_x_now_seen.1 2 + 1 = _
          rw [s1.1, nI_1]
        · show upd (v_x_now_seen.2 0) m (nI k) j = nI (if j = m then k else sl j) ∧ upd (v_x_now_seen.2 1) m (nI l) j = nI (if j = m then l else sm j)
          rw [q_upd, q_upd]
          by_cases z : j = m
          · rw [if_pos z, if_pos z, if_pos z, if_pos z]; exact ⟨rfl, rfl⟩
          · rw [if_neg z, if_neg z, if_neg z, if_neg z]; exact s1.2 j (by omega)
        · show v_m.1 18 + 1 = _
          rw [s2.1, nI_1]
        · show upd (upd (v_m.2 19) (2 * m) (nI k)) (2 * m + 1) (nI l) (2 * j) = nI (if j = m then k else sl j) ∧ upd (upd (v_m.2 19) (2 * m) (nI k)) (2 * m + 1) (nI l) (2 * j + 1) = nI (if j = m then l else sm j)
          rw [q_upd, q_upd, q_upd, q_upd, if_neg (show ¬ 2 * j = 2 * m + 1 by omega)]
          by_cases z : j = m
          · rw [if_pos (by omega), if_pos z, if_pos (by omega), if_pos z]; exact ⟨rfl, rfl⟩
          · rw [if_neg (by omega), if_neg z, if_neg (by omega), if_neg (by omega), if_neg z]; exact s2.2 j (by omega)
        · show (if j = m then k else sl j) ≤ 19 ∧ (if j = m then l else sm j) ≤ 5
          by_cases z : j = m
          · rw [if_pos z, if_pos z]; omega
          · rw [if_neg z, if_neg z]; exact s3.2 j (by omega)
