/-! IMAGE, RESTORE, COUNT -/
theorem x_copy {vk vn vks vs : obV} {n : Nat} {K T C : Nat → Nat} {P : Nat} {ch : Int32} {k : Nat} {sl sm : Nat → Nat} (a : cvX vn n K T C P ch) (ho : okC n K T C P) (s1 : snX vs k sl sm) (s3 : okS k sl sm) : ∃ u : obV × obV, f_X1_copy vk vn vks vs = some u ∧ cvX u.1 n K T C P ch ∧ snX u.2 k sl sm := by
  have hn := ho.1
  have hk := s3.1
  unfold f_X1_copy f_X4_copy
  simp only [hlet_e, bind_e]
  refine ⟨_, rfl, ⟨a.1, a.2.1, a.2.2.1, fun p hp => ?_⟩, ⟨s1.1, fun j hj => ?_⟩⟩
  · show va_cpy (vn.2 0) (vk.2 0) 0 0 5 p = _ ∧ va_cpy (vn.2 1) (vk.2 1) 0 0 5 p = _ ∧ va_cpy (vn.2 2) (vk.2 2) 0 0 5 p = _
    rw [q_cpy (by omega), q_cpy (by omega), q_cpy (by omega)]
    exact a.2.2.2 p hp
  · show va_cpy (vs.2 0) (vks.2 0) 0 0 8 j = _ ∧ va_cpy (vs.2 1) (vks.2 1) 0 0 8 j = _
    rw [q_cpy (by omega), q_cpy (by omega)]
    exact s1.2 j hj
theorem op_image {t : Nat} {v_x : obV} {v_x_page : obV} {v_x_now : obV} {v_x_now_seen : obV} {v_x_kept : obV} {v_x_kept_seen : obV} {v_x_today : obV} {v_x_trials : obV} {w_x_trials : Nat → Nat → Int32} {v_x_trials_day : obV} {v_x_best : obV} {v_m : obV} {h_m : Int64} (hR : Rel t v_x v_x_page v_x_now v_x_now_seen v_x_kept v_x_kept_seen v_m)  : ∃ (ux : Int32 × obV × obV × obV) (um : Int32 × obV), f_X6_image v_x v_x_now v_x_kept v_x_kept_seen v_x_now_seen  = some ux ∧ f_X7_image v_m  = some um ∧ ux.1 = um.1 ∧ Rel (t + 1) (ux.2.1) (v_x_page) (v_x_now) (v_x_now_seen) (ux.2.2.1) (ux.2.2.2) (um.2) := by
  obtain ⟨pg, ⟨k, sl, sm, s1, s2, s3⟩, n, rd, ⟨K, T, C, P, ch, a, b, ho⟩, d, e, f, g⟩ := id hR
  have hn := ho.1
  have hk := s3.1
  unfold f_X6_image f_X7_image
  rw [x_isNone hn a.1, m_lacks hn b.1, bind_e, bind_e]
  by_cases h0 : n = 0
  · rw [if_pos h0, if_neg (show ¬ nI 1 = 0 by decide), if_neg (show ¬ nI 1 = 0 by decide)]
    exact ⟨_, _, rfl, rfl, rfl, hR.up⟩
  · obtain ⟨u, c1, c2, c3⟩ := x_copy (vk := v_x_kept) (vks := v_x_kept_seen) a ho s1 s3
    obtain ⟨g1, d1, d2⟩ := m_copy (f := v_m.2 10) (g := v_m.2 27) (n := 15) (by decide)
    obtain ⟨g2, d3, d4⟩ := m_copy (f := v_m.2 19) (g := v_m.2 28) (n := 16) (by decide)
    rw [if_neg h0, if_pos nI_0, if_pos nI_0, c1, bind_e, hlet_e, d1, bind_e, d3, bind_e, hlet_e, hlet_e, hlet_e, hlet_e]
    refine ⟨_, _, rfl, rfl, ?_, pg.w rfl rfl, ⟨k, sl, sm, s1, s2, s3⟩, n, rd, ⟨K, T, C, P, ch, a, b, ho⟩, Nat.le_succ_of_le d, e, f, Or.inr ⟨rfl, f, K, T, C, P, ch, k, sl, sm, c2, c3, ho, s3, b.2.1, b.2.2.1, s2.1, fun p hp => ?_, fun j hj => ?_⟩⟩
    · show v_x_now.1 6 = v_m.1 8
      rw [a.2.2.1, b.2.2.1]
    · show g1 (3 * p) = _ ∧ g1 (3 * p + 1) = _ ∧ g1 (3 * p + 2) = _
      rw [d2 _ (by omega), d2 _ (by omega), d2 _ (by omega)]
      exact b.2.2.2 p hp
    · show g2 (2 * j) = _ ∧ g2 (2 * j + 1) = _
      rw [d4 _ (by omega), d4 _ (by omega)]
      exact s2.2 j hj
theorem op_restore {t : Nat} {v_x : obV} {v_x_page : obV} {v_x_now : obV} {v_x_now_seen : obV} {v_x_kept : obV} {v_x_kept_seen : obV} {v_x_today : obV} {v_x_trials : obV} {w_x_trials : Nat → Nat → Int32} {v_x_trials_day : obV} {v_x_best : obV} {v_m : obV} {h_m : Int64} (ht : t < 2 ^ 30) (hR : Rel t v_x v_x_page v_x_now v_x_now_seen v_x_kept v_x_kept_seen v_m)  : ∃ (ux : Int32 × obV × obV) (um : Int32 × obV), f_X6_restore v_x v_x_now v_x_kept v_x_now_seen v_x_kept_seen  = some ux ∧ f_X7_restore v_m  = some um ∧ ux.1 = um.1 ∧ Rel (t + 1) (v_x) (v_x_page) (ux.2.1) (ux.2.2) (v_x_kept) (v_x_kept_seen) (um.2) := by
  obtain ⟨pg, sn, n, rd, cv, d, e, f, g⟩ := id hR
  unfold f_X6_restore f_X7_restore
  rcases g with ⟨g1, g2⟩ | ⟨g1, g2, K, T, C, P, ch, k, sl, sm, a, s1, ho, s3, m1, m2, m3, m4, m5⟩
  · have hne : ¬ v_m.1 23 = v_m.1 9 := by
      rw [f]
      rcases g2 with q | ⟨q, q1, q2⟩
      · rw [q]; exact q_no' (by omega)
      · rw [q2, nI_eq (by omega) (by omega)]; omega
    rw [g1, if_pos rfl, if_neg hne]
    exact ⟨_, _, rfl, rfl, rfl, hR.up⟩
  · have hn := ho.1
    have hk := s3.1
    obtain ⟨u, c1, c2, c3⟩ := x_copy (vk := v_x_now) (vks := v_x_now_seen) a ho s1 s3
    obtain ⟨g3, d1, d2⟩ := m_copy (f := v_m.2 27) (g := v_m.2 10) (n := 15) (by decide)
    obtain ⟨g4, d3, d4⟩ := m_copy (f := v_m.2 28) (g := v_m.2 19) (n := 16) (by decide)
    obtain ⟨K', T', C', P', ch', a', b', ho'⟩ := cv
    rw [g1, if_neg q_10, c1, bind_e, g2, f, if_pos rfl, d1, bind_e, d3, bind_e, hlet_e, hlet_e, hlet_e]
    refine ⟨_, _, rfl, rfl, ?_, pg.w rfl rfl, ⟨k, sl, sm, c3, ⟨m3, fun j hj => ?_⟩, s3⟩, n, rd, ⟨K, T, C, P, ch, c2, ⟨b'.1, m1, m2, fun p hp => ?_⟩, ho⟩, Nat.le_succ_of_le d, e, f, Or.inr ⟨g1, g2, K, T, C, P, ch, k, sl, sm, a, s1, ho, s3, m1, m2, m3, m4, m5⟩⟩
    · show u.1.1 6 = v_m.1 25
      rw [c2.2.2.1, m2]
    · show g4 (2 * j) = _ ∧ g4 (2 * j + 1) = _
      rw [d4 _ (by omega), d4 _ (by omega)]
      exact m5 j hj
    · show g3 (3 * p) = _ ∧ g3 (3 * p + 1) = _ ∧ g3 (3 * p + 2) = _
      rw [d2 _ (by omega), d2 _ (by omega), d2 _ (by omega)]
      exact m4 p hp
def sSa (K : Nat → Nat) : Nat → Nat
  | 0 => 0
  | i + 1 => sSa K i + sSt K i
def sUb (T : Nat → Nat) : Nat → Nat
  | 0 => 0
  | i + 1 => sUb T i ||| 2 ^ T i
theorem x_allStay {v : obV} {n : Nat} {K T C : Nat → Nat} {P : Nat} {ch : Int32} (a : cvX v n K T C P ch) (ho : okC n K T C P) : f_X1_allStay v = some (nI (sSa K n)) := by
  have hn := ho.1
  have key := lp_sum (body := fun k (y : Int32 × Int32) => f_X1_allStay_b4 v y.1 y.2 k) (σ := Int32) (fun i s => (s, nI i)) n (fun i => nI (sSa K i)) (some (nI (sSa K n))) ?_ ?_ fu 0 (Nat.zero_le _) (q_fu (by omega))
  · have e : ((nI (sSa K 0), nI 0) : Int32 × Int32) = (0, 0) := rfl
    rw [e] at key
    exact key
  · intro i hi q
    show f_X1_allStay_b4 v (nI (sSa K i)) (nI i) q = q (nI (sSa K i + sSt K i), nI (i + 1))
    unfold f_X1_allStay_b4
    rw [a.1, if_neg (nI_ge hi (by omega)), x_stays (K := K) (by omega) (a.2.2.2 i hi).1 (ho.2.2 i hi).1, bind_e, nI_add, nI_1]
  · intro q
    show f_X1_allStay_b4 v (nI (sSa K n)) (nI n) q = _
    unfold f_X1_allStay_b4
    rw [a.1, if_pos (Int32.le_refl _)]
theorem m_staysAll {v : obV} {n : Nat} {K T C : Nat → Nat} {P : Nat} {ch : Int32} (a : cvM v n K T C P ch) (ho : okC n K T C P) : f_X7_staysAll v = some (nI (sSa K n)) := by
  have hn := ho.1
  have key := lp_sum (body := fun k (y : Int32 × Int32) => f_X7_staysAll_b4 v y.1 y.2 k) (σ := Int32) (fun i s => (s, nI i)) n (fun i => nI (sSa K i)) (some (nI (sSa K n))) ?_ ?_ fu 0 (Nat.zero_le _) (q_fu (by omega))
  · have e : ((nI (sSa K 0), nI 0) : Int32 × Int32) = (0, 0) := rfl
    rw [e] at key
    exact key
  · intro i hi q
    show f_X7_staysAll_b4 v (nI (sSa K i)) (nI i) q = q (nI (sSa K i + sSt K i), nI (i + 1))
    unfold f_X7_staysAll_b4
    rw [a.1, if_neg (nI_ge hi (by omega)), m_stays (K := K) (by omega) (a.2.2.2 i hi).1 (ho.2.2 i hi).1, bind_e, nI_add, nI_1]
  · intro q
    show f_X7_staysAll_b4 v (nI (sSa K n)) (nI n) q = _
    unfold f_X7_staysAll_b4
    rw [a.1, if_pos (Int32.le_refl _)]
theorem sUb_lt {n : Nat} {T : Nat → Nat} (h : ∀ p, p < n → T p ≤ 5) : ∀ i, i ≤ n → sUb T i < 64 := by
  intro i
  induction i with
  | zero => intro _; show 0 < 64; omega
  | succ i ih => intro hi; exact (t_or _ (ih (by omega)) (T i) (by have := h i (by omega); omega)).2
theorem x_unlike {v : obV} {n : Nat} {K T C : Nat → Nat} {P : Nat} {ch : Int32} (a : cvX v n K T C P ch) (ho : okC n K T C P) : f_X1_unlikeTroubles v = some (nI (pc6 (sUb T n))) := by
  have hn := ho.1
  have hb := sUb_lt (n := n) (T := T) (fun p hp => (ho.2.2 p hp).2.1)
  have key := lp_sum (body := fun k (y : Int32 × Int32) => f_X1_unlikeTroubles_b4 v y.1 y.2 k) (σ := Int32) (fun i s => (s, nI i)) n (fun i => nI (sUb T i)) (some (nI (pc6 (sUb T n)))) ?_ ?_ fu 0 (Nat.zero_le _) (q_fu (by omega))
  · have e : ((nI (sUb T 0), nI 0) : Int32 × Int32) = (0, 0) := rfl
    rw [e] at key
    exact key
  · intro i hi q
    show f_X1_unlikeTroubles_b4 v (nI (sUb T i)) (nI i) q = q (nI (sUb T i ||| 2 ^ T i), nI (i + 1))
    unfold f_X1_unlikeTroubles_b4
    rw [a.1, if_neg (nI_ge hi (by omega)), if_neg (nI_in (show i < 5 by omega) (by decide)), nI_clamp (by omega), (a.2.2.2 i hi).2.1, hlet_e, (t_or _ (hb i (by omega)) (T i) (by have := (ho.2.2 i hi).2.1; omega)).1, nI_1]
  · intro q
    show f_X1_unlikeTroubles_b4 v (nI (sUb T n)) (nI n) q = _
    unfold f_X1_unlikeTroubles_b4
    rw [a.1, if_pos (Int32.le_refl _), t_bc _ (hb n (Nat.le_refl _)), bind_e]
theorem t_ul : ∀ s, s < 64 → ∀ y, y < 6 → nI (pc6 s) + (1 - ((nI s >>> (nI y &&& 31)) &&& 1)) = nI (pc6 (s ||| 2 ^ y)) := by decide +kernel
theorem m_unlike {v : obV} {n : Nat} {K T C : Nat → Nat} {P : Nat} {ch : Int32} (a : cvM v n K T C P ch) (ho : okC n K T C P) : f_X7_unlike v = some (nI (pc6 (sUb T n))) := by
  have hn := ho.1
  have hb := sUb_lt (n := n) (T := T) (fun p hp => (ho.2.2 p hp).2.1)
  have key := lp_sum (body := fun k (y : Int32 × Int32 × Int32) => f_X7_unlike_b6 v y.1 y.2.1 y.2.2 k) (σ := Int32 × Int32) (fun i s => (s.1, s.2, nI i)) n (fun i => (nI (sUb T i), nI (pc6 (sUb T i)))) (some (nI (pc6 (sUb T n)))) ?_ ?_ fu 0 (Nat.zero_le _) (q_fu (by omega))
  · have e : ((nI (sUb T 0), nI (pc6 (sUb T 0)), nI 0) : Int32 × Int32 × Int32) = (0, 0, 0) := by
      rw [show sUb T 0 = 0 from rfl, show pc6 0 = 0 from rfl, nI_0]
    rw [e] at key
    exact key
  · intro i hi q
    show f_X7_unlike_b6 v (nI (sUb T i)) (nI (pc6 (sUb T i))) (nI i) q = q (nI (sUb T i ||| 2 ^ T i), nI (pc6 (sUb T i ||| 2 ^ T i)), nI (i + 1))
    have hT : T i < 6 := by have := (ho.2.2 i hi).2.1; omega
    have i2 := nI_in (show 3 * i + 1 < 15 by omega) (by decide)
    unfold f_X7_unlike_b6
    rw [a.1, if_neg (nI_ge hi (by omega)), q_l3, pk_mul, nI_1, if_neg i2, hlet_e, if_neg i2, hlet_e, nI_clamp (by omega), (a.2.2.2 i hi).2.1, t_ul _ (hb i (by omega)) _ hT, (t_or _ (hb i (by omega)) (T i) hT).1, nI_1]
  · intro q
    show f_X7_unlike_b6 v (nI (sUb T n)) (nI (pc6 (sUb T n))) (nI n) q = _
    unfold f_X7_unlike_b6
    rw [a.1, if_pos (Int32.le_refl _)]
theorem count_eq {v_x v_x_page v_x_now v_x_now_seen v_m : obV} {n rd : Nat} (pg : pgR v_x_page v_m) (sn : snR v_x_now_seen v_m) (cv : cvR n v_x_now v_m) (e : v_x.1 7 = nI rd) (f : v_m.1 9 = nI rd) (x1 : Int32) : ∃ r, f_X6_count v_x v_x_page v_x_now v_x_now_seen x1 = some r ∧ f_X7_countOf v_m x1 = some r := by
  obtain ⟨L, c, p1, p2, _⟩ := pg
  obtain ⟨k, sl, sm, s1, s2, _⟩ := sn
  obtain ⟨K, T, C, P, ch, a, b, ho⟩ := cv
  unfold f_X6_count f_X7_countOf
  rw [x_allStay a ho, m_staysAll b ho, x_unlike a ho, m_unlike b ho, bind_e, bind_e, a.1, b.1, a.2.1, b.2.1, a.2.2.1, b.2.2.1, s1.1, s2.1, p1.1, p2.1, e, f]
  repeat' split
  all_goals exact ⟨_, rfl, rfl⟩
theorem op_count {t : Nat} {v_x : obV} {v_x_page : obV} {v_x_now : obV} {v_x_now_seen : obV} {v_x_kept : obV} {v_x_kept_seen : obV} {v_x_today : obV} {v_x_trials : obV} {w_x_trials : Nat → Nat → Int32} {v_x_trials_day : obV} {v_x_best : obV} {v_m : obV} {h_m : Int64} (hR : Rel t v_x v_x_page v_x_now v_x_now_seen v_x_kept v_x_kept_seen v_m) (x1 : Int32) : ∃ (ux : Int32) (um : Int32), f_X6_count v_x v_x_page v_x_now v_x_now_seen x1 = some ux ∧ f_X7_count v_m x1 = some um ∧ ux = um ∧ Rel (t + 1) (v_x) (v_x_page) (v_x_now) (v_x_now_seen) (v_x_kept) (v_x_kept_seen) (v_m) := by
  obtain ⟨pg, sn, n, rd, cv, d, e, f, g⟩ := id hR
  obtain ⟨r, r1, r2⟩ := count_eq pg sn cv e f x1
  unfold f_X7_count
  rw [r1, r2, bind_e]
  exact ⟨_, _, rfl, rfl, rfl, hR.up⟩
