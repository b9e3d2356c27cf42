/-! CAVE -/
theorem wk_59 {c : Nat → Nat} : ∀ i sm, wk c i = some sm → ∀ j, j < i → c j = 59 → sm = some j := by
  intro i
  induction i with
  | zero => intro sm _ j hj; exact absurd hj (Nat.not_lt_zero _)
  | succ i ih =>
    intro sm' h j hj h59
    rw [wk_s] at h
    cases hw : wk c i with
    | none => rw [hw] at h; cases h
    | some sm =>
      rw [hw] at h
      have h : (if rt c sm i = true then some (wkS c sm i) else none) = some sm' := h
      by_cases hr : rt c sm i = true
      · rw [if_pos hr] at h
        have h : wkS c sm i = sm' := Option.some.inj h
        subst h
        unfold wkS
        by_cases e : j = i
        · rw [← e, if_pos h59]
        · have hsm := ih sm hw j (by omega) h59
          subst hsm
          have hr : (decide (i = j + 1) && dgt 9 (c i)) = true := hr
          rw [Bool.and_eq_true] at hr
          rw [if_neg (fun q => by have h2 := hr.2; rw [q, dgt_59 9 (by decide)] at h2; cases h2)]
      · rw [if_neg hr] at h; cases h
def Kc (c : Nat → Nat) (p : Nat) : Nat := (kd (c (4 * p))).getD 0
def Tc (c : Nat → Nat) (p : Nat) : Nat := c (4 * p + 1) - 48
def Cc (c : Nat → Nat) (p : Nat) : Nat := c (4 * p + 2) - 48
theorem dgt_sub {m a : Nat} (h : dgt m a = true) : nI a - 48 = nI (a - 48) ∧ a - 48 ≤ m := by
  have h := of_decide_eq_true h
  exact ⟨by rw [q_l48, pk_sub h.1], by omega⟩
theorem kd_lt {a k : Nat} (h : kd a = some k) : k < 5 := by
  unfold kd at h
  repeat' split at h
  all_goals first | (cases h; omega) | cases h
theorem okC_of {c : Nat → Nat} {n : Nat} (hn : n ≤ 5) (h4 : dgt 9 (c (4 * n)) = true) (h : ∀ j, j < 4 * n - 1 → (j % 4 = 0 → (kd (c j)).isSome = true) ∧ (j % 4 = 1 → dgt 5 (c j) = true) ∧ (j % 4 = 2 → dgt 9 (c j) = true)) : okC n (Kc c) (Tc c) (Cc c) (c (4 * n) - 48) := by
  refine ⟨hn, by have := (dgt_sub h4).2; omega, fun p hp => ⟨?_, ?_, ?_⟩⟩
  · unfold Kc
    cases hk : kd (c (4 * p)) with
    | none => exact Nat.zero_le _
    | some k => have := kd_lt hk; show k ≤ 4; omega
  · exact (dgt_sub ((h (4 * p + 1) (by omega)).2.1 (by omega))).2
  · exact (dgt_sub ((h (4 * p + 2) (by omega)).2.2 (by omega))).2
theorem kc_en {c : Nat → Nat} {p : Nat} (h : (kd (c (4 * p))).isSome = true) : en (kd (c (4 * p))) = nI (Kc c p) := by
  unfold Kc
  cases hk : kd (c (4 * p)) with
  | none => rw [hk] at h; cases h
  | some k => rfl
theorem x_read {vn vp vs : obV} {c : Nat → Nat} {n : Nat} (hp : pgX vp (4 * n + 1) c) (ho : okP (4 * n + 1) c) (hn : n ≤ 5) (h4 : dgt 9 (c (4 * n)) = true) (h : ∀ j, j < 4 * n - 1 → (j % 4 = 0 → (kd (c j)).isSome = true) ∧ (j % 4 = 1 → dgt 5 (c j) = true) ∧ (j % 4 = 2 → dgt 9 (c j) = true)) : ∃ vn', f_X1_read vn vp vs = some (vn', oF vs 2 0) ∧ cvX vn' n (Kc c) (Tc c) (Cc c) (c (4 * n) - 48) 0 := by
  have key : ∃ vn', f_X1_read_l14 vp vs fu (oF vn 4 (nI n), 0) = some (vn', oF vs 2 0) ∧ cvX vn' n (Kc c) (Tc c) (Cc c) (c (4 * n) - 48) 0 := by
    refine lp_up (σ := obV) (fun i s => (s, nI i)) n (fun i s => s.1 4 = nI n ∧ ∀ p, p < i → s.2 0 p = nI (Kc c p) ∧ s.2 1 p = nI (Tc c p) ∧ s.2 2 p = nI (Cc c p)) (fun z => ∃ vn', z = some (vn', oF vs 2 0) ∧ cvX vn' n (Kc c) (Tc c) (Cc c) (c (4 * n) - 48) 0) ?_ ?_ fu 0 (oF vn 4 (nI n)) ⟨rfl, fun p hp => absurd hp (Nat.not_lt_zero _)⟩ (Nat.zero_le _) (q_fu (by omega))
    · rintro i s hi ⟨h1, h2⟩
      have k0 := (h (4 * i) (by omega)).1 (by omega)
      have k1 := dgt_sub ((h (4 * i + 1) (by omega)).2.1 (by omega))
      have k2 := dgt_sub ((h (4 * i + 2) (by omega)).2.2 (by omega))
      refine ⟨oA (oA (oA s 0 i (nI (Kc c i))) 1 i (nI (Tc c i))) 2 i (nI (Cc c i)), ⟨h1, fun p hp => ?_⟩, fun k => ?_⟩
      · show upd (s.2 0) i (nI (Kc c i)) p = _ ∧ upd (s.2 1) i (nI (Tc c i)) p = _ ∧ upd (s.2 2) i (nI (Cc c i)) p = _
        rw [q_upd, q_upd, q_upd]
        by_cases e : p = i
        · rw [if_pos e, if_pos e, if_pos e, e]; exact ⟨rfl, rfl, rfl⟩
        · rw [if_neg e, if_neg e, if_neg e]; exact h2 p (by omega)
      · show f_X1_read_b14 s vp vs (nI i) k = _
        unfold f_X1_read_b14
        rw [h1, if_neg (nI_ge hi (by omega)), q_l4, pk_mul, if_neg (nI_in (show 4 * i < 24 by omega) (by decide)), nI_clamp (by omega), hp.2 _ (by omega), t_kx _ (ho.2 _ (by omega)), bind_e, if_neg (nI_in (show i < 5 by omega) (by decide)), hlet_e, nI_1, x_digit hp ho (by omega), bind_e, if_neg (nI_in (show i < 5 by omega) (by decide)), hlet_e, q_l2, nI_add, x_digit hp ho (by omega), bind_e, if_neg (nI_in (show i < 5 by omega) (by decide)), hlet_e, nI_clamp (by omega), kc_en k0, k1.1, k2.1, nI_1]
        rfl
    · rintro s ⟨h1, h2⟩
      refine ⟨_, ⟨oF (oF s 5 (nI (c (4 * n) - 48))) 6 0, rfl, h1, rfl, rfl, h2⟩, fun k => ?_⟩
      show f_X1_read_b14 s vp vs (nI n) k = _
      unfold f_X1_read_b14
      rw [h1, if_pos (Int32.le_refl _), q_l4, pk_mul, x_digit hp ho (by omega), bind_e, hlet_e, hlet_e, hlet_e, (dgt_sub h4).1]
  obtain ⟨vn', r1, r2⟩ := key
  refine ⟨vn', ?_, r2⟩
  unfold f_X1_read f_X3_pilgrims
  rw [bind_e, hp.1, q_l4, pk_div (by omega) (by decide) (by decide), hlet_e, show (4 * n + 1) / 4 = n by omega, if_neg (by rw [q_l5]; exact nI_nlt hn (by decide))]
  exact r1
theorem x_isCave {v : obV} {L r : Nat} {c : Nat → Nat} (hp : pgX v L c) (ho : okP L c) (h1 : f_X3_firstWrong v = some (nI r)) (h2 : fwP c L r) : f_X3_isCave v = some (nI (if 2 ≤ L ∧ c (L - 2) = 59 ∧ r = L then 1 else 0)) := by
  have hL := ho.1
  have hrL := h2.1
  unfold f_X3_isCave
  rw [hp.1, h1, q_l2]
  by_cases q1 : L < 2
  · rw [if_pos (nI_lt q1 (by decide)), if_neg (fun q => by omega)]; rfl
  · rw [if_neg (nI_nlt (by omega) (by omega)), pk_sub (by omega), if_neg (nI_in (show L - 2 < 24 by omega) (by decide)), nI_clamp (by omega), hp.2 _ (by omega)]
    by_cases q2 : c (L - 2) = 59
    · rw [if_pos (by rw [q2]; rfl), bind_e]
      by_cases q3 : r = L
      · rw [if_pos (by rw [q3]), if_pos ⟨by omega, q2, q3⟩]; rfl
      · rw [if_neg (fun q => q3 ((nI_eq (by omega) (by omega)).mp q)), if_neg (fun q => q3 q.2.2)]; rfl
    · rw [if_neg (fun q => q2 ((nI_eq (by have := ho.2 (L - 2) (by omega); omega) (by decide)).mp (q.trans q_l59))), if_neg (fun q => q2 q.2.1)]; rfl
theorem op_cave {t : Nat} {v_x v_x_page v_x_now v_x_now_seen v_x_kept v_x_kept_seen v_m : obV} (hR : Rel t v_x v_x_page v_x_now v_x_now_seen v_x_kept v_x_kept_seen v_m) : ∃ (ux : Int32 × obV × obV × obV × obV) (um : Int32 × obV), f_X6_cave v_x v_x_page v_x_now v_x_now_seen = some ux ∧ f_X7_cave v_m = some um ∧ ux.1 = um.1 ∧ Rel (t + 1) (ux.2.1) (ux.2.2.1) (ux.2.2.2.1) (ux.2.2.2.2) (v_x_kept) (v_x_kept_seen) (um.2) := by
  obtain ⟨L, c, a1, a2, a3⟩ := hR.1
  have hL := a3.1
  obtain ⟨r, h1, h2⟩ := x_firstWrong a1 a3
  obtain ⟨r', v', sm, k1, k2, k3, k4⟩ := m_faultOf a2 a3
  have e := fwP_one h2 k2
  subst e
  have hrL := h2.1
  have hv1 : v'.1 1 = nI L := (k3.1 1 (by decide)).trans a2.1
  unfold f_X6_cave f_X7_cave
  rw [k1, bind_e, x_isCave a1 a3 h1 h2, bind_e]
  simp only [hv1]
  by_cases hr : r = L
  · subst hr
    obtain ⟨hw, hg⟩ := k4 rfl
    rw [if_neg (nI_nlt (Nat.le_refl _) (by omega))]
    by_cases hs : ∃ s, sm = some s ∧ r = s + 2
    · obtain ⟨s, rfl, rfl⟩ := hs
      obtain ⟨w1, w2, w3, w4, w5⟩ := wk_ok _ _ hw
      obtain ⟨g1, g2, g3, g4⟩ := hg
      have hd : dgt 9 (c (s + 1)) = true := w4.elim (fun q => absurd q (by omega)) (fun q => q.2)
      obtain ⟨n, rfl⟩ : ∃ n, s = 4 * n + 3 := ⟨s / 4, by omega⟩
      have hq : okC (n + 1) (Kc c) (Tc c) (Cc c) (c (4 * (n + 1)) - 48) := okC_of (by omega) (by rw [show 4 * (n + 1) = 4 * n + 3 + 1 by omega]; exact hd) (fun j hj => w5 j (by omega))
      obtain ⟨vn', x1, x2⟩ := x_read (vn := v_x_now) (vp := v_x_page) (vs := v_x_now_seen) (c := c) (n := n + 1) (by rw [show 4 * (n + 1) + 1 = 4 * n + 3 + 2 by omega]; exact a1) (by rw [show 4 * (n + 1) + 1 = 4 * n + 3 + 2 by omega]; exact a3) (by omega) (by rw [show 4 * (n + 1) = 4 * n + 3 + 1 by omega]; exact hd) (fun j hj => w5 j (by omega))
      have hgs : v'.1 5 = 5 := by rw [g1, show 4 * n + 3 + 2 - (4 * n + 3) + 3 = 5 by omega]; rfl
      have n1 : 2 ≤ 4 * n + 3 + 2 ∧ c (4 * n + 3 + 2 - 2) = 59 ∧ 4 * n + 3 + 2 = 4 * n + 3 + 2 := ⟨by omega, w3, rfl⟩
      rw [if_pos n1, if_neg (show ¬ nI 1 = 0 by decide), x1, bind_e, if_pos hgs, hlet_e, hlet_e, hlet_e, hlet_e]
      obtain ⟨g, c1, c2⟩ := m_copy (f := v'.2 2) (g := v'.2 10) (n := 15) (by decide)
      have c1 : f_X7_copy 15 15 ((oF v' 6 (v'.1 3)).2 2) ((oF v' 6 (v'.1 3)).2 10) = some g := c1
      rw [c1, bind_e, hlet_e, hlet_e, hlet_e, hlet_e, hlet_e]
      obtain ⟨_, b, n0, rd, _, d, e, f, g0⟩ := hR
      have e9 : v'.1 9 = nI rd := (k3.1 9 (by decide)).trans f
      refine ⟨_, _, rfl, rfl, ?_, ⟨0, c, ⟨rfl, fun j hj => absurd hj (Nat.not_lt_zero _)⟩, ⟨rfl, fun j hj => absurd hj (Nat.not_lt_zero _)⟩, ⟨by decide, fun j hj => absurd hj (Nat.not_lt_zero _)⟩⟩, ⟨0, id, id, ⟨rfl, fun j hj => absurd hj (Nat.not_lt_zero _)⟩, ⟨rfl, fun j hj => absurd hj (Nat.not_lt_zero _)⟩, ⟨by decide, fun j hj => absurd hj (Nat.not_lt_zero _)⟩⟩, n + 1, rd + 1, ⟨Kc c, Tc c, Cc c, c (4 * (n + 1)) - 48, 0, x2, ⟨?_, ?_, rfl, fun p hp => ?_⟩, hq⟩, by omega, ?_, ?_, Or.inl ⟨rfl, ?_⟩⟩
      · show vn'.1 4 = v'.1 3
        rw [x2.1, g2, show (4 * n + 3 + 1) / 4 = n + 1 by omega]
      · show v'.1 3 = _
        rw [g2, show (4 * n + 3 + 1) / 4 = n + 1 by omega]
      · show v'.1 4 = _
        rw [g3 rfl, (dgt_sub hd).1, show 4 * n + 3 + 1 = 4 * (n + 1) by omega]
      · show g (3 * p) = _ ∧ g (3 * p + 1) = _ ∧ g (3 * p + 2) = _
        rw [c2 _ (by omega), c2 _ (by omega), c2 _ (by omega)]
        have t0 := (g4 (4 * p) (by omega)).1 (by omega)
        have t1 := (g4 (4 * p + 1) (by omega)).2.1 (by omega)
        have t2 := (g4 (4 * p + 2) (by omega)).2.2 (by omega)
        rw [show 4 * p / 4 = p by omega] at t0
        rw [show (4 * p + 1) / 4 = p by omega] at t1
        rw [show (4 * p + 2) / 4 = p by omega] at t2
        rw [t0, t1, t2]
        exact ⟨kc_en ((w5 (4 * p) (by omega)).1 (by omega)), (dgt_sub ((w5 (4 * p + 1) (by omega)).2.1 (by omega))).1, (dgt_sub ((w5 (4 * p + 2) (by omega)).2.2 (by omega))).1⟩
      · show v_x.1 7 + 1 = _
        rw [e, nI_1]
      · show v'.1 9 + 1 = _
        rw [e9, nI_1]
      · show v'.1 23 = NO ∨ ∃ q, q < rd + 1 ∧ v'.1 23 = nI q
        rw [k3.1 23 (by decide)]
        rcases g0 with ⟨_, q | ⟨q, q1, q2⟩⟩ | ⟨_, q, _⟩
        · exact Or.inl q
        · exact Or.inr ⟨q, by omega, q2⟩
        · exact Or.inr ⟨rd, by omega, q⟩
    · have n1 : ¬ (2 ≤ r ∧ c (r - 2) = 59 ∧ r = r) := fun q => hs ⟨r - 2, wk_59 r sm hw (r - 2) (by omega) q.2.1, by omega⟩
      have n2 : ¬ v'.1 5 = 5 := by
        cases sm with
        | none =>
          rw [hg.1]
          have := Nat.mod_lt r (show 4 > 0 by decide)
          exact fun q => by have := (nI_eq (by omega) (by decide)).mp (q.trans q_l5); omega
        | some s =>
          rw [hg.1]
          obtain ⟨_, _, _, w4, _⟩ := wk_ok _ _ hw
          rcases w4 with q | q
          · exact fun z => by have := (nI_eq (by omega) (by decide)).mp (z.trans q_l5); omega
          · exact absurd ⟨s, rfl, q.1⟩ hs
      rw [if_neg n1, if_pos nI_0, if_neg n2]
      exact ⟨_, _, rfl, rfl, rfl, hR.s (k3.s (by decide) (by decide))⟩
  · have n1 : ¬ (2 ≤ L ∧ c (L - 2) = 59 ∧ r = L) := fun q => hr q.2.2
    rw [if_neg n1, if_pos nI_0, if_pos (nI_lt (by omega) (by omega))]
    exact ⟨_, _, rfl, rfl, rfl, hR.s (k3.s (by decide) (by decide))⟩
