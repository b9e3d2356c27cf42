/-! ORDER: the orders in turn -/
def rsP (t : Nat → Nat) : Nat → Option Nat
  | 0 => none
  | i + 1 => if t i ≤ t (i + 1) then some i else rsP t i
def lgP (t : Nat → Nat) (r : Nat) : Nat → Nat
  | 0 => 0
  | j + 1 => if j + 1 ≤ r then j + 1 else if t r ≤ t (j + 1) then j + 1 else lgP t r j
def swP (t : Nat → Nat) (a b : Nat) : Nat → Nat := fun j => if j = b then t a else if j = a then t b else t j
def rvP : Nat → (Nat → Nat) → Nat → Nat → (Nat → Nat)
  | 0, t, _, _ => t
  | f + 1, t, lo, hi => if hi ≤ lo then t else rvP f (swP t lo hi) (lo + 1) (hi - 1)
def nxP (n : Nat) (t : Nat → Nat) : Option (Nat → Nat) := match rsP t (n - 1) with
  | none => none
  | some r => some (rvP 5 (swP t r (lgP t r (n - 1))) (r + 1) (n - 1))
theorem rsP_lt {t : Nat → Nat} : ∀ {i r}, rsP t i = some r → r < i := by
  intro i
  induction i with
  | zero => intro r h; cases h
  | succ i ih =>
    intro r h
    have h : (if t i ≤ t (i + 1) then some i else rsP t i) = some r := h
    by_cases hc : t i ≤ t (i + 1)
    · rw [if_pos hc] at h; cases h; exact Nat.lt_succ_self _
    · rw [if_neg hc] at h; exact Nat.lt_succ_of_lt (ih h)
theorem lgP_le {t : Nat → Nat} {r : Nat} : ∀ j, lgP t r j ≤ j := by
  intro j
  induction j with
  | zero => exact Nat.le_refl _
  | succ j ih =>
    show (if j + 1 ≤ r then j + 1 else if t r ≤ t (j + 1) then j + 1 else lgP t r j) ≤ j + 1
    split
    · exact Nat.le_refl _
    · split
      · exact Nat.le_refl _
      · omega
/-- the class's tried row is t -/
def trd (v : obV) (t : Nat → Nat) : Prop := ∀ j, j < 5 → v.2 0 j = nI (t j) ∧ t j ≤ 4
theorem x_swap {v : obV} {t : Nat → Nat} {a b : Nat} (ha : a < 5) (hb : b < 5) (h : trd v t) : ∃ v', f_X0_swap v (nI a) (nI b) = some v' ∧ trd v' (swP t a b) ∧ chM [] [0] v v' := by
  refine ⟨oA (oA v 0 a (v.2 0 b)) 0 b (v.2 0 a), ?_, fun j hj => ?_, (chM.rf.A (by decide)).A (by decide)⟩
  · unfold f_X0_swap
    simp only [hlet]
    have ga := nI_in (c := a) (N := 5) ha (by decide)
    have gb := nI_in (c := b) (N := 5) hb (by decide)
    rw [if_neg ga, if_neg gb, if_neg ga, if_neg gb, nI_clamp (by omega), nI_clamp (by omega)]
  · show upd (upd (v.2 0) a (v.2 0 b)) b (v.2 0 a) j = nI (if j = b then t a else if j = a then t b else t j) ∧ (if j = b then t a else if j = a then t b else t j) ≤ 4
    rw [q_upd, q_upd]
    by_cases e1 : j = b
    · rw [if_pos e1, if_pos e1]; exact h a ha
    · rw [if_neg e1, if_neg e1]
      by_cases e2 : j = a
      · rw [if_pos e2, if_pos e2]; exact h b hb
      · rw [if_neg e2, if_neg e2]; exact h j hj
theorem x_rev {v : obV} {t : Nat → Nat} {f lo hi : Nat} (h : trd v t) (hlo : lo ≤ 5) (hhi : hi < 5) (hf : hi < lo + 2 * f) (hf5 : f ≤ 5) : ∃ v', f_X0_turnToNext_l91 fu (v, nI lo, nI hi) = some (1, v') ∧ trd v' (rvP f t lo hi) ∧ chM [] [0] v v' := by
  have gen : ∀ (f n lo hi : Nat) (w : obV) (t : Nat → Nat), trd w t → lo ≤ 5 → hi < 5 → hi < lo + 2 * f → f < n → ∃ v', lp (fun k y => f_X0_turnToNext_b91 y.1 y.2.1 y.2.2 k) n (w, nI lo, nI hi) = some (1, v') ∧ trd v' (rvP f t lo hi) ∧ chM [] [0] w v' := by
    intro f
    induction f with
    | zero =>
      intro n lo hi w t h hlo hhi hf hn
      obtain ⟨n, rfl⟩ : ∃ m, n = m + 1 := ⟨n - 1, by omega⟩
      refine ⟨w, ?_, h, chM.rf⟩
      show f_X0_turnToNext_b91 w (nI lo) (nI hi) _ = _
      unfold f_X0_turnToNext_b91
      rw [if_pos (nI_le (by omega) (by omega))]
    | succ f ih =>
      intro n lo hi w t h hlo hhi hf hn
      obtain ⟨n, rfl⟩ : ∃ m, n = m + 1 := ⟨n - 1, by omega⟩
      show ∃ v', f_X0_turnToNext_b91 w (nI lo) (nI hi) (lp (fun k y => f_X0_turnToNext_b91 y.1 y.2.1 y.2.2 k) n) = some (1, v') ∧ trd v' (if hi ≤ lo then t else rvP f (swP t lo hi) (lo + 1) (hi - 1)) ∧ chM [] [0] w v'
      unfold f_X0_turnToNext_b91
      by_cases hc : hi ≤ lo
      · rw [if_pos (nI_le hc (by omega)), if_pos hc]
        exact ⟨w, rfl, h, chM.rf⟩
      · rw [if_neg (nI_ge (by omega) (by omega)), if_neg hc]
        obtain ⟨v1, r1, r2, r3⟩ := x_swap (a := lo) (b := hi) (by omega) hhi h
        obtain ⟨v2, q1, q2, q3⟩ := ih n (lo + 1) (hi - 1) v1 (swP t lo hi) r2 (by omega) (by omega) (by omega) (by omega)
        refine ⟨v2, ?_, q2, r3.tr q3⟩
        rw [r1]
        simp only [Option.bind]
        have e : nI hi + (-1) = nI (hi - 1) := by
          have := pk_m1 (hi - 1)
          rwa [show hi - 1 + 1 = hi by omega] at this
        rw [e, nI_1]
        exact q1
  exact gen f fu lo hi v t h hlo hhi hf (q_fu (by omega))
theorem x_turn {v : obV} {t : Nat → Nat} {n : Nat} (hn1 : 1 ≤ n) (hn : n ≤ 5) (hsz : v.1 2 = nI n) (h : trd v t) : (nxP n t = none → f_X0_turnToNext v = some (0, v)) ∧ (∀ t', nxP n t = some t' → ∃ v', f_X0_turnToNext v = some (1, v') ∧ trd v' t' ∧ chM [] [0] v v') := by
  -- from the place of the rise on
  have s34 : ∀ r, r < n - 1 → ∃ v', f_X0_turnToNext_b34 v (nI r) = some (1, v') ∧ trd v' (rvP 5 (swP t r (lgP t r (n - 1))) (r + 1) (n - 1)) ∧ chM [] [0] v v' := by
    intro r hr
    unfold f_X0_turnToNext_b34
    rw [if_pos (show (0 : Int32) ≤ nI r from nI_pos' (by omega)), hsz, show nI n - 1 = nI (n - 1) from by rw [q_l1, pk_sub (by omega)]]
    have s73 : ∀ j, j < n → r < n → ∃ v', f_X0_turnToNext_b73 v (nI r) (nI j) = some (1, v') ∧ trd v' (rvP 5 (swP t r j) (r + 1) (n - 1)) ∧ chM [] [0] v v' := by
      intro j hj hr
      unfold f_X0_turnToNext_b73
      obtain ⟨v1, r1, r2, r3⟩ := x_swap (a := r) (b := j) (by omega) (by omega) h
      obtain ⟨v2, q1, q2, q3⟩ := x_rev (f := 5) (lo := r + 1) (hi := n - 1) r2 (by omega) (by omega) (by omega) (Nat.le_refl _)
      refine ⟨v2, ?_, q2, r3.tr q3⟩
      rw [r1]
      simp only [Option.bind]
      rw [r3.1 2 (by decide), hsz, nI_1, show nI n - 1 = nI (n - 1) from by rw [q_l1, pk_sub (by omega)]]
      exact q1
    -- the larger one
    have gen : ∀ (j m : Nat), j < n → j < m → ∃ v', lp (fun k y => f_X0_turnToNext_b47 v (nI r) y k) m (nI j) = some (1, v') ∧ trd v' (rvP 5 (swP t r (lgP t r j)) (r + 1) (n - 1)) ∧ chM [] [0] v v' := by
      intro j
      induction j with
      | zero =>
        intro m hj hm
        obtain ⟨m, rfl⟩ : ∃ q, m = q + 1 := ⟨m - 1, by omega⟩
        show ∃ v', f_X0_turnToNext_b47 v (nI r) (nI 0) _ = some (1, v') ∧ _
        unfold f_X0_turnToNext_b47
        rw [if_pos (nI_le (Nat.zero_le _) (by omega))]
        exact s73 0 hj (by omega)
      | succ j ih =>
        intro m hj hm
        obtain ⟨m, rfl⟩ : ∃ q, m = q + 1 := ⟨m - 1, by omega⟩
        show ∃ v', f_X0_turnToNext_b47 v (nI r) (nI (j + 1)) (lp (fun k y => f_X0_turnToNext_b47 v (nI r) y k) m) = some (1, v') ∧ trd v' (rvP 5 (swP t r (if j + 1 ≤ r then j + 1 else if t r ≤ t (j + 1) then j + 1 else lgP t r j)) (r + 1) (n - 1)) ∧ _
        have a1 := h r (by omega)
        have a2 := h (j + 1) (by omega)
        have body : ∀ k, f_X0_turnToNext_b47 v (nI r) (nI (j + 1)) k = if j + 1 ≤ r then f_X0_turnToNext_b73 v (nI r) (nI (j + 1)) else if t r ≤ t (j + 1) then f_X0_turnToNext_b73 v (nI r) (nI (j + 1)) else k (nI j) := by
          intro k
          unfold f_X0_turnToNext_b47
          by_cases h1 : j + 1 ≤ r
          · rw [if_pos (nI_le h1 (by omega)), if_pos h1]
          · rw [if_neg (nI_ge (by omega) (by omega)), if_neg h1, if_neg (nI_in (show j + 1 < 5 by omega) (by decide)), if_neg (nI_in (show r < 5 by omega) (by decide)), nI_clamp (by omega), nI_clamp (by omega), a1.1, a2.1]
            by_cases h2 : t r ≤ t (j + 1)
            · rw [if_pos (nI_le h2 (by omega)), if_pos h2]
            · rw [if_neg (nI_ge (by omega) (by omega)), if_neg h2, pk_m1]
        rw [body]
        by_cases h1 : j + 1 ≤ r
        · rw [if_pos h1, if_pos h1]
          exact s73 (j + 1) hj (by omega)
        · rw [if_neg h1, if_neg h1]
          by_cases h2 : t r ≤ t (j + 1)
          · rw [if_pos h2, if_pos h2]
            exact s73 (j + 1) hj (by omega)
          · rw [if_neg h2, if_neg h2]
            exact ih m (by omega) (by omega)
    exact gen (n - 1) fu (by omega) (q_fu (by omega))
  have gen : ∀ (i m : Nat), i ≤ n - 1 → i < m → (rsP t i = none → lp (fun k y => f_X0_turnToNext_b7 v y k) m (nI i - 1) = some (0, v)) ∧ (∀ r, rsP t i = some r → ∃ v', lp (fun k y => f_X0_turnToNext_b7 v y k) m (nI i - 1) = some (1, v') ∧ trd v' (rvP 5 (swP t r (lgP t r (n - 1))) (r + 1) (n - 1)) ∧ chM [] [0] v v') := by
    intro i
    induction i with
    | zero =>
      intro m hi hm
      obtain ⟨m, rfl⟩ : ∃ q, m = q + 1 := ⟨m - 1, by omega⟩
      refine ⟨fun _ => ?_, fun r hr => by cases hr⟩
      show f_X0_turnToNext_b7 v (nI 0 - 1) _ = _
      unfold f_X0_turnToNext_b7 f_X0_turnToNext_b34
      rw [if_pos (by decide), if_neg (by decide)]
    | succ i ih =>
      intro m hi hm
      obtain ⟨m, rfl⟩ : ∃ q, m = q + 1 := ⟨m - 1, by omega⟩
      have a1 := h i (by omega)
      have a2 := h (i + 1) (by omega)
      have body : ∀ k, f_X0_turnToNext_b7 v (nI (i + 1) - 1) k = if t i ≤ t (i + 1) then f_X0_turnToNext_b34 v (nI i) else k (nI i - 1) := by
        intro k
        unfold f_X0_turnToNext_b7
        rw [show nI (i + 1) - 1 = nI i from nI_pred i, if_neg (nI_pos (by omega)), if_neg (nI_in (show i < 5 by omega) (by decide)), nI_1, if_neg (nI_in (show i + 1 < 5 by omega) (by decide)), nI_clamp (by omega), nI_clamp (by omega), a1.1, a2.1]
        by_cases hc : t i ≤ t (i + 1)
        · rw [if_pos hc, if_pos (nI_le hc (by omega))]
        · rw [if_neg hc, if_neg (nI_ge (by omega) (by omega)), Int32.sub_eq_add_neg]
      show ((if t i ≤ t (i + 1) then some i else rsP t i) = none → f_X0_turnToNext_b7 v (nI (i + 1) - 1) (lp (fun k y => f_X0_turnToNext_b7 v y k) m) = some (0, v)) ∧ (∀ r, (if t i ≤ t (i + 1) then some i else rsP t i) = some r → ∃ v', f_X0_turnToNext_b7 v (nI (i + 1) - 1) (lp (fun k y => f_X0_turnToNext_b7 v y k) m) = some (1, v') ∧ _)
      rw [body]
      by_cases hc : t i ≤ t (i + 1)
      · rw [if_pos hc, if_pos hc]
        exact ⟨fun e => (by cases e), fun r e => (by cases e; exact s34 i (by omega))⟩
      · rw [if_neg hc, if_neg hc]
        exact ih m (by omega) (by omega)
  have hst : f_X0_turnToNext v = lp (fun k y => f_X0_turnToNext_b7 v y k) fu (nI (n - 1) - 1) := by
    show lp (fun k y => f_X0_turnToNext_b7 v y k) fu (v.1 2 - 2) = _
    rw [hsz]
    congr 1
    obtain ⟨m, rfl⟩ : ∃ q, n = q + 1 := ⟨n - 1, by omega⟩
    show nI (m + 1) - 2 = nI m - 1
    cases m with
    | zero => decide
    | succ m => rw [q_l2, q_l1, pk_sub (by omega), pk_sub (by omega)]; rfl
  obtain ⟨g1, g2⟩ := gen (n - 1) fu (Nat.le_refl _) (q_fu (by omega))
  rw [hst]
  unfold nxP
  cases hr : rsP t (n - 1) with
  | none => exact ⟨fun _ => g1 hr, fun t' e => (by cases e)⟩
  | some r => exact ⟨fun e => (by cases e), fun t' e => (by cases e; exact g2 r hr)⟩
