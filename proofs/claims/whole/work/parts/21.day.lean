/-! a day, in numbers -/
def sWr (K : Nat → Nat) (p : Nat) : Nat := if K p = 3 then 3 else 1
def sSt (K : Nat → Nat) (p : Nat) : Nat := if K p = 1 ∨ K p = 4 then 2 else 1
def sPr (K : Nat → Nat) (p : Nat) : Bool := decide (K p = 2 ∨ K p = 4)
def sAh (K C : Nat → Nat) (p q : Nat) : Bool := if sPr K p = sPr K q then decide (C p < C q) else sPr K p
def sNx (K C : Nat → Nat) (rc : Nat → Option Nat) (slot : Nat) : Nat → Option Nat
  | 0 => none
  | i + 1 => if C i ≤ slot ∧ rc i = none then (match sNx K C rc slot i with
      | none => some i
      | some q => if sAh K C i q = true then some i else some q) else sNx K C rc slot i
def sLo (t : Nat) : Nat := if (t + 1) % 6 < t then (t + 1) % 6 else t
def sHi (t : Nat) : Nat := if t < (t + 1) % 6 then (t + 1) % 6 else t
def sSy (t said : Nat) : Option Nat := if said.testBit (sLo t) = false then some (sLo t) else if said.testBit (sHi t) = false then some (sHi t) else none
def sBt (said : Nat) : Option Nat → Nat
  | none => said
  | some y => said ||| 2 ^ y
def pc6 (s : Nat) : Nat := s % 2 + s / 2 % 2 + s / 4 % 2 + s / 8 % 2 + s / 16 % 2 + s / 32 % 2
theorem t_say : ∀ t, t < 6 → ∀ s, s < 64 → f_X6_leastSaying (nI t) (nI s) = some (en (sSy t s)) := by decide +kernel
theorem t_bc : ∀ s, s < 64 → f_J6_bitCount_0f7a4 (nI s) = some (nI (pc6 s)) := by decide +kernel
theorem t_or : ∀ s, s < 64 → ∀ y, y < 6 → nI s ||| (1 <<< (nI y &&& 31)) = nI (s ||| 2 ^ y) ∧ s ||| 2 ^ y < 64 := by decide +kernel
theorem t_sy : ∀ t, t < 6 → ∀ s, s < 64 → ∀ y, y < 6 → sSy t s = some y → s.testBit y = false ∧ pc6 (s ||| 2 ^ y) = pc6 s + 1 := by decide +kernel
theorem t_sylt : ∀ t, t < 6 → ∀ s, s < 64 → (match sSy t s with | none => true | some y => decide (y < 6)) = true := by decide +kernel
theorem sSy_lt {t s y : Nat} (ht : t < 6) (hs : s < 64) (h : sSy t s = some y) : y < 6 := by
  have h1 := t_sylt t ht s hs
  rw [h] at h1
  exact of_decide_eq_true h1
theorem sBt_lt {t s : Nat} (ht : t < 6) (hs : s < 64) : sBt s (sSy t s) < 64 := by
  cases h : sSy t s with
  | none => exact hs
  | some y => exact (t_or s hs y (sSy_lt ht hs h)).2
theorem sNx_lt {K C : Nat → Nat} {rc : Nat → Option Nat} {slot : Nat} : ∀ i q, sNx K C rc slot i = some q → q < i ∧ C q ≤ slot ∧ rc q = none := by
  intro i
  induction i with
  | zero => intro q h; cases h
  | succ i ih =>
    intro q h
    unfold sNx at h
    by_cases hc : C i ≤ slot ∧ rc i = none
    · rw [if_pos hc] at h
      cases hb : sNx K C rc slot i with
      | none => rw [hb] at h; cases h; exact ⟨Nat.lt_succ_self _, hc⟩
      | some q0 =>
        rw [hb] at h
        by_cases ha : sAh K C i q0 = true
        · simp only [ha, if_true] at h; cases h; exact ⟨Nat.lt_succ_self _, hc⟩
        · simp only [if_neg ha] at h; cases h
          obtain ⟨h1, h2⟩ := ih q hb
          exact ⟨Nat.lt_succ_of_lt h1, h2⟩
    · rw [if_neg hc] at h
      obtain ⟨h1, h2⟩ := ih q h
      exact ⟨Nat.lt_succ_of_lt h1, h2⟩
/-! leaves of the class -/
theorem x_wears {v : obV} {K : Nat → Nat} {p : Nat} (hp : p < 5) (hk : v.2 0 p = nI (K p)) (hK : K p ≤ 4) : f_X1_wears v (nI p) = some (nI (sWr K p)) := by
  unfold f_X1_wears sWr
  simp (disch := omega) only [if_true, if_false, q_neg1, nI_clamp, nI_ltI, nI_leI, nI_eq, nI_add, pk_mul, q_l0, q_l1, q_l2, q_l3, q_l4, q_l5, q_l6, q_l7, q_l8, q_l9, q_l10, q_l11, q_l12, q_l14, q_l15, q_l16, q_l19, q_l20, q_l24, q_l30, q_l31, q_l44, q_l48, q_l59, q_l98, q_l101, q_l112, q_l115, q_l116, q_l120, q_l126, q_l9999, q_l65536, hk]
  rw [if_neg (by omega)]
  split <;> rfl
theorem x_stays {v : obV} {K : Nat → Nat} {p : Nat} (hp : p < 5) (hk : v.2 0 p = nI (K p)) (hK : K p ≤ 4) : f_X1_stays v (nI p) = some (nI (sSt K p)) := by
  unfold f_X1_stays sSt
  simp (disch := omega) only [if_true, if_false, q_neg1, nI_clamp, nI_ltI, nI_leI, nI_eq, nI_add, pk_mul, q_l0, q_l1, q_l2, q_l3, q_l4, q_l5, q_l6, q_l7, q_l8, q_l9, q_l10, q_l11, q_l12, q_l14, q_l15, q_l16, q_l19, q_l20, q_l24, q_l30, q_l31, q_l44, q_l48, q_l59, q_l98, q_l101, q_l112, q_l115, q_l116, q_l120, q_l126, q_l9999, q_l65536, hk]
  rw [if_neg (by omega)]
  by_cases h1 : K p = 1
  · rw [if_pos h1, if_pos (Or.inl h1)]
  · rw [if_neg h1, if_neg (by omega)]
    by_cases h4 : K p = 4
    · rw [if_pos h4, if_pos (Or.inr h4)]
    · rw [if_neg h4, if_neg (by omega)]
theorem x_isPeer {v : obV} {K : Nat → Nat} {p : Nat} (hp : p < 5) (hk : v.2 0 p = nI (K p)) (hK : K p ≤ 4) : f_X1_isKind v (nI p) 2 = some (nI (if sPr K p = true then 1 else 0)) := by
  unfold f_X1_isKind sPr
  simp (disch := omega) only [if_true, if_false, q_neg1, nI_clamp, nI_ltI, nI_leI, nI_eq, nI_add, pk_mul, q_l0, q_l1, q_l2, q_l3, q_l4, q_l5, q_l6, q_l7, q_l8, q_l9, q_l10, q_l11, q_l12, q_l14, q_l15, q_l16, q_l19, q_l20, q_l24, q_l30, q_l31, q_l44, q_l48, q_l59, q_l98, q_l101, q_l112, q_l115, q_l116, q_l120, q_l126, q_l9999, q_l65536, hk, decide_eq_true_eq]
  rw [if_neg (by omega), if_neg (by omega)]
  by_cases h1 : 2 = K p
  · rw [if_pos h1, if_pos (by omega)]
  · rw [if_neg h1]
    by_cases h4 : K p = 4
    · rw [if_pos h4, if_pos (by omega)]
    · rw [if_neg h4, if_neg (by omega)]
theorem x_isAhead {v vc : obV} {K C : Nat → Nat} {p q : Nat} (hp : p < 5) (hq : q < 5) (hkp : vc.2 0 p = nI (K p)) (hkq : vc.2 0 q = nI (K q)) (hKp : K p ≤ 4) (hKq : K q ≤ 4) (hcp : v.2 0 p = nI (C p)) (hcq : v.2 0 q = nI (C q)) (hCp : C p ≤ 9) (hCq : C q ≤ 9) : f_X2_isAhead v vc (nI p) (nI q) = some (nI (if sAh K C p q = true then 1 else 0)) := by
  unfold f_X2_isAhead sAh
  rw [x_isPeer hp hkp hKp, x_isPeer hq hkq hKq]
  simp (disch := omega) only [if_true, if_false, q_neg1, nI_clamp, nI_ltI, nI_leI, nI_eq, nI_add, pk_mul, q_l0, q_l1, q_l2, q_l3, q_l4, q_l5, q_l6, q_l7, q_l8, q_l9, q_l10, q_l11, q_l12, q_l14, q_l15, q_l16, q_l19, q_l20, q_l24, q_l30, q_l31, q_l44, q_l48, q_l59, q_l98, q_l101, q_l112, q_l115, q_l116, q_l120, q_l126, q_l9999, q_l65536, hcp, hcq, Option.bind]
  have e1 : ∀ b : Bool, ¬ ¬ (nI (if b = true then 1 else 0) = nI 0 ∨ nI (if b = true then 1 else 0) = nI 1) := by decide
  by_cases hb : sPr K p = sPr K q
  · rw [hb, if_pos rfl, if_pos rfl, if_neg (by omega), if_neg (by omega)]
    by_cases hc : C q ≤ C p
    · rw [if_pos hc, if_neg (by simp only [decide_eq_true_eq]; omega)]
    · rw [if_neg hc, if_pos (by simp only [decide_eq_true_eq]; omega)]
  · rw [if_neg hb, if_neg, if_neg (e1 _)]
    revert hb
    cases sPr K p <;> cases sPr K q <;> decide
theorem x_first {v vc : obV} {n : Nat} {K C : Nat → Nat} {rc : Nat → Option Nat} {slot : Nat} (hn : n ≤ 5) (hsz : v.1 4 = nI n) (hK : ∀ p, p < n → vc.2 0 p = nI (K p) ∧ K p ≤ 4) (hC : ∀ p, p < n → v.2 0 p = nI (C p) ∧ C p ≤ 9) (hr : ∀ p, p < n → v.2 1 p = en (rc p)) (hrb : ∀ p k, p < n → rc p = some k → k < 20) (hs : slot < 20) : f_X2_firstInLine v vc (nI slot) = some (en (sNx K C rc slot n)) := by
  rw [show f_X2_firstInLine v vc (nI slot) = lp (fun k y => f_X2_firstInLine_b5 v vc (nI slot) y.1 y.2 k) fu (en (sNx K C rc slot 0), nI 0) from rfl]
  refine lp_sum (σ := Int32) (fun i s => (s, nI i)) n (fun i => en (sNx K C rc slot i)) _ ?_ ?_ fu 0 (Nat.zero_le _) (q_fu (by omega))
  · intro i hi k
    show f_X2_firstInLine_b5 v vc (nI slot) (en (sNx K C rc slot i)) (nI i) k = k (en (sNx K C rc slot (i + 1)), nI (i + 1))
    have hCi := (hC i hi).2
    unfold f_X2_firstInLine_b5 f_X2_firstInLine_b41
    simp (disch := omega) only [if_true, if_false, q_neg1, nI_clamp, nI_ltI, nI_leI, nI_eq, nI_add, pk_mul, q_l0, q_l1, q_l2, q_l3, q_l4, q_l5, q_l6, q_l7, q_l8, q_l9, q_l10, q_l11, q_l12, q_l14, q_l15, q_l16, q_l19, q_l20, q_l24, q_l30, q_l31, q_l44, q_l48, q_l59, q_l98, q_l101, q_l112, q_l115, q_l116, q_l120, q_l126, q_l9999, q_l65536, hsz, (hC i hi).1, hr i hi]
    rw [if_neg (by omega), if_neg (by omega)]
    by_cases h1 : C i ≤ slot
    · rw [if_neg (by omega), if_neg (by omega)]
      cases h2 : rc i with
      | none =>
        rw [en_none, if_pos rfl, sNx, if_pos (⟨h1, h2⟩ : C i ≤ slot ∧ rc i = none)]
        cases h3 : sNx K C rc slot i with
        | none => rw [en_none, if_pos rfl]; rfl
        | some q =>
          have hq := (sNx_lt i q h3).1
          have hqn : q < n := by omega
          rw [en_some, if_neg (q_no (by omega)), x_isAhead (K := K) (C := C) (by omega) (by omega) (hK i hi).1 (hK q hqn).1 (hK i hi).2 (hK q hqn).2 (hC i hi).1 (hC q hqn).1 hCi (hC q hqn).2]
          simp only [Option.bind]
          by_cases ha : sAh K C i q = true
          · rw [if_pos ha, if_neg (by decide), if_pos ha]; rfl
          · rw [if_neg ha, if_pos rfl, if_neg ha]; rfl
      | some kk =>
        rw [en_some, if_neg (q_no (by have := hrb i kk hi h2; omega)), sNx, if_neg (fun e => by rw [h2] at e; cases e.2 : ¬ (C i ≤ slot ∧ rc i = none))]
    · rw [if_pos (by omega), sNx, if_neg (fun e => h1 e.1 : ¬ (C i ≤ slot ∧ rc i = none))]
  · intro k
    show f_X2_firstInLine_b5 v vc (nI slot) (en (sNx K C rc slot n)) (nI n) k = _
    unfold f_X2_firstInLine_b5
    rw [hsz, if_pos (Int32.le_refl _)]
