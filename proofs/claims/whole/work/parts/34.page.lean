/-! the page: which letter is wrong first -/
def kd (a : Nat) : Option Nat := if a = 112 then some 0 else if a = 116 then some 1 else if a = 101 then some 2 else if a = 115 then some 3 else if a = 98 then some 4 else none
def dgt (m a : Nat) : Bool := decide (48 ≤ a ∧ a ≤ 48 + m)
def rt (c : Nat → Nat) (sm : Option Nat) (i : Nat) : Bool := match sm with
  | some s => decide (i = s + 1) && dgt 9 (c i)
  | none => if i % 4 = 0 then (kd (c i)).isSome else if i % 4 = 1 then dgt 5 (c i) else if i % 4 = 2 then dgt 9 (c i) else (decide (c i = 44) && decide ((i + 1) / 4 < 5)) || (decide (c i = 59) && decide (2 ≤ (i + 1) / 4))
def wkS (c : Nat → Nat) (sm : Option Nat) (i : Nat) : Option Nat := if c i = 59 then some i else sm
def wk (c : Nat → Nat) : Nat → Option (Option Nat)
  | 0 => some none
  | i + 1 => match wk c i with
    | none => none
    | some sm => if rt c sm i = true then some (wkS c sm i) else none
theorem t_kx : ∀ a, a < 127 → f_X6_kindByLetter (nI a) = some (en (kd a)) := by decide +kernel
theorem t_km : ∀ a, a < 127 → f_X7_kindBy (nI a) = some (en (kd a)) := by decide +kernel
theorem t_5x : ∀ a, a < 127 → f_X6_isWithin (nI a - 48) 0 5 = some (nI (if dgt 5 a = true then 1 else 0)) := by decide +kernel
theorem t_9x : ∀ a, a < 127 → f_X6_isWithin (nI a - 48) 0 9 = some (nI (if dgt 9 a = true then 1 else 0)) := by decide +kernel
theorem t_5m : ∀ a, a < 127 → f_X7_in (nI a - 48).toInt64 0 5 = some (nI (if dgt 5 a = true then 1 else 0)) := by decide +kernel
theorem t_9m : ∀ a, a < 127 → f_X7_in (nI a - 48).toInt64 0 9 = some (nI (if dgt 9 a = true then 1 else 0)) := by decide +kernel
theorem t_bh : ∀ k, k < 7 → ∀ a, a < 127 → f_X3_isRightBehind (nI k) (nI a) = some (nI (if ((decide (a = 44) && decide (k < 5)) || (decide (a = 59) && decide (2 ≤ k))) = true then 1 else 0)) := by decide +kernel
theorem q_01 (b : Bool) : ¬ ¬ (nI (if b = true then 1 else 0) = 0 ∨ nI (if b = true then 1 else 0) = 1) := by revert b; decide
theorem q_b0 (b : Bool) : nI (if b = true then 1 else 0) = 0 ↔ ¬ b = true := by revert b; decide
/-- the page of the class -/
def pgX (v : obV) (L : Nat) (c : Nat → Nat) : Prop := v.1 1 = nI L ∧ ∀ j, j < L → v.2 0 j = nI (c j)
def pgM (v : obV) (L : Nat) (c : Nat → Nat) : Prop := v.1 1 = nI L ∧ ∀ j, j < L → v.2 0 j = nI (c j)
def okP (L : Nat) (c : Nat → Nat) : Prop := L ≤ 24 ∧ ∀ j, j < L → c j < 127
theorem x_digit {v : obV} {L i : Nat} {c : Nat → Nat} (hp : pgX v L c) (ho : okP L c) (hi : i < L) : f_X3_digit v (nI i) = some (nI (c i) - 48) := by
  have := ho.1
  unfold f_X3_digit
  rw [if_neg (nI_in (show i < 24 by omega) (by decide)), nI_clamp (by omega), hp.2 i hi]
theorem x_isRight {v : obV} {L i : Nat} {c : Nat → Nat} {sm : Option Nat} (hp : pgX v L c) (ho : okP L c) (hi : i < L) (hsm : ∀ s, sm = some s → s < 24) : f_X3_isRight v (nI i) (en sm) = some (nI (if rt c sm i = true then 1 else 0)) := by
  have hL := ho.1
  have hci := ho.2 i hi
  unfold f_X3_isRight
  cases sm with
  | some s =>
    have hs := hsm s rfl
    rw [en_some, q_m1, if_neg (q_no (by omega)), nI_1]
    unfold rt
    by_cases e : i = s + 1
    · rw [if_pos (by rw [e]), x_digit hp ho hi, bind_e, t_9x _ hci, bind_e]
      simp only [e, decide_true, Bool.true_and]
      rw [← e]
      by_cases hd : dgt 9 (c i) = true
      · rw [if_pos hd, if_neg (by decide)]; rfl
      · rw [if_neg hd, if_pos (by decide)]; rfl
    · rw [if_neg (fun q => e ((nI_eq (by omega) (by omega)).mp q))]
      simp only [e, decide_false, Bool.false_and, if_false]
      rfl
  | none =>
    rw [en_none, q_m1, if_pos rfl, q_l4, pk_rem (by omega) (by decide) (by decide)]
    unfold rt
    simp only []
    by_cases h0 : i % 4 = 0
    · rw [if_pos (by rw [h0, nI_0]), if_pos h0, if_neg (nI_in (show i < 24 by omega) (by decide)), nI_clamp (by omega), hp.2 i hi, t_kx _ hci, bind_e]
      cases hk : kd (c i) with
      | none => rw [en_none, if_pos rfl]; rfl
      | some k =>
        have hk5 : k < 5 := by
          unfold kd at hk
          repeat' split at hk
          all_goals first | (cases hk; omega) | cases hk
        rw [en_some, if_neg (q_no (by omega))]; rfl
    · have hl := Nat.mod_lt i (show 4 > 0 by decide)
      rw [if_neg (nI_ne0 (by omega) (by omega)), if_neg h0]
      by_cases h1 : i % 4 = 1
      · rw [if_pos (by rw [h1]; rfl), if_pos h1, x_digit hp ho hi, bind_e, t_5x _ hci, bind_e, if_neg (q_01 _)]
      · rw [if_neg (fun q => h1 ((nI_eq (by omega) (by decide)).mp (q.trans q_l1))), if_neg h1]
        by_cases h2 : i % 4 = 2
        · rw [if_pos (by rw [h2]; rfl), if_pos h2, x_digit hp ho hi, bind_e, t_9x _ hci, bind_e, if_neg (q_01 _)]
        · rw [if_neg (fun q => h2 ((nI_eq (by omega) (by decide)).mp (q.trans q_l2))), if_neg h2, if_neg (nI_in (show i < 24 by omega) (by decide)), nI_clamp (by omega), hp.2 i hi, nI_1, pk_div (by omega) (by decide) (by decide), t_bh _ (by omega) _ hci, bind_e, if_neg (q_01 _)]
theorem wk_s (c : Nat → Nat) (i : Nat) : wk c (i + 1) = match wk c i with
    | none => none
    | some sm => if rt c sm i = true then some (wkS c sm i) else none := rfl
theorem wk_lt {c : Nat → Nat} : ∀ i s, wk c i = some (some s) → s < i := by
  intro i
  induction i with
  | zero => intro s h; cases h
  | succ i ih =>
    intro s h
    rw [wk_s] at h
    cases hw : wk c i with
    | none => rw [hw] at h; cases h
    | some sm =>
      rw [hw] at h
      have h : (if rt c sm i = true then some (wkS c sm i) else none) = some (some s) := h
      by_cases hr : rt c sm i = true
      · rw [if_pos hr] at h
        have h : wkS c sm i = some s := Option.some.inj h
        unfold wkS at h
        by_cases h59 : c i = 59
        · rw [if_pos h59] at h; cases h; exact Nat.lt_succ_self _
        · rw [if_neg h59] at h; subst h; exact Nat.lt_succ_of_lt (ih s hw)
      · rw [if_neg hr] at h; cases h
/-- the first wrong one -/
def fwP (c : Nat → Nat) (L r : Nat) : Prop := r ≤ L ∧ wk c r ≠ none ∧ (r < L → wk c (r + 1) = none)
theorem wk_down {c : Nat → Nat} {i j : Nat} (h : wk c (i + j) ≠ none) : wk c i ≠ none := by
  induction j with
  | zero => exact h
  | succ j ih =>
    refine ih (fun q => h ?_)
    rw [show i + (j + 1) = i + j + 1 from rfl, wk_s, q]
theorem fwP_one {c : Nat → Nat} {L r r' : Nat} (h : fwP c L r) (h' : fwP c L r') : r = r' := by
  rcases Nat.lt_trichotomy r r' with q | q | q
  · have h1 := h.2.2 (by have := h'.1; omega)
    exact absurd h1 (wk_down (j := r' - (r + 1)) (by rw [show r + 1 + (r' - (r + 1)) = r' by omega]; exact h'.2.1))
  · exact q
  · have h1 := h'.2.2 (by have := h.1; omega)
    exact absurd h1 (wk_down (j := r - (r' + 1)) (by rw [show r' + 1 + (r - (r' + 1)) = r by omega]; exact h.2.1))
theorem x_firstWrong {v : obV} {L : Nat} {c : Nat → Nat} (hp : pgX v L c) (ho : okP L c) : ∃ r, f_X3_firstWrong v = some (nI r) ∧ fwP c L r := by
  have hL := ho.1
  have key : ∃ r, f_X3_firstWrong_l4 v fu (NO, 0) = some (nI r) ∧ fwP c L r := by
    refine lp_any (fun y : Int32 × Int32 => ∃ i sm, i ≤ L ∧ wk c i = some sm ∧ y = (en sm, nI i)) (fun y => 24 - y.2.toNatClampNeg) (fun z => ∃ r, z = some (nI r) ∧ fwP c L r) ?_ fu (NO, 0) ⟨0, none, Nat.zero_le _, rfl, rfl⟩ (Nat.lt_of_le_of_lt (Nat.sub_le _ _) (q_fu (by decide)))
    rintro y ⟨i, sm, hi, hw, rfl⟩
    by_cases e : i = L
    · right
      refine ⟨_, ⟨i, rfl, ⟨hi, by rw [hw]; exact Option.some_ne_none _, fun q => by omega⟩⟩, fun k => ?_⟩
      show f_X3_firstWrong_b4 v (en sm) (nI i) k = _
      unfold f_X3_firstWrong_b4
      rw [hp.1, e, if_pos (Int32.le_refl _)]
    · have hi : i < L := by omega
      have hr := x_isRight hp ho hi (sm := sm) (fun s q => by subst q; have := wk_lt i s hw; omega)
      by_cases hrt : rt c sm i = true
      · left
        refine ⟨(en (wkS c sm i), nI (i + 1)), ⟨i + 1, _, hi, ?_, rfl⟩, by show 24 - Int32.toNatClampNeg (nI (i + 1)) < 24 - Int32.toNatClampNeg (nI i); rw [nI_clamp (by omega), nI_clamp (by omega)]; omega, fun k => ?_⟩
        · rw [wk_s, hw]; exact if_pos hrt
        · show f_X3_firstWrong_b4 v (en sm) (nI i) k = _
          unfold f_X3_firstWrong_b4
          rw [hp.1, if_neg (nI_ge hi (by omega)), hr, bind_e, if_neg (fun q => (q_b0 _).mp q hrt), if_neg (nI_in (show i < 24 by omega) (by decide)), nI_clamp (by omega), hp.2 i hi, nI_1]
          unfold wkS
          by_cases h59 : c i = 59
          · rw [h59, if_pos (by decide), if_pos rfl]; rfl
          · rw [if_neg (fun q => h59 ((nI_eq (by have := ho.2 i hi; omega) (by decide)).mp (q.trans q_l59))), if_neg h59]
      · right
        refine ⟨_, ⟨i, rfl, ⟨by omega, by rw [hw]; exact Option.some_ne_none _, fun _ => by rw [wk_s, hw]; exact if_neg hrt⟩⟩, fun k => ?_⟩
        show f_X3_firstWrong_b4 v (en sm) (nI i) k = _
        unfold f_X3_firstWrong_b4
        rw [hp.1, if_neg (nI_ge hi (by omega)), hr, bind_e, if_pos ((q_b0 _).mpr hrt)]
  exact key
