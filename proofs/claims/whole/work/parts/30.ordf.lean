/-! ORDER: how many are helped, the best one -/
def hS (K T t : Nat → Nat) (P : Nat) : Nat → Nat × Nat × Bool
  | 0 => (P, 0, false)
  | i + 1 => if (hS K T t P i).2.2 = true ∨ (hS K T t P i).1 < sWr K (t i) then ((hS K T t P i).1, (hS K T t P i).2.1, true) else ((hS K T t P i).1 - sWr K (t i), sBt (hS K T t P i).2.1 (sSy (T (t i)) (hS K T t P i).2.1), false)
theorem hS_s (K T t : Nat → Nat) (P i : Nat) : hS K T t P (i + 1) = if (hS K T t P i).2.2 = true ∨ (hS K T t P i).1 < sWr K (t i) then ((hS K T t P i).1, (hS K T t P i).2.1, true) else ((hS K T t P i).1 - sWr K (t i), sBt (hS K T t P i).2.1 (sSy (T (t i)) (hS K T t P i).2.1), false) := rfl
def hB (n : Nat) (K T : Nat → Nat) (P : Nat) (t : Nat → Nat) : Nat := pc6 (hS K T t P n).2.1
theorem hS_cong {K T t t' : Nat → Nat} {P : Nat} : ∀ n, (∀ j, j < n → t j = t' j) → hS K T t P n = hS K T t' P n := by
  intro n
  induction n with
  | zero => intro _; rfl
  | succ n ih => intro h; rw [hS_s, hS_s, ih (fun j hj => h j (by omega)), h n (by omega)]
theorem hS_ok {n : Nat} {K T t : Nat → Nat} {P : Nat} (hk : okK n K T) (hP : P ≤ 20) (ht : ∀ j, j < n → t j < n) : ∀ i, i ≤ n → (hS K T t P i).2.1 < 64 ∧ (hS K T t P i).1 ≤ 20 := by
  intro i
  induction i with
  | zero => intro _; exact ⟨by show 0 < 64; omega, hP⟩
  | succ i ih =>
    intro hi
    obtain ⟨h1, h2⟩ := ih (by omega)
    rw [hS_s]
    split
    · exact ⟨h1, h2⟩
    · exact ⟨sBt_lt (by have := (hk (t i) (ht i (by omega))).2; omega) h1, by show _ - _ ≤ 20; omega⟩
theorem hS_stop {K T t : Nat → Nat} {P i : Nat} (h : (hS K T t P i).2.2 = true) : ∀ j, (hS K T t P (i + j)).2.1 = (hS K T t P i).2.1 ∧ (hS K T t P (i + j)).2.2 = true := by
  intro j
  induction j with
  | zero => exact ⟨rfl, h⟩
  | succ j ih =>
    rw [show i + (j + 1) = i + j + 1 from rfl, hS_s, if_pos (Or.inl ih.2)]
    exact ⟨ih.1, rfl⟩
theorem x_helpedWT {v vc : obV} {n : Nat} {K T C t : Nat → Nat} {P : Nat} {ch : Int32} (hc : cvX vc n K T C P ch) (ho : okC n K T C P) (hsz : v.1 2 = nI n) (ht : trd v t) (htn : ∀ j, j < n → t j < n) : f_X0_helpedWhenTried v vc = some (nI (hB n K T P t)) := by
  have hn := ho.1
  show (fun z => z = some (nI (hB n K T P t))) (f_X0_helpedWhenTried_l10 v vc fu (vc.1 5, 0, 0))
  rw [hc.2.1]
  refine lp_any (fun y : Int32 × Int32 × Int32 => ∃ i, i ≤ n ∧ y = (nI (hS K T t P i).1, nI (hS K T t P i).2.1, nI i) ∧ (hS K T t P i).2.2 = false) (fun y => 5 - y.2.2.toNatClampNeg) (fun z => z = some (nI (hB n K T P t))) ?_ fu (nI P, 0, 0) ⟨0, Nat.zero_le _, rfl, rfl⟩ (Nat.lt_of_le_of_lt (Nat.sub_le _ _) (q_fu (by decide)))
  rintro y ⟨i, hi, rfl, hst⟩
  obtain ⟨o1, o2⟩ := hS_ok ho.k ho.2.1 htn i hi
  by_cases e : i = n
  · right
    refine ⟨_, rfl, fun k => ?_⟩
    show f_X0_helpedWhenTried_b10 v vc _ _ (nI i) k = _
    unfold f_X0_helpedWhenTried_b10
    rw [e, hsz, if_pos (Int32.le_refl _), ← e, t_bc _ o1]
    simp only [Option.bind]
    rw [e]
    rfl
  · have hi : i < n := by omega
    have hti := htn i hi
    have hw3 := sWr_le K (t i)
    have hT : T (t i) < 6 := by have := (ho.2.2 (t i) hti).2.1; omega
    have hh : f_X0_helpedWhenTried_b10 v vc (nI (hS K T t P i).1) (nI (hS K T t P i).2.1) (nI i) = fun k => if (hS K T t P i).1 < sWr K (t i) then some (nI (pc6 (hS K T t P i).2.1)) else k (nI ((hS K T t P i).1 - sWr K (t i)), nI (sBt (hS K T t P i).2.1 (sSy (T (t i)) (hS K T t P i).2.1)), nI (i + 1)) := by
      funext k
      unfold f_X0_helpedWhenTried_b10
      rw [hsz, if_neg (nI_ge hi (by omega)), if_neg (nI_in (show i < 5 by omega) (by decide)), nI_clamp (by omega), (ht i (by omega)).1, x_wears (K := K) (by omega) (hc.2.2.2 (t i) hti).1 (ho.2.2 (t i) hti).1]
      simp only [Option.bind]
      by_cases hl : (hS K T t P i).1 < sWr K (t i)
      · rw [if_pos hl, if_neg (show ¬ (0 : Int32) ≤ nI (hS K T t P i).1 - nI (sWr K (t i)) from fun q => absurd (pk_sneg (by omega) hl) (Int32.not_lt.mpr q)), t_bc _ o1]
      · rw [if_neg hl, pk_sub (by omega), if_pos (show (0 : Int32) ≤ nI _ from nI_pos' (by omega)), if_neg (nI_in (show t i < 5 by omega) (by decide)), nI_clamp (by omega), (hc.2.2.2 (t i) hti).2.1, t_say _ hT _ o1]
        simp only []
        cases hy : sSy (T (t i)) (hS K T t P i).2.1 with
        | none => rw [en_none, q_m1, if_pos rfl, nI_1]; rfl
        | some y =>
          have hy6 := sSy_lt hT o1 hy
          rw [en_some, q_m1, if_neg (q_no (by omega)), (t_or _ o1 y hy6).1, nI_1]; rfl
    by_cases hl : (hS K T t P i).1 < sWr K (t i)
    · right
      refine ⟨some (nI (pc6 (hS K T t P i).2.1)), ?_, fun k => ?_⟩
      · have h1 : hS K T t P (i + 1) = ((hS K T t P i).1, (hS K T t P i).2.1, true) := by rw [hS_s, if_pos (Or.inr hl)]
        have h2 := (hS_stop (K := K) (T := T) (t := t) (P := P) (i := i + 1) (by rw [h1]) (n - (i + 1))).1
        rw [show i + 1 + (n - (i + 1)) = n by omega, h1] at h2
        show some (nI (pc6 (hS K T t P i).2.1)) = some (nI (pc6 (hS K T t P n).2.1))
        rw [h2]
      · show f_X0_helpedWhenTried_b10 v vc _ _ (nI i) k = _
        rw [hh]
        exact if_pos hl
    · left
      have h1 : hS K T t P (i + 1) = ((hS K T t P i).1 - sWr K (t i), sBt (hS K T t P i).2.1 (sSy (T (t i)) (hS K T t P i).2.1), false) := by rw [hS_s, if_neg (fun q => q.elim (fun z => by rw [hst] at z; cases z) hl)]
      refine ⟨_, ⟨i + 1, hi, rfl, by rw [h1]⟩, by show 5 - Int32.toNatClampNeg (nI (i + 1)) < 5 - Int32.toNatClampNeg (nI i); rw [nI_clamp (by omega), nI_clamp (by omega)]; omega, fun k => ?_⟩
      show f_X0_helpedWhenTried_b10 v vc _ _ (nI i) k = _
      rw [hh, h1]
      exact if_neg hl
/-- the best so far, and one more order -/
def btP (o : Option Nat) (h : Nat) : Bool := match o with
  | none => true
  | some m => decide (m < h)
def stP (hb : List Nat → Nat) (s : Option Nat × List Nat) (l : List Nat) : Option Nat × List Nat := if btP s.1 (hb l) = true then (some (hb l), l) else s
def foP (hb : List Nat → Nat) (g : Nat → Option (List Nat)) (i : Nat) : Option Nat × List Nat := ((List.range i).filterMap g).foldl (stP hb) (none, [])
theorem foP_s (hb : List Nat → Nat) (g : Nat → Option (List Nat)) (i : Nat) : foP hb g (i + 1) = match g i with
  | none => foP hb g i
  | some l => stP hb (foP hb g i) l := by
  unfold foP
  rw [List.range_succ, List.filterMap_append, List.foldl_append]
  cases h : g i with
  | none => simp [h]
  | some l => simp [h]
theorem sqP_none {n i : Nat} (h : sqP n i = none) : ∀ j, sqP n (i + j) = none := by
  intro j
  induction j with
  | zero => exact h
  | succ j ih => show (sqP n (i + j)).bind _ = none; rw [ih]; rfl
theorem foP_none {hb : List Nat → Nat} {n i : Nat} (h : sqP n i = none) : ∀ j, foP hb (sqP n) (i + j) = foP hb (sqP n) i := by
  intro j
  induction j with
  | zero => rfl
  | succ j ih => rw [show i + (j + 1) = i + j + 1 from rfl, foP_s, sqP_none h j]; exact ih
theorem foP_bound {hb : List Nat → Nat} {g : Nat → Option (List Nat)} (hl : ∀ l, hb l ≤ 6) : ∀ i m, (foP hb g i).1 = some m → m ≤ 6 := by
  intro i
  induction i with
  | zero => intro m h; cases h
  | succ i ih =>
    intro m h
    rw [foP_s] at h
    cases hg : g i with
    | none => rw [hg] at h; exact ih m h
    | some l =>
      rw [hg] at h
      have h : (stP hb (foP hb g i) l).1 = some m := h
      unfold stP at h
      by_cases hc : btP (foP hb g i).1 (hb l) = true
      · rw [if_pos hc] at h
        have h : some (hb l) = some m := h
        cases h; exact hl l
      · rw [if_neg hc] at h
        exact ih m h
theorem pc6_le (s : Nat) : pc6 s ≤ 6 := by unfold pc6; omega
/-- what the best order of the class holds -/
def bsX (v : obV) (s : Option Nat × List Nat) : Prop := v.1 3 = en s.1 ∧ (s.1 ≠ none → ∀ j, j < 5 → v.2 1 j = nI (fL s.2 j))
