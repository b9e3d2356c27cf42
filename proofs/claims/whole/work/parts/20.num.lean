/-! numbers, and the loop's rows -/
def NO : Int32 := -1
theorem q_neg1 : -(nI 1) = NO := by decide
theorem q_l0 : (0 : Int32) = nI 0 := by decide
theorem q_l1 : (1 : Int32) = nI 1 := by decide
theorem q_l2 : (2 : Int32) = nI 2 := by decide
theorem q_l3 : (3 : Int32) = nI 3 := by decide
theorem q_l4 : (4 : Int32) = nI 4 := by decide
theorem q_l5 : (5 : Int32) = nI 5 := by decide
theorem q_l6 : (6 : Int32) = nI 6 := by decide
theorem q_l7 : (7 : Int32) = nI 7 := by decide
theorem q_l8 : (8 : Int32) = nI 8 := by decide
theorem q_l9 : (9 : Int32) = nI 9 := by decide
theorem q_l10 : (10 : Int32) = nI 10 := by decide
theorem q_l11 : (11 : Int32) = nI 11 := by decide
theorem q_l12 : (12 : Int32) = nI 12 := by decide
theorem q_l14 : (14 : Int32) = nI 14 := by decide
theorem q_l15 : (15 : Int32) = nI 15 := by decide
theorem q_l16 : (16 : Int32) = nI 16 := by decide
theorem q_l19 : (19 : Int32) = nI 19 := by decide
theorem q_l20 : (20 : Int32) = nI 20 := by decide
theorem q_l24 : (24 : Int32) = nI 24 := by decide
theorem q_l30 : (30 : Int32) = nI 30 := by decide
theorem q_l31 : (31 : Int32) = nI 31 := by decide
theorem q_l44 : (44 : Int32) = nI 44 := by decide
theorem q_l48 : (48 : Int32) = nI 48 := by decide
theorem q_l59 : (59 : Int32) = nI 59 := by decide
theorem q_l98 : (98 : Int32) = nI 98 := by decide
theorem q_l101 : (101 : Int32) = nI 101 := by decide
theorem q_l112 : (112 : Int32) = nI 112 := by decide
theorem q_l115 : (115 : Int32) = nI 115 := by decide
theorem q_l116 : (116 : Int32) = nI 116 := by decide
theorem q_l120 : (120 : Int32) = nI 120 := by decide
theorem q_l126 : (126 : Int32) = nI 126 := by decide
theorem q_l9999 : (9999 : Int32) = nI 9999 := by decide
theorem q_l65536 : (65536 : Int32) = nI 65536 := by decide
theorem q_m1 : (-1 : Int32) = NO := by decide
theorem q_NOi : NO.toInt = -1 := by decide
theorem q_no {n : Nat} (h : n < 2 ^ 31) : ¬ nI n = NO := fun e => by
  have h1 := congrArg Int32.toInt e
  rw [nI_toInt h, q_NOi] at h1
  omega
theorem q_no' {n : Nat} (h : n < 2 ^ 31) : ¬ NO = nI n := fun e => q_no h e.symm
theorem q_NOlt {n : Nat} (h : n < 2 ^ 31) : NO < nI n := by
  rw [Int32.lt_iff_toInt_lt, nI_toInt h, q_NOi]; omega
theorem q_NOle {n : Nat} (h : n < 2 ^ 31) : ¬ nI n ≤ NO := by
  rw [Int32.le_iff_toInt_le, nI_toInt h, q_NOi]; omega
/-- a number, or none -/
def en : Option Nat → Int32
  | none => NO
  | some k => nI k
theorem en_none : en none = NO := rfl
theorem en_some (k : Nat) : en (some k) = nI k := rfl
theorem en_iff {o : Option Nat} (h : ∀ k, o = some k → k < 2 ^ 31) : en o = NO ↔ o = none := by
  cases o with
  | none => simp [en]
  | some k => simp only [en]; exact ⟨fun e => absurd e (q_no (h k rfl)), fun e => by cases e⟩
theorem lp_any {V R : Type} {body : (V → Option R) → V → Option R} (I : V → Prop) (μ : V → Nat) (Post : Option R → Prop) (hs : ∀ y, I y → (∃ y', I y' ∧ μ y' < μ y ∧ ∀ k, body k y = k y') ∨ (∃ z, Post z ∧ ∀ k, body k y = z)) : ∀ (n : Nat) (y : V), I y → μ y < n → Post (lp body n y) := by
  intro n
  induction n with
  | zero => intro y _ h; exact absurd h (Nat.not_lt_zero _)
  | succ n ih =>
    intro y hI h
    show Post (body (lp body n) y)
    rcases hs y hI with ⟨y', h1, h2, h3⟩ | ⟨z, h1, h3⟩
    · rw [h3]; exact ih y' h1 (by omega)
    · rw [h3]; exact h1
/-- a loop that counts up to N -/
theorem lp_up {V R σ : Type} {body : (V → Option R) → V → Option R} (ec : Nat → σ → V) (N : Nat) (I : Nat → σ → Prop) (Post : Option R → Prop) (hs : ∀ i s, i < N → I i s → ∃ s', I (i + 1) s' ∧ ∀ k, body k (ec i s) = k (ec (i + 1) s')) (he : ∀ s, I N s → ∃ z, Post z ∧ ∀ k, body k (ec N s) = z) : ∀ (n i : Nat) (s : σ), I i s → i ≤ N → N - i < n → Post (lp body n (ec i s)) := by
  intro n
  induction n with
  | zero => intro i s _ _ h; exact absurd h (Nat.not_lt_zero _)
  | succ n ih =>
    intro i s hI hi hn
    show Post (body (lp body n) (ec i s))
    rcases Nat.lt_or_ge i N with h | h
    · obtain ⟨s', h1, h2⟩ := hs i s h hI
      rw [h2]; exact ih (i + 1) s' h1 h (by omega)
    · have e : i = N := by omega
      subst e
      obtain ⟨z, h1, h2⟩ := he s hI
      rw [h2]; exact h1
/-- an inner loop that hands on to the outer one -/
theorem lp_upK {V R σ Y : Type} {body : (Y → Option R) → (V → Option R) → V → Option R} (ec : Nat → σ → V) (N : Nat) (I : Nat → σ → Prop) (Post : Y → Prop) (hs : ∀ i s, i < N → I i s → ∃ s', I (i + 1) s' ∧ ∀ ko k, body ko k (ec i s) = k (ec (i + 1) s')) (he : ∀ s, I N s → ∃ y, Post y ∧ ∀ ko k, body ko k (ec N s) = ko y) : ∀ (n i : Nat) (s : σ), I i s → i ≤ N → N - i < n → ∃ y, Post y ∧ ∀ ko, lp (body ko) n (ec i s) = ko y := by
  intro n
  induction n with
  | zero => intro i s _ _ h; exact absurd h (Nat.not_lt_zero _)
  | succ n ih =>
    intro i s hI hi hn
    rcases Nat.lt_or_ge i N with h | h
    · obtain ⟨s', h1, h2⟩ := hs i s h hI
      obtain ⟨y, h3, h4⟩ := ih (i + 1) s' h1 h (by omega)
      exact ⟨y, h3, fun ko => (h2 ko _).trans (h4 ko)⟩
    · have e : i = N := by omega
      subst e
      obtain ⟨y, h1, h2⟩ := he s hI
      exact ⟨y, h1, fun ko => h2 ko _⟩
/-- a loop that only adds up: what it has at i is g i -/
theorem lp_sum {V R σ : Type} {body : (V → Option R) → V → Option R} (ec : Nat → σ → V) (N : Nat) (g : Nat → σ) (z : Option R) (hs : ∀ i, i < N → ∀ k, body k (ec i (g i)) = k (ec (i + 1) (g (i + 1)))) (he : ∀ k, body k (ec N (g N)) = z) (n i : Nat) (hi : i ≤ N) (hn : N - i < n) : lp body n (ec i (g i)) = z := by
  refine lp_up (σ := σ) ec N (fun i s => s = g i) (fun y => y = z) ?_ ?_ n i (g i) rfl hi hn
  · intro i s h e
    subst e
    exact ⟨_, rfl, hs i h⟩
  · intro s e
    subst e
    exact ⟨_, rfl, he⟩
theorem q_gF {i N : Nat} (h : i < N) (hi : i < 2 ^ 31) : (nI i < 0 ∨ N ≤ i) = False := eq_false (fun q => q.elim (fun h1 => nI_pos hi h1) (fun h1 => by omega))
theorem q_fu {n : Nat} (h : n < 4000) : n < fu := h
/-- writes, read back -/
theorem q_oF1 (v : obV) (k : Nat) (x : Int32) (j : Nat) : (oF v k x).1 j = if j = k then x else v.1 j := rfl
theorem q_oF2 (v : obV) (k : Nat) (x : Int32) (j : Nat) : (oF v k x).2 j = v.2 j := rfl
theorem q_oA1 (v : obV) (k i : Nat) (x : Int32) (j : Nat) : (oA v k i x).1 j = v.1 j := rfl
theorem q_oA2 (v : obV) (k i : Nat) (x : Int32) (j : Nat) : (oA v k i x).2 j = if j = k then upd (v.2 k) i x else v.2 j := rfl
theorem q_oC1 (v : obV) (k : Nat) (g : Nat → Int32) (j : Nat) : (oC v k g).1 j = v.1 j := rfl
theorem q_oC2 (v : obV) (k : Nat) (g : Nat → Int32) (j : Nat) : (oC v k g).2 j = if j = k then g else v.2 j := rfl
theorem q_upd (f : Nat → Int32) (k : Nat) (x : Int32) (j : Nat) : upd f k x j = if j = k then x else f j := rfl
theorem q_cpy {f g : Nat → Int32} {n j : Nat} (h : j < n) : va_cpy f g 0 0 n j = f j := by
  unfold va_cpy
  rw [if_pos ⟨Nat.zero_le _, by omega⟩]
  congr 1
  omega
