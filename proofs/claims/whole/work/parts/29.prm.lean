/-! the orders of all, by both of the counts -/
def l5 (t : Nat → Nat) : List Nat := [t 0, t 1, t 2, t 3, t 4]
def fL (l : List Nat) : Nat → Nat := fun j => l.getD j 0
theorem fL_l5 (t : Nat → Nat) : ∀ j, j < 5 → fL (l5 t) j = t j := by
  intro j hj
  match j, hj with
  | 0, _ => rfl
  | 1, _ => rfl
  | 2, _ => rfl
  | 3, _ => rfl
  | 4, _ => rfl
  | j + 5, h => exact absurd h (by omega)
def sqP (n : Nat) : Nat → Option (List Nat)
  | 0 => some [0, 1, 2, 3, 4]
  | i + 1 => (sqP n i).bind (fun l => (nxP n (fL l)).map l5)
def seP (n c : Nat) : Nat → Nat
  | 0 => 0
  | j + 1 => seP n c j ||| 2 ^ (c / n ^ j % n)
def dgP (n c k : Nat) : Nat := c / n ^ (n - 1 - k) % n
def dgL (n c : Nat) : List Nat := [0, 1, 2, 3, 4].map (fun k => if k < n then dgP n c k else k)
def okD (n c : Nat) : Option (List Nat) := if seP n c n = 2 ^ n - 1 then some (dgL n c) else none
theorem t_prm : ∀ n, n < 6 → 1 ≤ n → (List.range 120).filterMap (sqP n) = (List.range (n ^ n)).filterMap (okD n) := by decide +kernel
theorem t_sq : ∀ n, n < 6 → 1 ≤ n → ∀ i, i < 120 → (match sqP n i with
  | none => true
  | some l => (List.range 5).all (fun j => decide (fL l j ≤ 4)) && (List.range n).all (fun j => decide (fL l j < n))) = true := by decide +kernel
theorem t_sqend : ∀ n, n < 6 → 1 ≤ n → sqP n 120 = none := by decide +kernel
