/-! ORDER of the reference -/
theorem m_copy {f g : Nat → Int32} {n : Nat} (hn : n < 4000) : ∃ g', f_X7_copy n n f g = some g' ∧ ∀ j, j < n → g' j = f j := by
  have key : ∃ g', f_X7_copy_l2 n n f fu (g, 0) = some g' ∧ ∀ j, j < n → g' j = f j := by
    refine lp_up (σ := Nat → Int32) (fun i s => (s, nI i)) n (fun i s => ∀ j, j < i → s j = f j) (fun z => ∃ g' : Nat → Int32, z = some g' ∧ ∀ j, j < n → g' j = f j) ?_ ?_ fu 0 g (fun j h => absurd h (Nat.not_lt_zero _)) (Nat.zero_le _) (q_fu (by omega))
    · intro i s hi hs
      refine ⟨upd s i (f i), fun j hj => ?_, fun k => ?_⟩
      · rw [q_upd]
        by_cases e : j = i
        · rw [if_pos e, e]
        · rw [if_neg e]; exact hs j (by omega)
      · show f_X7_copy_b2 n n f s (nI i) k = _
        unfold f_X7_copy_b2
        simp only [hlet]
        rw [if_neg (nI_ge hi (by omega)), if_neg (nI_in hi (by omega)), if_neg (nI_in hi (by omega)), nI_clamp (by omega), nI_1]
    · intro s hs
      refine ⟨_, ⟨s, rfl, hs⟩, fun k => ?_⟩
      show f_X7_copy_b2 n n f s (nI n) k = _
      unfold f_X7_copy_b2
      rw [if_pos (Int32.le_refl _)]
  exact key
theorem q_in2 {c N : Nat} (h : c < N) (hN : N < 2 ^ 31) : ¬ (nI c < 0 ∨ N ≤ c) := fun q => q.elim (nI_pos (by omega)) (fun q => by omega)
theorem q_add0 (x : Int32) : x + 0 = x := Int32.add_zero x
theorem seP_s (n c j : Nat) : seP n c (j + 1) = seP n c j ||| 2 ^ (c / n ^ j % n) := rfl
theorem seP_lt {n c : Nat} (h1 : 1 ≤ n) (h5 : n ≤ 5) : ∀ j, seP n c j < 64 := by
  intro j
  induction j with
  | zero => show 0 < 64; omega
  | succ j ih => rw [seP_s]; exact (t_or _ ih _ (by have := Nat.mod_lt (c / n ^ j) h1; omega)).2
theorem t_full : ∀ n, n < 6 → ((1 : Int32) <<< (nI n &&& 31)) - 1 = nI (2 ^ n - 1) := by decide +kernel
theorem q_dec (k : Nat) : nI (k + 1) + (-1) = nI k := by
  rw [show (-1 : Int32) = -1 from rfl, ← Int32.sub_eq_add_neg]; exact nI_pred k
theorem q_dec0 : nI 0 + (-1) = NO := by decide
def plP (n i : Nat) : Option Nat := if i < n then some (n - 1 - i) else none
theorem m_layOrder {v : obV} {n c : Nat} (h1 : 1 ≤ n) (h5 : n ≤ 5) (hc : c < 2 ^ 31) (hsz : v.1 6 = nI n) : ∃ v', f_X7_layOrder v (nI c) = some (nI (if seP n c n = 2 ^ n - 1 then 1 else 0), v') ∧ (∀ j, j < n → v'.2 16 j = nI (dgP n c j)) ∧ chM [] [16] v v' := by
  have key : ∃ v', f_X7_layOrder_l12 fu (v, nI c, 0, nI (n - 1)) = some (nI (if seP n c n = 2 ^ n - 1 then 1 else 0), v') ∧ (∀ j, j < n → v'.2 16 j = nI (dgP n c j)) ∧ chM [] [16] v v' := by
    have h := lp_up (body := fun k (y : obV × Int32 × Int32 × Int32) => f_X7_layOrder_b12 y.1 y.2.1 y.2.2.1 y.2.2.2 k) (σ := obV) (fun i s => (s, nI (c / n ^ i), nI (seP n c i), en (plP n i))) n (fun i s => (∀ j, n - i ≤ j → j < n → s.2 16 j = nI (dgP n c j)) ∧ chM [] [16] v s) (fun z => ∃ v', z = some (nI (if seP n c n = 2 ^ n - 1 then 1 else 0), v') ∧ (∀ j, j < n → v'.2 16 j = nI (dgP n c j)) ∧ chM [] [16] v v') ?_ ?_ fu 0 v ⟨fun j h1 h2 => absurd h1 (by omega), chM.rf⟩ (Nat.zero_le _) (q_fu (by omega))
    · have e : (v, nI (c / n ^ 0), nI (seP n c 0), en (plP n 0)) = (v, nI c, 0, nI (n - 1)) := by
        unfold plP
        rw [if_pos (by omega), Nat.pow_zero, Nat.div_one]
        rfl
      rw [e] at h
      exact h
    · rintro i s hi ⟨hs, hch⟩
      have hs6 : s.1 6 = nI n := (hch.1 6 (by decide)).trans hsz
      have hq : c / n ^ i < 2 ^ 31 := Nat.lt_of_le_of_lt (Nat.div_le_self _ _) hc
      have hd := Nat.mod_lt (c / n ^ i) h1
      refine ⟨oA s 16 (n - 1 - i) (nI (c / n ^ i % n)), ⟨fun j ha hb => ?_, hch.A (by decide)⟩, fun k => ?_⟩
      · show upd (s.2 16) (n - 1 - i) _ j = _
        rw [q_upd]
        by_cases e : j = n - 1 - i
        · rw [if_pos e, e]
          unfold dgP
          rw [show n - 1 - (n - 1 - i) = i by omega]
        · rw [if_neg e]; exact hs j (by omega) hb
      · show f_X7_layOrder_b12 s (nI (c / n ^ i)) (nI (seP n c i)) (en (plP n i)) k = k (_, nI (c / n ^ (i + 1)), nI (seP n c (i + 1)), en (plP n (i + 1)))
        have e1 : en (plP n i) = nI (n - 1 - i) := by unfold plP; rw [if_pos hi]; rfl
        have e2 : nI (n - 1 - i) + (-1) = en (plP n (i + 1)) := by
          unfold plP
          by_cases hl : i + 1 < n
          · rw [if_pos hl, show n - 1 - i = n - 1 - (i + 1) + 1 by omega, q_dec]; rfl
          · rw [if_neg hl, show n - 1 - i = 0 by omega, q_dec0]; rfl
        have e3 : s.1 6 = nI n := hs6
        have e4 : nI (c / n ^ i) / nI n = nI (c / n ^ (i + 1)) := by rw [pk_div hq h1 (by omega), Nat.div_div_eq_div_mul, Nat.pow_succ]
        have e5 : nI (seP n c i) ||| (1 <<< (nI (c / n ^ i % n) &&& 31)) = nI (seP n c (i + 1)) := (t_or _ (seP_lt h1 h5 i) _ (by omega)).1
        unfold f_X7_layOrder_b12
        simp only [hlet]
        rw [e1, if_neg (nI_pos (by omega)), if_neg (nI_in (show n - 1 - i < 5 by omega) (by decide)), if_neg (nI_in (show n - 1 - i < 5 by omega) (by decide)), nI_clamp (by omega)]
        simp only [q_oA1, q_oA2, q_upd, if_true]
        rw [e3, if_neg (nI_ne0 h1 (by omega)), if_neg (nI_ne0 h1 (by omega)), pk_rem hq h1 (by omega), e4, e5, e2]
    · rintro s ⟨hs, hch⟩
      have hs6 : s.1 6 = nI n := (hch.1 6 (by decide)).trans hsz
      refine ⟨_, ⟨s, rfl, fun j hj => hs j (by omega) hj, hch⟩, fun k => ?_⟩
      show f_X7_layOrder_b12 s _ (nI (seP n c n)) (en (plP n n)) k = _
      have e1 : en (plP n n) = NO := by unfold plP; rw [if_neg (Nat.lt_irrefl _)]; rfl
      unfold f_X7_layOrder_b12
      have hp2 : 2 ^ n - 1 < 2 ^ 31 := Nat.lt_of_le_of_lt (Nat.sub_le _ _) (Nat.pow_lt_pow_right (by decide) (by omega))
      rw [e1, if_pos (by decide), hs6, t_full n (by omega)]
      by_cases hh : seP n c n = 2 ^ n - 1
      · rw [if_pos (by rw [hh]), if_pos hh]; rfl
      · rw [if_neg (fun q => hh ((nI_eq (by have := seP_lt (c := c) h1 h5 n; omega) hp2).mp q)), if_neg hh]; rfl
  obtain ⟨v', k1, k2⟩ := key
  refine ⟨v', ?_, k2⟩
  unfold f_X7_layOrder
  rw [hsz, show nI n = nI (n - 1 + 1) by rw [Nat.sub_add_cancel h1], nI_pred]
  exact k1
theorem pc6_bt {t s : Nat} (ht : t < 6) (hs : s < 64) : pc6 (sBt s (sSy t s)) = pc6 s + (if sSy t s = none then 0 else 1) := by
  cases h : sSy t s with
  | none => rfl
  | some y => exact (t_sy t ht s hs y (sSy_lt ht hs h) h).2
theorem m_helpedBy {v : obV} {n : Nat} {K T C t : Nat → Nat} {P : Nat} {ch : Int32} (hc : cvM v n K T C P ch) (ho : okC n K T C P) (ht : ∀ j, j < n → v.2 16 j = nI (t j)) (htn : ∀ j, j < n → t j < n) : ∃ v', f_X7_helpedBy v = some (nI (hB n K T P t), v') ∧ chM [15] [12] v v' := by
  have hn := ho.1
  have key : ∃ v', f_X7_helpedBy_l17 fu (oF v 15 0, v.1 7, 0, 0, 0) = some (nI (hB n K T P t), v') ∧ chM [15] [12] v v' := by
    have h := lp_up (body := fun k (y : obV × Int32 × Int32 × Int32 × Int32) => f_X7_helpedBy_b17 y.1 y.2.1 y.2.2.1 y.2.2.2.1 y.2.2.2.2 k) (σ := obV) (fun i s => (s, nI (hS K T t P i).1, nI (pc6 (hS K T t P i).2.1), nI (if (hS K T t P i).2.2 = true then 1 else 0), nI i)) n (fun i s => s.1 15 = nI (hS K T t P i).2.1 ∧ chM [15] [12] v s) (fun z => ∃ v', z = some (nI (hB n K T P t), v') ∧ chM [15] [12] v v') ?_ ?_ fu 0 (oF v 15 0) ⟨rfl, chM.rf.F (by decide)⟩ (Nat.zero_le _) (q_fu (by omega))
    · have e : (oF v 15 0, nI (hS K T t P 0).1, nI (pc6 (hS K T t P 0).2.1), nI (if (hS K T t P 0).2.2 = true then 1 else 0), nI 0) = (oF v 15 0, v.1 7, 0, 0, 0) := by
        rw [hc.2.1, show hS K T t P 0 = (P, 0, false) from rfl, show pc6 0 = 0 from rfl, nI_0]
        rfl
      rw [e] at h
      exact h
    · rintro i s hi ⟨hs, hch⟩
      have hs6 : s.1 6 = nI n := (hch.1 6 (by decide)).trans hc.1
      have hti := htn i hi
      have h16 : s.2 16 i = nI (t i) := by rw [hch.2 16 (by decide)]; exact ht i hi
      have h10 : rwM s n K T C := by unfold rwM; rw [hch.2 10 (by decide)]; exact hc.2.2.2
      obtain ⟨o1, o2⟩ := hS_ok ho.k ho.2.1 htn i (by omega)
      have hT : T (t i) < 6 := by have := (ho.2.2 (t i) hti).2.1; omega
      have hw3 := sWr_le K (t i)
      have hst := hS_s K T t P i
      by_cases hz : (hS K T t P i).2.2 = true ∨ (hS K T t P i).1 < sWr K (t i)
      · rw [if_pos hz] at hst
        refine ⟨s, ⟨by rw [hst]; exact hs, hch⟩, fun k => ?_⟩
        show f_X7_helpedBy_b17 s (nI (hS K T t P i).1) (nI (pc6 (hS K T t P i).2.1)) (nI (if (hS K T t P i).2.2 = true then 1 else 0)) (nI i) k = k (s, nI (hS K T t P (i + 1)).1, nI (pc6 (hS K T t P (i + 1)).2.1), nI (if (hS K T t P (i + 1)).2.2 = true then 1 else 0), nI (i + 1))
        rw [hst]
        unfold f_X7_helpedBy_b17
        rw [hs6, if_neg (nI_ge hi (by omega))]
        have fin : ∀ x : Int32, f_X7_helpedBy_b50 s (nI (hS K T t P i).1) (nI (pc6 (hS K T t P i).2.1)) (nI i) 1 k = k (s, nI (hS K T t P i).1, nI (pc6 (hS K T t P i).2.1), nI 1, nI (i + 1)) := by
          intro x
          unfold f_X7_helpedBy_b50
          rw [if_neg (by decide), nI_1]
          rfl
        by_cases hb : (hS K T t P i).2.2 = true
        · rw [if_pos hb, if_neg (by decide), fin 0, if_pos rfl]
        · have hl := hz.resolve_left hb
          rw [if_neg hb, if_pos (by decide), if_neg (nI_in (show i < 5 by omega) (by decide)), nI_clamp (by omega), h16, m_wears (K := K) (by omega) (h10 (t i) hti).1 (ho.2.2 (t i) hti).1, bind_e, if_neg (nI_ge hl (by omega)), fin 0, if_pos rfl]
      · have hb : ¬ (hS K T t P i).2.2 = true := fun q => hz (Or.inl q)
        have hl : ¬ (hS K T t P i).1 < sWr K (t i) := fun q => hz (Or.inr q)
        rw [if_neg hz] at hst
        obtain ⟨s', e1, e2, e3, e4⟩ := m_tellSaying (v := s) hn h10 ho.k hti o1 hs
        refine ⟨s', ⟨by rw [hst]; exact e2, hch.tr e4⟩, fun k => ?_⟩
        show f_X7_helpedBy_b17 s (nI (hS K T t P i).1) (nI (pc6 (hS K T t P i).2.1)) (nI (if (hS K T t P i).2.2 = true then 1 else 0)) (nI i) k = k (s', nI (hS K T t P (i + 1)).1, nI (pc6 (hS K T t P (i + 1)).2.1), nI (if (hS K T t P (i + 1)).2.2 = true then 1 else 0), nI (i + 1))
        rw [hst]
        have h16' : s'.2 16 i = nI (t i) := by rw [e4.2 16 (by decide)]; exact h16
        have h12' : s'.2 12 (t i) = en (sSy (T (t i)) (hS K T t P i).2.1) := by rw [e3, q_upd, if_pos rfl]
        unfold f_X7_helpedBy_b17
        rw [hs6, if_neg (nI_ge hi (by omega)), if_neg hb, if_pos (by decide), if_neg (nI_in (show i < 5 by omega) (by decide)), nI_clamp (by omega), h16, m_wears (K := K) (by omega) (h10 (t i) hti).1 (ho.2.2 (t i) hti).1, bind_e, if_pos (nI_le (by omega) (by omega))]
        unfold f_X7_helpedBy_b50
        rw [if_pos rfl, if_neg (nI_in (show i < 5 by omega) (by decide)), nI_clamp (by omega), h16, m_wears (K := K) (by omega) (h10 (t i) hti).1 (ho.2.2 (t i) hti).1, bind_e, if_neg (q_in2 (show i < 5 by omega) (by decide)), e1, bind_e, if_neg (q_in2 (show i < 5 by omega) (by decide)), h16', nI_clamp (by omega), if_neg (q_in2 (show t i < 5 by omega) (by decide)), h12', pk_sub (by omega), nI_1]
        show _ = k (s', nI ((hS K T t P i).1 - sWr K (t i)), nI (pc6 (sBt (hS K T t P i).2.1 (sSy (T (t i)) (hS K T t P i).2.1))), nI 0, nI (i + 1))
        rw [pc6_bt hT o1]
        cases hy : sSy (T (t i)) (hS K T t P i).2.1 with
        | none =>
          rw [en_none, q_m1, if_pos rfl, if_pos rfl, q_add0]
          rfl
        | some y =>
          have hy6 := sSy_lt hT o1 hy
          rw [en_some, q_m1, if_neg (q_no (by omega)), if_neg (fun q => by cases q), nI_1]
          rfl
    · rintro s ⟨hs, hch⟩
      have hs6 : s.1 6 = nI n := (hch.1 6 (by decide)).trans hc.1
      refine ⟨_, ⟨s, rfl, hch⟩, fun k => ?_⟩
      show f_X7_helpedBy_b17 s _ (nI (pc6 (hS K T t P n).2.1)) _ (nI n) k = _
      unfold f_X7_helpedBy_b17
      rw [hs6, if_pos (Int32.le_refl _)]
      rfl
  obtain ⟨v', k1, k2⟩ := key
  refine ⟨v', ?_, k2⟩
  unfold f_X7_helpedBy
  rw [hlet_e]
  exact k1
