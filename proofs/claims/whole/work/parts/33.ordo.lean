/-! ORDER: the answers -/
theorem dgP_lt {n c k : Nat} (h : 1 ≤ n) : dgP n c k < n := Nat.mod_lt _ h
theorem fL_dg {n c j : Nat} (hn : n ≤ 5) (h : j < n) : fL (dgL n c) j = dgP n c j := by
  have hj : j < 5 := by omega
  match j, hj, h with
  | 0, _, h => exact if_pos h
  | 1, _, h => exact if_pos h
  | 2, _, h => exact if_pos h
  | 3, _, h => exact if_pos h
  | 4, _, h => exact if_pos h
  | j + 5, h, _ => exact absurd h (by omega)
theorem hB_dg {n c : Nat} {K T : Nat → Nat} {P : Nat} (hn : n ≤ 5) : hB n K T P (fL (dgL n c)) = hB n K T P (dgP n c) := by
  unfold hB
  rw [hS_cong n (fun j hj => fL_dg hn hj)]
theorem q_ble {hb : List Nat → Nat} {o : Option Nat} {l : List Nat} (hbl : hb l ≤ 6) (hbd : ∀ m, o = some m → m ≤ 6) : (nI (hb l) ≤ en o) ↔ ¬ btP o (hb l) = true := by
  cases hm : o with
  | none => simp only [en, btP]; exact ⟨fun q => absurd q (q_NOle (by omega)), fun q => absurd trivial q⟩
  | some m =>
    have hm6 := hbd m hm
    simp only [en, btP, decide_eq_true_eq]
    rw [nI_leI (by omega) (by omega)]
    omega
def hbF (n : Nat) (K T : Nat → Nat) (P : Nat) (l : List Nat) : Nat := hB n K T P (fL l)
def sOF (n : Nat) (K T : Nat → Nat) (P : Nat) : Option Nat × List Nat := foP (hbF n K T P) (sqP n) 120
theorem sOF_eq {n : Nat} {K T : Nat → Nat} {P : Nat} (h1 : 1 ≤ n) (hn : n ≤ 5) : foP (hbF n K T P) (okD n) (n ^ n) = sOF n K T P := by
  unfold sOF foP
  rw [t_prm n (by omega) h1]
theorem foP_some {hb : List Nat → Nat} {n : Nat} : ∀ i, (foP hb (sqP n) (i + 1)).1 ≠ none := by
  intro i
  induction i with
  | zero => intro h; rw [foP_s] at h; cases h
  | succ i ih =>
    intro h
    rw [foP_s] at h
    cases hg : sqP n (i + 1) with
    | none => rw [hg] at h; exact ih h
    | some l =>
      rw [hg] at h
      have h : (stP hb (foP hb (sqP n) (i + 1)) l).1 = none := h
      unfold stP at h
      by_cases hc : btP (foP hb (sqP n) (i + 1)).1 (hb l) = true
      · rw [if_pos hc] at h; cases h
      · rw [if_neg hc] at h; exact ih h
theorem sOF_some {n : Nat} {K T : Nat → Nat} {P : Nat} : (sOF n K T P).1 ≠ none := foP_some 119
theorem hbF_le {n : Nat} {K T : Nat → Nat} {P : Nat} (l : List Nat) : hbF n K T P l ≤ 6 := pc6_le _
/-- the answer to ORDER -/
def sOr (n : Nat) (K T : Nat → Nat) (P : Nat) (x : Nat) : Int32 := if x = 0 then en (sOF n K T P).1 else if n ≤ x - 10 then NO else nI (fL (sOF n K T P).2 (x - 10))
theorem x_tellOrder {v : obV} {n : Nat} {K T : Nat → Nat} {P x : Nat} (hn : n ≤ 5) (hsz : v.1 2 = nI n) (hb : bsX v (sOF n K T P)) (hx : x = 0 ∨ 10 ≤ x) (hx2 : x < 15) : f_X6_tellOrder v (nI x) = some (sOr n K T P x) := by
  unfold f_X6_tellOrder sOr
  by_cases h0 : x = 0
  · rw [h0, if_pos nI_0, if_pos rfl, hb.1]
  · have h10 := hx.resolve_left h0
    rw [if_neg (nI_ne0 (by omega) (by omega)), if_neg h0, q_l10, pk_sub h10]
    unfold f_X0_at
    rw [if_neg (nI_pos (by omega)), hsz]
    by_cases hle : n ≤ x - 10
    · rw [if_pos (nI_le hle (by omega)), if_pos hle]; rfl
    · rw [if_neg (nI_ge (by omega) (by omega)), if_neg hle, if_neg (nI_in (show x - 10 < 5 by omega) (by decide)), nI_clamp (by omega), hb.2 sOF_some _ (by omega)]; rfl
theorem m_orderOf {v : obV} {n : Nat} {K T C : Nat → Nat} {P : Nat} {ch : Int32} {x : Nat} (h1 : 1 ≤ n) (hc : cvM v n K T C P ch) (ho : okC n K T C P) (hx : x = 0 ∨ 10 ≤ x) (hx2 : x < 15) : ∃ v', f_X7_orderOf v (nI x) = some (sOr n K T P x, v') ∧ chM [15] [12, 16, 17] v v' := by
  have hn := ho.1
  have hnn : n ^ n ≤ 3125 := by
    have : ∀ n, n < 6 → n ^ n ≤ 3125 := by decide
    exact this n (by omega)
  have walk : ∃ v', f_X7_orderOf_l30 (nI x) (nI (n ^ n)) fu (v, -1, 0) = some (sOr n K T P x, v') ∧ chM [15] [12, 16, 17] v v' := by
    have h := lp_up (body := fun k (y : obV × Int32 × Int32) => f_X7_orderOf_b30 y.1 (nI x) (nI (n ^ n)) y.2.1 y.2.2 k) (σ := obV) (fun i s => (s, en (foP (hbF n K T P) (okD n) i).1, nI i)) (n ^ n) (fun i s => chM [15] [12, 16, 17] v s ∧ ((foP (hbF n K T P) (okD n) i).1 ≠ none → ∀ j, j < n → s.2 17 j = nI (fL (foP (hbF n K T P) (okD n) i).2 j))) (fun z => ∃ v', z = some (sOr n K T P x, v') ∧ chM [15] [12, 16, 17] v v') ?_ ?_ fu 0 v ⟨chM.rf, fun q => absurd rfl q⟩ (Nat.zero_le _) (q_fu (by omega))
    · exact h
    · rintro i s hi ⟨hch, hb⟩
      have hs6 : s.1 6 = nI n := (hch.1 6 (by decide)).trans hc.1
      obtain ⟨s1, a1, a2, a3⟩ := m_layOrder (v := s) h1 hn (show i < 2 ^ 31 by omega) hs6
      have hF := foP_s (hbF n K T P) (okD n) i
      have hch1 : chM [15] [12, 16, 17] v s1 := hch.tr (a3.mono (by decide) (by decide))
      by_cases hok : seP n i n = 2 ^ n - 1
      · have hD : okD n i = some (dgL n i) := if_pos hok
        rw [hD] at hF
        have hF : foP (hbF n K T P) (okD n) (i + 1) = stP (hbF n K T P) (foP (hbF n K T P) (okD n) i) (dgL n i) := hF
        rw [if_pos hok] at a1
        have hc1 : cvM s1 n K T C P ch := ⟨(hch1.1 6 (by decide)).trans hc.1, (hch1.1 7 (by decide)).trans hc.2.1, (hch1.1 8 (by decide)).trans hc.2.2.1, by unfold rwM; rw [hch1.2 10 (by decide)]; exact hc.2.2.2⟩
        obtain ⟨s2, b1, b2⟩ := m_helpedBy (v := s1) (t := dgP n i) hc1 ho a2 (fun j _ => dgP_lt h1)
        have hch2 : chM [15] [12, 16, 17] v s2 := hch1.tr (b2.mono (by decide) (by decide))
        have hh : hB n K T P (dgP n i) = hbF n K T P (dgL n i) := (hB_dg hn).symm
        rw [hh] at b1
        have hcase := q_ble (hb := hbF n K T P) (o := (foP (hbF n K T P) (okD n) i).1) (l := dgL n i) (hbF_le _) (foP_bound hbF_le i)
        by_cases hle : nI (hbF n K T P (dgL n i)) ≤ en (foP (hbF n K T P) (okD n) i).1
        · have hF : foP (hbF n K T P) (okD n) (i + 1) = foP (hbF n K T P) (okD n) i := by rw [hF]; unfold stP; rw [if_neg (hcase.mp hle)]
          refine ⟨s2, ⟨hch2, fun q j hj => ?_⟩, fun k => ?_⟩
          · rw [hF] at q ⊢
            rw [b2.2 17 (by decide), a3.2 17 (by decide)]
            exact hb q j hj
          · show f_X7_orderOf_b30 s (nI x) (nI (n ^ n)) (en (foP (hbF n K T P) (okD n) i).1) (nI i) k = k (s2, en (foP (hbF n K T P) (okD n) (i + 1)).1, nI (i + 1))
            rw [hF]
            unfold f_X7_orderOf_b30
            rw [if_neg (nI_ge hi (by omega)), a1, bind_e, if_neg (show ¬ nI 1 = 0 by decide), b1, bind_e, if_pos hle, nI_1]
        · have hF : foP (hbF n K T P) (okD n) (i + 1) = (some (hbF n K T P (dgL n i)), dgL n i) := by rw [hF]; unfold stP; rw [if_pos (Classical.not_not.mp (fun q => hle (hcase.mpr q)))]
          obtain ⟨g, c1, c2⟩ := m_copy (f := s2.2 16) (g := s2.2 17) (n := 5) (by decide)
          refine ⟨oC s2 17 g, ⟨hch2.C (by decide), fun q j hj => ?_⟩, fun k => ?_⟩
          · show g j = _
            rw [hF, c2 j (by omega), b2.2 16 (by decide), a2 j hj, fL_dg hn hj]
          · show f_X7_orderOf_b30 s (nI x) (nI (n ^ n)) (en (foP (hbF n K T P) (okD n) i).1) (nI i) k = k (oC s2 17 g, en (foP (hbF n K T P) (okD n) (i + 1)).1, nI (i + 1))
            rw [hF]
            unfold f_X7_orderOf_b30
            rw [if_neg (nI_ge hi (by omega)), a1, bind_e, if_neg (show ¬ nI 1 = 0 by decide), b1, bind_e, if_neg hle, c1, bind_e, nI_1]
            rfl
      · have hD : okD n i = none := if_neg hok
        rw [hD] at hF
        have hF : foP (hbF n K T P) (okD n) (i + 1) = foP (hbF n K T P) (okD n) i := hF
        rw [if_neg hok] at a1
        refine ⟨s1, ⟨hch1, fun q j hj => ?_⟩, fun k => ?_⟩
        · rw [hF] at q ⊢
          rw [a3.2 17 (by decide)]
          exact hb q j hj
        · show f_X7_orderOf_b30 s (nI x) (nI (n ^ n)) (en (foP (hbF n K T P) (okD n) i).1) (nI i) k = k (s1, en (foP (hbF n K T P) (okD n) (i + 1)).1, nI (i + 1))
          rw [hF]
          unfold f_X7_orderOf_b30
          rw [if_neg (nI_ge hi (by omega)), a1, bind_e, if_pos (show nI 0 = 0 by decide), nI_1]
    · rintro s ⟨hch, hb⟩
      have hs6 : s.1 6 = nI n := (hch.1 6 (by decide)).trans hc.1
      rw [sOF_eq h1 hn] at hb
      refine ⟨_, ⟨s, rfl, hch⟩, fun k => ?_⟩
      show f_X7_orderOf_b30 s (nI x) (nI (n ^ n)) (en (foP (hbF n K T P) (okD n) (n ^ n)).1) (nI (n ^ n)) k = _
      rw [sOF_eq h1 hn]
      unfold f_X7_orderOf_b30 sOr
      rw [if_pos (Int32.le_refl _)]
      by_cases h0 : x = 0
      · rw [h0, if_pos nI_0, if_pos rfl]
      · have h10 := hx.resolve_left h0
        rw [if_neg (nI_ne0 (by omega) (by omega)), if_neg h0, q_l10, pk_sub h10, hs6]
        by_cases hle : n ≤ x - 10
        · rw [if_pos (nI_le hle (by omega)), if_pos hle]; rfl
        · rw [if_neg (nI_ge (by omega) (by omega)), if_neg hle, if_neg (nI_in (show x - 10 < 5 by omega) (by decide)), nI_clamp (by omega), hb sOF_some _ (by omega)]
  have pow : f_X7_orderOf_l4 v (nI x) fu (1, 0) = f_X7_orderOf_l30 (nI x) (nI (n ^ n)) fu (v, -1, 0) := by
    refine lp_sum (σ := Int32) (fun i s => (s, nI i)) n (fun i => nI (n ^ i)) _ ?_ ?_ fu 0 (Nat.zero_le _) (q_fu (by omega))
    · intro i hi k
      show f_X7_orderOf_b4 v (nI x) (nI (n ^ i)) (nI i) k = k (nI (n ^ (i + 1)), nI (i + 1))
      unfold f_X7_orderOf_b4
      rw [hc.1, if_neg (nI_ge hi (by omega)), pk_mul, nI_1, Nat.pow_succ]
    · intro k
      show f_X7_orderOf_b4 v (nI x) (nI (n ^ n)) (nI n) k = _
      unfold f_X7_orderOf_b4
      rw [hc.1, if_pos (Int32.le_refl _)]
  obtain ⟨v', w1, w2⟩ := walk
  refine ⟨v', ?_, w2⟩
  unfold f_X7_orderOf
  rw [pow, w1]
