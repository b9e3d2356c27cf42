/-! the day of the reference -/
/-- only these ints and arrays may have changed -/
def chM (Is As : List Nat) (v v' : obV) : Prop := (∀ k, k ∉ Is → v'.1 k = v.1 k) ∧ ∀ k, k ∉ As → v'.2 k = v.2 k
theorem chM.rf {Is As : List Nat} {v : obV} : chM Is As v v := ⟨fun _ _ => rfl, fun _ _ => rfl⟩
theorem chM.tr {Is As : List Nat} {u v w : obV} (h1 : chM Is As u v) (h2 : chM Is As v w) : chM Is As u w := ⟨fun k hk => (h2.1 k hk).trans (h1.1 k hk), fun k hk => (h2.2 k hk).trans (h1.2 k hk)⟩
theorem chM.mono {Is As Is' As' : List Nat} {u v : obV} (h : chM Is As u v) (h1 : ∀ k ∈ Is, k ∈ Is') (h2 : ∀ k ∈ As, k ∈ As') : chM Is' As' u v := ⟨fun k hk => h.1 k (fun e => hk (h1 k e)), fun k hk => h.2 k (fun e => hk (h2 k e))⟩
theorem chM.F {Is As : List Nat} {u v : obV} {k : Nat} {x : Int32} (h : chM Is As u v) (hk : k ∈ Is) : chM Is As u (oF v k x) := ⟨fun j hj => by
  rw [q_oF1, if_neg (fun e : j = k => hj (by rw [e]; exact hk))]; exact h.1 j hj, h.2⟩
theorem chM.A {Is As : List Nat} {u v : obV} {k i : Nat} {x : Int32} (h : chM Is As u v) (hk : k ∈ As) : chM Is As u (oA v k i x) := ⟨h.1, fun j hj => by
  rw [q_oA2, if_neg (fun e : j = k => hj (by rw [e]; exact hk))]; exact h.2 j hj⟩
theorem chM.C {Is As : List Nat} {u v : obV} {k : Nat} {g : Nat → Int32} (h : chM Is As u v) (hk : k ∈ As) : chM Is As u (oC v k g) := ⟨h.1, fun j hj => by
  rw [q_oC2, if_neg (fun e : j = k => hj (by rw [e]; exact hk))]; exact h.2 j hj⟩
def rwM (v : obV) (n : Nat) (K T C : Nat → Nat) : Prop := ∀ p, p < n → v.2 10 (3 * p) = nI (K p) ∧ v.2 10 (3 * p + 1) = nI (T p) ∧ v.2 10 (3 * p + 2) = nI (C p)
def cvM (v : obV) (n : Nat) (K T C : Nat → Nat) (P : Nat) (ch : Int32) : Prop := v.1 6 = nI n ∧ v.1 7 = nI P ∧ v.1 8 = ch ∧ rwM v n K T C
theorem m_wears {v : obV} {K : Nat → Nat} {p : Nat} (hp : p < 5) (hk : v.2 10 (3 * p) = nI (K p)) (hK : K p ≤ 4) : f_X7_wearsOf v (nI p) = some (nI (sWr K p)) := by
  unfold f_X7_wearsOf sWr
  simp (disch := omega) only [if_true, if_false, q_neg1, nI_clamp, nI_ltI, nI_leI, nI_eq, nI_add, pk_mul, q_l0, q_l1, q_l2, q_l3, q_l4, q_l5, q_l6, q_l7, q_l8, q_l9, q_l10, q_l11, q_l12, q_l14, q_l15, q_l16, q_l19, q_l20, q_l24, q_l30, q_l31, q_l44, q_l48, q_l59, q_l98, q_l101, q_l112, q_l115, q_l116, q_l120, q_l126, q_l9999, q_l65536, hk]
  rw [if_neg (by omega)]
  split <;> rfl
theorem m_stays {v : obV} {K : Nat → Nat} {p : Nat} (hp : p < 5) (hk : v.2 10 (3 * p) = nI (K p)) (hK : K p ≤ 4) : f_X7_staysOf v (nI p) = some (nI (sSt K p)) := by
  unfold f_X7_staysOf sSt
  simp (disch := omega) only [if_true, if_false, q_neg1, nI_clamp, nI_ltI, nI_leI, nI_eq, nI_add, pk_mul, q_l0, q_l1, q_l2, q_l3, q_l4, q_l5, q_l6, q_l7, q_l8, q_l9, q_l10, q_l11, q_l12, q_l14, q_l15, q_l16, q_l19, q_l20, q_l24, q_l30, q_l31, q_l44, q_l48, q_l59, q_l98, q_l101, q_l112, q_l115, q_l116, q_l120, q_l126, q_l9999, q_l65536, hk]
  rw [if_neg (by omega)]
  by_cases h1 : K p = 1
  · rw [if_pos h1, if_pos (Or.inl h1)]
  · rw [if_neg h1, if_neg (by omega)]
    by_cases h4 : K p = 4
    · rw [if_pos h4, if_pos (Or.inr h4)]
    · rw [if_neg h4, if_neg (by omega)]
theorem m_isPeer {v : obV} {K : Nat → Nat} {p : Nat} (hp : p < 5) (hk : v.2 10 (3 * p) = nI (K p)) (hK : K p ≤ 4) : f_X7_isPeer v (nI p) = some (nI (if sPr K p = true then 1 else 0)) := by
  unfold f_X7_isPeer sPr
  simp (disch := omega) only [if_true, if_false, q_neg1, nI_clamp, nI_ltI, nI_leI, nI_eq, nI_add, pk_mul, q_l0, q_l1, q_l2, q_l3, q_l4, q_l5, q_l6, q_l7, q_l8, q_l9, q_l10, q_l11, q_l12, q_l14, q_l15, q_l16, q_l19, q_l20, q_l24, q_l30, q_l31, q_l44, q_l48, q_l59, q_l98, q_l101, q_l112, q_l115, q_l116, q_l120, q_l126, q_l9999, q_l65536, hk, decide_eq_true_eq]
  rw [if_neg (by omega)]
  by_cases h1 : K p = 2
  · rw [if_pos h1, if_pos (Or.inl h1)]
  · rw [if_neg h1, if_neg (by omega)]
    by_cases h4 : K p = 4
    · rw [if_pos h4, if_pos (Or.inr h4)]
    · rw [if_neg h4, if_neg (by omega)]
theorem m_isAhead {v : obV} {n : Nat} {K T C : Nat → Nat} {p q : Nat} (hn : n ≤ 5) (hr : rwM v n K T C) (hk : okK n K T) (hC : okCm n C) (hp : p < n) (hq : q < p) : f_X7_isAhead v (nI p) (nI q) = some (nI (if sAh K C p q = true then 1 else 0)) := by
  have hqn : q < n := by omega
  have hCp := hC p hp
  have hCq := hC q hqn
  unfold f_X7_isAhead sAh
  rw [m_isPeer (K := K) (by omega) (hr p hp).1 (hk p hp).1, m_isPeer (K := K) (by omega) (hr q hqn).1 (hk q hqn).1]
  simp (disch := omega) only [if_true, if_false, q_neg1, nI_clamp, nI_ltI, nI_leI, nI_eq, nI_add, pk_mul, q_l0, q_l1, q_l2, q_l3, q_l4, q_l5, q_l6, q_l7, q_l8, q_l9, q_l10, q_l11, q_l12, q_l14, q_l15, q_l16, q_l19, q_l20, q_l24, q_l30, q_l31, q_l44, q_l48, q_l59, q_l98, q_l101, q_l112, q_l115, q_l116, q_l120, q_l126, q_l9999, q_l65536, (hr p hp).2.2, (hr q hqn).2.2, Option.bind]
  have e1 : ∀ b : Bool, ¬ ¬ (nI (if b = true then 1 else 0) = nI 0 ∨ nI (if b = true then 1 else 0) = nI 1) := by decide
  by_cases hb : sPr K p = sPr K q
  · rw [hb, if_pos rfl, if_pos rfl, if_neg (by omega), if_neg (by omega)]
    by_cases he : C p = C q
    · rw [if_pos he, if_pos (by omega), if_neg (by simp only [decide_eq_true_eq]; omega)]
    · rw [if_neg he, if_neg (by omega), if_neg (by omega)]
      by_cases hc : C q ≤ C p
      · rw [if_pos hc, if_neg (by simp only [decide_eq_true_eq]; omega)]
      · rw [if_neg hc, if_pos (by simp only [decide_eq_true_eq]; omega)]
  · rw [if_neg hb, if_neg, if_neg (e1 _)]
    revert hb
    cases sPr K p <;> cases sPr K q <;> decide
def dyM (v : obV) (n : Nat) (D : DS) : Prop := v.1 13 = nI D.2.2.1 ∧ v.1 14 = en D.2.2.2.2.1 ∧ v.1 15 = nI D.2.2.2.1 ∧ ∀ p, p < n → v.2 11 p = en (D.1 p) ∧ v.2 12 p = en (D.2.1 p)
theorem m_next {v : obV} {n : Nat} {K T C : Nat → Nat} {rc : Nat → Option Nat} {slot : Nat} (hn : n ≤ 5) (hsz : v.1 6 = nI n) (hw : rwM v n K T C) (hk : okK n K T) (hC : okCm n C) (hr : ∀ p, p < n → v.2 11 p = en (rc p)) (hrb : ∀ p k, p < n → rc p = some k → k < 20) (hs : slot < 20) : f_X7_nextAt v (nI slot) = some (en (sNx K C rc slot n)) := by
  rw [show f_X7_nextAt v (nI slot) = lp (fun k y => f_X7_nextAt_b4 v (nI slot) y.1 y.2 k) fu (en (sNx K C rc slot 0), nI 0) from rfl]
  refine lp_sum (σ := Int32) (fun i s => (s, nI i)) n (fun i => en (sNx K C rc slot i)) _ ?_ ?_ fu 0 (Nat.zero_le _) (q_fu (by omega))
  · intro i hi k
    show f_X7_nextAt_b4 v (nI slot) (en (sNx K C rc slot i)) (nI i) k = k (en (sNx K C rc slot (i + 1)), nI (i + 1))
    have hCi := hC i hi
    unfold f_X7_nextAt_b4 f_X7_nextAt_b41
    simp (disch := omega) only [if_true, if_false, q_neg1, nI_clamp, nI_ltI, nI_leI, nI_eq, nI_add, pk_mul, q_l0, q_l1, q_l2, q_l3, q_l4, q_l5, q_l6, q_l7, q_l8, q_l9, q_l10, q_l11, q_l12, q_l14, q_l15, q_l16, q_l19, q_l20, q_l24, q_l30, q_l31, q_l44, q_l48, q_l59, q_l98, q_l101, q_l112, q_l115, q_l116, q_l120, q_l126, q_l9999, q_l65536, hsz, (hw i hi).2.2, hr i hi]
    rw [if_neg (by omega), if_neg (by omega)]
    cases h2 : rc i with
    | none =>
      rw [en_none, if_pos rfl, if_neg (by omega)]
      by_cases h1 : C i ≤ slot
      · rw [if_neg (by omega), sNx, if_pos (⟨h1, h2⟩ : C i ≤ slot ∧ rc i = none)]
        cases h3 : sNx K C rc slot i with
        | none => rw [en_none, if_pos rfl]; rfl
        | some q =>
          have hq := (sNx_lt i q h3).1
          rw [en_some, if_neg (q_no (by omega)), m_isAhead hn hw hk hC hi hq]
          simp only [Option.bind]
          by_cases ha : sAh K C i q = true
          · rw [if_pos ha, if_neg (by decide), if_pos ha]; rfl
          · rw [if_neg ha, if_pos rfl, if_neg ha]; rfl
      · rw [if_pos (by omega), sNx, if_neg (fun e => h1 e.1 : ¬ (C i ≤ slot ∧ rc i = none))]
    | some kk =>
      rw [en_some, if_neg (q_no (by have := hrb i kk hi h2; omega)), sNx, if_neg (fun e => by rw [h2] at e; cases e.2 : ¬ (C i ≤ slot ∧ rc i = none))]
  · intro k
    show f_X7_nextAt_b4 v (nI slot) (en (sNx K C rc slot n)) (nI n) k = _
    unfold f_X7_nextAt_b4
    rw [hsz, if_pos (Int32.le_refl _)]
/-- a reference's object that has only what is said -/
def sayV (s : Nat) : obV := (fun _ => nI s, fun _ _ => 0)
theorem t_say7 : ∀ t, t < 6 → ∀ s, s < 64 → f_X7_sayingFor (sayV s) (nI t) = some (en (sSy t s)) := by decide +kernel
theorem m_sayingFor {v : obV} {t s : Nat} (ht : t < 6) (hs : s < 64) (h : v.1 15 = nI s) : f_X7_sayingFor v (nI t) = some (en (sSy t s)) := by
  rw [← t_say7 t ht s hs]
  unfold f_X7_sayingFor f_X7_sayingFor_b19 f_X7_sayingFor_b31
  rw [h]
  rfl
theorem m_tellSaying {v : obV} {n : Nat} {K T C : Nat → Nat} {p s : Nat} (hn : n ≤ 5) (hw : rwM v n K T C) (hk : okK n K T) (hp : p < n) (hs : s < 64) (h : v.1 15 = nI s) : ∃ v', f_X7_tellSaying v (nI p) = some v' ∧ v'.1 15 = nI (sBt s (sSy (T p) s)) ∧ v'.2 12 = upd (v.2 12) p (en (sSy (T p) s)) ∧ chM [15] [12] v v' := by
  have hT : T p < 6 := by have := (hk p hp).2; omega
  have hcl : Int32.toNatClampNeg (nI p) = p := nI_clamp (by omega)
  have hg : (nI p < 0 ∨ 5 ≤ p) = False := q_gF (by omega) (by omega)
  have e3 : 3 * nI p + 1 = nI (3 * p + 1) := by rw [q_l3, q_l1, pk_mul, nI_add]
  unfold f_X7_tellSaying
  rw [e3, if_neg (nI_in (show 3 * p + 1 < 15 by omega) (by decide)), nI_clamp (by omega), (hw p hp).2.1, m_sayingFor hT hs h]
  simp only [Option.bind, hlet, hcl, hg, if_false, q_oA2, q_oA1, q_upd, if_true, h, q_m1]
  cases hy : sSy (T p) s with
  | none =>
    rw [en_none, if_pos rfl]
    refine ⟨_, rfl, ?_, rfl, (chM.rf.A (by decide)).F (by decide)⟩
    show nI s ||| 0 = nI s
    rw [Int32.or_zero]
  | some y =>
    have hy6 := sSy_lt hT hs hy
    rw [en_some, if_neg (q_no (by omega))]
    exact ⟨_, rfl, (t_or s hs y hy6).1, rfl, (chM.rf.A (by decide)).F (by decide)⟩
theorem m_lay49 {v0' : obV} {n : Nat} {K T C : Nat → Nat} {P : Nat} (hn : n ≤ 5) (hsz : v0'.1 6 = nI n) (hw0 : rwM v0' n K T C) (hk : okK n K T) (hC : okCm n C) (hP : P ≤ 20) (h0 : dyM v0' n (dRn n K T C P 0)) : ∃ v', f_X7_layDay_l49 fu (v0', 0, 0) = some v' ∧ dyM v' n (dRn n K T C P 20) ∧ chM [13, 14, 15] [11, 12] v0' v' := by
  -- once he is in town the day stays as it is
  have stay : ∀ s q, (dRn n K T C P s).2.2.2.2.1 = some q → ∀ j, dRn n K T C P (s + j) = dRn n K T C P s := by
    intro s q h j
    induction j with
    | zero => rfl
    | succ j ih =>
      show dSt n K T C (s + j) (dRn n K T C P (s + j)) = _
      rw [ih]
      unfold dSt dNx
      rw [if_neg (fun e => by rw [h] at e; cases e.2)]
  refine lp_any (fun y : obV × Int32 × Int32 => ∃ i, i ≤ 20 ∧ y.2.2 = nI i ∧ y.2.1 = nI (dRn n K T C P i).2.2.2.2.2 ∧ dyM y.1 n (dRn n K T C P i) ∧ chM [13, 14, 15] [11, 12] v0' y.1) (fun y => 20 - y.2.2.toNatClampNeg) (fun z => ∃ v', z = some v' ∧ dyM v' n (dRn n K T C P 20) ∧ chM [13, 14, 15] [11, 12] v0' v') ?_ fu (v0', 0, 0) ⟨0, by decide, rfl, rfl, h0, chM.rf⟩ (Nat.lt_of_le_of_lt (Nat.sub_le _ _) (q_fu (by decide)))
  rintro ⟨v, fr, x⟩ ⟨i, hi, ex, ef, hd, hc⟩
  have ex : x = nI i := ex
  have ef : fr = nI (dRn n K T C P i).2.2.2.2.2 := ef
  have hd : dyM v n (dRn n K T C P i) := hd
  have hc : chM [13, 14, 15] [11, 12] v0' v := hc
  subst ex
  subst ef
  have ho : dOK n i C (dRn n K T C P i) := dRn_ok hk hP i
  have hsz1 : v.1 6 = nI n := by rw [hc.1 6 (by decide)]; exact hsz
  have hw1 : rwM v n K T C := by unfold rwM; rw [hc.2 10 (by decide)]; exact hw0
  have hfr := ho.2.2.1
  by_cases h20 : i = 20
  · right
    rw [h20] at hd ⊢
    refine ⟨_, ⟨v, rfl, hd, hc⟩, fun k => ?_⟩
    show f_X7_layDay_b49 v _ (nI 20) k = _
    unfold f_X7_layDay_b49
    rw [if_pos (by decide)]
  have hi : i < 20 := by omega
  cases ht : (dRn n K T C P i).2.2.2.2.1 with
  | some q =>
    right
    have e20 : dRn n K T C P 20 = dRn n K T C P i := by have := stay i q ht (20 - i); rwa [show i + (20 - i) = 20 by omega] at this
    have hq := ho.2.2.2.1 q ht
    refine ⟨_, ⟨v, rfl, by rw [e20]; exact hd, hc⟩, fun k => ?_⟩
    show f_X7_layDay_b49 v _ (nI i) k = _
    unfold f_X7_layDay_b49
    rw [if_neg (show ¬ (20 : Int32) ≤ nI i from nI_ge hi (by decide)), hd.2.1, ht, en_some, q_m1, if_neg (q_no (by omega))]
  | none =>
    left
    generalize hD : dRn n K T C P i = D at hd hfr ho ht
    have hN : dRn n K T C P (i + 1) = dSt n K T C i D := by rw [← hD]; rfl
    have mu : ∀ (w : obV) (g : Int32), 20 - Int32.toNatClampNeg (nI (i + 1)) < 20 - Int32.toNatClampNeg (nI i) := fun _ _ => by rw [nI_clamp (by omega), nI_clamp (by omega)]; omega
    have e9 : ∀ k, f_X7_layDay_b49 v (nI D.2.2.2.2.2) (nI i) k = f_X7_layDay_b77 v (nI D.2.2.2.2.2) (nI i) (en (dNx n K C i D)) k := by
      intro k
      unfold f_X7_layDay_b49 dNx
      rw [if_neg (show ¬ (20 : Int32) ≤ nI i from nI_ge hi (by decide)), hd.2.1, ht, en_none, q_m1, if_pos rfl]
      by_cases h1 : D.2.2.2.2.2 ≤ i
      · rw [if_pos (nI_le h1 (by omega)), m_next hn hsz1 hw1 hk hC (fun p hp => (hd.2.2.2 p hp).1) (fun p k hp h => by have := ((ho.2.2.2.2 p hp).1 k h).1; omega) hi, if_pos ⟨h1, rfl⟩]
        rfl
      · rw [if_neg (nI_ge (by omega) (by omega)), if_neg (fun e => h1 e.1)]
        rfl
    cases hx : dNx n K C i D with
    | none =>
      have hSt : dSt n K T C i D = D := by unfold dSt; rw [hx]
      refine ⟨(v, nI D.2.2.2.2.2, nI (i + 1)), ⟨i + 1, hi, rfl, by rw [hN, hSt], by rw [hN, hSt]; exact hd, hc⟩, mu v 0, fun k => ?_⟩
      show f_X7_layDay_b49 v (nI D.2.2.2.2.2) (nI i) k = _
      rw [e9, hx, en_none]
      unfold f_X7_layDay_b77 f_X7_layDay_b103
      rw [q_m1, if_pos rfl, if_pos rfl, ← nI_1]
    | some p =>
      obtain ⟨g1, g2, g3, g4, g5, g6⟩ := dNx_spec hx
      have hp5 : p < 5 := by omega
      have hw3 := sWr_le K p
      have hl := ho.2.1
      by_cases hlw : D.2.2.1 < sWr K p
      · have hSt : dSt n K T C i D = dTw i D := by unfold dSt; rw [hx]; exact if_pos hlw
        refine ⟨(oF v 14 (nI i), nI D.2.2.2.2.2, nI (i + 1)), ⟨i + 1, hi, rfl, by rw [hN, hSt]; rfl, by rw [hN, hSt]; exact ⟨hd.1, rfl, hd.2.2.1, hd.2.2.2⟩, hc.F (by decide)⟩, mu v 0, fun k => ?_⟩
        show f_X7_layDay_b49 v (nI D.2.2.2.2.2) (nI i) k = _
        rw [e9, hx, en_some]
        unfold f_X7_layDay_b77
        rw [q_m1, if_neg (q_no (by omega)), m_wears (K := K) hp5 (hw1 p g4).1 (hk p g4).1]
        simp only [Option.bind, hlet]
        rw [hd.1, if_neg (nI_ge hlw (by omega)), ← nI_1]
      · have hSt : dSt n K T C i D = dRc K T i p D := by unfold dSt; rw [hx]; exact if_neg hlw
        have hsub : nI D.2.2.1 - nI (sWr K p) = nI (D.2.2.1 - sWr K p) := pk_sub (by omega)
        obtain ⟨v', r1, r2, r3, r4⟩ := m_tellSaying (v := oF (oA v 11 p (nI i)) 13 (nI (D.2.2.1 - sWr K p))) (s := D.2.2.2.1) hn hw1 hk g4 ho.1 hd.2.2.1
        refine ⟨(v', nI (i + sSt K p), nI (i + 1)), ⟨i + 1, hi, rfl, by rw [hN, hSt]; rfl, ?_, (((hc.A (by decide)).F (by decide)).tr (r4.mono (by decide) (by decide)))⟩, mu v 0, fun k => ?_⟩
        · rw [hN, hSt]
          refine ⟨r4.1 13 (by decide), (r4.1 14 (by decide)).trans hd.2.1, r2, fun j hj => ⟨?_, ?_⟩⟩
          · show v'.2 11 j = en (if j = p then some i else D.1 j)
            rw [r4.2 11 (by decide)]
            show upd (v.2 11) p (nI i) j = _
            rw [q_upd]
            split
            · rfl
            · exact (hd.2.2.2 j hj).1
          · show v'.2 12 j = en (if j = p then sSy (T p) D.2.2.2.1 else D.2.1 j)
            rw [r3]
            show upd (v.2 12) p _ j = _
            rw [q_upd]
            split
            · rfl
            · exact (hd.2.2.2 j hj).2
        · show f_X7_layDay_b49 v (nI D.2.2.2.2.2) (nI i) k = _
          rw [e9, hx, en_some]
          unfold f_X7_layDay_b77 f_X7_layDay_b103
          rw [q_m1, if_neg (q_no (by omega)), m_wears (K := K) hp5 (hw1 p g4).1 (hk p g4).1]
          simp only [Option.bind, hlet]
          rw [hd.1, if_pos (nI_le (by omega) (by omega)), if_neg (q_no (by omega)), if_neg (nI_in hp5 (by decide)), nI_clamp (by omega)]
          rw [m_wears (v := oA v 11 p (nI i)) (K := K) hp5 (hw1 p g4).1 (hk p g4).1]
          simp only [q_oA1]
          rw [hd.1, hsub, m_stays (v := oF (oA v 11 p (nI i)) 13 (nI (D.2.2.1 - sWr K p))) (K := K) hp5 (hw1 p g4).1 (hk p g4).1]
          simp only []
          rw [r1]
          simp only []
          rw [nI_add, nI_1]
theorem m_layDay {v : obV} {n : Nat} {K T C : Nat → Nat} {P : Nat} {ch : Int32} (hc : cvM v n K T C P ch) (ho : okC n K T C P) : ∃ v', f_X7_layDay v = some v' ∧ dyM v' n (dRn n K T C P 20) ∧ chM [13, 14, 15] [11, 12] v v' := by
  have hn := ho.1
  show ∃ v', f_X7_layDay_l2 fu (v, 0) = some v' ∧ dyM v' n (dRn n K T C P 20) ∧ chM [13, 14, 15] [11, 12] v v'
  refine lp_up (σ := obV) (fun i s => (s, nI i)) 5 (fun i s => chM [13, 14, 15] [11, 12] v s ∧ ∀ p, p < i → s.2 11 p = NO ∧ s.2 12 p = NO) (fun z => ∃ v', z = some v' ∧ dyM v' n (dRn n K T C P 20) ∧ chM [13, 14, 15] [11, 12] v v') ?_ ?_ fu 0 v ⟨chM.rf, fun p h => absurd h (Nat.not_lt_zero _)⟩ (Nat.zero_le _) (q_fu (by decide))
  · rintro i s hi ⟨h1, ha⟩
    refine ⟨oA (oA s 11 i (-1)) 12 i (-1), ⟨(h1.A (by decide)).A (by decide), fun p hp => ?_⟩, fun k => ?_⟩
    · show upd (s.2 11) i (-1) p = NO ∧ upd (s.2 12) i (-1) p = NO
      rw [q_upd, q_upd]
      by_cases e : p = i
      · rw [if_pos e, if_pos e]; exact ⟨rfl, rfl⟩
      · rw [if_neg e, if_neg e]; exact ha p (by omega)
    · show f_X7_layDay_b2 s (nI i) k = _
      unfold f_X7_layDay_b2
      simp only [hlet]
      rw [if_neg (show ¬ (5 : Int32) ≤ nI i from nI_ge hi (by decide)), if_neg (nI_in hi (by decide)), if_neg (nI_in hi (by decide)), nI_clamp (by omega), ← nI_1]
  · rintro s ⟨h1, ha⟩
    have hch : chM [13, 14, 15] [11, 12] v (oF (oF (oF s 13 (s.1 7)) 14 (-1)) 15 0) := ((h1.F (by decide)).F (by decide)).F (by decide)
    obtain ⟨v', r1, r2, r3⟩ := m_lay49 (v0' := oF (oF (oF s 13 (s.1 7)) 14 (-1)) 15 0) (P := P) hn ((hch.1 6 (by decide)).trans hc.1) (by unfold rwM; rw [hch.2 10 (by decide)]; exact hc.2.2.2) ho.k ho.c ho.2.1 ⟨(h1.1 7 (by decide)).trans hc.2.1, rfl, rfl, fun p hp => ha p (by omega)⟩
    refine ⟨_, ⟨v', rfl, r2, hch.tr r3⟩, fun k => ?_⟩
    show f_X7_layDay_b2 s (nI 5) k = _
    unfold f_X7_layDay_b2
    simp only [hlet]
    rw [if_pos (by decide)]
    exact r1
