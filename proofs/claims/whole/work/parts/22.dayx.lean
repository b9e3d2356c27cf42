/-! the day of the class -/
abbrev DS : Type := (Nat → Option Nat) × (Nat → Option Nat) × Nat × Nat × Option Nat × Nat
def dRc (K T : Nat → Nat) (slot p : Nat) (D : DS) : DS := (fun j => if j = p then some slot else D.1 j, fun j => if j = p then sSy (T p) D.2.2.2.1 else D.2.1 j, D.2.2.1 - sWr K p, sBt D.2.2.2.1 (sSy (T p) D.2.2.2.1), D.2.2.2.2.1, slot + sSt K p)
def dTw (slot : Nat) (D : DS) : DS := (D.1, D.2.1, D.2.2.1, D.2.2.2.1, some slot, D.2.2.2.2.2)
def dNx (n : Nat) (K C : Nat → Nat) (slot : Nat) (D : DS) : Option Nat := if D.2.2.2.2.2 ≤ slot ∧ D.2.2.2.2.1 = none then sNx K C D.1 slot n else none
def dSt (n : Nat) (K T C : Nat → Nat) (slot : Nat) (D : DS) : DS := match dNx n K C slot D with
  | none => D
  | some p => if D.2.2.1 < sWr K p then dTw slot D else dRc K T slot p D
def dRn (n : Nat) (K T C : Nat → Nat) (P : Nat) : Nat → DS
  | 0 => (fun _ => none, fun _ => none, P, 0, none, 0)
  | s + 1 => dSt n K T C s (dRn n K T C P s)
def dOK (n s : Nat) (C : Nat → Nat) (D : DS) : Prop := D.2.2.2.1 < 64 ∧ D.2.2.1 ≤ 20 ∧ D.2.2.2.2.2 ≤ s + 1 ∧ (∀ q, D.2.2.2.2.1 = some q → q < s) ∧ ∀ p, p < n → (∀ q, D.1 p = some q → q < s ∧ C p ≤ q) ∧ (∀ y, D.2.1 p = some y → y < 6)
def okK (n : Nat) (K T : Nat → Nat) : Prop := ∀ p, p < n → K p ≤ 4 ∧ T p ≤ 5
theorem sSt_le (K : Nat → Nat) (p : Nat) : 1 ≤ sSt K p ∧ sSt K p ≤ 2 := by unfold sSt; split <;> omega
theorem sWr_le (K : Nat → Nat) (p : Nat) : 1 ≤ sWr K p ∧ sWr K p ≤ 3 := by unfold sWr; split <;> omega
theorem dNx_spec {n : Nat} {K C : Nat → Nat} {slot : Nat} {D : DS} {p : Nat} (h : dNx n K C slot D = some p) : D.2.2.2.2.2 ≤ slot ∧ D.2.2.2.2.1 = none ∧ sNx K C D.1 slot n = some p ∧ p < n ∧ C p ≤ slot ∧ D.1 p = none := by
  unfold dNx at h
  by_cases hc : D.2.2.2.2.2 ≤ slot ∧ D.2.2.2.2.1 = none
  · rw [if_pos hc] at h
    exact ⟨hc.1, hc.2, h, sNx_lt n p h⟩
  · rw [if_neg hc] at h; cases h
theorem dRn_ok {n : Nat} {K T C : Nat → Nat} {P : Nat} (hk : okK n K T) (hP : P ≤ 20) : ∀ s, dOK n s C (dRn n K T C P s) := by
  intro s
  induction s with
  | zero =>
    show dOK n 0 C ((fun _ => none, fun _ => none, P, 0, none, 0) : DS)
    refine ⟨?_, hP, Nat.zero_le _, fun q h => ?_, fun p _ => ⟨fun q h => ?_, fun q h => ?_⟩⟩
    · show 0 < 64; omega
    · cases h
    · cases h
    · cases h
  | succ s ih =>
    obtain ⟨h1, h2, h3, h4, h5⟩ := ih
    show dOK n (s + 1) C (dSt n K T C s (dRn n K T C P s))
    generalize dRn n K T C P s = D at h1 h2 h3 h4 h5 ⊢
    unfold dSt
    cases hn : dNx n K C s D with
    | none =>
      show dOK n (s + 1) C D
      exact ⟨h1, h2, by omega, fun q h => Nat.lt_succ_of_lt (h4 q h), fun p hp => ⟨fun q h => ⟨Nat.lt_succ_of_lt ((h5 p hp).1 q h).1, ((h5 p hp).1 q h).2⟩, (h5 p hp).2⟩⟩
    | some p =>
      obtain ⟨g1, g2, g3, g4, g5, g6⟩ := dNx_spec hn
      show dOK n (s + 1) C (if D.2.2.1 < sWr K p then dTw s D else dRc K T s p D)
      by_cases hw : D.2.2.1 < sWr K p
      · rw [if_pos hw]
        exact ⟨h1, h2, by show D.2.2.2.2.2 ≤ _; omega, fun q h => by cases h; exact Nat.lt_succ_self _, fun p hp => ⟨fun q h => ⟨Nat.lt_succ_of_lt ((h5 p hp).1 q h).1, ((h5 p hp).1 q h).2⟩, (h5 p hp).2⟩⟩
      · rw [if_neg hw]
        have hT : T p < 6 := by have := (hk p g4).2; omega
        refine ⟨sBt_lt hT h1, by show D.2.2.1 - _ ≤ 20; omega, by show s + sSt K p ≤ _; have := (sSt_le K p).2; omega, fun q h => Nat.lt_succ_of_lt (h4 q h), fun j hj => ⟨fun q h => ?_, fun y h => ?_⟩⟩
        · have h : (if j = p then some s else D.1 j) = some q := h
          by_cases e : j = p
          · rw [if_pos e] at h; cases h; rw [e]; exact ⟨Nat.lt_succ_self _, g5⟩
          · rw [if_neg e] at h; exact ⟨Nat.lt_succ_of_lt ((h5 j hj).1 q h).1, ((h5 j hj).1 q h).2⟩
        · have h : (if j = p then sSy (T p) D.2.2.2.1 else D.2.1 j) = some y := h
          by_cases e : j = p
          · rw [if_pos e] at h; exact sSy_lt hT h1 h
          · rw [if_neg e] at h; exact (h5 j hj).2 y h
def dyX (v : obV) (n : Nat) (C : Nat → Nat) (D : DS) : Prop := v.1 4 = nI n ∧ v.1 5 = nI D.2.2.1 ∧ v.1 6 = nI D.2.2.2.1 ∧ v.1 7 = en D.2.2.2.2.1 ∧ ∀ p, p < n → v.2 0 p = nI (C p) ∧ v.2 1 p = en (D.1 p) ∧ v.2 2 p = en (D.2.1 p)
theorem dyX_w {v : obV} {n : Nat} {C : Nat → Nat} {D : DS} {i : Nat} {x : Int32} (h : dyX v n C D) : dyX (oA v 3 i x) n C D := h
def ktX (v : obV) (n : Nat) (K T : Nat → Nat) : Prop := ∀ p, p < n → v.2 0 p = nI (K p) ∧ v.2 1 p = nI (T p)
def okCm (n : Nat) (C : Nat → Nat) : Prop := ∀ p, p < n → C p ≤ 9
/-- how many of the first n -/
def sCt (P : Nat → Bool) : Nat → Nat
  | 0 => 0
  | i + 1 => sCt P i + (if P i = true then 1 else 0)
theorem sCt_s (P : Nat → Bool) (n : Nat) : sCt P (n + 1) = sCt P n + (if P n = true then 1 else 0) := rfl
theorem sCt_le (P : Nat → Bool) : ∀ n, sCt P n ≤ n := by
  intro n
  induction n with
  | zero => exact Nat.le_refl _
  | succ n ih => unfold sCt; split <;> omega
theorem sCt_cong {P Q : Nat → Bool} : ∀ n, (∀ p, p < n → P p = Q p) → sCt P n = sCt Q n := by
  intro n
  induction n with
  | zero => intro _; rfl
  | succ n ih => intro h; unfold sCt; rw [ih (fun p hp => h p (by omega)), h n (by omega)]
def sWt (C : Nat → Nat) (rc : Nat → Option Nat) (slot n : Nat) : Nat := sCt (fun p => decide (C p ≤ slot ∧ rc p = none)) n
theorem x_notRec {v : obV} {n : Nat} {C : Nat → Nat} {D : DS} {slot s : Nat} (hn : n ≤ 5) (hd : dyX v n C D) (hC : okCm n C) (ho : dOK n s C D) (hs : slot < 20) (hs2 : s ≤ 20) : f_X2_notReceivedBy v (nI slot) = some (nI (sWt C D.1 slot n)) := by
  obtain ⟨hsz, -, -, -, ha⟩ := hd
  rw [show f_X2_notReceivedBy v (nI slot) = lp (fun k y => f_X2_notReceivedBy_b4 v (nI slot) y.1 y.2 k) fu (nI (sWt C D.1 slot 0), nI 0) from rfl]
  refine lp_sum (σ := Int32) (fun i s => (s, nI i)) n (fun i => nI (sWt C D.1 slot i)) _ ?_ ?_ fu 0 (Nat.zero_le _) (q_fu (by omega))
  · intro i hi k
    show f_X2_notReceivedBy_b4 v (nI slot) (nI (sWt C D.1 slot i)) (nI i) k = k (nI (sWt C D.1 slot (i + 1)), nI (i + 1))
    have hCi := hC i hi
    have he : sWt C D.1 slot (i + 1) = sWt C D.1 slot i + (if C i ≤ slot ∧ D.1 i = none then 1 else 0) := by
      show sWt C D.1 slot i + _ = _
      simp only [decide_eq_true_eq]
    unfold f_X2_notReceivedBy_b4
    simp (disch := omega) only [if_true, if_false, q_neg1, nI_clamp, nI_ltI, nI_leI, nI_eq, nI_add, pk_mul, q_l0, q_l1, q_l2, q_l3, q_l4, q_l5, q_l6, q_l7, q_l8, q_l9, q_l10, q_l11, q_l12, q_l14, q_l15, q_l16, q_l19, q_l20, q_l24, q_l30, q_l31, q_l44, q_l48, q_l59, q_l98, q_l101, q_l112, q_l115, q_l116, q_l120, q_l126, q_l9999, q_l65536, hsz, (ha i hi).1, (ha i hi).2.1]
    rw [if_neg (by omega), if_neg (by omega), he]
    by_cases h1 : C i ≤ slot
    · rw [if_neg (by omega), if_neg (by omega)]
      cases h2 : D.1 i with
      | none => rw [en_none, if_pos rfl, if_pos ⟨h1, rfl⟩]
      | some q =>
        have := (((ho.2.2.2.2 i hi).1 q h2).1)
        rw [en_some, if_neg (q_no (by omega)), if_neg (fun e => by cases e.2)]; rfl
    · rw [if_pos (by omega), if_neg (fun e => h1 e.1)]; rfl
  · intro k
    show f_X2_notReceivedBy_b4 v (nI slot) (nI (sWt C D.1 slot n)) (nI n) k = _
    unfold f_X2_notReceivedBy_b4
    rw [hsz, if_pos (Int32.le_refl _)]
theorem x_receive {v vc : obV} {n : Nat} {K T C : Nat → Nat} {D : DS} {slot p s : Nat} (hn : n ≤ 5) (hd : dyX v n C D) (hkt : ktX vc n K T) (hk : okK n K T) (ho : dOK n s C D) (hp : p < n) (hw : ¬ D.2.2.1 < sWr K p) : ∃ v', f_X2_receive v vc (nI p) (nI slot) = some v' ∧ dyX v' n C (dRc K T slot p D) ∧ v'.2 3 = v.2 3 := by
  obtain ⟨h4, h5, h6, h7, ha⟩ := hd
  obtain ⟨o1, o2, -, -, -⟩ := ho
  have hT : T p < 6 := by have := (hk p hp).2; omega
  have hp5 : p < 5 := by omega
  have hw3 := sWr_le K p
  have hy : ∀ y, sSy (T p) D.2.2.2.1 = some y → y < 6 := fun y h => sSy_lt hT o1 h
  unfold f_X2_receive
  have hcl : Int32.toNatClampNeg (nI p) = p := nI_clamp (by omega)
  have hg : (nI p < 0 ∨ 5 ≤ p) = False := eq_false (by rw [← hcl]; have := nI_in (N := 5) hp5 (by decide); rwa [hcl] at this ⊢)
  simp only [hlet, hg, hcl, q_m1, x_wears (K := K) hp5 (hkt p hp).1 (hk p hp).1, Option.bind, (hkt p hp).2, q_oA1, q_oF1, Nat.reduceEqDiff, if_false, if_true, h6, t_say (T p) hT D.2.2.2.1 o1]
  have key : ∀ w : obV, w.1 4 = nI n → w.1 5 = nI (D.2.2.1 - sWr K p) → w.1 6 = nI (sBt D.2.2.2.1 (sSy (T p) D.2.2.2.1)) → w.1 7 = en D.2.2.2.2.1 → w.2 0 = v.2 0 → w.2 1 = upd (v.2 1) p (nI slot) → w.2 2 = upd (v.2 2) p (en (sSy (T p) D.2.2.2.1)) → dyX w n C (dRc K T slot p D) := by
    intro w e4 e5 e6 e7 f0 f1 f2
    refine ⟨e4, e5, e6, e7, fun j hj => ?_⟩
    rw [f0, f1, f2, q_upd, q_upd]
    refine ⟨(ha j hj).1, ?_, ?_⟩
    · show _ = en (if j = p then some slot else D.1 j)
      split
      · rfl
      · exact (ha j hj).2.1
    · show _ = en (if j = p then sSy (T p) D.2.2.2.1 else D.2.1 j)
      split
      · rfl
      · exact (ha j hj).2.2
  have hsub : nI D.2.2.1 - nI (sWr K p) = nI (D.2.2.1 - sWr K p) := pk_sub (by omega)
  cases hs : sSy (T p) D.2.2.2.1 with
  | none =>
    simp only [hs] at key
    rw [en_none, if_pos rfl]
    exact ⟨_, rfl, key _ h4 (by show v.1 5 - _ = _; rw [h5]; exact hsub) h6 h7 rfl rfl rfl, rfl⟩
  | some y =>
    simp only [hs] at key
    have hy6 := hy y hs
    rw [en_some, if_neg (q_no (by omega))]
    exact ⟨_, rfl, key _ h4 (by show v.1 5 - _ = _; rw [h5]; exact hsub) (t_or _ o1 y hy6).1 h7 rfl rfl rfl, rfl⟩
theorem x_b90 {v vc : obV} {n : Nat} {C : Nat → Nat} {D : DS} {i s : Nat} {fr : Int32} {k : obV × Int32 × Int32 → Option obV} (hn : n ≤ 5) (hd : dyX v n C D) (hC : okCm n C) (ho : dOK n s C D) (hi : i < 20) (hs : s ≤ 20) : f_X2_passAsComing_b90 v vc fr (nI i) k = k (oA v 3 i (nI (sWt C D.1 i n)), fr, nI (i + 1)) := by
  unfold f_X2_passAsComing_b90
  rw [x_notRec hn hd hC ho hi hs]
  simp only [Option.bind, hlet]
  rw [if_neg (nI_in hi (by decide)), nI_clamp (by omega), ← nI_1]
/-- what the class's day leaves: a day run to its end, and how many wait at each slot -/
def dzX (v : obV) (n : Nat) (K T C : Nat → Nat) (P : Nat) (i : Nat) : Prop := dyX v n C (dRn n K T C P i) ∧ ∀ j, j < i → v.2 3 j = nI (sWt C (dRn n K T C P (j + 1)).1 j n)
theorem x_pass9 {vc v0' : obV} {n : Nat} {K T C : Nat → Nat} {P : Nat} (hn : n ≤ 5) (hkt : ktX vc n K T) (hk : okK n K T) (hC : okCm n C) (hP : P ≤ 20) (h0 : dyX v0' n C (dRn n K T C P 0)) : ∃ v', f_X2_passAsComing_l9 vc fu (v0', 0, 0) = some v' ∧ dzX v' n K T C P 20 := by
  refine lp_up (σ := obV × Int32) (fun i s => (s.1, s.2, nI i)) 20 (fun i s => dzX s.1 n K T C P i ∧ s.2 = nI (dRn n K T C P i).2.2.2.2.2) (fun z => ∃ v', z = some v' ∧ dzX v' n K T C P 20) ?_ ?_ fu 0 (v0', 0) ⟨⟨h0, fun j h => absurd h (Nat.not_lt_zero _)⟩, rfl⟩ (Nat.zero_le _) (q_fu (by decide))
  · rintro i ⟨v, fr⟩ hi ⟨⟨hd, hw⟩, hf⟩
    have hf : fr = nI (dRn n K T C P i).2.2.2.2.2 := hf
    have hd : dyX v n C (dRn n K T C P i) := hd
    have hw : ∀ j, j < i → v.2 3 j = nI (sWt C (dRn n K T C P (j + 1)).1 j n) := hw
    subst hf
    have ho : dOK n i C (dRn n K T C P i) := dRn_ok hk hP i
    have ho1 : dOK n (i + 1) C (dRn n K T C P (i + 1)) := dRn_ok hk hP (i + 1)
    have hfr := ho.2.2.1
    -- the end of a turn, for the day as it is then
    have fin : ∀ (w : obV) (g : Int32), dyX w n C (dRn n K T C P (i + 1)) → w.2 3 = v.2 3 → g = nI (dRn n K T C P (i + 1)).2.2.2.2.2 → ∃ s' : obV × Int32, (dzX s'.1 n K T C P (i + 1) ∧ s'.2 = nI (dRn n K T C P (i + 1)).2.2.2.2.2) ∧ ∀ k : obV × Int32 × Int32 → Option obV, f_X2_passAsComing_b90 w vc g (nI i) k = k (s'.1, s'.2, nI (i + 1)) := by
      intro w g hw1 hw3 hg
      refine ⟨(oA w 3 i (nI (sWt C (dRn n K T C P (i + 1)).1 i n)), g), ⟨⟨dyX_w hw1, fun j hj => ?_⟩, hg⟩, fun k => x_b90 hn hw1 hC ho1 hi (by omega)⟩
      show upd (w.2 3) i _ j = _
      rw [q_upd]
      by_cases e : j = i
      · rw [if_pos e, e]
      · rw [if_neg e, hw3]; exact hw j (by omega)
    have hb38 : ∀ (w : obV) (g : Int32) k, f_X2_passAsComing_b38 w vc g (nI i) (-1) k = f_X2_passAsComing_b90 w vc g (nI i) k := by
      intro w g k
      unfold f_X2_passAsComing_b38 f_X2_passAsComing_b67
      rw [if_pos rfl, if_pos rfl]
    generalize hD : dRn n K T C P i = D at hd hfr ho
    have hN : dRn n K T C P (i + 1) = dSt n K T C i D := by rw [← hD]; rfl
    have htw : ∀ q, D.2.2.2.2.1 = some q → q < i := ho.2.2.2.1
    have e9 : ∀ k, f_X2_passAsComing_b9 v vc (nI D.2.2.2.2.2) (nI i) k = f_X2_passAsComing_b38 v vc (nI D.2.2.2.2.2) (nI i) (en (dNx n K C i D)) k := by
      intro k
      unfold f_X2_passAsComing_b9 dNx
      rw [if_neg (show ¬ (20 : Int32) ≤ nI i from nI_ge hi (by decide))]
      by_cases h1 : D.2.2.2.2.2 ≤ i
      · rw [if_neg (nI_nlt h1 (by omega)), hd.2.2.2.1]
        cases h2 : D.2.2.2.2.1 with
        | none =>
          rw [en_none, q_m1, if_pos rfl, x_first (K := K) (C := C) (rc := D.1) hn hd.1 (fun p hp => ⟨(hkt p hp).1, (hk p hp).1⟩) (fun p hp => ⟨(hd.2.2.2.2 p hp).1, hC p hp⟩) (fun p hp => (hd.2.2.2.2 p hp).2.1) (fun p k hp h => by have := ((ho.2.2.2.2 p hp).1 k h).1; omega) hi, if_pos ⟨h1, rfl⟩]
          rfl
        | some q =>
          have := htw q h2
          rw [en_some, q_m1, if_neg (q_no (by omega)), if_neg (fun e => by cases e.2)]
          rfl
      · rw [if_pos (nI_lt (by omega) (by omega)), if_neg (fun e => h1 e.1)]
        rfl
    cases hx : dNx n K C i D with
    | none =>
      have hSt : dSt n K T C i D = D := by unfold dSt; rw [hx]
      rw [hN, hSt] at fin
      obtain ⟨s', h1, h2⟩ := fin v (nI D.2.2.2.2.2) hd rfl rfl
      refine ⟨s', by rw [hN, hSt]; exact h1, fun k => ?_⟩
      show f_X2_passAsComing_b9 v vc (nI D.2.2.2.2.2) (nI i) k = _
      rw [e9, hx]
      exact (hb38 _ _ _).trans (h2 k)
    | some p =>
      obtain ⟨g1, g2, g3, g4, g5, g6⟩ := dNx_spec hx
      have hp5 : p < 5 := by omega
      have hw3 := sWr_le K p
      have hl := ho.2.1
      by_cases hlw : D.2.2.1 < sWr K p
      · have hSt : dSt n K T C i D = dTw i D := by unfold dSt; rw [hx]; exact if_pos hlw
        rw [hN, hSt] at fin
        obtain ⟨s', h1, h2⟩ := fin (oF v 7 (nI i)) (nI D.2.2.2.2.2) ⟨hd.1, hd.2.1, hd.2.2.1, rfl, hd.2.2.2.2⟩ rfl rfl
        refine ⟨s', by rw [hN, hSt]; exact h1, fun k => ?_⟩
        show f_X2_passAsComing_b9 v vc (nI D.2.2.2.2.2) (nI i) k = _
        rw [e9, hx, en_some]
        unfold f_X2_passAsComing_b38
        rw [q_m1, if_neg (q_no (by omega)), x_wears (K := K) hp5 (hkt p g4).1 (hk p g4).1]
        simp only [Option.bind, hlet]
        rw [hd.2.1, if_neg (nI_ge hlw (by omega))]
        exact h2 k
      · have hSt : dSt n K T C i D = dRc K T i p D := by unfold dSt; rw [hx]; exact if_neg hlw
        rw [hN, hSt] at fin
        obtain ⟨v', r1, r2, r3⟩ := x_receive (slot := i) hn hd hkt hk ho g4 hlw
        obtain ⟨s', h1, h2⟩ := fin v' (nI i + nI (sSt K p)) r2 r3 (nI_add _ _)
        refine ⟨s', by rw [hN, hSt]; exact h1, fun k => ?_⟩
        show f_X2_passAsComing_b9 v vc (nI D.2.2.2.2.2) (nI i) k = _
        rw [e9, hx, en_some]
        unfold f_X2_passAsComing_b38 f_X2_passAsComing_b67
        rw [q_m1, if_neg (q_no (by omega)), x_wears (K := K) hp5 (hkt p g4).1 (hk p g4).1]
        simp only [Option.bind]
        rw [hd.2.1, if_pos (nI_le (by omega) (by omega)), if_neg (q_no (by omega)), r1, x_stays (K := K) hp5 (hkt p g4).1 (hk p g4).1]
        exact h2 k
  · rintro ⟨v, fr⟩ ⟨hd, -⟩
    exact ⟨_, ⟨v, rfl, hd⟩, fun k => by
      show f_X2_passAsComing_b9 v vc fr (nI 20) k = _
      unfold f_X2_passAsComing_b9
      rw [if_pos (by decide)]⟩
def cvX (v : obV) (n : Nat) (K T C : Nat → Nat) (P : Nat) (ch : Int32) : Prop := v.1 4 = nI n ∧ v.1 5 = nI P ∧ v.1 6 = ch ∧ ∀ p, p < n → v.2 0 p = nI (K p) ∧ v.2 1 p = nI (T p) ∧ v.2 2 p = nI (C p)
def okC (n : Nat) (K T C : Nat → Nat) (P : Nat) : Prop := n ≤ 5 ∧ P ≤ 20 ∧ ∀ p, p < n → K p ≤ 4 ∧ T p ≤ 5 ∧ C p ≤ 9
theorem okC.k {n : Nat} {K T C : Nat → Nat} {P : Nat} (h : okC n K T C P) : okK n K T := fun p hp => ⟨(h.2.2 p hp).1, (h.2.2 p hp).2.1⟩
theorem okC.c {n : Nat} {K T C : Nat → Nat} {P : Nat} (h : okC n K T C P) : okCm n C := fun p hp => (h.2.2 p hp).2.2
theorem cvX.kt {v : obV} {n : Nat} {K T C : Nat → Nat} {P : Nat} {ch : Int32} (h : cvX v n K T C P ch) : ktX v n K T := fun p hp => ⟨(h.2.2.2 p hp).1, (h.2.2.2 p hp).2.1⟩
/-- the day's beginning, with comings C of its own -/
theorem x_begin {v vc : obV} {n : Nat} {K T C' C : Nat → Nat} {P : Nat} {ch : Int32} (hn : n ≤ 5) (hc : cvX vc n K T C' P ch) (hC : ∀ p, p < n → v.2 0 p = nI (C p)) : ∃ v', f_X2_begin v vc = some v' ∧ dyX v' n C (dRn n K T C P 0) := by
  have key : ∃ v', f_X2_begin_l28 vc fu (oF (oF (oF (oF v 4 (vc.1 4)) 5 (vc.1 5)) 6 0) 7 (-1), 0) = some v' ∧ dyX v' n C (dRn n K T C P 0) := by
    refine lp_up (σ := obV) (fun i s => (s, nI i)) n (fun i s => s.1 4 = nI n ∧ s.1 5 = nI P ∧ s.1 6 = 0 ∧ s.1 7 = -1 ∧ (∀ p, p < n → s.2 0 p = nI (C p)) ∧ ∀ p, p < i → s.2 1 p = NO ∧ s.2 2 p = NO) (fun z => ∃ v', z = some v' ∧ dyX v' n C (dRn n K T C P 0)) ?_ ?_ fu 0 (oF (oF (oF (oF v 4 (vc.1 4)) 5 (vc.1 5)) 6 0) 7 (-1)) ⟨hc.1, hc.2.1, rfl, rfl, hC, fun p h => absurd h (Nat.not_lt_zero _)⟩ (Nat.zero_le _) (q_fu (by omega))
    · rintro i s hi ⟨h4, h5, h6, h7, hc0, ha⟩
      refine ⟨oA (oA s 1 i (-1)) 2 i (-1), ⟨h4, h5, h6, h7, hc0, fun p hp => ?_⟩, fun k => ?_⟩
      · show upd (s.2 1) i (-1) p = NO ∧ upd (s.2 2) i (-1) p = NO
        rw [q_upd, q_upd]
        by_cases e : p = i
        · rw [if_pos e, if_pos e]; exact ⟨rfl, rfl⟩
        · rw [if_neg e, if_neg e]; exact ha p (by omega)
      · show f_X2_begin_b28 s vc (nI i) k = _
        unfold f_X2_begin_b28
        simp only [hlet]
        rw [h4, if_neg (nI_ge hi (by omega)), if_neg (nI_in (show i < 5 by omega) (by decide)), if_neg (nI_in (show i < 5 by omega) (by decide)), nI_clamp (by omega), ← nI_1]
    · rintro s ⟨h4, h5, h6, h7, hc0, ha⟩
      exact ⟨_, ⟨s, rfl, h4, h5, h6, h7, fun p hp => ⟨hc0 p hp, (ha p hp).1, (ha p hp).2⟩⟩, fun k => by
        show f_X2_begin_b28 s vc (nI n) k = _
        unfold f_X2_begin_b28
        rw [h4, if_pos (Int32.le_refl _)]⟩
  exact key
theorem x_passAs {v vc : obV} {n : Nat} {K T C' C : Nat → Nat} {P : Nat} {ch : Int32} (hc : cvX vc n K T C' P ch) (ho : okC n K T C' P) (hCm : okCm n C) (hC : ∀ p, p < n → v.2 0 p = nI (C p)) : ∃ v', f_X2_passAsComing v vc = some v' ∧ dzX v' n K T C P 20 := by
  obtain ⟨v1, h1, h2⟩ := x_begin ho.1 hc hC
  obtain ⟨v2, h3, h4⟩ := x_pass9 ho.1 hc.kt ho.k hCm ho.2.1 h2
  refine ⟨v2, ?_, h4⟩
  unfold f_X2_passAsComing
  rw [h1]
  exact h3
theorem x_pass {v vc : obV} {n : Nat} {K T C : Nat → Nat} {P : Nat} {ch : Int32} (hc : cvX vc n K T C P ch) (ho : okC n K T C P) : ∃ v', f_X2_pass v vc = some v' ∧ dzX v' n K T C P 20 := by
  obtain ⟨v1, h1, h2⟩ := x_passAs (v := oC v 0 (va_cpy (vc.2 2) (v.2 0) 0 0 5)) hc ho ho.c (fun p hp => by
    show va_cpy (vc.2 2) (v.2 0) 0 0 5 p = _
    have hn := ho.1
    rw [q_cpy (by omega)]
    exact (hc.2.2.2 p hp).2.2)
  refine ⟨v1, ?_, h2⟩
  unfold f_X2_pass f_X2_takeComings
  simp only [hlet, Option.bind, h1]
