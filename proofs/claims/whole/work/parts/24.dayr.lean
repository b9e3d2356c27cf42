/-! what is told of a day, on both sides -/
theorem dRc_keep {n : Nat} {K T C : Nat → Nat} {P p q s : Nat} (h : (dRn n K T C P s).1 p = some q) : ∀ j, (dRn n K T C P (s + j)).1 p = some q := by
  intro j
  induction j with
  | zero => exact h
  | succ j ih =>
    show (dSt n K T C (s + j) (dRn n K T C P (s + j))).1 p = some q
    generalize dRn n K T C P (s + j) = D at ih ⊢
    unfold dSt
    cases hx : dNx n K C (s + j) D with
    | none => exact ih
    | some p0 =>
      have g6 := (dNx_spec hx).2.2.2.2.2
      show (if D.2.2.1 < sWr K p0 then dTw (s + j) D else dRc K T (s + j) p0 D).1 p = some q
      by_cases hw : D.2.2.1 < sWr K p0
      · rw [if_pos hw]; exact ih
      · rw [if_neg hw]
        show (if p = p0 then some (s + j) else D.1 p) = some q
        by_cases e : p = p0
        · rw [e, g6] at ih; cases ih
        · rw [if_neg e]; exact ih
theorem dRc_keep' {n : Nat} {K T C : Nat → Nat} {P p q s t : Nat} (h : (dRn n K T C P s).1 p = some q) (hst : s ≤ t) : (dRn n K T C P t).1 p = some q := by
  have := dRc_keep h (t - s)
  rwa [show s + (t - s) = t by omega] at this
theorem dRc_at {n : Nat} {K T C : Nat → Nat} {P p : Nat} : ∀ t q, (dRn n K T C P t).1 p = some q → ∀ s, s ≤ t → (dRn n K T C P s).1 p = if q < s then some q else none := by
  intro t
  induction t with
  | zero => intro q h; cases h
  | succ t ih =>
    intro q h s hs
    by_cases hc : ∃ q', (dRn n K T C P t).1 p = some q'
    · obtain ⟨q', hq'⟩ := hc
      have e : q' = q := by have := dRc_keep hq' 1; exact Option.some.inj (this.symm.trans h)
      subst e
      by_cases hst : s ≤ t
      · exact ih q' hq' s hst
      · have hs' : s = t + 1 := by omega
        have h2 := ih q' hq' t (Nat.le_refl _)
        rw [hq'] at h2
        have hlt : q' < t := by
          by_cases hl : q' < t
          · exact hl
          · rw [if_neg hl] at h2; cases h2
        rw [hs', h, if_pos (by omega)]
    · have hno : ∀ s, s ≤ t → (dRn n K T C P s).1 p = none := by
        intro s hs
        cases hv : (dRn n K T C P s).1 p with
        | none => rfl
        | some q' => exact absurd ⟨q', dRc_keep' hv hs⟩ hc
      have hq : q = t := by
        have h : (dSt n K T C t (dRn n K T C P t)).1 p = some q := h
        have h0 := hno t (Nat.le_refl _)
        generalize dRn n K T C P t = D at h h0
        unfold dSt at h
        cases hx : dNx n K C t D with
        | none => rw [hx] at h; rw [h0] at h; cases h
        | some p0 =>
          rw [hx] at h
          have h : (if D.2.2.1 < sWr K p0 then dTw t D else dRc K T t p0 D).1 p = some q := h
          by_cases hw : D.2.2.1 < sWr K p0
          · rw [if_pos hw] at h
            have h : D.1 p = some q := h
            rw [h0] at h; cases h
          · rw [if_neg hw] at h
            have h : (if p = p0 then some t else D.1 p) = some q := h
            by_cases e : p = p0
            · rw [if_pos e] at h; cases h; rfl
            · rw [if_neg e, h0] at h; cases h
      by_cases hst : s ≤ t
      · rw [hno s hst, if_neg (by omega)]
      · have hs' : s = t + 1 := by omega
        rw [hs', h, if_pos (by omega)]
/-- does p wait at j, on a day that has passed -/
def wA (C : Nat → Nat) (rc : Nat → Option Nat) (p j : Nat) : Bool := decide (C p ≤ j) && (match rc p with
  | none => true
  | some q => decide (j < q))
def sW (n : Nat) (K T C : Nat → Nat) (P j : Nat) : Nat := sCt (fun p => wA C (dRn n K T C P 20).1 p j) n
theorem sW_le {n : Nat} {K T C : Nat → Nat} {P j : Nat} : sW n K T C P j ≤ n := sCt_le _ _
theorem sW_eq {n : Nat} {K T C : Nat → Nat} {P j : Nat} (hj : j < 20) : sWt C (dRn n K T C P (j + 1)).1 j n = sW n K T C P j := by
  unfold sWt sW
  apply sCt_cong
  intro p hp
  unfold wA
  cases h : (dRn n K T C P 20).1 p with
  | none =>
    have h1 : (dRn n K T C P (j + 1)).1 p = none := by
      cases hv : (dRn n K T C P (j + 1)).1 p with
      | none => rfl
      | some q => rw [dRc_keep' hv (by omega)] at h; cases h
    rw [h1]
    simp
  | some q =>
    rw [dRc_at 20 q h (j + 1) (by omega)]
    by_cases hq : q < j + 1
    · rw [if_pos hq]
      have : ¬ j < q := by omega
      simp [this]
    · rw [if_neg hq]
      have : j < q := by omega
      simp [this]
def sMt (W : Nat → Nat) : Nat → Nat
  | 0 => 0
  | j + 1 => sMt W j + W j * (W j - 1) / 2
theorem t_mt : ∀ w, w < 6 → nI w * (nI w - 1) / 2 = nI (w * (w - 1) / 2) := by decide +kernel
theorem x_meetings {v : obV} {n : Nat} {K T C : Nat → Nat} {P : Nat} (hn : n ≤ 5) (h : dzX v n K T C P 20) : f_X2_meetings v = some (nI (sMt (sW n K T C P) 20)) := by
  rw [show f_X2_meetings v = lp (fun k y => f_X2_meetings_b4 v y.1 y.2 k) fu (nI (sMt (sW n K T C P) 0), nI 0) from rfl]
  refine lp_sum (σ := Int32) (fun i s => (s, nI i)) 20 (fun i => nI (sMt (sW n K T C P) i)) _ ?_ ?_ fu 0 (Nat.zero_le _) (q_fu (by decide))
  · intro i hi k
    show f_X2_meetings_b4 v (nI (sMt (sW n K T C P) i)) (nI i) k = _
    unfold f_X2_meetings_b4
    have hw := sW_le (n := n) (K := K) (T := T) (C := C) (P := P) (j := i)
    rw [if_neg (show ¬ (20 : Int32) ≤ nI i from nI_ge hi (by decide)), if_neg (nI_in hi (by decide)), if_neg (nI_in hi (by decide)), nI_clamp (by omega), h.2 i hi, sW_eq hi, t_mt _ (by omega), nI_add, nI_1]
    rfl
  · intro k
    show f_X2_meetings_b4 v _ (nI 20) k = _
    unfold f_X2_meetings_b4
    rw [if_pos (by decide)]
theorem m_waitsAt {v : obV} {n : Nat} {K T C : Nat → Nat} {P p j : Nat} (hn : n ≤ 5) (hw : rwM v n K T C) (hC : okCm n C) (hd : dyM v n (dRn n K T C P 20)) (ho : dOK n 20 C (dRn n K T C P 20)) (hp : p < n) (hj : j < 20) : f_X7_waitsAt v (nI p) (nI j) = some (nI (if wA C (dRn n K T C P 20).1 p j = true then 1 else 0)) := by
  have hCp := hC p hp
  unfold f_X7_waitsAt wA
  simp (disch := omega) only [if_true, if_false, q_neg1, nI_clamp, nI_ltI, nI_leI, nI_eq, nI_add, pk_mul, q_l0, q_l1, q_l2, q_l3, q_l4, q_l5, q_l6, q_l7, q_l8, q_l9, q_l10, q_l11, q_l12, q_l14, q_l15, q_l16, q_l19, q_l20, q_l24, q_l30, q_l31, q_l44, q_l48, q_l59, q_l98, q_l101, q_l112, q_l115, q_l116, q_l120, q_l126, q_l9999, q_l65536, (hw p hp).2.2, (hd.2.2.2 p hp).1]
  rw [if_neg (by omega)]
  by_cases h1 : C p ≤ j
  · rw [if_neg (by omega), if_neg (by omega)]
    cases h : (dRn n K T C P 20).1 p with
    | none => rw [en_none, if_pos rfl]; simp [h1]
    | some q =>
      have hq := ((ho.2.2.2.2 p hp).1 q h).1
      rw [en_some, if_neg (q_no (by omega)), if_neg (by omega)]
      by_cases hjq : q ≤ j
      · rw [if_pos ((nI_leI (by omega) (by omega)).mpr hjq)]
        have : ¬ j < q := by omega
        simp [this]
      · rw [if_neg (fun e => hjq ((nI_leI (by omega) (by omega)).mp e))]
        have : j < q := by omega
        simp [this, h1]
  · rw [if_pos (by omega)]
    simp [h1]
theorem m_waitingAt {v : obV} {n : Nat} {K T C : Nat → Nat} {P j : Nat} (hn : n ≤ 5) (hsz : v.1 6 = nI n) (hw : rwM v n K T C) (hC : okCm n C) (hd : dyM v n (dRn n K T C P 20)) (ho : dOK n 20 C (dRn n K T C P 20)) (hj : j < 20) : f_X7_waitingAt v (nI j) = some (nI (sW n K T C P j)) := by
  rw [show f_X7_waitingAt v (nI j) = lp (fun k y => f_X7_waitingAt_b4 v (nI j) y.1 y.2 k) fu (nI (sCt (fun p => wA C (dRn n K T C P 20).1 p j) 0), nI 0) from rfl]
  refine lp_sum (σ := Int32) (fun i s => (s, nI i)) n (fun i => nI (sCt (fun p => wA C (dRn n K T C P 20).1 p j) i)) _ ?_ ?_ fu 0 (Nat.zero_le _) (q_fu (by omega))
  · intro i hi k
    show f_X7_waitingAt_b4 v (nI j) (nI (sCt (fun p => wA C (dRn n K T C P 20).1 p j) i)) (nI i) k = k (nI (sCt (fun p => wA C (dRn n K T C P 20).1 p j) (i + 1)), nI (i + 1))
    unfold f_X7_waitingAt_b4 f_X7_waitingAt_b27
    rw [hsz, if_neg (nI_ge hi (by omega)), m_waitsAt hn hw hC hd ho hi hj]
    simp only [Option.bind]
    rw [sCt_s]
    by_cases hb : wA C (dRn n K T C P 20).1 i j = true
    · rw [if_pos hb, if_neg (by decide), q_l1, nI_add, nI_add]
    · rw [if_neg hb, if_pos (by decide), q_l0, q_l1, nI_add, nI_add]
  · intro k
    show f_X7_waitingAt_b4 v (nI j) _ (nI n) k = _
    unfold f_X7_waitingAt_b4
    rw [hsz, if_pos (Int32.le_refl _)]
    rfl
theorem m_meetings {v : obV} {n : Nat} {K T C : Nat → Nat} {P : Nat} (hn : n ≤ 5) (hsz : v.1 6 = nI n) (hw : rwM v n K T C) (hC : okCm n C) (hd : dyM v n (dRn n K T C P 20)) (ho : dOK n 20 C (dRn n K T C P 20)) : f_X7_meetings v = some (nI (sMt (sW n K T C P) 20)) := by
  rw [show f_X7_meetings v = lp (fun k y => f_X7_meetings_b4 v y.1 y.2 k) fu (nI (sMt (sW n K T C P) 0), nI 0) from rfl]
  refine lp_sum (σ := Int32) (fun i s => (s, nI i)) 20 (fun i => nI (sMt (sW n K T C P) i)) _ ?_ ?_ fu 0 (Nat.zero_le _) (q_fu (by decide))
  · intro i hi k
    show f_X7_meetings_b4 v (nI (sMt (sW n K T C P) i)) (nI i) k = _
    unfold f_X7_meetings_b4
    have hwl := sW_le (n := n) (K := K) (T := T) (C := C) (P := P) (j := i)
    rw [if_neg (show ¬ (20 : Int32) ≤ nI i from nI_ge hi (by decide)), m_waitingAt hn hsz hw hC hd ho hi]
    simp only [Option.bind]
    rw [t_mt _ (by omega), nI_add, nI_1]
    rfl
  · intro k
    show f_X7_meetings_b4 v _ (nI 20) k = _
    unfold f_X7_meetings_b4
    rw [if_pos (by decide)]
theorem sCt_not (P : Nat → Bool) : ∀ n, sCt P n + sCt (fun p => !P p) n = n := by
  intro n
  induction n with
  | zero => rfl
  | succ n ih =>
    rw [sCt_s, sCt_s]
    cases h : P n <;> simp <;> omega
theorem sCt_one {P : Nat → Bool} {p : Nat} {b : Bool} (hp : P p = false) : ∀ n, sCt (fun j => if j = p then b else P j) n = sCt P n + (if p < n then (if b = true then 1 else 0) else 0) := by
  intro n
  induction n with
  | zero => rfl
  | succ n ih =>
    rw [sCt_s, sCt_s, ih]
    by_cases e : n = p
    · subst e
      simp [hp]
    · rw [if_neg e]
      by_cases h : p < n
      · rw [if_pos h, if_pos (show p < n + 1 by omega)]; omega
      · rw [if_neg h, if_neg (show ¬ p < n + 1 by omega)]; omega
/-- how many were helped -/
def sHp (n : Nat) (K T C : Nat → Nat) (P s : Nat) : Nat := sCt (fun p => ((dRn n K T C P s).2.1 p).isSome) n
theorem sHp_eq {n : Nat} {K T C : Nat → Nat} {P : Nat} (hk : okK n K T) (hP : P ≤ 20) : ∀ s, pc6 (dRn n K T C P s).2.2.2.1 = sHp n K T C P s ∧ ∀ p, (dRn n K T C P s).1 p = none → (dRn n K T C P s).2.1 p = none := by
  intro s
  induction s with
  | zero =>
    refine ⟨?_, fun p _ => rfl⟩
    have h0 : ∀ m, sCt (fun _ => false) m = 0 := by
      intro m
      induction m with
      | zero => rfl
      | succ m ih => rw [sCt_s, ih]; rfl
    show pc6 0 = sCt (fun p => ((none : Option Nat)).isSome) n
    exact (h0 n).symm
  | succ s ih =>
    have ho : dOK n s C (dRn n K T C P s) := dRn_ok hk hP s
    unfold sHp at ih ⊢
    show pc6 (dSt n K T C s (dRn n K T C P s)).2.2.2.1 = sCt (fun p => ((dSt n K T C s (dRn n K T C P s)).2.1 p).isSome) n ∧ ∀ p, (dSt n K T C s (dRn n K T C P s)).1 p = none → (dSt n K T C s (dRn n K T C P s)).2.1 p = none
    generalize dRn n K T C P s = D at ih ho ⊢
    unfold dSt
    cases hx : dNx n K C s D with
    | none => exact ih
    | some p =>
      obtain ⟨g1, g2, g3, g4, g5, g6⟩ := dNx_spec hx
      have hT : T p < 6 := by have := (hk p g4).2; omega
      show pc6 (if D.2.2.1 < sWr K p then dTw s D else dRc K T s p D).2.2.2.1 = sCt (fun j => ((if D.2.2.1 < sWr K p then dTw s D else dRc K T s p D).2.1 j).isSome) n ∧ ∀ j, (if D.2.2.1 < sWr K p then dTw s D else dRc K T s p D).1 j = none → (if D.2.2.1 < sWr K p then dTw s D else dRc K T s p D).2.1 j = none
      by_cases hw : D.2.2.1 < sWr K p
      · rw [if_pos hw]; exact ih
      · rw [if_neg hw]
        refine ⟨?_, fun j hj => ?_⟩
        · show pc6 (sBt D.2.2.2.1 (sSy (T p) D.2.2.2.1)) = sCt (fun j => (if j = p then sSy (T p) D.2.2.2.1 else D.2.1 j).isSome) n
          have hfun : (fun j => (if j = p then sSy (T p) D.2.2.2.1 else D.2.1 j).isSome) = (fun j => if j = p then (sSy (T p) D.2.2.2.1).isSome else (D.2.1 j).isSome) := by
            funext j; split <;> rfl
          rw [hfun, sCt_one (by rw [ih.2 p g6]; rfl) n, if_pos g4, ← ih.1]
          cases hy : sSy (T p) D.2.2.2.1 with
          | none => rfl
          | some y => exact (t_sy (T p) hT D.2.2.2.1 ho.1 y (sSy_lt hT ho.1 hy) hy).2
        · have hj : (if j = p then some s else D.1 j) = none := hj
          show (if j = p then sSy (T p) D.2.2.2.1 else D.2.1 j) = none
          by_cases e : j = p
          · rw [if_pos e] at hj; cases hj
          · rw [if_neg e] at hj ⊢; exact ih.2 j hj
theorem x_helped {v : obV} {n : Nat} {K T C : Nat → Nat} {P : Nat} (hk : okK n K T) (hP : P ≤ 20) (h : dzX v n K T C P 20) : f_X2_helped v = some (nI (sHp n K T C P 20)) := by
  unfold f_X2_helped
  rw [h.1.2.2.1, t_bc _ (dRn_ok (C := C) hk hP 20).1, (sHp_eq hk hP 20).1]
  rfl
theorem m_helped {v : obV} {n : Nat} {K T C : Nat → Nat} {P : Nat} (hn : n ≤ 5) (hsz : v.1 6 = nI n) (hd : dyM v n (dRn n K T C P 20)) (ho : dOK n 20 C (dRn n K T C P 20)) : f_X7_helpedMany v = some (nI (sHp n K T C P 20)) := by
  rw [show f_X7_helpedMany v = lp (fun k y => f_X7_helpedMany_b4 v y.1 y.2 k) fu (nI (sCt (fun p => ((dRn n K T C P 20).2.1 p).isSome) 0), nI 0) from rfl]
  refine lp_sum (σ := Int32) (fun i s => (s, nI i)) n (fun i => nI (sCt (fun p => ((dRn n K T C P 20).2.1 p).isSome) i)) _ ?_ ?_ fu 0 (Nat.zero_le _) (q_fu (by omega))
  · intro i hi k
    show f_X7_helpedMany_b4 v (nI (sCt (fun p => ((dRn n K T C P 20).2.1 p).isSome) i)) (nI i) k = k (nI (sCt (fun p => ((dRn n K T C P 20).2.1 p).isSome) (i + 1)), nI (i + 1))
    unfold f_X7_helpedMany_b4 f_X7_helpedMany_b28
    rw [hsz, if_neg (nI_ge hi (by omega)), if_neg (nI_in (show i < 5 by omega) (by decide)), nI_clamp (by omega), (hd.2.2.2 i hi).2]
    rw [sCt_s]
    cases h : (dRn n K T C P 20).2.1 i with
    | none => rw [en_none, q_m1, if_pos rfl, q_l0, q_l1, nI_add, nI_add]; rfl
    | some y =>
      have := (ho.2.2.2.2 i hi).2 y h
      rw [en_some, q_m1, if_neg (q_no (by omega)), q_l1, nI_add, nI_add]; rfl
  · intro k
    show f_X7_helpedMany_b4 v _ (nI n) k = _
    unfold f_X7_helpedMany_b4
    rw [hsz, if_pos (Int32.le_refl _)]
    rfl
def sRv (n : Nat) (K T C : Nat → Nat) (P : Nat) : Nat := sCt (fun p => ((dRn n K T C P 20).1 p).isSome) n
theorem x_received {v : obV} {n : Nat} {K T C : Nat → Nat} {P : Nat} (hn : n ≤ 5) (hk : okK n K T) (hC : okCm n C) (hP : P ≤ 20) (h : dzX v n K T C P 20) : f_X2_received v = some (nI (sRv n K T C P)) := by
  unfold f_X2_received
  rw [show (19 : Int32) = nI 19 from rfl, x_notRec hn h.1 hC (dRn_ok hk hP 20) (by decide) (Nat.le_refl _), h.1.1]
  simp only [Option.bind]
  have e : sWt C (dRn n K T C P 20).1 19 n = sCt (fun p => !((dRn n K T C P 20).1 p).isSome) n := by
    apply sCt_cong
    intro p hp
    have := hC p hp
    cases (dRn n K T C P 20).1 p <;> simp <;> omega
  have h2 := sCt_not (fun p => ((dRn n K T C P 20).1 p).isSome) n
  rw [e, pk_sub (by omega)]
  congr 2
  unfold sRv
  omega
theorem m_received {v : obV} {n : Nat} {K T C : Nat → Nat} {P : Nat} (hn : n ≤ 5) (hsz : v.1 6 = nI n) (hd : dyM v n (dRn n K T C P 20)) (ho : dOK n 20 C (dRn n K T C P 20)) : f_X7_receivedMany v = some (nI (sRv n K T C P)) := by
  rw [show f_X7_receivedMany v = lp (fun k y => f_X7_receivedMany_b4 v y.1 y.2 k) fu (nI (sCt (fun p => ((dRn n K T C P 20).1 p).isSome) 0), nI 0) from rfl]
  refine lp_sum (σ := Int32) (fun i s => (s, nI i)) n (fun i => nI (sCt (fun p => ((dRn n K T C P 20).1 p).isSome) i)) _ ?_ ?_ fu 0 (Nat.zero_le _) (q_fu (by omega))
  · intro i hi k
    show f_X7_receivedMany_b4 v (nI (sCt (fun p => ((dRn n K T C P 20).1 p).isSome) i)) (nI i) k = k (nI (sCt (fun p => ((dRn n K T C P 20).1 p).isSome) (i + 1)), nI (i + 1))
    unfold f_X7_receivedMany_b4 f_X7_receivedMany_b28
    rw [hsz, if_neg (nI_ge hi (by omega)), if_neg (nI_in (show i < 5 by omega) (by decide)), nI_clamp (by omega), (hd.2.2.2 i hi).1]
    rw [sCt_s]
    cases h : (dRn n K T C P 20).1 i with
    | none => rw [en_none, q_m1, if_pos rfl, q_l0, q_l1, nI_add, nI_add]; rfl
    | some y =>
      have := ((ho.2.2.2.2 i hi).1 y h).1
      rw [en_some, q_m1, if_neg (q_no (by omega)), q_l1, nI_add, nI_add]; rfl
  · intro k
    show f_X7_receivedMany_b4 v _ (nI n) k = _
    unfold f_X7_receivedMany_b4
    rw [hsz, if_pos (Int32.le_refl _)]
    rfl
/-- at how many slots p waits -/
def sWs (n : Nat) (K T C : Nat → Nat) (P p : Nat) : Nat := (match (dRn n K T C P 20).1 p with
  | none => 20
  | some q => q) - C p
theorem sCt_bet {a b : Nat} (hab : a ≤ b) : ∀ m, sCt (fun j => decide (a ≤ j) && decide (j < b)) m = min b m - a := by
  intro m
  induction m with
  | zero => simp [sCt]
  | succ m ih =>
    rw [sCt_s, ih]
    by_cases h1 : a ≤ m <;> by_cases h2 : m < b <;> simp [h1, h2] <;> omega
theorem sWs_eq {n : Nat} {K T C : Nat → Nat} {P p : Nat} (hp : p < n) (hC : okCm n C) (ho : dOK n 20 C (dRn n K T C P 20)) : sCt (fun j => wA C (dRn n K T C P 20).1 p j) 20 = sWs n K T C P p := by
  have hCp := hC p hp
  unfold sWs
  cases h : (dRn n K T C P 20).1 p with
  | none =>
    have e : sCt (fun j => wA C (dRn n K T C P 20).1 p j) 20 = sCt (fun j => decide (C p ≤ j) && decide (j < 20)) 20 := by
      apply sCt_cong
      intro j hj
      unfold wA
      rw [h]
      simp [hj]
    rw [e, sCt_bet (by omega)]
    rfl
  | some q =>
    have hq := (ho.2.2.2.2 p hp).1 q h
    have e : sCt (fun j => wA C (dRn n K T C P 20).1 p j) 20 = sCt (fun j => decide (C p ≤ j) && decide (j < q)) 20 := by
      apply sCt_cong
      intro j hj
      unfold wA
      rw [h]
    rw [e, sCt_bet hq.2]
    show min q 20 - C p = q - C p
    omega
theorem x_slotsWaited {v : obV} {n : Nat} {K T C : Nat → Nat} {P p : Nat} (hn : n ≤ 5) (hk : okK n K T) (hC : okCm n C) (hP : P ≤ 20) (h : dzX v n K T C P 20) (hp : p < n) : f_X2_slotsWaited v (nI p) = some (nI (sWs n K T C P p)) := by
  have hg : ¬ (nI p < 0 ∨ 5 ≤ Int32.toNatClampNeg (nI p)) := nI_in (by omega) (by decide)
  have ho : dOK n 20 C (dRn n K T C P 20) := dRn_ok hk hP 20
  have hCp := hC p hp
  unfold f_X2_slotsWaited f_X2_slotsWaited_b21 sWs
  rw [if_neg hg, if_neg hg, if_neg hg, if_neg hg, nI_clamp (by omega), (h.1.2.2.2.2 p hp).2.1, (h.1.2.2.2.2 p hp).1]
  cases hr : (dRn n K T C P 20).1 p with
  | none => rw [en_none, q_m1, if_pos rfl, q_l20, pk_sub (by omega)]
  | some q =>
    have hq := (ho.2.2.2.2 p hp).1 q hr
    rw [en_some, q_m1, if_neg (q_no (by omega)), pk_sub hq.2]
theorem m_waitsOf {v : obV} {n : Nat} {K T C : Nat → Nat} {P p : Nat} (hn : n ≤ 5) (hw : rwM v n K T C) (hC : okCm n C) (hd : dyM v n (dRn n K T C P 20)) (ho : dOK n 20 C (dRn n K T C P 20)) (hp : p < n) : f_X7_waitsOf v (nI p) = some (nI (sWs n K T C P p)) := by
  rw [show f_X7_waitsOf v (nI p) = lp (fun k y => f_X7_waitsOf_b4 v (nI p) y.1 y.2 k) fu (nI (sCt (fun j => wA C (dRn n K T C P 20).1 p j) 0), nI 0) from rfl]
  refine lp_sum (σ := Int32) (fun i s => (s, nI i)) 20 (fun i => nI (sCt (fun j => wA C (dRn n K T C P 20).1 p j) i)) _ ?_ ?_ fu 0 (Nat.zero_le _) (q_fu (by decide))
  · intro i hi k
    show f_X7_waitsOf_b4 v (nI p) (nI (sCt (fun j => wA C (dRn n K T C P 20).1 p j) i)) (nI i) k = k (nI (sCt (fun j => wA C (dRn n K T C P 20).1 p j) (i + 1)), nI (i + 1))
    unfold f_X7_waitsOf_b4 f_X7_waitsOf_b25
    rw [if_neg (show ¬ (20 : Int32) ≤ nI i from nI_ge hi (by decide)), m_waitsAt hn hw hC hd ho hp hi]
    simp only [Option.bind]
    rw [sCt_s]
    by_cases hb : wA C (dRn n K T C P 20).1 p i = true
    · rw [if_pos hb, if_neg (by decide), q_l1, nI_add, nI_add]
    · rw [if_neg hb, if_pos (by decide), q_l0, q_l1, nI_add, nI_add]
  · intro k
    show f_X7_waitsOf_b4 v (nI p) _ (nI 20) k = _
    unfold f_X7_waitsOf_b4
    rw [if_pos (by decide), sWs_eq hp hC ho]
