/-! WHEN and LOOK of the class -/
theorem fa_or (a b : Nat) : nI a ||| nI b = nI (a ||| b) := by
  apply Int32.toBitVec_inj.1
  show BitVec.ofNat 32 a ||| BitVec.ofNat 32 b = BitVec.ofNat 32 (a ||| b)
  apply BitVec.eq_of_getLsbD_eq
  intro i hi
  simp [hi]
theorem fa_and (a b : Nat) : nI a &&& nI b = nI (a &&& b) := by
  apply Int32.toBitVec_inj.1
  show BitVec.ofNat 32 a &&& BitVec.ofNat 32 b = BitVec.ofNat 32 (a &&& b)
  apply BitVec.eq_of_getLsbD_eq
  intro i hi
  simp [hi]
theorem t_sh : ∀ c, c < 16 → (1 : Int32) <<< (nI c &&& 31) = nI (2 ^ c) := by decide
theorem q_and2 {b c : Nat} : b &&& 2 ^ c = 0 ↔ b.testBit c = false := by
  constructor
  · intro h
    have h1 : (b &&& 2 ^ c).testBit c = false := by rw [h]; simp
    rw [Nat.testBit_and] at h1
    simpa using h1
  · intro h
    apply Nat.eq_of_testBit_eq
    intro i
    rw [Nat.testBit_and]
    by_cases hi : c = i
    · subst hi; simp [h]
    · simp [Nat.testBit_two_pow_of_ne hi]
theorem q_bit {b c : Nat} (hb : b < 2 ^ 30) (hc : c < 16) : (nI b &&& ((1 : Int32) <<< (nI c &&& 31))) = 0 ↔ b.testBit c = false := by
  rw [t_sh c hc, fa_and, q_l0, nI_eq (Nat.lt_of_le_of_lt Nat.and_le_left (by omega)) (by decide)]
  exact q_and2
def sAl (Pd : Nat → Bool) : Nat → Bool
  | 0 => true
  | i + 1 => sAl Pd i && Pd i
def sBi (Pd : Nat → Bool) : Nat → Nat
  | 0 => 0
  | i + 1 => if Pd i = true then sBi Pd i ||| 2 ^ i else sBi Pd i
theorem sBi_lt (Pd : Nat → Bool) : ∀ i, sBi Pd i < 2 ^ i := by
  intro i
  induction i with
  | zero => exact Nat.one_pos
  | succ i ih =>
    have h1 : sBi Pd i < 2 ^ (i + 1) := Nat.lt_of_lt_of_le ih (Nat.pow_le_pow_right (by decide) (Nat.le_succ _))
    show (if Pd i = true then sBi Pd i ||| 2 ^ i else sBi Pd i) < 2 ^ (i + 1)
    split
    · exact Nat.or_lt_two_pow h1 (Nat.pow_lt_pow_right (by decide) (Nat.lt_succ_self _))
    · exact h1
theorem sBi_tb (Pd : Nat → Bool) : ∀ i c, c < i → (sBi Pd i).testBit c = Pd c := by
  intro i
  induction i with
  | zero => intro c h; exact absurd h (Nat.not_lt_zero _)
  | succ i ih =>
    intro c hc
    show (if Pd i = true then sBi Pd i ||| 2 ^ i else sBi Pd i).testBit c = Pd c
    have h0 : (sBi Pd i).testBit i = false := Nat.testBit_lt_two_pow (sBi_lt Pd i)
    by_cases e : c = i
    · subst e
      cases h : Pd c
      · simp [h0]
      · simp [Nat.testBit_or, h0]
    · have hci : c < i := by omega
      cases h : Pd i
      · simp [ih c hci]
      · simp [Nat.testBit_or, ih c hci, Nat.testBit_two_pow_of_ne (Ne.symm e)]
theorem sAl_mono {Pd : Nat → Bool} : ∀ {i}, sAl Pd i = true → ∀ j, j < i → Pd j = true := by
  intro i
  induction i with
  | zero => intro _ j h; exact absurd h (Nat.not_lt_zero _)
  | succ i ih =>
    intro h j hj
    have h : (sAl Pd i && Pd i) = true := h
    rw [Bool.and_eq_true] at h
    by_cases e : j = i
    · rw [e]; exact h.2
    · exact ih h.1 j (by omega)
def snX (v : obV) (k : Nat) (sl sm : Nat → Nat) : Prop := v.1 2 = nI k ∧ ∀ j, j < k → v.2 0 j = nI (sl j) ∧ v.2 1 j = nI (sm j)
def okS (k : Nat) (sl sm : Nat → Nat) : Prop := k ≤ 8 ∧ ∀ j, j < k → sl j ≤ 19 ∧ sm j ≤ 5
theorem x_agree {vs : obV} {f : Nat → Int32} {k : Nat} {sl sm W : Nat → Nat} (hs : snX vs k sl sm) (ho : okS k sl sm) (hf : ∀ j, j < 20 → f j = nI (W j) ∧ W j ≤ 5) : f_X4_agreeWith 20 vs f = some (nI (if sAl (fun i => decide (W (sl i) = sm i)) k = true then 1 else 0)) := by
  have hk := ho.1
  show (fun z => z = some (nI (if sAl (fun i => decide (W (sl i) = sm i)) k = true then 1 else 0))) (f_X4_agreeWith_l2 20 vs f fu (nI 0))
  refine lp_any (fun y : Int32 => ∃ i, i ≤ k ∧ y = nI i ∧ sAl (fun i => decide (W (sl i) = sm i)) i = true) (fun y => 8 - y.toNatClampNeg) (fun z => z = some (nI (if sAl (fun i => decide (W (sl i) = sm i)) k = true then 1 else 0))) ?_ fu (nI 0) ⟨0, Nat.zero_le _, rfl, rfl⟩ (Nat.lt_of_le_of_lt (Nat.sub_le _ _) (q_fu (by decide)))
  rintro y ⟨i, hi, rfl, ha⟩
  by_cases e : i = k
  · right
    rw [e] at ha ⊢
    refine ⟨_, rfl, fun kk => ?_⟩
    show f_X4_agreeWith_b2 20 vs f (nI k) kk = _
    unfold f_X4_agreeWith_b2
    rw [hs.1, if_pos (Int32.le_refl _), if_pos ha]
    rfl
  · have hi : i < k := by omega
    have h1 := hs.2 i hi
    have h2 := ho.2 i hi
    have h3 := hf (sl i) (by omega)
    have body : ∀ kk, f_X4_agreeWith_b2 20 vs f (nI i) kk = if W (sl i) = sm i then kk (nI (i + 1)) else some 0 := by
      intro kk
      unfold f_X4_agreeWith_b2
      rw [hs.1, if_neg (nI_ge hi (by omega)), if_neg (nI_in (show i < 8 by omega) (by decide)), nI_clamp (by omega), h1.1, if_neg (nI_in (show sl i < 20 by omega) (by decide)), nI_clamp (by omega), h3.1, h1.2, if_neg (by rw [q_gF (show i < 8 by omega) (by omega)]; exact id), nI_1]
      by_cases hw : W (sl i) = sm i
      · rw [if_pos hw, if_pos (by rw [hw])]
      · rw [if_neg hw, if_neg (fun q => hw ((nI_eq (by omega) (by omega)).mp q))]
    by_cases hw : W (sl i) = sm i
    · left
      refine ⟨nI (i + 1), ⟨i + 1, hi, rfl, ?_⟩, by rw [nI_clamp (by omega), nI_clamp (by omega)]; omega, fun kk => ?_⟩
      · show (sAl _ i && decide _) = true
        rw [ha]; simp [hw]
      · show f_X4_agreeWith_b2 20 vs f (nI i) kk = _
        rw [body, if_pos hw]
    · right
      refine ⟨some 0, ?_, fun kk => ?_⟩
      · show some 0 = _
        rw [if_neg (fun q => hw (by have := sAl_mono q i hi; simpa using this))]
        rfl
      · show f_X4_agreeWith_b2 20 vs f (nI i) kk = _
        rw [body, if_neg hw]
/-- can p have come at c -/
def sWh (n : Nat) (K T C : Nat → Nat) (P p k : Nat) (sl sm : Nat → Nat) (c : Nat) : Bool := sAl (fun i => decide (sW n K T (Cu C p c) P (sl i) = sm i)) k
theorem x_possible {v vs : obV} {w : Nat → Nat → Int32} {n : Nat} {K T C : Nat → Nat} {P p k : Nat} {sl sm : Nat → Nat} (hn : n ≤ 5) (h : trX v w n K T C P p) (hs : snX vs k sl sm) (ho : okS k sl sm) : f_X5_possible w vs = some (nI (sBi (sWh n K T C P p k sl sm) 10)) := by
  rw [show f_X5_possible w vs = lp (fun k y => f_X5_possible_b4 w vs y.1 y.2 k) fu (nI (sBi (sWh n K T C P p k sl sm) 0), nI 0) from rfl]
  refine lp_sum (σ := Int32) (fun i s => (s, nI i)) 10 (fun i => nI (sBi (sWh n K T C P p k sl sm) i)) _ ?_ ?_ fu 0 (Nat.zero_le _) (q_fu (by decide))
  · intro i hi kk
    show f_X5_possible_b4 w vs (nI (sBi (sWh n K T C P p k sl sm) i)) (nI i) kk = kk (nI (if sWh n K T C P p k sl sm i = true then sBi (sWh n K T C P p k sl sm) i ||| 2 ^ i else sBi (sWh n K T C P p k sl sm) i), nI (i + 1))
    unfold f_X5_possible_b4
    rw [if_neg (show ¬ (10 : Int32) ≤ nI i from nI_ge hi (by decide)), if_neg (nI_in hi (by decide)), nI_clamp (by omega), x_agree (W := fun j => sW n K T (Cu C p i) P j) hs ho (fun j hj => ⟨(h i hi).1 j hj, Nat.le_trans sW_le hn⟩)]
    simp only [Option.bind]
    rw [t_sh i (by omega), fa_or, nI_1]
    by_cases hb : sWh n K T C P p k sl sm i = true
    · have hb' : sAl (fun i_1 => decide (sW n K T (Cu C p i) P (sl i_1) = sm i_1)) k = true := hb
      rw [if_pos hb, if_pos hb', if_neg (by decide)]
    · have hb' : ¬ sAl (fun i_1 => decide (sW n K T (Cu C p i) P (sl i_1) = sm i_1)) k = true := hb
      rw [if_neg hb, if_neg hb', if_pos (by decide)]
  · intro kk
    show f_X5_possible_b4 w vs _ (nI 10) kk = _
    unfold f_X5_possible_b4
    rw [if_pos (by decide)]
/-- the largest of the first k -/
def sMx (f : Nat → Nat) : Nat → Nat
  | 0 => 0
  | k + 1 => if f k ≤ sMx f k then sMx f k else f k
theorem sMx_ge (f : Nat → Nat) : ∀ k j, j < k → f j ≤ sMx f k := by
  intro k
  induction k with
  | zero => intro j h; exact absurd h (Nat.not_lt_zero _)
  | succ k ih =>
    intro j hj
    show f j ≤ if f k ≤ sMx f k then sMx f k else f k
    by_cases e : j = k
    · rw [e]; split <;> omega
    · have := ih j (by omega); split <;> omega
theorem sMx_at (f : Nat → Nat) : ∀ k, sMx f k = 0 ∨ ∃ j, j < k ∧ sMx f k = f j := by
  intro k
  induction k with
  | zero => exact Or.inl rfl
  | succ k ih =>
    show (if f k ≤ sMx f k then sMx f k else f k) = 0 ∨ ∃ j, j < k + 1 ∧ (if f k ≤ sMx f k then sMx f k else f k) = f j
    by_cases h : f k ≤ sMx f k
    · rw [if_pos h]
      rcases ih with h1 | ⟨j, h1, h2⟩
      · exact Or.inl h1
      · exact Or.inr ⟨j, by omega, h2⟩
    · rw [if_neg h]; exact Or.inr ⟨k, Nat.lt_succ_self _, rfl⟩
theorem sMx_inc {f g : Nat → Nat} {k m : Nat} (hm : m < k) (h1 : g m = f m + 1) (h2 : ∀ j, j < k → j ≠ m → g j = f j) : sMx g k = if sMx f k < f m + 1 then f m + 1 else sMx f k := by
  have a1 := sMx_ge f k m hm
  have a2 := sMx_ge g k m hm
  have a3 := sMx_at f k
  have a4 := sMx_at g k
  have up : sMx g k ≤ if sMx f k < f m + 1 then f m + 1 else sMx f k := by
    rcases a4 with e | ⟨j, hj, e⟩
    · rw [e]; exact Nat.zero_le _
    · rw [e]
      by_cases ej : j = m
      · rw [ej, h1]; split <;> omega
      · rw [h2 j hj ej]
        have := sMx_ge f k j hj
        split <;> omega
  have lo : (if sMx f k < f m + 1 then f m + 1 else sMx f k) ≤ sMx g k := by
    split
    · omega
    · rcases a3 with e | ⟨j, hj, e⟩
      · omega
      · rw [e]
        by_cases ej : j = m
        · rw [ej]; omega
        · rw [← h2 j hj ej]; exact sMx_ge g k j hj
  omega
theorem sMx_cong {f g : Nat → Nat} : ∀ k, (∀ j, j < k → f j = g j) → sMx f k = sMx g k := by
  intro k
  induction k with
  | zero => intro _; rfl
  | succ k ih =>
    intro h
    show (if f k ≤ sMx f k then sMx f k else f k) = if g k ≤ sMx g k then sMx g k else g k
    rw [ih (fun j hj => h j (by omega)), h k (by omega)]
/-- of the comings in b: at how many would m wait -/
def sG (b : Nat) (W : Nat → Nat) (m i : Nat) : Nat := sCt (fun c => b.testBit c && decide (W c = m)) i
theorem sG_s (b : Nat) (W : Nat → Nat) (m i : Nat) : sG b W m (i + 1) = sG b W m i + (if (b.testBit i && decide (W i = m)) = true then 1 else 0) := rfl
theorem sG_le (b : Nat) (W : Nat → Nat) (m i : Nat) : sG b W m i ≤ i := sCt_le _ _
def sML (b : Nat) (W : Nat → Nat) : Nat := sMx (fun m => sG b W m 10) 6
theorem sML_le (b : Nat) (W : Nat → Nat) : sML b W ≤ 10 := by
  unfold sML
  rcases sMx_at (fun m => sG b W m 10) 6 with h | ⟨j, -, h⟩
  · omega
  · rw [h]; exact sG_le _ _ _ _
theorem x_most25 {v0' : obV} {w : Nat → Nat → Int32} {b slot : Nat} {W : Nat → Nat} (hb : b < 1024) (hs : slot < 20) (hw : ∀ c, c < 10 → w c slot = nI (W c) ∧ W c ≤ 5) (h0 : ∀ m, m < 6 → v0'.2 3 m = 0) : ∃ v', f_X5_mostLeft_l25 w (nI b) (nI slot) fu (v0', 0, 0) = some (nI (sML b W), v') ∧ v'.2 2 = v0'.2 2 := by
  refine lp_up (σ := obV × Int32) (fun i s => (s.1, s.2, nI i)) 10 (fun i s => (∀ m, m < 6 → s.1.2 3 m = nI (sG b W m i)) ∧ s.1.2 2 = v0'.2 2 ∧ s.2 = nI (sMx (fun m => sG b W m i) 6)) (fun z => ∃ v' : obV, z = some (nI (sML b W), v') ∧ v'.2 2 = v0'.2 2) ?_ ?_ fu 0 (v0', 0) ⟨fun m hm => h0 m hm, rfl, rfl⟩ (Nat.zero_le _) (q_fu (by decide))
  · rintro i ⟨v, x⟩ hi ⟨hg, h2, hx⟩
    have hg : ∀ m, m < 6 → v.2 3 m = nI (sG b W m i) := hg
    have h2 : v.2 2 = v0'.2 2 := h2
    have hx : x = nI (sMx (fun m => sG b W m i) 6) := hx
    subst hx
    have hwi := hw i hi
    cases ht : b.testBit i with
    | false =>
      have e : ∀ m, sG b W m (i + 1) = sG b W m i := fun m => by rw [sG_s, ht]; rfl
      refine ⟨(v, nI (sMx (fun m => sG b W m i) 6)), ⟨fun m hm => by rw [e]; exact hg m hm, h2, by show nI _ = nI _; congr 1; exact sMx_cong 6 (fun m _ => (e m).symm)⟩, fun k => ?_⟩
      show f_X5_mostLeft_b25 v w (nI b) (nI slot) _ (nI i) k = _
      unfold f_X5_mostLeft_b25
      rw [if_neg (show ¬ (10 : Int32) ≤ nI i from nI_ge hi (by decide)), if_pos ((q_bit (by omega) (by omega)).mpr ht), nI_1]
    | true =>
      have hwm : W i < 6 := by omega
      have e1 : sG b W (W i) (i + 1) = sG b W (W i) i + 1 := by rw [sG_s, ht]; simp
      have e2 : ∀ m, m < 6 → m ≠ W i → sG b W m (i + 1) = sG b W m i := fun m _ hne => by
        rw [sG_s, ht]
        have : ¬ W i = m := fun q => hne q.symm
        simp [this]
      have hmx := sMx_inc (f := fun m => sG b W m i) (g := fun m => sG b W m (i + 1)) hwm e1 (fun j hj hne => e2 j hj hne)
      have gl := sG_le b W (W i) i
      have ml : sMx (fun m => sG b W m i) 6 ≤ 10 := by
        rcases sMx_at (fun m => sG b W m i) 6 with h | ⟨j, -, h⟩
        · omega
        · rw [h]; have := sG_le b W j i; show sG b W j i ≤ 10; omega
      refine ⟨(oA v 3 (W i) (nI (sG b W (W i) (i + 1))), nI (sMx (fun m => sG b W m (i + 1)) 6)), ⟨fun m hm => ?_, h2, rfl⟩, fun k => ?_⟩
      · show upd (v.2 3) (W i) _ m = _
        rw [q_upd]
        by_cases e : m = W i
        · rw [if_pos e, e]
        · rw [if_neg e, e2 m hm e]; exact hg m hm
      · show f_X5_mostLeft_b25 v w (nI b) (nI slot) _ (nI i) k = _
        unfold f_X5_mostLeft_b25
        simp only [hlet]
        rw [if_neg (show ¬ (10 : Int32) ≤ nI i from nI_ge hi (by decide)), if_neg (fun q => by rw [(q_bit (by omega) (by omega)).mp q] at ht; cases ht), if_neg (nI_in hi (by decide)), if_neg (nI_in hs (by decide)), nI_clamp (by omega), nI_clamp (by omega), hwi.1, if_neg (nI_in hwm (by decide)), if_neg (nI_in hwm (by decide)), if_neg (nI_in hwm (by decide)), nI_clamp (by omega), hg _ hwm, nI_1, ← e1, nI_1]
        rw [hmx]
        show k (oA v 3 (W i) (nI (sG b W (W i) (i + 1))), if nI (sMx (fun m => sG b W m i) 6) < upd (v.2 3) (W i) (nI (sG b W (W i) (i + 1))) (W i) then upd (v.2 3) (W i) (nI (sG b W (W i) (i + 1))) (W i) else nI (sMx (fun m => sG b W m i) 6), nI (i + 1)) = _
        rw [q_upd, if_pos rfl, e1]
        by_cases hl : sMx (fun m => sG b W m i) 6 < sG b W (W i) i + 1
        · rw [if_pos hl, if_pos ((nI_ltI (by omega) (by omega)).mpr hl)]
        · rw [if_neg hl, if_neg (fun q => hl ((nI_ltI (by omega) (by omega)).mp q))]
  · rintro ⟨v, x⟩ ⟨hg, h2, hx⟩
    have hx : x = nI (sMx (fun m => sG b W m 10) 6) := hx
    refine ⟨_, ⟨v, rfl, h2⟩, fun k => ?_⟩
    show f_X5_mostLeft_b25 v w (nI b) (nI slot) x (nI 10) k = _
    unfold f_X5_mostLeft_b25
    rw [if_pos (by decide), hx]
    rfl
theorem x_most {v0' : obV} {w : Nat → Nat → Int32} {b slot : Nat} {W : Nat → Nat} (hb : b < 1024) (hs : slot < 20) (hw : ∀ c, c < 10 → w c slot = nI (W c) ∧ W c ≤ 5) : ∃ v', f_X5_mostLeft v0' w (nI b) (nI slot) = some (nI (sML b W), v') ∧ v'.2 2 = v0'.2 2 := by
  show ∃ v', f_X5_mostLeft_l2 w (nI b) (nI slot) fu (v0', 0) = some (nI (sML b W), v') ∧ v'.2 2 = v0'.2 2
  refine lp_up (σ := obV) (fun i s => (s, nI i)) 6 (fun i s => (∀ m, m < i → s.2 3 m = 0) ∧ s.2 2 = v0'.2 2) (fun z => ∃ v' : obV, z = some (nI (sML b W), v') ∧ v'.2 2 = v0'.2 2) ?_ ?_ fu 0 v0' ⟨fun m h => absurd h (Nat.not_lt_zero _), rfl⟩ (Nat.zero_le _) (q_fu (by decide))
  · rintro i s hi ⟨h1, h2⟩
    refine ⟨oA s 3 i 0, ⟨fun m hm => ?_, h2⟩, fun k => ?_⟩
    · show upd (s.2 3) i 0 m = 0
      rw [q_upd]
      by_cases e : m = i
      · rw [if_pos e]
      · rw [if_neg e]; exact h1 m (by omega)
    · show f_X5_mostLeft_b2 s w (nI b) (nI slot) (nI i) k = _
      unfold f_X5_mostLeft_b2
      simp only [hlet]
      rw [if_neg (show ¬ (5 : Int32) < nI i from nI_nlt (show i ≤ 5 by omega) (by decide)), if_neg (nI_in hi (by decide)), nI_clamp (by omega), nI_1]
  · rintro s ⟨h1, h2⟩
    obtain ⟨v', r1, r2⟩ := x_most25 (v0' := s) hb hs hw h1
    refine ⟨_, ⟨v', rfl, r2.trans h2⟩, fun k => ?_⟩
    show f_X5_mostLeft_b2 s w (nI b) (nI slot) (nI 6) k = _
    unfold f_X5_mostLeft_b2
    rw [if_pos (by decide)]
    exact r1
theorem x_look {v0' : obV} {w : Nat → Nat → Int32} {n : Nat} {K T C : Nat → Nat} {P p b : Nat} (hn : n ≤ 5) (hb : b < 1024) (hb0 : b ≠ 0) (h : trX v0' w n K T C P p) : ∃ v', f_X5_bestLook v0' w (nI b) = some (nI (sLm (fun at_ => sML b (fun c => sW n K T (Cu C p c) P at_)) 20), v') ∧ v'.2 2 = v0'.2 2 := by
  have key : ∃ v' : obV, f_X5_bestLook_l14 w (nI b) fu (v0', 0, 11, 0) = some (nI (sLm (fun at_ => sML b (fun c => sW n K T (Cu C p c) P at_)) 20), v') ∧ v'.2 2 = v0'.2 2 := by
    refine lp_up (σ := obV × Int32 × Int32) (fun i s => (s.1, s.2.1, s.2.2, nI i)) 20 (fun i s => s.1.2 2 = v0'.2 2 ∧ s.2.1 = nI (sLm (fun at_ => sML b (fun c => sW n K T (Cu C p c) P at_)) i) ∧ s.2.2 = nI (if i = 0 then 11 else sML b (fun c => sW n K T (Cu C p c) P (sLm (fun at_ => sML b (fun c => sW n K T (Cu C p c) P at_)) i)))) (fun z => ∃ v' : obV, z = some (nI (sLm (fun at_ => sML b (fun c => sW n K T (Cu C p c) P at_)) 20), v') ∧ v'.2 2 = v0'.2 2) ?_ ?_ fu 0 (v0', 0, 11) ⟨rfl, rfl, rfl⟩ (Nat.zero_le _) (q_fu (by decide))
    · rintro i ⟨v, x, y⟩ hi ⟨h2, hx, hy⟩
      have h2 : v.2 2 = v0'.2 2 := h2
      generalize hgd : (fun at_ => sML b (fun c => sW n K T (Cu C p c) P at_)) = g at hx
      have hgi : ∀ j, g j = sML b (fun c => sW n K T (Cu C p c) P j) := fun j => by rw [← hgd]
      have hx : x = nI (sLm g i) := hx
      have hy : y = nI (if i = 0 then 11 else g (sLm g i)) := by rw [hgi]; subst hgd; exact hy
      obtain ⟨v', r1, r2⟩ := x_most (v0' := v) (W := fun c => sW n K T (Cu C p c) P i) hb hi (fun c hc => ⟨(h c hc).1 i hi, Nat.le_trans sW_le hn⟩)
      have gl : ∀ j, g j ≤ 10 := fun j => by rw [hgi]; exact sML_le _ _
      have e1 : sLm g (i + 1) = if g (sLm g i) ≤ g i then sLm g i else i := rfl
      refine ⟨(v', nI (sLm g (i + 1)), nI (g (sLm g (i + 1)))), ⟨r2.trans h2, by subst hgd; rfl, by rw [hgi]; subst hgd; rfl⟩, fun k => ?_⟩
      show f_X5_bestLook_b14 v w (nI b) x y (nI i) k = k (v', nI (sLm g (i + 1)), nI (g (sLm g (i + 1))), nI (i + 1))
      unfold f_X5_bestLook_b14
      rw [if_neg (show ¬ (20 : Int32) ≤ nI i from nI_ge hi (by decide)), r1]
      simp only [Option.bind]
      rw [← hgi i, hx, hy, nI_1, e1]
      have g1 := gl i
      have g2 := gl (sLm g i)
      by_cases hi0 : i = 0
      · subst hi0
        have e0 : sLm g 0 = 0 := rfl
        rw [if_pos rfl, if_neg (nI_ge (show g 0 < 11 by omega) (by decide)), e0, if_pos (Nat.le_refl _)]
      · rw [if_neg hi0]
        by_cases hl : g (sLm g i) ≤ g i
        · rw [if_pos hl, if_pos ((nI_leI (by omega) (by omega)).mpr hl)]
        · rw [if_neg hl, if_neg (fun q => hl ((nI_leI (by omega) (by omega)).mp q))]
    · rintro ⟨v, x, y⟩ ⟨h2, hx, hy⟩
      have hx : x = nI (sLm (fun at_ => sML b (fun c => sW n K T (Cu C p c) P at_)) 20) := hx
      refine ⟨_, ⟨v, rfl, h2⟩, fun k => ?_⟩
      show f_X5_bestLook_b14 v w (nI b) x y (nI 20) k = _
      unfold f_X5_bestLook_b14
      rw [if_pos (by decide), hx]
  unfold f_X5_bestLook
  rw [if_neg (show ¬ nI b = 0 from fun q => hb0 ((nI_eq (by omega) (by decide)).mp (q : nI b = nI 0)))]
  exact key
