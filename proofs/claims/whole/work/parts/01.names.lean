/-! ===== BEGIN new T[n][m]: the outer array a place, the inner ones among the pooled ===== -/
/-- f, but v at every address of l -/
def vr_up {α : Type} (f : Nat → α) (l : List Nat) (v : α) : Nat → α := fun a => if a ∈ l then v else f a
theorem vr_up_in {α : Type} {f : Nat → α} {l : List Nat} {v : α} {a : Nat} (h : a ∈ l) : vr_up f l v a = v := if_pos h
theorem vr_up_ne {α : Type} {f : Nat → α} {l : List Nat} {v : α} {a : Nat} (h : a ∉ l) : vr_up f l v a = f a := if_neg h
theorem vr_rows {L l : List Nat} {f : Nat → va_E} {e : va_E} (h : ∀ a, a ∈ l → a ∉ L) : va_pl L f ++ l.map (fun a => (a, e)) = va_pl (L ++ l) (vr_up f l e) := by
  unfold va_pl
  rw [List.map_append]
  congr 1
  · apply List.map_congr_left
    intro a ha
    rw [vr_up_ne (fun q => h a q ha)]
  · apply List.map_congr_left
    intro a ha
    rw [vr_up_in ha]
theorem vr_lay {X rows : va_W} {x : Nat × va_E} {pl : va_W} {D : va_G} {cl : List vw_C} {H : Heap} (hP : va_P D cl (((X ++ pl) ++ [x]) ++ rows) H) : va_P D cl ((X ++ [x]) ++ (pl ++ rows)) H := by
  rw [List.append_assoc (X ++ pl)] at hP
  have h := va_P.swap hP
  rw [← List.append_assoc X] at h
  have h2 := va_P.swap h
  rw [List.append_assoc (X ++ [x])] at h2
  exact h2
theorem vr_layD {X rows : va_W} {x : Nat × va_E} {pl : va_W} {A : Nat → Prop} (hD : va_D A (((X ++ pl) ++ [x]) ++ rows)) : va_D A ((X ++ [x]) ++ (pl ++ rows)) := by
  rw [List.append_assoc (X ++ pl)] at hD
  have h := va_D.swap hD
  rw [← List.append_assoc X] at h
  have h2 := va_D.swap h
  rw [List.append_assoc (X ++ [x])] at h2
  exact h2
theorem vr_outer (c : ClassId) (N h0 : Nat) : ∀ i : Nat, Jvm.Free.Multi.outerC c N h0 i = arrV c N (fun j => va_rf (if j < i then some (h0 + 1 + j) else none))
  | 0 => by
    show ({ cls := c, slots := Array.replicate N .null, vm := .none } : Cell) = _
    rw [arrV_new]
    refine congrArg (arrV c N) (funext fun j => ?_)
    simp [va_rf]
  | i + 1 => by
    show (Jvm.Free.Multi.outerC c N h0 i).setSlot i (.ref (h0 + 1 + i)) = _
    rw [vr_outer c N h0 i, arrV_store]
    refine congrArg (arrV c N) (funext fun j => ?_)
    by_cases e : j = i
    · subst e
      simp [updV, va_rf]
    · by_cases h : j < i
      · simp [updV, e, h, Nat.lt_succ_of_lt h]
      · simp [updV, e, h, show ¬ j < i + 1 by omega]
section VGM
variable {p : Program} {l : Launch} {e : Env} {R : Room} {s : State} {m : MethodId} {args : Array Value} {below : List Frame} {meth : Method} {c : Code} {H : Heap} {locs : List Loc} {cells slots : Nat} {Q : State → Prop}
variable {cc : ByteArray} {pc : Nat} {ls : Array Slot} {rest : List Value} {D : va_G} {cl : List vw_C} {A : Nat → Prop} {a : Nat} {tys : List (ClassId × FieldType)} {ws : va_W} {H0 : Heap}
theorem va_mna {X : va_W} {L : List Nat} {f : Nat → va_E} {cc : ByteArray} (hexec : p.tables.exec = Jvm.exec) (hb : c.code = cc) {own : String} {index : Nat} {ty : FieldType} {cy : ClassId} (hown : s.vm.findClass own = some m.cls) (hclink : (Cond.classLink own index ("[" ++ (FieldType.array ty).toString)).before args s = true) (hover : (Cond.arrayOver (.array ty)).before args s = true) (harr : (Cond.arrayClass ty).before args s = true) (hcy : s.vm.findClass (FieldType.array ty).toString = some cy)
    (hK : va_K D cl tys s) (hP : va_P D cl (X ++ va_pl L f) H) (hD : va_D A (X ++ va_pl L f)) (hS : va_S A H0 H locs) (hA : ∀ q, H0.size ≤ q → A q) {n k : Int32} {N' K' : Nat} {z : vp_A} (hn : ¬ n < 0) (hk : ¬ k < 0) (hN : n.toNatClampNeg = N') (hM : k.toNatClampNeg = K')
    (hb1 : N' * 4 ≤ 536870912) (hb2 : K' * componentBytes ty ≤ 536870912) (hb3 : K' ≤ 536870912) (hdf : fits ty (defaultValue ty) = true) (hdd : (defaultValue ty).isDefault = true) (hcells : cells + (1 + N') ≤ R.cells) (hslots : slots + (N' + N' * K') ≤ R.slots) (hz : ∀ c : ClassId, Jvm.Free.Multi.innerC c K' (defaultValue ty) = vp_cell c z) (hdg : decode cc pc = .ok (.multianewarray index 2, 4))
    (kk : ∀ (q : Nat) (r : Nat → Nat) (cA : ClassId) (H1 : Heap), (∀ i j : Nat, i < N' → j < N' → r i = r j → i = j) → (∀ i : Nat, i < N' → r i ∉ L) → va_K D cl (tys ++ [(cA, .array ty)]) s →
      va_P D cl ((X ++ [(q, .inl (cA, N', .inr (.inr (.inr (.inr (fun i => if i < N' then some (r i) else none))))))]) ++ va_pl (L ++ (List.range N').map r) (vr_up f ((List.range N').map r) (.inl (cy, z)))) H1 → va_D A ((X ++ [(q, .inl (cA, N', .inr (.inr (.inr (.inr (fun i => if i < N' then some (r i) else none))))))]) ++ va_pl (L ++ (List.range N').map r) (vr_up f ((List.range N').map r) (.inl (cy, z)))) → va_S A H0 H1 locs →
      W p l e R s m args below meth c H1 locs (cells + 1 + N') (slots + N' + N' * K') Q (F0 m (pc + 4) ls (.ref q :: rest))) : W p l e R s m args below meth c H locs cells slots Q (F0 m pc ls (.int k :: .int n :: rest)) := by
  subst hN
  subst hM
  intro T hT Xs
  obtain ⟨vm₁, cA, comp, -, fA, fC, hO, -, X', step⟩ := Xs.multianewarray2F hexec hown hclink hover harr (g := F0 m pc ls (.int k :: .int n :: rest)) rfl (by rw [hb]; exact hdg) rfl hn hk hb1 hb2 hb3 hdf hdd hcells hslots
  have ec : some cy = some comp := hcy.symm.trans fC
  cases ec
  generalize hF : Jvm.Free.Multi.fill (T.setVm vm₁) cA cy n.toNatClampNeg k.toNatClampNeg (defaultValue ty) n.toNatClampNeg = F at X' step
  have hTh : (T.setVm vm₁).heap = H := hT
  obtain ⟨f1, f2, -, -⟩ := Jvm.Free.Multi.fill_facts (T.setVm vm₁) cA cy n.toNatClampNeg k.toNatClampNeg (defaultValue ty) n.toNatClampNeg
  rw [hF, hTh] at f1 f2
  have hold : ∀ x : Nat, x < H.size → F.heap[x]? = H[x]? := fun x hx => by
    have := Jvm.Free.Multi.fill_old (T.setVm vm₁) cA cy n.toNatClampNeg k.toNatClampNeg (defaultValue ty) (a := x) (by rw [hTh]; exact hx) n.toNatClampNeg
    rw [hF, hTh] at this
    exact this
  have hrow : ∀ j : Nat, j < n.toNatClampNeg → F.heap[H.size + 1 + j]? = some (vp_cell cy z) := fun j hj => by
    have := Jvm.Free.Multi.fill_inner (T.setVm vm₁) cA cy n.toNatClampNeg k.toNatClampNeg (defaultValue ty) n.toNatClampNeg j hj
    rw [hF, hTh, hz] at this
    exact this
  have hout : Jvm.Free.Multi.outerC cA n.toNatClampNeg H.size n.toNatClampNeg = vp_cell cA (n.toNatClampNeg, .inr (.inr (.inr (.inr (fun i => if i < n.toNatClampNeg then some (H.size + 1 + i) else none))))) := by
    rw [vp_cell_q]
    exact vr_outer cA n.toNatClampNeg H.size n.toNatClampNeg
  rw [hout] at f2
  have hlt : ∀ a, a ∈ L → a < H.size := fun a ha => by
    obtain ⟨k9, hk9⟩ := va_pl_get (X := X) (f := f) ha
    exact (hP k9 _ hk9).lt
  have hnl : ∀ i : Nat, i < n.toNatClampNeg → H.size + 1 + i ∉ L := fun i _ h => by
    have := hlt _ h
    omega
  have hnm : ∀ a, a ∈ (List.range n.toNatClampNeg).map (fun i => H.size + 1 + i) → a ∉ L := fun a ha h => by
    obtain ⟨i, -, rfl⟩ := List.mem_map.mp ha
    have := hlt _ h
    omega
  have hP0 : va_P D cl (X ++ va_pl L f) F.heap := hP.kept (fun k9 x hx => hold x.1 ((hP k9 x hx).lt))
  have hP1 : va_P D cl ((X ++ va_pl L f) ++ [(H.size, .inl (cA, n.toNatClampNeg, .inr (.inr (.inr (.inr (fun i => if i < n.toNatClampNeg then some (H.size + 1 + i) else none))))))]) F.heap := hP0.app (fun k9 x hx => by
    have h0 : k9 < 1 := (List.getElem?_eq_some_iff.mp hx).1
    rw [show k9 = 0 by omega] at hx
    cases hx
    exact f2)
  have hP2 : va_P D cl (((X ++ va_pl L f) ++ [(H.size, .inl (cA, n.toNatClampNeg, .inr (.inr (.inr (.inr (fun i => if i < n.toNatClampNeg then some (H.size + 1 + i) else none))))))]) ++ ((List.range n.toNatClampNeg).map (fun i => H.size + 1 + i)).map (fun a => (a, .inl (cy, z)))) F.heap := hP1.app (fun k9 x hx => by
    obtain ⟨a, ha, rfl⟩ := List.mem_map.mp (List.mem_of_getElem? hx)
    obtain ⟨i, hi, rfl⟩ := List.mem_map.mp ha
    exact hrow i (List.mem_range.mp hi))
  have hD2 : va_D A (((X ++ va_pl L f) ++ [(H.size, .inl (cA, n.toNatClampNeg, .inr (.inr (.inr (.inr (fun i => if i < n.toNatClampNeg then some (H.size + 1 + i) else none))))))]) ++ ((List.range n.toNatClampNeg).map (fun i => H.size + 1 + i)).map (fun a => (a, .inl (cy, z)))) := by
    have hD1 := hD.push (e := .inl (cA, n.toNatClampNeg, .inr (.inr (.inr (.inr (fun i => if i < n.toNatClampNeg then some (H.size + 1 + i) else none)))))) hP rfl (hA _ hS.1)
    generalize hW1 : (X ++ va_pl L f) ++ [(H.size, .inl (cA, n.toNatClampNeg, .inr (.inr (.inr (.inr (fun i => if i < n.toNatClampNeg then some (H.size + 1 + i) else none))))))] = W1 at hD1 hP1 ⊢
    have hle : ∀ (k9 : Nat) (x : Nat × va_E), W1[k9]? = some x → x.1 ≤ H.size := fun k9 x hx => by
      rw [← hW1] at hx
      by_cases hl : k9 < (X ++ va_pl L f).length
      · rw [List.getElem?_append_left hl] at hx
        exact Nat.le_of_lt ((hP k9 x hx).lt)
      · rw [List.getElem?_append_right (by omega)] at hx
        have h0 : k9 - (X ++ va_pl L f).length < 1 := (List.getElem?_eq_some_iff.mp hx).1
        rw [show k9 - (X ++ va_pl L f).length = 0 by omega] at hx
        cases hx
        exact Nat.le_refl _
    have hr : ∀ (k9 : Nat) (x : Nat × va_E), (((List.range n.toNatClampNeg).map (fun i => H.size + 1 + i)).map (fun a => ((a, .inl (cy, z)) : Nat × va_E)))[k9]? = some x → x.1 = H.size + 1 + k9 := fun k9 x hx => by
      rw [List.getElem?_map, List.getElem?_map] at hx
      by_cases h9 : k9 < n.toNatClampNeg
      · rw [List.getElem?_range h9] at hx
        cases hx
        rfl
      · have hn0 : (List.range n.toNatClampNeg)[k9]? = none := List.getElem?_eq_none (by rw [List.length_range]; omega)
        rw [hn0] at hx
        cases hx
    refine ⟨fun i j x y hi hj hxy => ?_, fun k9 x hx => ?_⟩
    · by_cases h1 : i < W1.length <;> by_cases h2 : j < W1.length
      · rw [List.getElem?_append_left h1] at hi
        rw [List.getElem?_append_left h2] at hj
        exact hD1.1 i j x y hi hj hxy
      · rw [List.getElem?_append_left h1] at hi
        rw [List.getElem?_append_right (by omega)] at hj
        have := hle _ _ hi
        have := hr _ _ hj
        omega
      · rw [List.getElem?_append_right (by omega)] at hi
        rw [List.getElem?_append_left h2] at hj
        have := hle _ _ hj
        have := hr _ _ hi
        omega
      · rw [List.getElem?_append_right (by omega)] at hi hj
        have := hr _ _ hi
        have := hr _ _ hj
        omega
    · by_cases h1 : k9 < W1.length
      · rw [List.getElem?_append_left h1] at hx
        exact hD1.2 k9 x hx
      · rw [List.getElem?_append_right (by omega)] at hx
        have := hr _ _ hx
        exact hA _ (by have := hS.1; omega)
  have hAr : ArrOfT s cA (.array ty) := fun N9 z9 => by
    obtain ⟨-, k9, hk9, cm9, hkk9⟩ := (hO 0 0 0).1
    exact ⟨(fun q hq => by cases hq), k9, hk9, cm9, hkk9⟩
  have hK2 : va_K D cl (tys ++ [(cA, .array ty)]) s := ⟨hK.1, fun k9 x hx => by
    by_cases hl : k9 < tys.length
    · rw [List.getElem?_append_left hl] at hx
      exact hK.2 k9 x hx
    · rw [List.getElem?_append_right (by omega)] at hx
      have h0 : k9 - tys.length < 1 := (List.getElem?_eq_some_iff.mp hx).1
      rw [show k9 - tys.length = 0 by omega] at hx
      cases hx
      exact ⟨hAr, fA⟩⟩
  obtain ⟨t, a1, b1⟩ := kk H.size (fun i => H.size + 1 + i) cA F.heap (fun i j _ _ h => by have h9 : H.size + 1 + i = H.size + 1 + j := h; omega) hnl hK2 (by rw [← vr_rows hnm]; exact vr_lay hP2) (by rw [← vr_rows hnm]; exact vr_layD hD2) ⟨by rw [f1]; have := hS.1; omega, fun x h1 h2 => (hold x (Nat.lt_of_lt_of_le h1 hS.1)).trans (hS.2.1 x h1 h2), hS.2.2⟩ F rfl X'
  refine ⟨t, step t ?_, b1⟩
  have e : T.heap.size = H.size := by rw [hT]
  rw [e]
  exact a1
end VGM
/-! ===== END ===== -/

def RX0 : String := "HermitHours$BestOrder"
def TX0 : u_T := fun k => match k with
  | 0 => ("HermitHours$BestOrder", "tried", "[I", true)
  | 1 => ("HermitHours$BestOrder", "order", "[I", true)
  | 2 => ("HermitHours$BestOrder", "size", "I", false)
  | _ => ("HermitHours$BestOrder", "helped", "I", false)
def tyX0 : Nat → FieldType := fun k => match k with
  | 0 => .array .int
  | 1 => .array .int
  | 2 => .int
  | _ => .int
theorem nmX0 : ∀ a, a < 4 → ∀ b, b < 4 → a ≠ b → (TX0 a).2.1 ≠ (TX0 b).2.1 := by decide +kernel
theorem tyX0_ok : ∀ k, k < 4 → parseFieldDescriptor (TX0 k).2.2.1 = some (tyX0 k) := by decide +kernel
abbrev cX0_init : ByteArray := prog_2_method_1_code
def yX0_init : MethodName := ⟨RX0, "<init>", "()V"⟩
abbrev cX0_find : ByteArray := prog_2_method_2_code
def yX0_find : MethodName := ⟨RX0, "find", "(LHermitHours$Cave;)V"⟩
abbrev cX0_at : ByteArray := prog_2_method_3_code
def yX0_at : MethodName := ⟨RX0, "at", "(I)I"⟩
abbrev cX0_begin : ByteArray := prog_2_method_4_code
def yX0_begin : MethodName := ⟨RX0, "begin", "(I)V"⟩
abbrev cX0_helpedWhenTried : ByteArray := prog_2_method_5_code
def yX0_helpedWhenTried : MethodName := ⟨RX0, "helpedWhenTried", "(LHermitHours$Cave;)I"⟩
abbrev cX0_turnToNext : ByteArray := prog_2_method_6_code
def yX0_turnToNext : MethodName := ⟨RX0, "turnToNext", "()Z"⟩
abbrev cX0_swap : ByteArray := prog_2_method_7_code
def yX0_swap : MethodName := ⟨RX0, "swap", "(II)V"⟩
def RX1 : String := "HermitHours$Cave"
def TX1 : u_T := fun k => match k with
  | 0 => ("HermitHours$Cave", "kinds", "[I", true)
  | 1 => ("HermitHours$Cave", "troubles", "[I", true)
  | 2 => ("HermitHours$Cave", "comes", "[I", true)
  | 3 => ("HermitHours$Cave", "seen", "LHermitHours$Sights;", true)
  | 4 => ("HermitHours$Cave", "size", "I", false)
  | 5 => ("HermitHours$Cave", "patience", "I", false)
  | _ => ("HermitHours$Cave", "changes", "I", false)
def tyX1 : Nat → FieldType := fun k => match k with
  | 0 => .array .int
  | 1 => .array .int
  | 2 => .array .int
  | 3 => .object "HermitHours$Sights"
  | 4 => .int
  | 5 => .int
  | _ => .int
theorem nmX1 : ∀ a, a < 7 → ∀ b, b < 7 → a ≠ b → (TX1 a).2.1 ≠ (TX1 b).2.1 := by decide +kernel
theorem tyX1_ok : ∀ k, k < 7 → parseFieldDescriptor (TX1 k).2.2.1 = some (tyX1 k) := by decide +kernel
abbrev cX1_init : ByteArray := prog_3_method_1_code
def yX1_init : MethodName := ⟨RX1, "<init>", "()V"⟩
abbrev cX1_read : ByteArray := prog_3_method_2_code
def yX1_read : MethodName := ⟨RX1, "read", "(LHermitHours$Page;)V"⟩
abbrev cX1_copy : ByteArray := prog_3_method_3_code
def yX1_copy : MethodName := ⟨RX1, "copy", "(LHermitHours$Cave;)V"⟩
abbrev cX1_isNone : ByteArray := prog_3_method_4_code
def yX1_isNone : MethodName := ⟨RX1, "isNone", "()Z"⟩
abbrev cX1_has : ByteArray := prog_3_method_5_code
def yX1_has : MethodName := ⟨RX1, "has", "(I)Z"⟩
abbrev cX1_isKind : ByteArray := prog_3_method_6_code
def yX1_isKind : MethodName := ⟨RX1, "isKind", "(II)Z"⟩
abbrev cX1_stays : ByteArray := prog_3_method_7_code
def yX1_stays : MethodName := ⟨RX1, "stays", "(I)I"⟩
abbrev cX1_wears : ByteArray := prog_3_method_8_code
def yX1_wears : MethodName := ⟨RX1, "wears", "(I)I"⟩
abbrev cX1_allStay : ByteArray := prog_3_method_9_code
def yX1_allStay : MethodName := ⟨RX1, "allStay", "()I"⟩
abbrev cX1_unlikeTroubles : ByteArray := prog_3_method_10_code
def yX1_unlikeTroubles : MethodName := ⟨RX1, "unlikeTroubles", "()I"⟩
def RX2 : String := "HermitHours$Day"
def TX2 : u_T := fun k => match k with
  | 0 => ("HermitHours$Day", "comes", "[I", true)
  | 1 => ("HermitHours$Day", "receivedAt", "[I", true)
  | 2 => ("HermitHours$Day", "sayings", "[I", true)
  | 3 => ("HermitHours$Day", "waitingAt", "[I", true)
  | 4 => ("HermitHours$Day", "size", "I", false)
  | 5 => ("HermitHours$Day", "patienceLeft", "I", false)
  | 6 => ("HermitHours$Day", "said", "I", false)
  | _ => ("HermitHours$Day", "townAt", "I", false)
def tyX2 : Nat → FieldType := fun k => match k with
  | 0 => .array .int
  | 1 => .array .int
  | 2 => .array .int
  | 3 => .array .int
  | 4 => .int
  | 5 => .int
  | 6 => .int
  | _ => .int
theorem nmX2 : ∀ a, a < 8 → ∀ b, b < 8 → a ≠ b → (TX2 a).2.1 ≠ (TX2 b).2.1 := by decide +kernel
theorem tyX2_ok : ∀ k, k < 8 → parseFieldDescriptor (TX2 k).2.2.1 = some (tyX2 k) := by decide +kernel
abbrev cX2_init : ByteArray := prog_4_method_1_code
def yX2_init : MethodName := ⟨RX2, "<init>", "()V"⟩
abbrev cX2_pass : ByteArray := prog_4_method_2_code
def yX2_pass : MethodName := ⟨RX2, "pass", "(LHermitHours$Cave;)V"⟩
abbrev cX2_takeComings : ByteArray := prog_4_method_3_code
def yX2_takeComings : MethodName := ⟨RX2, "takeComings", "(LHermitHours$Cave;)V"⟩
abbrev cX2_passAsComing : ByteArray := prog_4_method_4_code
def yX2_passAsComing : MethodName := ⟨RX2, "passAsComing", "(LHermitHours$Cave;)V"⟩
abbrev cX2_slotsWaited : ByteArray := prog_4_method_5_code
def yX2_slotsWaited : MethodName := ⟨RX2, "slotsWaited", "(I)I"⟩
abbrev cX2_received : ByteArray := prog_4_method_6_code
def yX2_received : MethodName := ⟨RX2, "received", "()I"⟩
abbrev cX2_helped : ByteArray := prog_4_method_7_code
def yX2_helped : MethodName := ⟨RX2, "helped", "()I"⟩
abbrev cX2_meetings : ByteArray := prog_4_method_8_code
def yX2_meetings : MethodName := ⟨RX2, "meetings", "()I"⟩
abbrev cX2_begin : ByteArray := prog_4_method_9_code
def yX2_begin : MethodName := ⟨RX2, "begin", "(LHermitHours$Cave;)V"⟩
abbrev cX2_firstInLine : ByteArray := prog_4_method_10_code
def yX2_firstInLine : MethodName := ⟨RX2, "firstInLine", "(LHermitHours$Cave;I)I"⟩
abbrev cX2_isAhead : ByteArray := prog_4_method_11_code
def yX2_isAhead : MethodName := ⟨RX2, "isAhead", "(LHermitHours$Cave;II)Z"⟩
abbrev cX2_receive : ByteArray := prog_4_method_12_code
def yX2_receive : MethodName := ⟨RX2, "receive", "(LHermitHours$Cave;II)V"⟩
abbrev cX2_notReceivedBy : ByteArray := prog_4_method_13_code
def yX2_notReceivedBy : MethodName := ⟨RX2, "notReceivedBy", "(I)I"⟩
def RX3 : String := "HermitHours$Page"
def TX3 : u_T := fun k => match k with
  | 0 => ("HermitHours$Page", "codes", "[I", true)
  | _ => ("HermitHours$Page", "size", "I", false)
def tyX3 : Nat → FieldType := fun k => match k with
  | 0 => .array .int
  | _ => .int
theorem nmX3 : ∀ a, a < 2 → ∀ b, b < 2 → a ≠ b → (TX3 a).2.1 ≠ (TX3 b).2.1 := by decide +kernel
theorem tyX3_ok : ∀ k, k < 2 → parseFieldDescriptor (TX3 k).2.2.1 = some (tyX3 k) := by decide +kernel
abbrev cX3_init : ByteArray := prog_5_method_1_code
def yX3_init : MethodName := ⟨RX3, "<init>", "()V"⟩
abbrev cX3_write : ByteArray := prog_5_method_2_code
def yX3_write : MethodName := ⟨RX3, "write", "(I)V"⟩
abbrev cX3_firstWrong : ByteArray := prog_5_method_3_code
def yX3_firstWrong : MethodName := ⟨RX3, "firstWrong", "()I"⟩
abbrev cX3_isCave : ByteArray := prog_5_method_4_code
def yX3_isCave : MethodName := ⟨RX3, "isCave", "()Z"⟩
abbrev cX3_pilgrims : ByteArray := prog_5_method_5_code
def yX3_pilgrims : MethodName := ⟨RX3, "pilgrims", "()I"⟩
abbrev cX3_digit : ByteArray := prog_5_method_6_code
def yX3_digit : MethodName := ⟨RX3, "digit", "(I)I"⟩
abbrev cX3_isRight : ByteArray := prog_5_method_7_code
def yX3_isRight : MethodName := ⟨RX3, "isRight", "(II)Z"⟩
abbrev cX3_isRightBehind : ByteArray := prog_5_method_8_code
def yX3_isRightBehind : MethodName := ⟨RX3, "isRightBehind", "(II)Z"⟩
def RX4 : String := "HermitHours$Sights"
def TX4 : u_T := fun k => match k with
  | 0 => ("HermitHours$Sights", "slots", "[I", true)
  | 1 => ("HermitHours$Sights", "numbers", "[I", true)
  | _ => ("HermitHours$Sights", "size", "I", false)
def tyX4 : Nat → FieldType := fun k => match k with
  | 0 => .array .int
  | 1 => .array .int
  | _ => .int
theorem nmX4 : ∀ a, a < 3 → ∀ b, b < 3 → a ≠ b → (TX4 a).2.1 ≠ (TX4 b).2.1 := by decide +kernel
theorem tyX4_ok : ∀ k, k < 3 → parseFieldDescriptor (TX4 k).2.2.1 = some (tyX4 k) := by decide +kernel
abbrev cX4_init : ByteArray := prog_6_method_1_code
def yX4_init : MethodName := ⟨RX4, "<init>", "()V"⟩
abbrev cX4_add : ByteArray := prog_6_method_2_code
def yX4_add : MethodName := ⟨RX4, "add", "(II)V"⟩
abbrev cX4_agreeWith : ByteArray := prog_6_method_3_code
def yX4_agreeWith : MethodName := ⟨RX4, "agreeWith", "([I)Z"⟩
abbrev cX4_copy : ByteArray := prog_6_method_4_code
def yX4_copy : MethodName := ⟨RX4, "copy", "(LHermitHours$Sights;)V"⟩
def RX5 : String := "HermitHours$Trials"
def TX5 : u_T := fun k => match k with
  | 0 => ("HermitHours$Trials", "day", "LHermitHours$Day;", true)
  | 1 => ("HermitHours$Trials", "waitingAt", "[[I", true)
  | 2 => ("HermitHours$Trials", "meetings", "[I", true)
  | _ => ("HermitHours$Trials", "groups", "[I", true)
def tyX5 : Nat → FieldType := fun k => match k with
  | 0 => .object "HermitHours$Day"
  | 1 => .array (.array .int)
  | 2 => .array .int
  | _ => .array .int
theorem nmX5 : ∀ a, a < 4 → ∀ b, b < 4 → a ≠ b → (TX5 a).2.1 ≠ (TX5 b).2.1 := by decide +kernel
theorem tyX5_ok : ∀ k, k < 4 → parseFieldDescriptor (TX5 k).2.2.1 = some (tyX5 k) := by decide +kernel
abbrev cX5_init : ByteArray := prog_7_method_1_code
def yX5_init : MethodName := ⟨RX5, "<init>", "()V"⟩
abbrev cX5_pass : ByteArray := prog_7_method_2_code
def yX5_pass : MethodName := ⟨RX5, "pass", "(LHermitHours$Cave;I)V"⟩
abbrev cX5_leastMeetings : ByteArray := prog_7_method_3_code
def yX5_leastMeetings : MethodName := ⟨RX5, "leastMeetings", "()I"⟩
abbrev cX5_possible : ByteArray := prog_7_method_4_code
def yX5_possible : MethodName := ⟨RX5, "possible", "(LHermitHours$Sights;)I"⟩
abbrev cX5_bestLook : ByteArray := prog_7_method_5_code
def yX5_bestLook : MethodName := ⟨RX5, "bestLook", "(I)I"⟩
abbrev cX5_mostLeft : ByteArray := prog_7_method_6_code
def yX5_mostLeft : MethodName := ⟨RX5, "mostLeft", "(II)I"⟩
def RX6 : String := "HermitHours"
def TX6 : u_T := fun k => match k with
  | 0 => ("HermitHours", "page", "LHermitHours$Page;", true)
  | 1 => ("HermitHours", "now", "LHermitHours$Cave;", true)
  | 2 => ("HermitHours", "kept", "LHermitHours$Cave;", true)
  | 3 => ("HermitHours", "today", "LHermitHours$Day;", true)
  | 4 => ("HermitHours", "trials", "LHermitHours$Trials;", true)
  | 5 => ("HermitHours", "best", "LHermitHours$BestOrder;", true)
  | 6 => ("HermitHours", "isKept", "Z", false)
  | _ => ("HermitHours", "readings", "I", false)
def tyX6 : Nat → FieldType := fun k => match k with
  | 0 => .object "HermitHours$Page"
  | 1 => .object "HermitHours$Cave"
  | 2 => .object "HermitHours$Cave"
  | 3 => .object "HermitHours$Day"
  | 4 => .object "HermitHours$Trials"
  | 5 => .object "HermitHours$BestOrder"
  | 6 => .boolean
  | _ => .int
theorem nmX6 : ∀ a, a < 8 → ∀ b, b < 8 → a ≠ b → (TX6 a).2.1 ≠ (TX6 b).2.1 := by decide +kernel
theorem tyX6_ok : ∀ k, k < 8 → parseFieldDescriptor (TX6 k).2.2.1 = some (tyX6 k) := by decide +kernel
abbrev cX6_init : ByteArray := prog_1_method_1_code
def yX6_init : MethodName := ⟨RX6, "<init>", "()V"⟩
abbrev cX6_letter : ByteArray := prog_1_method_2_code
def yX6_letter : MethodName := ⟨RX6, "letter", "(I)I"⟩
abbrev cX6_blank : ByteArray := prog_1_method_3_code
def yX6_blank : MethodName := ⟨RX6, "blank", "()I"⟩
abbrev cX6_fault : ByteArray := prog_1_method_4_code
def yX6_fault : MethodName := ⟨RX6, "fault", "()I"⟩
abbrev cX6_cave : ByteArray := prog_1_method_5_code
def yX6_cave : MethodName := ⟨RX6, "cave", "()I"⟩
abbrev cX6_pilgrim : ByteArray := prog_1_method_6_code
def yX6_pilgrim : MethodName := ⟨RX6, "pilgrim", "(II)I"⟩
abbrev cX6_as : ByteArray := prog_1_method_7_code
def yX6_as : MethodName := ⟨RX6, "as", "(II)I"⟩
abbrev cX6_come : ByteArray := prog_1_method_8_code
def yX6_come : MethodName := ⟨RX6, "come", "(II)I"⟩
abbrev cX6_trouble : ByteArray := prog_1_method_9_code
def yX6_trouble : MethodName := ⟨RX6, "trouble", "(II)I"⟩
abbrev cX6_patience : ByteArray := prog_1_method_10_code
def yX6_patience : MethodName := ⟨RX6, "patience", "(I)I"⟩
abbrev cX6_day : ByteArray := prog_1_method_11_code
def yX6_day : MethodName := ⟨RX6, "day", "(I)I"⟩
abbrev cX6_waiting : ByteArray := prog_1_method_12_code
def yX6_waiting : MethodName := ⟨RX6, "waiting", "(I)I"⟩
abbrev cX6_order : ByteArray := prog_1_method_13_code
def yX6_order : MethodName := ⟨RX6, "order", "(I)I"⟩
abbrev cX6_fit : ByteArray := prog_1_method_14_code
def yX6_fit : MethodName := ⟨RX6, "fit", "(II)I"⟩
abbrev cX6_see : ByteArray := prog_1_method_15_code
def yX6_see : MethodName := ⟨RX6, "see", "(II)I"⟩
abbrev cX6_forget : ByteArray := prog_1_method_16_code
def yX6_forget : MethodName := ⟨RX6, "forget", "()I"⟩
abbrev cX6_seasons : ByteArray := prog_1_method_17_code
def yX6_seasons : MethodName := ⟨RX6, "seasons", "(III)I"⟩
abbrev cX6_image : ByteArray := prog_1_method_18_code
def yX6_image : MethodName := ⟨RX6, "image", "()I"⟩
abbrev cX6_restore : ByteArray := prog_1_method_19_code
def yX6_restore : MethodName := ⟨RX6, "restore", "()I"⟩
abbrev cX6_count : ByteArray := prog_1_method_20_code
def yX6_count : MethodName := ⟨RX6, "count", "(I)I"⟩
abbrev cX6_digest : ByteArray := prog_1_method_21_code
def yX6_digest : MethodName := ⟨RX6, "digest", "()J"⟩
abbrev cX6_mixPilgrim : ByteArray := prog_1_method_22_code
def yX6_mixPilgrim : MethodName := ⟨RX6, "mixPilgrim", "(JI)J"⟩
abbrev cX6_mixCave : ByteArray := prog_1_method_23_code
def yX6_mixCave : MethodName := ⟨RX6, "mixCave", "(J)J"⟩
abbrev cX6_tellPilgrim : ByteArray := prog_1_method_24_code
def yX6_tellPilgrim : MethodName := ⟨RX6, "tellPilgrim", "(II)I"⟩
abbrev cX6_tellDay : ByteArray := prog_1_method_25_code
def yX6_tellDay : MethodName := ⟨RX6, "tellDay", "(I)I"⟩
abbrev cX6_tellOrder : ByteArray := prog_1_method_26_code
def yX6_tellOrder : MethodName := ⟨RX6, "tellOrder", "(I)I"⟩
abbrev cX6_tellFit : ByteArray := prog_1_method_27_code
def yX6_tellFit : MethodName := ⟨RX6, "tellFit", "(I)I"⟩
abbrev cX6_drawComings : ByteArray := prog_1_method_28_code
def yX6_drawComings : MethodName := ⟨RX6, "drawComings", "(LHermitHours$Day;I)I"⟩
abbrev cX6_nextSeed : ByteArray := prog_1_method_29_code
def yX6_nextSeed : MethodName := ⟨RX6, "nextSeed", "(I)I"⟩
abbrev cX6_mix : ByteArray := prog_1_method_30_code
def yX6_mix : MethodName := ⟨RX6, "mix", "(JJ)J"⟩
abbrev cX6_isWithin : ByteArray := prog_1_method_31_code
def yX6_isWithin : MethodName := ⟨RX6, "isWithin", "(III)Z"⟩
abbrev cX6_kindByLetter : ByteArray := prog_1_method_32_code
def yX6_kindByLetter : MethodName := ⟨RX6, "kindByLetter", "(I)I"⟩
abbrev cX6_leastSaying : ByteArray := prog_1_method_33_code
def yX6_leastSaying : MethodName := ⟨RX6, "leastSaying", "(II)I"⟩
def RX7 : String := "HermitHoursModel"
def TX7 : u_T := fun k => match k with
  | 0 => ("HermitHoursModel", "page", "[I", true)
  | 1 => ("HermitHoursModel", "pageMany", "I", false)
  | 2 => ("HermitHoursModel", "read", "[I", true)
  | 3 => ("HermitHoursModel", "readMany", "I", false)
  | 4 => ("HermitHoursModel", "readPatience", "I", false)
  | 5 => ("HermitHoursModel", "state", "I", false)
  | 6 => ("HermitHoursModel", "many", "I", false)
  | 7 => ("HermitHoursModel", "patienceNow", "I", false)
  | 8 => ("HermitHoursModel", "changes", "I", false)
  | 9 => ("HermitHoursModel", "cavesRead", "I", false)
  | 10 => ("HermitHoursModel", "rows", "[I", true)
  | 11 => ("HermitHoursModel", "received", "[I", true)
  | 12 => ("HermitHoursModel", "sayings", "[I", true)
  | 13 => ("HermitHoursModel", "patienceLeft", "I", false)
  | 14 => ("HermitHoursModel", "townAt", "I", false)
  | 15 => ("HermitHoursModel", "saidBits", "I", false)
  | 16 => ("HermitHoursModel", "order", "[I", true)
  | 17 => ("HermitHoursModel", "bestOrder", "[I", true)
  | 18 => ("HermitHoursModel", "seenMany", "I", false)
  | 19 => ("HermitHoursModel", "sights", "[I", true)
  | 20 => ("HermitHoursModel", "parts", "[I", true)
  | 21 => ("HermitHoursModel", "seedNow", "I", false)
  | 22 => ("HermitHoursModel", "savedRows", "[I", true)
  | 23 => ("HermitHoursModel", "keptCave", "I", false)
  | 24 => ("HermitHoursModel", "keptPatience", "I", false)
  | 25 => ("HermitHoursModel", "keptChanges", "I", false)
  | 26 => ("HermitHoursModel", "keptSeen", "I", false)
  | 27 => ("HermitHoursModel", "keptRows", "[I", true)
  | 28 => ("HermitHoursModel", "keptSights", "[I", true)
  | _ => ("HermitHoursModel", "hash", "J", false)
def tyX7 : Nat → FieldType := fun k => match k with
  | 0 => .array .int
  | 1 => .int
  | 2 => .array .int
  | 3 => .int
  | 4 => .int
  | 5 => .int
  | 6 => .int
  | 7 => .int
  | 8 => .int
  | 9 => .int
  | 10 => .array .int
  | 11 => .array .int
  | 12 => .array .int
  | 13 => .int
  | 14 => .int
  | 15 => .int
  | 16 => .array .int
  | 17 => .array .int
  | 18 => .int
  | 19 => .array .int
  | 20 => .array .int
  | 21 => .int
  | 22 => .array .int
  | 23 => .int
  | 24 => .int
  | 25 => .int
  | 26 => .int
  | 27 => .array .int
  | 28 => .array .int
  | _ => .long
theorem nmX7 : ∀ a, a < 30 → ∀ b, b < 30 → a ≠ b → (TX7 a).2.1 ≠ (TX7 b).2.1 := by decide +kernel
theorem tyX7_ok : ∀ k, k < 30 → parseFieldDescriptor (TX7 k).2.2.1 = some (tyX7 k) := by decide +kernel
abbrev cX7_init : ByteArray := prog_9_method_1_code
def yX7_init : MethodName := ⟨RX7, "<init>", "()V"⟩
abbrev cX7_in : ByteArray := prog_9_method_2_code
def yX7_in : MethodName := ⟨RX7, "in", "(JJJ)Z"⟩
abbrev cX7_copy : ByteArray := prog_9_method_3_code
def yX7_copy : MethodName := ⟨RX7, "copy", "([I[I)V"⟩
abbrev cX7_letter : ByteArray := prog_9_method_4_code
def yX7_letter : MethodName := ⟨RX7, "letter", "(I)I"⟩
abbrev cX7_blank : ByteArray := prog_9_method_5_code
def yX7_blank : MethodName := ⟨RX7, "blank", "()I"⟩
abbrev cX7_kindBy : ByteArray := prog_9_method_6_code
def yX7_kindBy : MethodName := ⟨RX7, "kindBy", "(I)I"⟩
abbrev cX7_go : ByteArray := prog_9_method_7_code
def yX7_go : MethodName := ⟨RX7, "go", "(I)Z"⟩
abbrev cX7_faultOf : ByteArray := prog_9_method_8_code
def yX7_faultOf : MethodName := ⟨RX7, "faultOf", "()I"⟩
abbrev cX7_fault : ByteArray := prog_9_method_9_code
def yX7_fault : MethodName := ⟨RX7, "fault", "()I"⟩
abbrev cX7_cave : ByteArray := prog_9_method_10_code
def yX7_cave : MethodName := ⟨RX7, "cave", "()I"⟩
abbrev cX7_lacks : ByteArray := prog_9_method_11_code
def yX7_lacks : MethodName := ⟨RX7, "lacks", "()Z"⟩
abbrev cX7_isPilgrim : ByteArray := prog_9_method_12_code
def yX7_isPilgrim : MethodName := ⟨RX7, "isPilgrim", "(I)Z"⟩
abbrev cX7_staysOf : ByteArray := prog_9_method_13_code
def yX7_staysOf : MethodName := ⟨RX7, "staysOf", "(I)I"⟩
abbrev cX7_wearsOf : ByteArray := prog_9_method_14_code
def yX7_wearsOf : MethodName := ⟨RX7, "wearsOf", "(I)I"⟩
abbrev cX7_isPeer : ByteArray := prog_9_method_15_code
def yX7_isPeer : MethodName := ⟨RX7, "isPeer", "(I)Z"⟩
abbrev cX7_sayingFor : ByteArray := prog_9_method_16_code
def yX7_sayingFor : MethodName := ⟨RX7, "sayingFor", "(I)I"⟩
abbrev cX7_tellSaying : ByteArray := prog_9_method_17_code
def yX7_tellSaying : MethodName := ⟨RX7, "tellSaying", "(I)V"⟩
abbrev cX7_isAhead : ByteArray := prog_9_method_18_code
def yX7_isAhead : MethodName := ⟨RX7, "isAhead", "(II)Z"⟩
abbrev cX7_nextAt : ByteArray := prog_9_method_19_code
def yX7_nextAt : MethodName := ⟨RX7, "nextAt", "(I)I"⟩
abbrev cX7_layDay : ByteArray := prog_9_method_20_code
def yX7_layDay : MethodName := ⟨RX7, "layDay", "()V"⟩
abbrev cX7_waitsAt : ByteArray := prog_9_method_21_code
def yX7_waitsAt : MethodName := ⟨RX7, "waitsAt", "(II)Z"⟩
abbrev cX7_waitingAt : ByteArray := prog_9_method_22_code
def yX7_waitingAt : MethodName := ⟨RX7, "waitingAt", "(I)I"⟩
abbrev cX7_waitsOf : ByteArray := prog_9_method_23_code
def yX7_waitsOf : MethodName := ⟨RX7, "waitsOf", "(I)I"⟩
abbrev cX7_meetings : ByteArray := prog_9_method_24_code
def yX7_meetings : MethodName := ⟨RX7, "meetings", "()I"⟩
abbrev cX7_receivedMany : ByteArray := prog_9_method_25_code
def yX7_receivedMany : MethodName := ⟨RX7, "receivedMany", "()I"⟩
abbrev cX7_helpedMany : ByteArray := prog_9_method_26_code
def yX7_helpedMany : MethodName := ⟨RX7, "helpedMany", "()I"⟩
abbrev cX7_tell : ByteArray := prog_9_method_27_code
def yX7_tell : MethodName := ⟨RX7, "tell", "(II)I"⟩
abbrev cX7_pilgrim : ByteArray := prog_9_method_28_code
def yX7_pilgrim : MethodName := ⟨RX7, "pilgrim", "(II)I"⟩
abbrev cX7_as : ByteArray := prog_9_method_29_code
def yX7_as : MethodName := ⟨RX7, "as", "(II)I"⟩
abbrev cX7_come : ByteArray := prog_9_method_30_code
def yX7_come : MethodName := ⟨RX7, "come", "(II)I"⟩
abbrev cX7_trouble : ByteArray := prog_9_method_31_code
def yX7_trouble : MethodName := ⟨RX7, "trouble", "(II)I"⟩
abbrev cX7_patience : ByteArray := prog_9_method_32_code
def yX7_patience : MethodName := ⟨RX7, "patience", "(I)I"⟩
abbrev cX7_dayOf : ByteArray := prog_9_method_33_code
def yX7_dayOf : MethodName := ⟨RX7, "dayOf", "(I)I"⟩
abbrev cX7_day : ByteArray := prog_9_method_34_code
def yX7_day : MethodName := ⟨RX7, "day", "(I)I"⟩
abbrev cX7_waitingOf : ByteArray := prog_9_method_35_code
def yX7_waitingOf : MethodName := ⟨RX7, "waitingOf", "(I)I"⟩
abbrev cX7_waiting : ByteArray := prog_9_method_36_code
def yX7_waiting : MethodName := ⟨RX7, "waiting", "(I)I"⟩
abbrev cX7_layOrder : ByteArray := prog_9_method_37_code
def yX7_layOrder : MethodName := ⟨RX7, "layOrder", "(I)Z"⟩
abbrev cX7_helpedBy : ByteArray := prog_9_method_38_code
def yX7_helpedBy : MethodName := ⟨RX7, "helpedBy", "()I"⟩
abbrev cX7_orderOf : ByteArray := prog_9_method_39_code
def yX7_orderOf : MethodName := ⟨RX7, "orderOf", "(I)I"⟩
abbrev cX7_order : ByteArray := prog_9_method_40_code
def yX7_order : MethodName := ⟨RX7, "order", "(I)I"⟩
abbrev cX7_fitOf : ByteArray := prog_9_method_41_code
def yX7_fitOf : MethodName := ⟨RX7, "fitOf", "(II)I"⟩
abbrev cX7_fit : ByteArray := prog_9_method_42_code
def yX7_fit : MethodName := ⟨RX7, "fit", "(II)I"⟩
abbrev cX7_see : ByteArray := prog_9_method_43_code
def yX7_see : MethodName := ⟨RX7, "see", "(II)I"⟩
abbrev cX7_forget : ByteArray := prog_9_method_44_code
def yX7_forget : MethodName := ⟨RX7, "forget", "()I"⟩
abbrev cX7_whenOf : ByteArray := prog_9_method_45_code
def yX7_whenOf : MethodName := ⟨RX7, "whenOf", "(I)I"⟩
abbrev cX7_lookOf : ByteArray := prog_9_method_46_code
def yX7_lookOf : MethodName := ⟨RX7, "lookOf", "(I)I"⟩
abbrev cX7_draw : ByteArray := prog_9_method_47_code
def yX7_draw : MethodName := ⟨RX7, "draw", "(I)I"⟩
abbrev cX7_seasons : ByteArray := prog_9_method_48_code
def yX7_seasons : MethodName := ⟨RX7, "seasons", "(III)I"⟩
abbrev cX7_image : ByteArray := prog_9_method_49_code
def yX7_image : MethodName := ⟨RX7, "image", "()I"⟩
abbrev cX7_restore : ByteArray := prog_9_method_50_code
def yX7_restore : MethodName := ⟨RX7, "restore", "()I"⟩
abbrev cX7_staysAll : ByteArray := prog_9_method_51_code
def yX7_staysAll : MethodName := ⟨RX7, "staysAll", "()I"⟩
abbrev cX7_unlike : ByteArray := prog_9_method_52_code
def yX7_unlike : MethodName := ⟨RX7, "unlike", "()I"⟩
abbrev cX7_countOf : ByteArray := prog_9_method_53_code
def yX7_countOf : MethodName := ⟨RX7, "countOf", "(I)I"⟩
abbrev cX7_count : ByteArray := prog_9_method_54_code
def yX7_count : MethodName := ⟨RX7, "count", "(I)I"⟩
abbrev cX7_say : ByteArray := prog_9_method_55_code
def yX7_say : MethodName := ⟨RX7, "say", "(J)V"⟩
abbrev cX7_sayPilgrim : ByteArray := prog_9_method_56_code
def yX7_sayPilgrim : MethodName := ⟨RX7, "sayPilgrim", "(I)V"⟩
abbrev cX7_sayDay : ByteArray := prog_9_method_57_code
def yX7_sayDay : MethodName := ⟨RX7, "sayDay", "()V"⟩
abbrev cX7_digest : ByteArray := prog_9_method_58_code
def yX7_digest : MethodName := ⟨RX7, "digest", "()J"⟩
def RJ6 : String := "java/lang/Integer"
def TJ6 : u_T := fun k => match k with
  | _ => ("", "", "", false)
def tyJ6 : Nat → FieldType := fun k => match k with
  | _ => .int
theorem nmJ6 : ∀ a, a < 0 → ∀ b, b < 0 → a ≠ b → (TJ6 a).2.1 ≠ (TJ6 b).2.1 := by decide +kernel
theorem tyJ6_ok : ∀ k, k < 0 → parseFieldDescriptor (TJ6 k).2.2.1 = some (tyJ6 k) := by decide +kernel
abbrev cJ6_bitCount_0f7a4 : ByteArray := prog_10_method_49_code
def yJ6_bitCount_0f7a4 : MethodName := ⟨RJ6, "bitCount", "(I)I"⟩
def RJ9 : String := "java/lang/Math"
def TJ9 : u_T := fun k => match k with
  | _ => ("", "", "", false)
def tyJ9 : Nat → FieldType := fun k => match k with
  | _ => .int
theorem nmJ9 : ∀ a, a < 0 → ∀ b, b < 0 → a ≠ b → (TJ9 a).2.1 ≠ (TJ9 b).2.1 := by decide +kernel
theorem tyJ9_ok : ∀ k, k < 0 → parseFieldDescriptor (TJ9 k).2.2.1 = some (tyJ9 k) := by decide +kernel
abbrev cJ9_max_7cf53 : ByteArray := prog_11_method_65_code
def yJ9_max_7cf53 : MethodName := ⟨RJ9, "max", "(II)I"⟩
abbrev cJ9_min_7cf53 : ByteArray := prog_11_method_69_code
def yJ9_min_7cf53 : MethodName := ⟨RJ9, "min", "(II)I"⟩
def RJ10 : String := "java/lang/System"
def TJ10 : u_T := fun k => match k with
  | _ => ("", "", "", false)
def tyJ10 : Nat → FieldType := fun k => match k with
  | _ => .int
theorem nmJ10 : ∀ a, a < 0 → ∀ b, b < 0 → a ≠ b → (TJ10 a).2.1 ≠ (TJ10 b).2.1 := by decide +kernel
theorem tyJ10_ok : ∀ k, k < 0 → parseFieldDescriptor (TJ10 k).2.2.1 = some (tyJ10 k) := by decide +kernel
def RL : String := "HermitHoursLaw"
abbrev cL_law : ByteArray := code
abbrev vwCl : List vw_C := [(RX0, TX0, 4), (RX1, TX1, 7), (RX2, TX2, 8), (RX3, TX3, 2), (RX4, TX4, 3), (RX5, TX5, 4), (RX6, TX6, 8), (RX7, TX7, 30)]
