/-! words for places, kinds and what each kind does to the marks -/
def touch (k i m : Nat) : Nat := if k = 1 then (m + 8) % 32 else if k = 2 then m - m % 8 + (3 * (m % 8) + i + 1) % 8 else if k = 3 then m - m % 8 else if k = 4 then (m + 8) % 32 - (m + 8) % 32 % 8 + (7 - (m + 8) % 32 % 8) else m
theorem touch_lt {k i m : Nat} (h : m < 32) : touch k i m < 32 := by unfold touch; repeat' split
                                                                     all_goals omega
def saw (so : Int32) (k : Nat) : Nat := if so = nI 2 then k / 32 else if so = 0 then k % 32 / 8 else k % 32 % 8
theorem saw_lt {so : Int32} {k : Nat} (h : k < 128) : saw so k < 8 := by unfold saw; repeat' split
                                                                         all_goals omega
def pE (k i : Nat) : va_E := if k = 1 then .inr (1, []) else if k = 2 then .inr (7, [.int (nI i)]) else if k = 3 then .inr (9, []) else if k = 4 then .inr (2, []) else .inr (6, [])
def pplT (T : va_W) (n : Nat) (kd pa : Nat → Nat) : Prop := ∀ i, i < n → ∃ q : Nat, T[q]? = some (pa i, pE (kd i) i)
theorem g_tail {X T : va_W} {q : Nat} {x : Nat × va_E} (h : T[q]? = some x) : (X ++ T)[X.length + q]? = some x := by
  rw [List.getElem?_append_right (Nat.le_add_right _ _), Nat.add_sub_cancel_left]; exact h

set_option maxHeartbeats 4000000 in
set_option maxRecDepth 100000 in
theorem c_holderAt (l : Launch) (G : gG) (k : Nat) (hk : k < 2 ^ 31) : Met l yX11_holderAt wsX11_holderAt ({ frames := 0, cells := 0, slots := 0, locals := 0 } : Room) (gR G [.int (nI k)] []) (vp_Si (fun r : Int32 => r = (nI (k / 32)))) 0 0 (fun _ => False) := by
  refine Met.ofW (cc := cX11_holderAt) (maxL := 1) (ret := (some .int)) (by decide) rfl ?_
  intro p e s m args below meth c s₁ B hml hv
  obtain ⟨rfl, hP, hK⟩ := hv
  have hx := B.exec
  have hb := B.bytes
  have hr := B.returns
  have hts := atoms_spec (ws := wsX11_holderAt) B.pre
  have hown : s.vm.findClass RX11 = some m.cls := findClass_of_methodNamed B.named
  have hlocks := B.notSynchronized
  have hl := lv_entry ([.int (nI k)]) (n := 1) (Nat.le_of_ble_eq_true rfl)
  rw [lg_entry_eq]
  generalize (lg_sl ([.int (nI k)]) ++ List.replicate (1 - (lg_sl ([.int (nI k)])).length) Slot.unset).toArray = ls at hl ⊢
  have hl : lv_has ls 1 [(0, .int (nI k))] := hl
  refine lv_iload_n hx hb dX11_holderAt_0 rfl (lv_at hl 0 rfl) ?_
  refine lv_bipush (v := (nI 32)) hx hb dX11_holderAt_1 (by decide) ?_
  refine lv_idiv hx hb dX11_holderAt_3 (by decide) ?_
  refine g_top (y := (nI (k / 32))) (pk_div (by omega) (by omega) (by omega)) ?_
  exact W.iret hx hb hr (fun t9 ht9 _ => ⟨(nI (k / 32)), rfl, rfl, ht9⟩) (fun _ h => absurd h List.not_mem_nil) dX11_holderAt_4

set_option maxHeartbeats 4000000 in
set_option maxRecDepth 100000 in
theorem c_marksAt (l : Launch) (G : gG) (k : Nat) (hk : k < 2 ^ 31) : Met l yX11_marksAt wsX11_marksAt ({ frames := 0, cells := 0, slots := 0, locals := 0 } : Room) (gR G [.int (nI k)] []) (vp_Si (fun r : Int32 => r = (nI (k % 32)))) 0 0 (fun _ => False) := by
  refine Met.ofW (cc := cX11_marksAt) (maxL := 1) (ret := (some .int)) (by decide) rfl ?_
  intro p e s m args below meth c s₁ B hml hv
  obtain ⟨rfl, hP, hK⟩ := hv
  have hx := B.exec
  have hb := B.bytes
  have hr := B.returns
  have hts := atoms_spec (ws := wsX11_marksAt) B.pre
  have hown : s.vm.findClass RX11 = some m.cls := findClass_of_methodNamed B.named
  have hlocks := B.notSynchronized
  have hl := lv_entry ([.int (nI k)]) (n := 1) (Nat.le_of_ble_eq_true rfl)
  rw [lg_entry_eq]
  generalize (lg_sl ([.int (nI k)]) ++ List.replicate (1 - (lg_sl ([.int (nI k)])).length) Slot.unset).toArray = ls at hl ⊢
  have hl : lv_has ls 1 [(0, .int (nI k))] := hl
  refine lv_iload_n hx hb dX11_marksAt_0 rfl (lv_at hl 0 rfl) ?_
  refine lv_bipush (v := (nI 32)) hx hb dX11_marksAt_1 (by decide) ?_
  refine lv_irem hx hb dX11_marksAt_3 (by decide) ?_
  refine g_top (y := (nI (k % 32))) (pk_rem (by omega) (by omega) (by omega)) ?_
  exact W.iret hx hb hr (fun t9 ht9 _ => ⟨(nI (k % 32)), rfl, rfl, ht9⟩) (fun _ h => absurd h List.not_mem_nil) dX11_marksAt_4

set_option maxHeartbeats 4000000 in
set_option maxRecDepth 100000 in
theorem c_placeOf (l : Launch) (G : gG) (h : Nat) (k : Nat) (hh : h < 4) (hk : k < 32) : Met l yX11_placeOf wsX11_placeOf ({ frames := 0, cells := 0, slots := 0, locals := 0 } : Room) (gR G [.int (nI h), .int (nI k)] []) (vp_Si (fun r : Int32 => r = (nI (32 * h + k)))) 0 0 (fun _ => False) := by
  refine Met.ofW (cc := cX11_placeOf) (maxL := 3) (ret := (some .int)) (by decide) rfl ?_
  intro p e s m args below meth c s₁ B hml hv
  obtain ⟨rfl, hP, hK⟩ := hv
  have hx := B.exec
  have hb := B.bytes
  have hr := B.returns
  have hts := atoms_spec (ws := wsX11_placeOf) B.pre
  have hown : s.vm.findClass RX11 = some m.cls := findClass_of_methodNamed B.named
  have hlocks := B.notSynchronized
  have hl := lv_entry ([.int (nI h), .int (nI k)]) (n := 3) (Nat.le_of_ble_eq_true rfl)
  rw [lg_entry_eq]
  generalize (lg_sl ([.int (nI h), .int (nI k)]) ++ List.replicate (3 - (lg_sl ([.int (nI h), .int (nI k)])).length) Slot.unset).toArray = ls at hl ⊢
  have hl : lv_has ls 3 [(0, .int (nI h)), (1, .int (nI k))] := hl
  refine lv_iload_n hx hb dX11_placeOf_0 rfl (lv_at hl 0 rfl) ?_
  refine lv_if_lt (tgt := 23) hx hb dX11_placeOf_1 (by decide) (fun c_1 => ?_) (fun c_1 => ?_)
  · skip
    have c_1 := (cLtNN (a := h) (b := 0) (by omega) (by omega)).mp c_1
    exact absurd c_1 (by omega)
  · skip
    have c_1 := gNot (cLtNN (a := h) (b := 0) (by omega) (by omega)) c_1
    refine lv_iload_n hx hb dX11_placeOf_4 rfl (lv_at hl 0 rfl) ?_
    refine lv_iconst (v := (nI 4)) hx hb dX11_placeOf_5 (by decide) ?_
    refine lv_icmp_ge (tgt := 23) hx hb dX11_placeOf_6 (by decide) (fun c_2 => ?_) (fun c_2 => ?_)
    · skip
      have c_2 := (cLeNN (a := 4) (b := h) (by omega) (by omega)).mp c_2
      exact absurd c_2 (by omega)
    · skip
      have c_2 := gNot (cLeNN (a := 4) (b := h) (by omega) (by omega)) c_2
      refine lv_iload_n hx hb dX11_placeOf_9 rfl (lv_at hl 1 rfl) ?_
      refine lv_if_lt (tgt := 23) hx hb dX11_placeOf_10 (by decide) (fun c_3 => ?_) (fun c_3 => ?_)
      · skip
        have c_3 := (cLtNN (a := k) (b := 0) (by omega) (by omega)).mp c_3
        exact absurd c_3 (by omega)
      · skip
        have c_3 := gNot (cLtNN (a := k) (b := 0) (by omega) (by omega)) c_3
        refine lv_iload_n hx hb dX11_placeOf_13 rfl (lv_at hl 1 rfl) ?_
        refine lv_bipush (v := (nI 32)) hx hb dX11_placeOf_14 (by decide) ?_
        refine lv_icmp_ge (tgt := 23) hx hb dX11_placeOf_16 (by decide) (fun c_4 => ?_) (fun c_4 => ?_)
        · skip
          have c_4 := (cLeNN (a := 32) (b := k) (by omega) (by omega)).mp c_4
          exact absurd c_4 (by omega)
        · skip
          have c_4 := gNot (cLeNN (a := 32) (b := k) (by omega) (by omega)) c_4
          refine lv_iconst (v := (nI 1)) hx hb dX11_placeOf_19 (by decide) ?_
          refine lv_goto (tgt := 24) hx hb dX11_placeOf_20 (by decide) ?_
          refine lv_istore_n (lv' := [(2, .int (nI 1)), (0, .int (nI h)), (1, .int (nI k))]) hx hb dX11_placeOf_24 rfl hl (by decide) rfl (fun ls hl => ?_)
          refine lv_iload_n hx hb dX11_placeOf_25 rfl (lv_at hl 0 rfl) ?_
          refine lv_if_eq (tgt := 38) hx hb dX11_placeOf_26 (by decide) (fun c_5 => ?_) (fun c_5 => ?_)
          · skip
            have c_5 := (cEqNN (a := 1) (b := 0) (by omega) (by omega)).mp c_5
            exact absurd c_5 (by decide)
          · skip
            have c_5 := gNot (cEqNN (a := 1) (b := 0) (by omega) (by omega)) c_5
            refine lv_bipush (v := (nI 32)) hx hb dX11_placeOf_29 (by decide) ?_
            refine lv_iload_n hx hb dX11_placeOf_31 rfl (lv_at hl 1 rfl) ?_
            refine lv_imul hx hb dX11_placeOf_32 ?_
            refine g_top (y := (nI (32 * h))) (pk_mul _ _) ?_
            refine lv_iload_n hx hb dX11_placeOf_33 rfl (lv_at hl 2 rfl) ?_
            refine lv_iadd hx hb dX11_placeOf_34 ?_
            refine g_top (y := (nI ((32 * h) + k))) (nI_add _ _) ?_
            refine lv_goto (tgt := 39) hx hb dX11_placeOf_35 (by decide) ?_
            exact W.iret hx hb hr (fun t9 ht9 _ => ⟨(nI ((32 * h) + k)), rfl, rfl, ht9⟩) (fun _ h => absurd h List.not_mem_nil) dX11_placeOf_39

set_option maxHeartbeats 4000000 in
set_option maxRecDepth 100000 in
theorem c_seenAt (l : Launch) (G : gG) (k : Nat) (so : Int32) (hk : k < 128) : Met l yX11_seenAt wsX11_seenAt ({ frames := 1, cells := 0, slots := 0, locals := 20 } : Room) (gR G [.int (nI k), .int so] []) (vp_Si (fun r : Int32 => r = (nI (saw so k)))) 0 0 (fun _ => False) := by
  refine Met.ofW (cc := cX11_seenAt) (maxL := 2) (ret := (some .int)) (by decide) rfl ?_
  intro p e s m args below meth c s₁ B hml hv
  obtain ⟨rfl, hP, hK⟩ := hv
  have hx := B.exec
  have hb := B.bytes
  have hr := B.returns
  have hts := atoms_spec (ws := wsX11_seenAt) B.pre
  have hown : s.vm.findClass RX11 = some m.cls := findClass_of_methodNamed B.named
  have hlocks := B.notSynchronized
  have hl := lv_entry ([.int (nI k), .int so]) (n := 2) (Nat.le_of_ble_eq_true rfl)
  rw [lg_entry_eq]
  generalize (lg_sl ([.int (nI k), .int so]) ++ List.replicate (2 - (lg_sl ([.int (nI k), .int so])).length) Slot.unset).toArray = ls at hl ⊢
  have hl : lv_has ls 2 [(0, .int (nI k)), (1, .int so)] := hl
  refine lv_iload_n hx hb dX11_seenAt_0 rfl (lv_at hl 1 rfl) ?_
  refine lv_iconst (v := (nI 2)) hx hb dX11_seenAt_1 (by decide) ?_
  refine lv_icmp_ne (tgt := 10) hx hb dX11_seenAt_2 (by decide) (fun c_1 => ?_) (fun c_1 => ?_)
  · skip
    refine lv_iload_n hx hb dX11_seenAt_10 rfl (lv_at hl 1 rfl) ?_
    refine lv_if_ne (tgt := 24) hx hb dX11_seenAt_11 (by decide) (fun c_2 => ?_) (fun c_2 => ?_)
    · skip
      refine lv_iload_n hx hb dX11_seenAt_24 rfl (lv_at hl 0 rfl) ?_
      refine g_callSi (va_runS (As := [.int (nI k)]) (rest := []) ⟨hx, hb, hml, hown, hts⟩ (c_marksAt l G k (by omega)) (va_cwS 1 hts gX11_seenAt_X11_marksAt rfl rfl rfl (by decide +kernel) ⟨Nat.le_of_ble_eq_true rfl, Nat.le_of_ble_eq_true rfl⟩) (gR.S hK (show va_P G.1 vwCl [] s.heap from g_nil)) rfl rfl hl.1 rfl (lv_room (Nat.le_of_ble_eq_true rfl)) dX11_seenAt_25 ⟨Nat.le_of_ble_eq_true rfl, Nat.le_of_ble_eq_true rfl⟩) (fun r hr0 => ?_)
      subst hr0
      refine lv_bipush (v := (nI 8)) hx hb dX11_seenAt_28 (by decide) ?_
      refine lv_irem hx hb dX11_seenAt_30 (by decide) ?_
      refine g_top (y := (nI ((k % 32) % 8))) (pk_rem (by omega) (by omega) (by omega)) ?_
      have w9_r : (nI ((k % 32) % 8)) = (nI (saw so k)) := (by unfold saw; first | rw [if_pos (by assumption)] | rw [if_neg (by assumption), if_pos (by assumption)] | rw [if_neg (by assumption), if_neg (by assumption)])
      exact W.iret hx hb hr (fun t9 ht9 _ => ⟨(nI ((k % 32) % 8)), rfl, w9_r, ht9⟩) (fun _ h => absurd h List.not_mem_nil) dX11_seenAt_31
    · skip
      refine lv_iload_n hx hb dX11_seenAt_14 rfl (lv_at hl 0 rfl) ?_
      refine g_callSi (va_runS (As := [.int (nI k)]) (rest := []) ⟨hx, hb, hml, hown, hts⟩ (c_marksAt l G k (by omega)) (va_cwS 1 hts gX11_seenAt_X11_marksAt rfl rfl rfl (by decide +kernel) ⟨Nat.le_of_ble_eq_true rfl, Nat.le_of_ble_eq_true rfl⟩) (gR.S hK (show va_P G.1 vwCl [] s.heap from g_nil)) rfl rfl hl.1 rfl (lv_room (Nat.le_of_ble_eq_true rfl)) dX11_seenAt_15 ⟨Nat.le_of_ble_eq_true rfl, Nat.le_of_ble_eq_true rfl⟩) (fun r hr0 => ?_)
      subst hr0
      refine lv_bipush (v := (nI 8)) hx hb dX11_seenAt_18 (by decide) ?_
      refine lv_idiv hx hb dX11_seenAt_20 (by decide) ?_
      refine g_top (y := (nI ((k % 32) / 8))) (pk_div (by omega) (by omega) (by omega)) ?_
      refine lv_goto (tgt := 31) hx hb dX11_seenAt_21 (by decide) ?_
      have w9_r : (nI ((k % 32) / 8)) = (nI (saw so k)) := (by unfold saw; first | rw [if_pos (by assumption)] | rw [if_neg (by assumption), if_pos (by assumption)] | rw [if_neg (by assumption), if_neg (by assumption)])
      exact W.iret hx hb hr (fun t9 ht9 _ => ⟨(nI ((k % 32) / 8)), rfl, w9_r, ht9⟩) (fun _ h => absurd h List.not_mem_nil) dX11_seenAt_31
  · skip
    refine lv_iload_n hx hb dX11_seenAt_5 rfl (lv_at hl 0 rfl) ?_
    refine g_callSi (va_runS (As := [.int (nI k)]) (rest := []) ⟨hx, hb, hml, hown, hts⟩ (c_holderAt l G k (by omega)) (va_cwS 1 hts gX11_seenAt_X11_holderAt rfl rfl rfl (by decide +kernel) ⟨Nat.le_of_ble_eq_true rfl, Nat.le_of_ble_eq_true rfl⟩) (gR.S hK (show va_P G.1 vwCl [] s.heap from g_nil)) rfl rfl hl.1 rfl (lv_room (Nat.le_of_ble_eq_true rfl)) dX11_seenAt_6 ⟨Nat.le_of_ble_eq_true rfl, Nat.le_of_ble_eq_true rfl⟩) (fun r hr0 => ?_)
    subst hr0
    have w9_r : (nI (k / 32)) = (nI (saw so k)) := (by unfold saw; first | rw [if_pos (by assumption)] | rw [if_neg (by assumption), if_pos (by assumption)] | rw [if_neg (by assumption), if_neg (by assumption)])
    exact W.iret hx hb hr (fun t9 ht9 _ => ⟨(nI (k / 32)), rfl, w9_r, ht9⟩) (fun _ h => absurd h List.not_mem_nil) dX11_seenAt_9

set_option maxHeartbeats 4000000 in
set_option maxRecDepth 100000 in
theorem c_fill (l : Launch) (G : gG) (h0 : Nat) (n : Nat) (f : Nat → Int32) (x : Int32) (sz : Nat) (hn : n < 2 ^ 31) : Met l yJ7_fill_53178 wsJ7_fill_53178 ({ frames := 0, cells := 0, slots := 0, locals := 0 } : Room) (gM G [.ref h0, .int x] [(h0, .inl (G.2.1, n, .inl f))] sz) (va_Qv (fun (u : Unit) => True) (fun u t => va_P G.1 vwCl [(h0, .inl (G.2.1, n, .inl (fun _ => x)))] t.heap ∧ va_D (va_A [(h0, .inl (G.2.1, n, .inl f))] sz) [(h0, .inl (G.2.1, n, .inl (fun _ => x)))]) (va_A [(h0, .inl (G.2.1, n, .inl f))] sz)) 0 0 (va_A [(h0, .inl (G.2.1, n, .inl f))] sz) := by
  refine Met.ofW (cc := cJ7_fill_53178) (maxL := 4) (ret := none) (by decide) rfl ?_
  intro p e s m args below meth c s₁ B hml hv
  obtain ⟨rfl, hsz, hP, hK, hD0⟩ := hv
  have hx := B.exec
  have hb := B.bytes
  have hr := B.returns
  have hts := atoms_spec (ws := wsJ7_fill_53178) B.pre
  have hown : s.vm.findClass RJ7 = some m.cls := findClass_of_methodNamed B.named
  have hlocks := B.notSynchronized
  subst hsz
  have hD := hD0.self (sz := s.heap.size)
  generalize hAe : va_A [(h0, .inl (G.2.1, n, .inl f))] s.heap.size = A at hD ⊢
  have hA : ∀ q : Nat, s.heap.size ≤ q → A q := fun q h => by rw [← hAe]; exact Or.inr h
  have hS : va_S A s.heap s.heap [] := va_S.rf
  clear hAe hD0
  have hl := lv_entry ([.ref h0, .int x]) (n := 4) (Nat.le_of_ble_eq_true rfl)
  rw [lg_entry_eq]
  generalize (lg_sl ([.ref h0, .int x]) ++ List.replicate (4 - (lg_sl ([.ref h0, .int x])).length) Slot.unset).toArray = ls at hl ⊢
  have hl : lv_has ls 4 [(0, .ref h0), (1, .int x)] := hl
  refine lv_iconst (v := (nI 0)) hx hb dJ7_fill_53178_0 (by decide) ?_
  refine lv_istore_n (lv' := [(2, .int (nI 0)), (0, .ref h0), (1, .int x)]) hx hb dJ7_fill_53178_1 rfl hl (by decide) rfl (fun ls hl => ?_)
  refine lv_aload_n hx hb dJ7_fill_53178_2 rfl (lv_at hl 1 rfl) ?_
  refine va_alen hx hb hK.1 hP 0 0 rfl rfl (v := (nI n)) rfl dJ7_fill_53178_3 ?_
  refine lv_istore_n (lv' := [(3, .int (nI n)), (2, .int (nI 0)), (0, .ref h0), (1, .int x)]) hx hb dJ7_fill_53178_4 rfl hl (by decide) rfl (fun ls hl => ?_)
  refine g_cutM2 (α := Nat) (β := Nat → Int32) 5 (fun i f2 => []) (fun i f2 H locs ls => (i ≤ n) ∧ (∀ k, k < i → f2 k = x) ∧ va_P G.1 vwCl [(h0, .inl (G.2.1, n, .inl f2))] H ∧ va_D A [(h0, .inl (G.2.1, n, .inl f2))] ∧ va_S A s.heap H locs ∧ lv_has ls 4 [(0, .ref h0), (1, .int x), (2, .int (nI i)), (3, .int (nI n))]) (g_loopM2 (α := Nat) (β := Nat → Int32) 5 (fun i f2 => []) (fun i f2 H locs ls => (i ≤ n) ∧ (∀ k, k < i → f2 k = x) ∧ va_P G.1 vwCl [(h0, .inl (G.2.1, n, .inl f2))] H ∧ va_D A [(h0, .inl (G.2.1, n, .inl f2))] ∧ va_S A s.heap H locs ∧ lv_has ls 4 [(0, .ref h0), (1, .int x), (2, .int (nI i)), (3, .int (nI n))]) (fun i f2 => n - i) ?_) (fun L5_1 => ?_)
  · intro i f2 H locs ls hI L5_1
    obtain ⟨hi, hf, hP, hD, hS, hl⟩ := hI
    refine lv_iload_n hx hb dJ7_fill_53178_5 rfl (lv_at hl 2 rfl) ?_
    refine lv_iload_n hx hb dJ7_fill_53178_6 rfl (lv_at hl 3 rfl) ?_
    refine lv_icmp_ge (tgt := 20) hx hb dJ7_fill_53178_7 (by decide) (fun c_2 => ?_) (fun c_2 => ?_)
    · skip
      have c_2 := (cLeNN (a := n) (b := i) (by omega) (by omega)).mp c_2
      have hP := g_arr hP 0 rfl (show ∀ k, k < n → f2 k = (fun _ => x) k from fun k hk => hf k (by omega))
      have hD := hD.set (p := 0) (a := h0) (e := .inl (G.2.1, n, .inl (fun _ => x))) rfl
      have hP : va_P G.1 vwCl [(h0, .inl (G.2.1, n, .inl (fun _ => x)))] H := hP
      have hD : va_D A [(h0, .inl (G.2.1, n, .inl (fun _ => x)))] := hD
      have hP9 : va_P G.1 vwCl [(h0, .inl (G.2.1, n, .inl (fun _ => x)))] H := (hP.sub [0] rfl)
      have hD9 : va_D A [(h0, .inl (G.2.1, n, .inl (fun _ => x)))] := (hD.sub [0] (by decide) rfl)
      exact W.vret hx hb hr (fun t9 ht9 hW9 => ⟨⟨(), rfl, trivial, by rw [ht9]; exact hP9, hD9⟩, hS.F ht9⟩) hS.2.2 dJ7_fill_53178_20
    · skip
      have c_2 := gNot (cLeNN (a := n) (b := i) (by omega) (by omega)) c_2
      refine lv_aload_n hx hb dJ7_fill_53178_10 rfl (lv_at hl 0 rfl) ?_
      refine lv_iload_n hx hb dJ7_fill_53178_11 rfl (lv_at hl 2 rfl) ?_
      refine lv_iload_n hx hb dJ7_fill_53178_12 rfl (lv_at hl 1 rfl) ?_
      refine g_iast hx hb hK hP hD hS 0 rfl (by omega) (by omega) dJ7_fill_53178_13 (fun H locs hP hD hS => ?_)
      have hP : va_P G.1 vwCl [(h0, .inl (G.2.1, n, .inl (upd f2 i x)))] H := hP
      have hD : va_D A [(h0, .inl (G.2.1, n, .inl (upd f2 i x)))] := hD
      refine lv_iinc (v := (nI (i + 1))) (lv' := [(2, .int (nI (i + 1))), (0, .ref h0), (1, .int x), (3, .int (nI n))]) hx hb dJ7_fill_53178_14 hl (k := 2) rfl (nI_iinc (by decide)) (by decide) rfl (fun ls hl => ?_)
      refine lv_goto (tgt := 5) hx hb dJ7_fill_53178_17 (by decide) ?_
      exact L5_1 (i + 1) (upd f2 i x) _ _ _ (by omega) ⟨(by omega), up_all hf rfl, (hP.sub [0] rfl), (hD.sub [0] (by decide) rfl), hS, lv_sub hl [1, 2, 0, 3] rfl⟩
  · skip
    exact L5_1 0 f _ _ _ ⟨(by omega), up_0, (hP.sub [0] rfl), (hD.sub [0] (by decide) rfl), hS, lv_sub hl [2, 3, 1, 0] rfl⟩

set_option maxHeartbeats 4000000 in
set_option maxRecDepth 100000 in
theorem c_X6_touched (l : Launch) (G : gG) (h0 : Nat) (mm : Nat)  : Met l yX6_touched wsX6_touched ({ frames := 0, cells := 0, slots := 0, locals := 0 } : Room) (gR G [.ref h0, .int (nI mm)] []) (vp_Si (fun r : Int32 => r = (nI mm))) 0 0 (fun _ => False) := by
  refine Met.ofW (cc := cX6_touched) (maxL := 2) (ret := (some .int)) (by decide) rfl ?_
  intro p e s m args below meth c s₁ B hml hv
  obtain ⟨rfl, hP, hK⟩ := hv
  have hx := B.exec
  have hb := B.bytes
  have hr := B.returns
  have hts := atoms_spec (ws := wsX6_touched) B.pre
  have hown : s.vm.findClass RX6 = some m.cls := findClass_of_methodNamed B.named
  have hlocks := B.notSynchronized
  have hl := lv_entry ([.ref h0, .int (nI mm)]) (n := 2) (Nat.le_of_ble_eq_true rfl)
  rw [lg_entry_eq]
  generalize (lg_sl ([.ref h0, .int (nI mm)]) ++ List.replicate (2 - (lg_sl ([.ref h0, .int (nI mm)])).length) Slot.unset).toArray = ls at hl ⊢
  have hl : lv_has ls 2 [(0, .ref h0), (1, .int (nI mm))] := hl
  refine lv_iload_n hx hb dX6_touched_0 rfl (lv_at hl 1 rfl) ?_
  exact W.iret hx hb hr (fun t9 ht9 _ => ⟨(nI mm), rfl, rfl, ht9⟩) (fun _ h => absurd h List.not_mem_nil) dX6_touched_1

set_option maxHeartbeats 4000000 in
set_option maxRecDepth 100000 in
theorem c_X1_touched (l : Launch) (G : gG) (h0 : Nat) (mm : Nat) (hm : mm < 32) : Met l yX1_touched wsX1_touched ({ frames := 0, cells := 0, slots := 0, locals := 0 } : Room) (gR G [.ref h0, .int (nI mm)] []) (vp_Si (fun r : Int32 => r = (nI ((mm + 8) % 32)))) 0 0 (fun _ => False) := by
  refine Met.ofW (cc := cX1_touched) (maxL := 2) (ret := (some .int)) (by decide) rfl ?_
  intro p e s m args below meth c s₁ B hml hv
  obtain ⟨rfl, hP, hK⟩ := hv
  have hx := B.exec
  have hb := B.bytes
  have hr := B.returns
  have hts := atoms_spec (ws := wsX1_touched) B.pre
  have hown : s.vm.findClass RX1 = some m.cls := findClass_of_methodNamed B.named
  have hlocks := B.notSynchronized
  have hl := lv_entry ([.ref h0, .int (nI mm)]) (n := 2) (Nat.le_of_ble_eq_true rfl)
  rw [lg_entry_eq]
  generalize (lg_sl ([.ref h0, .int (nI mm)]) ++ List.replicate (2 - (lg_sl ([.ref h0, .int (nI mm)])).length) Slot.unset).toArray = ls at hl ⊢
  have hl : lv_has ls 2 [(0, .ref h0), (1, .int (nI mm))] := hl
  refine lv_iload_n hx hb dX1_touched_0 rfl (lv_at hl 1 rfl) ?_
  refine lv_bipush (v := (nI 8)) hx hb dX1_touched_1 (by decide) ?_
  refine lv_iadd hx hb dX1_touched_3 ?_
  refine g_top (y := (nI (mm + 8))) (nI_add _ _) ?_
  refine lv_bipush (v := (nI 32)) hx hb dX1_touched_4 (by decide) ?_
  refine lv_irem hx hb dX1_touched_6 (by decide) ?_
  refine g_top (y := (nI ((mm + 8) % 32))) (pk_rem (by omega) (by omega) (by omega)) ?_
  exact W.iret hx hb hr (fun t9 ht9 _ => ⟨(nI ((mm + 8) % 32)), rfl, rfl, ht9⟩) (fun _ h => absurd h List.not_mem_nil) dX1_touched_7

set_option maxHeartbeats 4000000 in
set_option maxRecDepth 100000 in
theorem c_X9_touched (l : Launch) (G : gG) (h0 : Nat) (mm : Nat) (hm : mm < 32) : Met l yX9_touched wsX9_touched ({ frames := 0, cells := 0, slots := 0, locals := 0 } : Room) (gR G [.ref h0, .int (nI mm)] []) (vp_Si (fun r : Int32 => r = (nI (mm - mm % 8)))) 0 0 (fun _ => False) := by
  refine Met.ofW (cc := cX9_touched) (maxL := 2) (ret := (some .int)) (by decide) rfl ?_
  intro p e s m args below meth c s₁ B hml hv
  obtain ⟨rfl, hP, hK⟩ := hv
  have hx := B.exec
  have hb := B.bytes
  have hr := B.returns
  have hts := atoms_spec (ws := wsX9_touched) B.pre
  have hown : s.vm.findClass RX9 = some m.cls := findClass_of_methodNamed B.named
  have hlocks := B.notSynchronized
  have hl := lv_entry ([.ref h0, .int (nI mm)]) (n := 2) (Nat.le_of_ble_eq_true rfl)
  rw [lg_entry_eq]
  generalize (lg_sl ([.ref h0, .int (nI mm)]) ++ List.replicate (2 - (lg_sl ([.ref h0, .int (nI mm)])).length) Slot.unset).toArray = ls at hl ⊢
  have hl : lv_has ls 2 [(0, .ref h0), (1, .int (nI mm))] := hl
  refine lv_iload_n hx hb dX9_touched_0 rfl (lv_at hl 1 rfl) ?_
  refine lv_iload_n hx hb dX9_touched_1 rfl (lv_at hl 1 rfl) ?_
  refine lv_bipush (v := (nI 8)) hx hb dX9_touched_2 (by decide) ?_
  refine lv_irem hx hb dX9_touched_4 (by decide) ?_
  refine g_top (y := (nI (mm % 8))) (pk_rem (by omega) (by omega) (by omega)) ?_
  refine lv_isub hx hb dX9_touched_5 ?_
  refine g_top (y := (nI (mm - (mm % 8)))) (pk_sub (by omega)) ?_
  exact W.iret hx hb hr (fun t9 ht9 _ => ⟨(nI (mm - (mm % 8))), rfl, rfl, ht9⟩) (fun _ h => absurd h List.not_mem_nil) dX9_touched_6

set_option maxHeartbeats 4000000 in
set_option maxRecDepth 100000 in
theorem c_X7_touched (l : Launch) (G : gG) (h0 : Nat) (i : Nat) (mm : Nat) (hm : mm < 32) (hi : i < 4) : Met l yX7_touched wsX7_touched ({ frames := 0, cells := 0, slots := 0, locals := 0 } : Room) (gR G [.ref h0, .int (nI mm)] [(h0, .inr (7, [.int (nI i)]))]) (vp_Si (fun r : Int32 => r = (nI (mm - mm % 8 + (3 * (mm % 8) + i + 1) % 8)))) 0 0 (fun _ => False) := by
  refine Met.ofW (cc := cX7_touched) (maxL := 3) (ret := (some .int)) (by decide) rfl ?_
  intro p e s m args below meth c s₁ B hml hv
  obtain ⟨rfl, hP, hK⟩ := hv
  have hx := B.exec
  have hb := B.bytes
  have hr := B.returns
  have hts := atoms_spec (ws := wsX7_touched) B.pre
  have hown : s.vm.findClass RX7 = some m.cls := findClass_of_methodNamed B.named
  have hlocks := B.notSynchronized
  have hl := lv_entry ([.ref h0, .int (nI mm)]) (n := 3) (Nat.le_of_ble_eq_true rfl)
  rw [lg_entry_eq]
  generalize (lg_sl ([.ref h0, .int (nI mm)]) ++ List.replicate (3 - (lg_sl ([.ref h0, .int (nI mm)])).length) Slot.unset).toArray = ls at hl ⊢
  have hl : lv_has ls 3 [(0, .ref h0), (1, .int (nI mm))] := hl
  refine lv_iload_n hx hb dX7_touched_0 rfl (lv_at hl 1 rfl) ?_
  refine lv_bipush (v := (nI 8)) hx hb dX7_touched_1 (by decide) ?_
  refine lv_irem hx hb dX7_touched_3 (by decide) ?_
  refine g_top (y := (nI (mm % 8))) (pk_rem (by omega) (by omega) (by omega)) ?_
  refine lv_istore_n (lv' := [(2, .int (nI (mm % 8))), (0, .ref h0), (1, .int (nI mm))]) hx hb dX7_touched_4 rfl hl (by decide) rfl (fun ls hl => ?_)
  refine lv_iload_n hx hb dX7_touched_5 rfl (lv_at hl 2 rfl) ?_
  refine lv_iload_n hx hb dX7_touched_6 rfl (lv_at hl 0 rfl) ?_
  refine lv_isub hx hb dX7_touched_7 ?_
  refine g_top (y := (nI (mm - (mm % 8)))) (pk_sub (by omega)) ?_
  refine lv_iconst (v := (nI 3)) hx hb dX7_touched_8 (by decide) ?_
  refine lv_iload_n hx hb dX7_touched_9 rfl (lv_at hl 0 rfl) ?_
  refine lv_imul hx hb dX7_touched_10 ?_
  refine g_top (y := (nI (3 * (mm % 8)))) (pk_mul _ _) ?_
  refine lv_aload_n hx hb dX7_touched_11 rfl (lv_at hl 1 rfl) ?_
  refine va_get (D := G.1) (ci := 7) (v := .int (nI i)) (C := RX7) (T := TX7) (N := 1) hx hb hts (g_in wsX70 2 rfl) hown hK.1 hP 0 rfl rfl 0 (by decide) (hts _ (List.mem_of_getElem? (i := 1) rfl)) (fun _ h9 => h9) rfl dX7_touched_12 ?_
  refine lv_iadd hx hb dX7_touched_15 ?_
  refine g_top (y := (nI ((3 * (mm % 8)) + i))) (nI_add _ _) ?_
  refine lv_iconst (v := (nI 1)) hx hb dX7_touched_16 (by decide) ?_
  refine lv_iadd hx hb dX7_touched_17 ?_
  refine g_top (y := (nI (((3 * (mm % 8)) + i) + 1))) (nI_add _ _) ?_
  refine lv_bipush (v := (nI 8)) hx hb dX7_touched_18 (by decide) ?_
  refine lv_irem hx hb dX7_touched_20 (by decide) ?_
  refine g_top (y := (nI ((((3 * (mm % 8)) + i) + 1) % 8))) (pk_rem (by omega) (by omega) (by omega)) ?_
  refine lv_iadd hx hb dX7_touched_21 ?_
  refine g_top (y := (nI ((mm - (mm % 8)) + ((((3 * (mm % 8)) + i) + 1) % 8)))) (nI_add _ _) ?_
  exact W.iret hx hb hr (fun t9 ht9 _ => ⟨(nI ((mm - (mm % 8)) + ((((3 * (mm % 8)) + i) + 1) % 8))), rfl, rfl, ht9⟩) (fun _ h => absurd h List.not_mem_nil) dX7_touched_22

set_option maxHeartbeats 4000000 in
set_option maxRecDepth 100000 in
theorem c_X6_kind (l : Launch) (G : gG) (h0 : Nat)  : Met l yX6_kind wsX6_kind ({ frames := 0, cells := 0, slots := 0, locals := 0 } : Room) (gR G [.ref h0] []) (vp_Si (fun r : Int32 => r = (nI 0))) 0 0 (fun _ => False) := by
  refine Met.ofW (cc := cX6_kind) (maxL := 1) (ret := (some .int)) (by decide) rfl ?_
  intro p e s m args below meth c s₁ B hml hv
  obtain ⟨rfl, hP, hK⟩ := hv
  have hx := B.exec
  have hb := B.bytes
  have hr := B.returns
  have hts := atoms_spec (ws := wsX6_kind) B.pre
  have hown : s.vm.findClass RX6 = some m.cls := findClass_of_methodNamed B.named
  have hlocks := B.notSynchronized
  have hl := lv_entry ([.ref h0]) (n := 1) (Nat.le_of_ble_eq_true rfl)
  rw [lg_entry_eq]
  generalize (lg_sl ([.ref h0]) ++ List.replicate (1 - (lg_sl ([.ref h0])).length) Slot.unset).toArray = ls at hl ⊢
  have hl : lv_has ls 1 [(0, .ref h0)] := hl
  refine lv_iconst (v := (nI 0)) hx hb dX6_kind_0 (by decide) ?_
  exact W.iret hx hb hr (fun t9 ht9 _ => ⟨(nI 0), rfl, rfl, ht9⟩) (fun _ h => absurd h List.not_mem_nil) dX6_kind_1

set_option maxHeartbeats 4000000 in
set_option maxRecDepth 100000 in
theorem c_X1_kind (l : Launch) (G : gG) (h0 : Nat)  : Met l yX1_kind wsX1_kind ({ frames := 0, cells := 0, slots := 0, locals := 0 } : Room) (gR G [.ref h0] []) (vp_Si (fun r : Int32 => r = (nI 1))) 0 0 (fun _ => False) := by
  refine Met.ofW (cc := cX1_kind) (maxL := 1) (ret := (some .int)) (by decide) rfl ?_
  intro p e s m args below meth c s₁ B hml hv
  obtain ⟨rfl, hP, hK⟩ := hv
  have hx := B.exec
  have hb := B.bytes
  have hr := B.returns
  have hts := atoms_spec (ws := wsX1_kind) B.pre
  have hown : s.vm.findClass RX1 = some m.cls := findClass_of_methodNamed B.named
  have hlocks := B.notSynchronized
  have hl := lv_entry ([.ref h0]) (n := 1) (Nat.le_of_ble_eq_true rfl)
  rw [lg_entry_eq]
  generalize (lg_sl ([.ref h0]) ++ List.replicate (1 - (lg_sl ([.ref h0])).length) Slot.unset).toArray = ls at hl ⊢
  have hl : lv_has ls 1 [(0, .ref h0)] := hl
  refine lv_iconst (v := (nI 1)) hx hb dX1_kind_0 (by decide) ?_
  exact W.iret hx hb hr (fun t9 ht9 _ => ⟨(nI 1), rfl, rfl, ht9⟩) (fun _ h => absurd h List.not_mem_nil) dX1_kind_1

set_option maxHeartbeats 4000000 in
set_option maxRecDepth 100000 in
theorem c_X7_kind (l : Launch) (G : gG) (h0 : Nat)  : Met l yX7_kind wsX7_kind ({ frames := 0, cells := 0, slots := 0, locals := 0 } : Room) (gR G [.ref h0] []) (vp_Si (fun r : Int32 => r = (nI 2))) 0 0 (fun _ => False) := by
  refine Met.ofW (cc := cX7_kind) (maxL := 1) (ret := (some .int)) (by decide) rfl ?_
  intro p e s m args below meth c s₁ B hml hv
  obtain ⟨rfl, hP, hK⟩ := hv
  have hx := B.exec
  have hb := B.bytes
  have hr := B.returns
  have hts := atoms_spec (ws := wsX7_kind) B.pre
  have hown : s.vm.findClass RX7 = some m.cls := findClass_of_methodNamed B.named
  have hlocks := B.notSynchronized
  have hl := lv_entry ([.ref h0]) (n := 1) (Nat.le_of_ble_eq_true rfl)
  rw [lg_entry_eq]
  generalize (lg_sl ([.ref h0]) ++ List.replicate (1 - (lg_sl ([.ref h0])).length) Slot.unset).toArray = ls at hl ⊢
  have hl : lv_has ls 1 [(0, .ref h0)] := hl
  refine lv_iconst (v := (nI 2)) hx hb dX7_kind_0 (by decide) ?_
  exact W.iret hx hb hr (fun t9 ht9 _ => ⟨(nI 2), rfl, rfl, ht9⟩) (fun _ h => absurd h List.not_mem_nil) dX7_kind_1

set_option maxHeartbeats 4000000 in
set_option maxRecDepth 100000 in
theorem c_X9_kind (l : Launch) (G : gG) (h0 : Nat)  : Met l yX9_kind wsX9_kind ({ frames := 0, cells := 0, slots := 0, locals := 0 } : Room) (gR G [.ref h0] []) (vp_Si (fun r : Int32 => r = (nI 3))) 0 0 (fun _ => False) := by
  refine Met.ofW (cc := cX9_kind) (maxL := 1) (ret := (some .int)) (by decide) rfl ?_
  intro p e s m args below meth c s₁ B hml hv
  obtain ⟨rfl, hP, hK⟩ := hv
  have hx := B.exec
  have hb := B.bytes
  have hr := B.returns
  have hts := atoms_spec (ws := wsX9_kind) B.pre
  have hown : s.vm.findClass RX9 = some m.cls := findClass_of_methodNamed B.named
  have hlocks := B.notSynchronized
  have hl := lv_entry ([.ref h0]) (n := 1) (Nat.le_of_ble_eq_true rfl)
  rw [lg_entry_eq]
  generalize (lg_sl ([.ref h0]) ++ List.replicate (1 - (lg_sl ([.ref h0])).length) Slot.unset).toArray = ls at hl ⊢
  have hl : lv_has ls 1 [(0, .ref h0)] := hl
  refine lv_iconst (v := (nI 3)) hx hb dX9_kind_0 (by decide) ?_
  exact W.iret hx hb hr (fun t9 ht9 _ => ⟨(nI 3), rfl, rfl, ht9⟩) (fun _ h => absurd h List.not_mem_nil) dX9_kind_1

set_option maxHeartbeats 4000000 in
set_option maxRecDepth 100000 in
theorem c_X2_kind (l : Launch) (G : gG) (h0 : Nat)  : Met l yX2_kind wsX2_kind ({ frames := 0, cells := 0, slots := 0, locals := 0 } : Room) (gR G [.ref h0] []) (vp_Si (fun r : Int32 => r = (nI 4))) 0 0 (fun _ => False) := by
  refine Met.ofW (cc := cX2_kind) (maxL := 1) (ret := (some .int)) (by decide) rfl ?_
  intro p e s m args below meth c s₁ B hml hv
  obtain ⟨rfl, hP, hK⟩ := hv
  have hx := B.exec
  have hb := B.bytes
  have hr := B.returns
  have hts := atoms_spec (ws := wsX2_kind) B.pre
  have hown : s.vm.findClass RX2 = some m.cls := findClass_of_methodNamed B.named
  have hlocks := B.notSynchronized
  have hl := lv_entry ([.ref h0]) (n := 1) (Nat.le_of_ble_eq_true rfl)
  rw [lg_entry_eq]
  generalize (lg_sl ([.ref h0]) ++ List.replicate (1 - (lg_sl ([.ref h0])).length) Slot.unset).toArray = ls at hl ⊢
  have hl : lv_has ls 1 [(0, .ref h0)] := hl
  refine lv_iconst (v := (nI 4)) hx hb dX2_kind_0 (by decide) ?_
  exact W.iret hx hb hr (fun t9 ht9 _ => ⟨(nI 4), rfl, rfl, ht9⟩) (fun _ h => absurd h List.not_mem_nil) dX2_kind_1

set_option maxHeartbeats 4000000 in
set_option maxRecDepth 100000 in
theorem c_X2_touched (l : Launch) (G : gG) (h0 : Nat) (mm : Nat) (hm : mm < 32) : Met l yX2_touched wsX2_touched ({ frames := 1, cells := 0, slots := 0, locals := 21 } : Room) (gR G [.ref h0, .int (nI mm)] [(h0, .inr (2, []))]) (vp_Si (fun r : Int32 => r = (nI ((mm + 8) % 32 - (mm + 8) % 32 % 8 + (7 - (mm + 8) % 32 % 8))))) 0 0 (fun _ => False) := by
  refine Met.ofW (cc := cX2_touched) (maxL := 3) (ret := (some .int)) (by decide) rfl ?_
  intro p e s m args below meth c s₁ B hml hv
  obtain ⟨rfl, hP, hK⟩ := hv
  have hx := B.exec
  have hb := B.bytes
  have hr := B.returns
  have hts := atoms_spec (ws := wsX2_touched) B.pre
  have hown : s.vm.findClass RX2 = some m.cls := findClass_of_methodNamed B.named
  have hlocks := B.notSynchronized
  have hl := lv_entry ([.ref h0, .int (nI mm)]) (n := 3) (Nat.le_of_ble_eq_true rfl)
  rw [lg_entry_eq]
  generalize (lg_sl ([.ref h0, .int (nI mm)]) ++ List.replicate (3 - (lg_sl ([.ref h0, .int (nI mm)])).length) Slot.unset).toArray = ls at hl ⊢
  have hl : lv_has ls 3 [(0, .ref h0), (1, .int (nI mm))] := hl
  refine lv_aload_n hx hb dX2_touched_0 rfl (lv_at hl 0 rfl) ?_
  refine lv_iload_n hx hb dX2_touched_1 rfl (lv_at hl 1 rfl) ?_
  refine g_callSi (va_runSU (As := [.int (nI mm)]) (rest := []) (C := RX2) (hK.1.1 2 _ rfl).2 ⟨hx, hb, hml, hown, hts⟩ (c_X1_touched l G h0 mm hm) (va_cwSU 1 hts gX2_touched_X1_touched_s9 rfl rfl rfl (by decide +kernel) ⟨Nat.le_of_ble_eq_true rfl, Nat.le_of_ble_eq_true rfl⟩) ⟨gR.blind, va_recv hK.1 hP (ci := 2) (q0 := 0) rfl rfl, (gR.S hK g_nil).2⟩ rfl rfl hl.1 rfl (lv_room (Nat.le_of_ble_eq_true rfl)) dX2_touched_2 ⟨Nat.le_of_ble_eq_true rfl, Nat.le_of_ble_eq_true rfl⟩) (fun r hr0 => ?_)
  subst hr0
  refine lv_istore_n (lv' := [(2, .int (nI ((mm + 8) % 32))), (0, .ref h0), (1, .int (nI mm))]) hx hb dX2_touched_5 rfl hl (by decide) rfl (fun ls hl => ?_)
  refine lv_iload_n hx hb dX2_touched_6 rfl (lv_at hl 0 rfl) ?_
  refine lv_iload_n hx hb dX2_touched_7 rfl (lv_at hl 0 rfl) ?_
  refine lv_bipush (v := (nI 8)) hx hb dX2_touched_8 (by decide) ?_
  refine lv_irem hx hb dX2_touched_10 (by decide) ?_
  refine g_top (y := (nI (((mm + 8) % 32) % 8))) (pk_rem (by omega) (by omega) (by omega)) ?_
  refine lv_isub hx hb dX2_touched_11 ?_
  refine g_top (y := (nI (((mm + 8) % 32) - (((mm + 8) % 32) % 8)))) (pk_sub (by omega)) ?_
  refine lv_bipush (v := (nI 7)) hx hb dX2_touched_12 (by decide) ?_
  refine lv_iload_n hx hb dX2_touched_14 rfl (lv_at hl 0 rfl) ?_
  refine lv_bipush (v := (nI 8)) hx hb dX2_touched_15 (by decide) ?_
  refine lv_irem hx hb dX2_touched_17 (by decide) ?_
  refine g_top (y := (nI (((mm + 8) % 32) % 8))) (pk_rem (by omega) (by omega) (by omega)) ?_
  refine lv_isub hx hb dX2_touched_18 ?_
  refine g_top (y := (nI (7 - (((mm + 8) % 32) % 8)))) (pk_sub (by omega)) ?_
  refine lv_iadd hx hb dX2_touched_19 ?_
  refine g_top (y := (nI ((((mm + 8) % 32) - (((mm + 8) % 32) % 8)) + (7 - (((mm + 8) % 32) % 8))))) (nI_add _ _) ?_
  exact W.iret hx hb hr (fun t9 ht9 _ => ⟨(nI ((((mm + 8) % 32) - (((mm + 8) % 32) % 8)) + (7 - (((mm + 8) % 32) % 8)))), rfl, rfl, ht9⟩) (fun _ h => absurd h List.not_mem_nil) dX2_touched_20

set_option maxHeartbeats 4000000 in
set_option maxRecDepth 100000 in
theorem c_has (l : Launch) (G : gG) (hp : Nat) (ha : Nat) (n : Nat) (mf : Nat → Option Nat) (x : Int32) (hn : n ≤ 4) : Met l yX5_has wsX5_has ({ frames := 0, cells := 0, slots := 0, locals := 0 } : Room) (gR G [.ref hp, .int x] [(hp, .inr (5, [.ref ha, .int (nI n)])), (ha, .inl (G.2.2.2, 4, .inr (.inr (.inr (.inr mf)))))]) (vp_Si (fun r : Int32 => r = (bI (inR x n)))) 0 0 (fun _ => False) := by
  refine Met.ofW (cc := cX5_has) (maxL := 2) (ret := (some .boolean)) (by decide) rfl ?_
  intro p e s m args below meth c s₁ B hml hv
  obtain ⟨rfl, hP, hK⟩ := hv
  have hx := B.exec
  have hb := B.bytes
  have hr := B.returns
  have hts := atoms_spec (ws := wsX5_has) B.pre
  have hown : s.vm.findClass RX5 = some m.cls := findClass_of_methodNamed B.named
  have hlocks := B.notSynchronized
  have hl := lv_entry ([.ref hp, .int x]) (n := 2) (Nat.le_of_ble_eq_true rfl)
  rw [lg_entry_eq]
  generalize (lg_sl ([.ref hp, .int x]) ++ List.replicate (2 - (lg_sl ([.ref hp, .int x])).length) Slot.unset).toArray = ls at hl ⊢
  have hl : lv_has ls 2 [(0, .ref hp), (1, .int x)] := hl
  refine lv_iload_n hx hb dX5_has_0 rfl (lv_at hl 1 rfl) ?_
  refine lv_if_lt (tgt := 16) hx hb dX5_has_1 (by decide) (fun c_1 => ?_) (fun c_1 => ?_)
  · skip
    have c_1 := (cLtIN (b := 0) (by omega)).mp c_1
    refine lv_iconst (v := (nI 0)) hx hb dX5_has_16 (by decide) ?_
    have w9_r : (nI 0) = (bI (inR x n)) := (by first | exact bI_t ⟨by omega, by omega⟩ | exact bI_f (fun h => by obtain ⟨h1, h2⟩ := h; omega))
    exact W.zret (ty := .boolean) hx hb hr (by decide) (fun t9 ht9 _ => ⟨(nI 0), rfl, w9_r, ht9⟩) (fun _ h => absurd h List.not_mem_nil) dX5_has_17
  · skip
    have c_1 := gNot (cLtIN (b := 0) (by omega)) c_1
    refine lv_iload_n hx hb dX5_has_4 rfl (lv_at hl 1 rfl) ?_
    refine lv_aload_n hx hb dX5_has_5 rfl (lv_at hl 0 rfl) ?_
    refine va_get (D := G.1) (ci := 5) (v := .int (nI n)) (C := RX5) (T := TX5) (N := 2) hx hb hts (g_in wsX50 2 rfl) hown hK.1 hP 0 rfl rfl 1 (by decide) (hts _ (List.mem_of_getElem? (i := 1) rfl)) (fun _ h9 => h9) rfl dX5_has_6 ?_
    refine lv_icmp_ge (tgt := 16) hx hb dX5_has_9 (by decide) (fun c_2 => ?_) (fun c_2 => ?_)
    · skip
      have c_2 := (cLeNI (b := n) (by omega)).mp c_2
      refine lv_iconst (v := (nI 0)) hx hb dX5_has_16 (by decide) ?_
      have w9_r : (nI 0) = (bI (inR x n)) := (by first | exact bI_t ⟨by omega, by omega⟩ | exact bI_f (fun h => by obtain ⟨h1, h2⟩ := h; omega))
      exact W.zret (ty := .boolean) hx hb hr (by decide) (fun t9 ht9 _ => ⟨(nI 0), rfl, w9_r, ht9⟩) (fun _ h => absurd h List.not_mem_nil) dX5_has_17
    · skip
      have c_2 := gNot (cLeNI (b := n) (by omega)) c_2
      refine lv_iconst (v := (nI 1)) hx hb dX5_has_12 (by decide) ?_
      refine lv_goto (tgt := 17) hx hb dX5_has_13 (by decide) ?_
      have w9_r : (nI 1) = (bI (inR x n)) := (by first | exact bI_t ⟨by omega, by omega⟩ | exact bI_f (fun h => by obtain ⟨h1, h2⟩ := h; omega))
      exact W.zret (ty := .boolean) hx hb hr (by decide) (fun t9 ht9 _ => ⟨(nI 1), rfl, w9_r, ht9⟩) (fun _ h => absurd h List.not_mem_nil) dX5_has_17

set_option maxHeartbeats 4000000 in
set_option maxRecDepth 100000 in
theorem c_memberAt (l : Launch) (G : gG) (hp : Nat) (ha : Nat) (n : Nat) (mf : Nat → Option Nat) (j : Nat) (a : Nat) (hn : n ≤ 4) (hj : j < n) (hm : mf j = some a) : Met l yX5_memberAt wsX5_memberAt ({ frames := 0, cells := 0, slots := 0, locals := 0 } : Room) (gR G [.ref hp, .int (nI j)] [(hp, .inr (5, [.ref ha, .int (nI n)])), (ha, .inl (G.2.2.2, 4, .inr (.inr (.inr (.inr mf)))))]) (va_Sq (fun r => r = some a)) 0 0 (fun _ => False) := by
  refine Met.ofW (cc := cX5_memberAt) (maxL := 2) (ret := (some (.object "RingOfThirds$Person"))) (by decide) rfl ?_
  intro p e s m args below meth c s₁ B hml hv
  obtain ⟨rfl, hP, hK⟩ := hv
  have hx := B.exec
  have hb := B.bytes
  have hr := B.returns
  have hts := atoms_spec (ws := wsX5_memberAt) B.pre
  have hown : s.vm.findClass RX5 = some m.cls := findClass_of_methodNamed B.named
  have hlocks := B.notSynchronized
  have hl := lv_entry ([.ref hp, .int (nI j)]) (n := 2) (Nat.le_of_ble_eq_true rfl)
  rw [lg_entry_eq]
  generalize (lg_sl ([.ref hp, .int (nI j)]) ++ List.replicate (2 - (lg_sl ([.ref hp, .int (nI j)])).length) Slot.unset).toArray = ls at hl ⊢
  have hl : lv_has ls 2 [(0, .ref hp), (1, .int (nI j))] := hl
  refine lv_iload_n hx hb dX5_memberAt_0 rfl (lv_at hl 1 rfl) ?_
  refine lv_if_lt (tgt := 26) hx hb dX5_memberAt_1 (by decide) (fun c_1 => ?_) (fun c_1 => ?_)
  · skip
    have c_1 := (cLtNN (a := j) (b := 0) (by omega) (by omega)).mp c_1
    exact absurd c_1 (by omega)
  · skip
    have c_1 := gNot (cLtNN (a := j) (b := 0) (by omega) (by omega)) c_1
    refine lv_iload_n hx hb dX5_memberAt_4 rfl (lv_at hl 1 rfl) ?_
    refine lv_aload_n hx hb dX5_memberAt_5 rfl (lv_at hl 0 rfl) ?_
    refine va_get (D := G.1) (ci := 5) (v := .int (nI n)) (C := RX5) (T := TX5) (N := 2) hx hb hts (g_in wsX50 3 rfl) hown hK.1 hP 0 rfl rfl 1 (by decide) (hts _ (List.mem_of_getElem? (i := 1) rfl)) (fun _ h9 => h9) rfl dX5_memberAt_6 ?_
    refine lv_icmp_ge (tgt := 26) hx hb dX5_memberAt_9 (by decide) (fun c_2 => ?_) (fun c_2 => ?_)
    · skip
      have c_2 := (cLeNN (a := n) (b := j) (by omega) (by omega)).mp c_2
      exact absurd c_2 (by omega)
    · skip
      have c_2 := gNot (cLeNN (a := n) (b := j) (by omega) (by omega)) c_2
      refine lv_iload_n hx hb dX5_memberAt_12 rfl (lv_at hl 1 rfl) ?_
      refine lv_iconst (v := (nI 4)) hx hb dX5_memberAt_13 (by decide) ?_
      refine lv_icmp_ge (tgt := 26) hx hb dX5_memberAt_14 (by decide) (fun c_3 => ?_) (fun c_3 => ?_)
      · skip
        have c_3 := (cLeNN (a := 4) (b := j) (by omega) (by omega)).mp c_3
        exact absurd c_3 (by omega)
      · skip
        have c_3 := gNot (cLeNN (a := 4) (b := j) (by omega) (by omega)) c_3
        refine lv_aload_n hx hb dX5_memberAt_17 rfl (lv_at hl 0 rfl) ?_
        refine va_get (D := G.1) (ci := 5) (v := .ref ha) (C := RX5) (T := TX5) (N := 2) hx hb hts (g_in wsX50 3 rfl) hown hK.1 hP 0 rfl rfl 0 (by decide) (hts _ (List.mem_of_getElem? (i := 2) rfl)) (fun _ h9 => h9) rfl dX5_memberAt_18 ?_
        refine lv_iload_n hx hb dX5_memberAt_21 rfl (lv_at hl 1 rfl) ?_
        refine g_aald hx hb hK hP 1 rfl (by omega) (by decide) dX5_memberAt_22 ?_
        refine g_topv (by rw [hm]; try rfl) ?_
        refine lv_goto (tgt := 27) hx hb dX5_memberAt_23 (by decide) ?_
        exact W.aret hx hb hr (Or.inl ⟨_, rfl⟩) (Or.inr ⟨_, rfl⟩) (fun t9 ht9 _ => ⟨some a, rfl, rfl, ht9⟩) (fun _ h => absurd h List.not_mem_nil) dX5_memberAt_27

set_option maxHeartbeats 4000000 in
set_option maxRecDepth 100000 in
theorem c_kindOf (l : Launch) (G : gG) (hp : Nat) (ha : Nat) (n : Nat) (mf : Nat → Option Nat) (kd : Nat → Nat) (pa : Nat → Nat) (j : Nat) (T : va_W) (hn : n ≤ 4) (hmf : ∀ i, i < n → mf i = some (pa i)) (hkd : ∀ i, i < n → kd i < 5) (hT : pplT T n kd pa) (hj : j < n) : Met l yX5_kindOf wsX5_kindOf ({ frames := 1, cells := 0, slots := 0, locals := 21 } : Room) (gR G [.ref hp, .int (nI j)] (([(hp, .inr (5, [.ref ha, .int (nI n)])), (ha, .inl (G.2.2.2, 4, .inr (.inr (.inr (.inr mf)))))] : va_W) ++ T)) (vp_Si (fun r : Int32 => r = (nI (kd j)))) 0 0 (fun _ => False) := by
  refine Met.ofW (cc := cX5_kindOf) (maxL := 3) (ret := (some .int)) (by decide) rfl ?_
  intro p e s m args below meth c s₁ B hml hv
  obtain ⟨rfl, hP, hK⟩ := hv
  have hx := B.exec
  have hb := B.bytes
  have hr := B.returns
  have hts := atoms_spec (ws := wsX5_kindOf) B.pre
  have hown : s.vm.findClass RX5 = some m.cls := findClass_of_methodNamed B.named
  have hlocks := B.notSynchronized
  have hl := lv_entry ([.ref hp, .int (nI j)]) (n := 3) (Nat.le_of_ble_eq_true rfl)
  rw [lg_entry_eq]
  generalize (lg_sl ([.ref hp, .int (nI j)]) ++ List.replicate (3 - (lg_sl ([.ref hp, .int (nI j)])).length) Slot.unset).toArray = ls at hl ⊢
  have hl : lv_has ls 3 [(0, .ref hp), (1, .int (nI j))] := hl
  refine lv_aload_n hx hb dX5_kindOf_0 rfl (lv_at hl 0 rfl) ?_
  refine lv_iload_n hx hb dX5_kindOf_1 rfl (lv_at hl 1 rfl) ?_
  refine g_callSq (va_runV (As := [.int (nI j)]) (rest := []) ⟨hx, hb, hml, hown, hts⟩ (c_memberAt l G hp ha n mf j (pa j) (by omega) (by omega) (hmf j hj)) (cwV 1 hts gX5_kindOf_X5_memberAt rfl rfl rfl (by decide +kernel) ⟨Nat.le_of_ble_eq_true rfl, Nat.le_of_ble_eq_true rfl⟩) (gR.V hK (show va_P G.1 vwCl [(hp, .inr (5, [.ref ha, .int (nI n)])), (ha, .inl (G.2.2.2, 4, .inr (.inr (.inr (.inr mf)))))] s.heap from (hP.sub [0, 1] rfl)) hP (ci := 5) (q0 := 0) rfl rfl) rfl rfl hl.1 rfl (lv_room (Nat.le_of_ble_eq_true rfl)) dX5_kindOf_2 ⟨Nat.le_of_ble_eq_true rfl, Nat.le_of_ble_eq_true rfl⟩) ?_
  refine lv_astore_n (lv' := [(2, .ref (pa j)), (0, .ref hp), (1, .int (nI j))]) hx hb dX5_kindOf_5 rfl hl (by decide) rfl (fun ls hl => ?_)
  refine lv_aload_n hx hb dX5_kindOf_6 rfl (lv_at hl 0 rfl) ?_
  refine lv_ifnonnull (tgt := 14) hx hb dX5_kindOf_7 (by decide) ?_
  refine lv_aload_n hx hb dX5_kindOf_14 rfl (lv_at hl 0 rfl) ?_
  obtain ⟨q, hq⟩ := hT j hj
  have hk5 := hkd j hj
  by_cases e0 : kd j = 0
  · skip
    have hq1 : T[q]? = some (pa j, .inr (6, [])) := by rw [hq, e0]; rfl
    have he := g_tail (X := [(hp, .inr (5, [.ref ha, .int (nI n)])), (ha, .inl (G.2.2.2, 4, .inr (.inr (.inr (.inr mf)))))]) hq1
    refine g_callSi (va_runV (As := []) (rest := []) ⟨hx, hb, hml, hown, hts⟩ (c_X6_kind l G (pa j)) (cwV 0 hts gX5_kindOf_X6_kind rfl rfl rfl (by decide +kernel) ⟨Nat.le_of_ble_eq_true rfl, Nat.le_of_ble_eq_true rfl⟩) ⟨gR.blind, va_recv hK.1 hP (ci := 6) rfl he, (gR.S hK g_nil).2⟩ rfl rfl hl.1 rfl (lv_room (Nat.le_of_ble_eq_true rfl)) dX5_kindOf_15 ⟨Nat.le_of_ble_eq_true rfl, Nat.le_of_ble_eq_true rfl⟩) (fun r hr0 => ?_)
    subst hr0
    refine g_top (y := (nI (kd j))) (by rw [show (kd j) = 0 from by rw [e0]; try rfl]) ?_
    exact W.iret hx hb hr (fun t9 ht9 _ => ⟨(nI (kd j)), rfl, rfl, ht9⟩) (fun _ h => absurd h List.not_mem_nil) dX5_kindOf_18
  by_cases e1 : kd j = 1
  · skip
    have hq1 : T[q]? = some (pa j, .inr (1, [])) := by rw [hq, e1]; rfl
    have he := g_tail (X := [(hp, .inr (5, [.ref ha, .int (nI n)])), (ha, .inl (G.2.2.2, 4, .inr (.inr (.inr (.inr mf)))))]) hq1
    refine g_callSi (va_runU (As := []) (rest := []) ⟨hx, hb, hml, hown, hts⟩ (c_X1_kind l G (pa j)) (va_cwO 0 hts gX5_kindOf_X1_kind_u44X1 rfl rfl rfl (b0 := cX6_kind) (m0 := 1) (r0 := some .int) (List.mem_of_getElem? (i := 15) rfl) (by decide +kernel) ⟨Nat.le_of_ble_eq_true rfl, Nat.le_of_ble_eq_true rfl⟩) ⟨gR.blind, va_recv hK.1 hP (ci := 1) rfl he, (gR.S hK g_nil).2⟩ rfl rfl hl.1 rfl (lv_room (Nat.le_of_ble_eq_true rfl)) dX5_kindOf_15 ⟨Nat.le_of_ble_eq_true rfl, Nat.le_of_ble_eq_true rfl⟩) (fun r hr0 => ?_)
    subst hr0
    refine g_top (y := (nI (kd j))) (by rw [show (kd j) = 1 from by rw [e1]; try rfl]) ?_
    exact W.iret hx hb hr (fun t9 ht9 _ => ⟨(nI (kd j)), rfl, rfl, ht9⟩) (fun _ h => absurd h List.not_mem_nil) dX5_kindOf_18
  by_cases e2 : kd j = 2
  · skip
    have hq1 : T[q]? = some (pa j, .inr (7, [.int (nI j)])) := by rw [hq, e2]; rfl
    have he := g_tail (X := [(hp, .inr (5, [.ref ha, .int (nI n)])), (ha, .inl (G.2.2.2, 4, .inr (.inr (.inr (.inr mf)))))]) hq1
    refine g_callSi (va_runU (As := []) (rest := []) ⟨hx, hb, hml, hown, hts⟩ (c_X7_kind l G (pa j)) (va_cwO 0 hts gX5_kindOf_X7_kind_u44X7 rfl rfl rfl (b0 := cX6_kind) (m0 := 1) (r0 := some .int) (List.mem_of_getElem? (i := 15) rfl) (by decide +kernel) ⟨Nat.le_of_ble_eq_true rfl, Nat.le_of_ble_eq_true rfl⟩) ⟨gR.blind, va_recv hK.1 hP (ci := 7) rfl he, (gR.S hK g_nil).2⟩ rfl rfl hl.1 rfl (lv_room (Nat.le_of_ble_eq_true rfl)) dX5_kindOf_15 ⟨Nat.le_of_ble_eq_true rfl, Nat.le_of_ble_eq_true rfl⟩) (fun r hr0 => ?_)
    subst hr0
    refine g_top (y := (nI (kd j))) (by rw [show (kd j) = 2 from by rw [e2]; try rfl]) ?_
    exact W.iret hx hb hr (fun t9 ht9 _ => ⟨(nI (kd j)), rfl, rfl, ht9⟩) (fun _ h => absurd h List.not_mem_nil) dX5_kindOf_18
  by_cases e3 : kd j = 3
  · skip
    have hq1 : T[q]? = some (pa j, .inr (9, [])) := by rw [hq, e3]; rfl
    have he := g_tail (X := [(hp, .inr (5, [.ref ha, .int (nI n)])), (ha, .inl (G.2.2.2, 4, .inr (.inr (.inr (.inr mf)))))]) hq1
    refine g_callSi (va_runU (As := []) (rest := []) ⟨hx, hb, hml, hown, hts⟩ (c_X9_kind l G (pa j)) (va_cwO 0 hts gX5_kindOf_X9_kind_u44X9 rfl rfl rfl (b0 := cX6_kind) (m0 := 1) (r0 := some .int) (List.mem_of_getElem? (i := 15) rfl) (by decide +kernel) ⟨Nat.le_of_ble_eq_true rfl, Nat.le_of_ble_eq_true rfl⟩) ⟨gR.blind, va_recv hK.1 hP (ci := 9) rfl he, (gR.S hK g_nil).2⟩ rfl rfl hl.1 rfl (lv_room (Nat.le_of_ble_eq_true rfl)) dX5_kindOf_15 ⟨Nat.le_of_ble_eq_true rfl, Nat.le_of_ble_eq_true rfl⟩) (fun r hr0 => ?_)
    subst hr0
    refine g_top (y := (nI (kd j))) (by rw [show (kd j) = 3 from by rw [e3]; try rfl]) ?_
    exact W.iret hx hb hr (fun t9 ht9 _ => ⟨(nI (kd j)), rfl, rfl, ht9⟩) (fun _ h => absurd h List.not_mem_nil) dX5_kindOf_18
  have e4 : kd j = 4 := by omega
  have hq1 : T[q]? = some (pa j, .inr (2, [])) := by rw [hq, e4]; rfl
  have he := g_tail (X := [(hp, .inr (5, [.ref ha, .int (nI n)])), (ha, .inl (G.2.2.2, 4, .inr (.inr (.inr (.inr mf)))))]) hq1
  refine g_callSi (va_runU (As := []) (rest := []) ⟨hx, hb, hml, hown, hts⟩ (c_X2_kind l G (pa j)) (va_cwO 0 hts gX5_kindOf_X2_kind_u44X2 rfl rfl rfl (b0 := cX6_kind) (m0 := 1) (r0 := some .int) (List.mem_of_getElem? (i := 15) rfl) (by decide +kernel) ⟨Nat.le_of_ble_eq_true rfl, Nat.le_of_ble_eq_true rfl⟩) ⟨gR.blind, va_recv hK.1 hP (ci := 2) rfl he, (gR.S hK g_nil).2⟩ rfl rfl hl.1 rfl (lv_room (Nat.le_of_ble_eq_true rfl)) dX5_kindOf_15 ⟨Nat.le_of_ble_eq_true rfl, Nat.le_of_ble_eq_true rfl⟩) (fun r hr0 => ?_)
  subst hr0
  refine g_top (y := (nI (kd j))) (by rw [show (kd j) = 4 from by rw [e4]; try rfl]) ?_
  exact W.iret hx hb hr (fun t9 ht9 _ => ⟨(nI (kd j)), rfl, rfl, ht9⟩) (fun _ h => absurd h List.not_mem_nil) dX5_kindOf_18

set_option maxHeartbeats 4000000 in
set_option maxRecDepth 100000 in
theorem c_touched (l : Launch) (G : gG) (hp : Nat) (ha : Nat) (n : Nat) (mf : Nat → Option Nat) (kd : Nat → Nat) (pa : Nat → Nat) (j : Nat) (mm : Nat) (T : va_W) (hn : n ≤ 4) (hmf : ∀ i, i < n → mf i = some (pa i)) (hkd : ∀ i, i < n → kd i < 5) (hT : pplT T n kd pa) (hj : j < n) (hm : mm < 32) : Met l yX5_touched wsX5_touched ({ frames := 2, cells := 0, slots := 0, locals := 43 } : Room) (gR G [.ref hp, .int (nI j), .int (nI mm)] (([(hp, .inr (5, [.ref ha, .int (nI n)])), (ha, .inl (G.2.2.2, 4, .inr (.inr (.inr (.inr mf)))))] : va_W) ++ T)) (vp_Si (fun r : Int32 => r = (nI (touch (kd j) j mm)))) 0 0 (fun _ => False) := by
  refine Met.ofW (cc := cX5_touched) (maxL := 4) (ret := (some .int)) (by decide) rfl ?_
  intro p e s m args below meth c s₁ B hml hv
  obtain ⟨rfl, hP, hK⟩ := hv
  have hx := B.exec
  have hb := B.bytes
  have hr := B.returns
  have hts := atoms_spec (ws := wsX5_touched) B.pre
  have hown : s.vm.findClass RX5 = some m.cls := findClass_of_methodNamed B.named
  have hlocks := B.notSynchronized
  have hl := lv_entry ([.ref hp, .int (nI j), .int (nI mm)]) (n := 4) (Nat.le_of_ble_eq_true rfl)
  rw [lg_entry_eq]
  generalize (lg_sl ([.ref hp, .int (nI j), .int (nI mm)]) ++ List.replicate (4 - (lg_sl ([.ref hp, .int (nI j), .int (nI mm)])).length) Slot.unset).toArray = ls at hl ⊢
  have hl : lv_has ls 4 [(0, .ref hp), (1, .int (nI j)), (2, .int (nI mm))] := hl
  refine lv_aload_n hx hb dX5_touched_0 rfl (lv_at hl 0 rfl) ?_
  refine lv_iload_n hx hb dX5_touched_1 rfl (lv_at hl 1 rfl) ?_
  refine g_callSq (va_runV (As := [.int (nI j)]) (rest := []) ⟨hx, hb, hml, hown, hts⟩ (c_memberAt l G hp ha n mf j (pa j) (by omega) (by omega) (hmf j hj)) (cwV 1 hts gX5_touched_X5_memberAt rfl rfl rfl (by decide +kernel) ⟨Nat.le_of_ble_eq_true rfl, Nat.le_of_ble_eq_true rfl⟩) (gR.V hK (show va_P G.1 vwCl [(hp, .inr (5, [.ref ha, .int (nI n)])), (ha, .inl (G.2.2.2, 4, .inr (.inr (.inr (.inr mf)))))] s.heap from (hP.sub [0, 1] rfl)) hP (ci := 5) (q0 := 0) rfl rfl) rfl rfl hl.1 rfl (lv_room (Nat.le_of_ble_eq_true rfl)) dX5_touched_2 ⟨Nat.le_of_ble_eq_true rfl, Nat.le_of_ble_eq_true rfl⟩) ?_
  refine lv_astore_n (lv' := [(3, .ref (pa j)), (0, .ref hp), (1, .int (nI j)), (2, .int (nI mm))]) hx hb dX5_touched_5 rfl hl (by decide) rfl (fun ls hl => ?_)
  refine lv_aload_n hx hb dX5_touched_6 rfl (lv_at hl 0 rfl) ?_
  refine lv_ifnonnull (tgt := 14) hx hb dX5_touched_7 (by decide) ?_
  refine lv_aload_n hx hb dX5_touched_14 rfl (lv_at hl 0 rfl) ?_
  refine lv_iload_n hx hb dX5_touched_15 rfl (lv_at hl 3 rfl) ?_
  obtain ⟨q, hq⟩ := hT j hj
  have hk5 := hkd j hj
  by_cases e0 : kd j = 0
  · skip
    have hq1 : T[q]? = some (pa j, .inr (6, [])) := by rw [hq, e0]; rfl
    have he := g_tail (X := [(hp, .inr (5, [.ref ha, .int (nI n)])), (ha, .inl (G.2.2.2, 4, .inr (.inr (.inr (.inr mf)))))]) hq1
    refine g_callSi (va_runV (As := [.int (nI mm)]) (rest := []) ⟨hx, hb, hml, hown, hts⟩ (c_X6_touched l G (pa j) mm) (cwV 1 hts gX5_touched_X6_touched rfl rfl rfl (by decide +kernel) ⟨Nat.le_of_ble_eq_true rfl, Nat.le_of_ble_eq_true rfl⟩) ⟨gR.blind, va_recv hK.1 hP (ci := 6) rfl he, (gR.S hK g_nil).2⟩ rfl rfl hl.1 rfl (lv_room (Nat.le_of_ble_eq_true rfl)) dX5_touched_16 ⟨Nat.le_of_ble_eq_true rfl, Nat.le_of_ble_eq_true rfl⟩) (fun r hr0 => ?_)
    subst hr0
    refine g_top (y := (nI (touch (kd j) j mm))) (by rw [show (touch (kd j) j mm) = mm from by rw [e0]; try rfl]) ?_
    exact W.iret hx hb hr (fun t9 ht9 _ => ⟨(nI (touch (kd j) j mm)), rfl, rfl, ht9⟩) (fun _ h => absurd h List.not_mem_nil) dX5_touched_19
  by_cases e1 : kd j = 1
  · skip
    have hq1 : T[q]? = some (pa j, .inr (1, [])) := by rw [hq, e1]; rfl
    have he := g_tail (X := [(hp, .inr (5, [.ref ha, .int (nI n)])), (ha, .inl (G.2.2.2, 4, .inr (.inr (.inr (.inr mf)))))]) hq1
    refine g_callSi (va_runU (As := [.int (nI mm)]) (rest := []) ⟨hx, hb, hml, hown, hts⟩ (c_X1_touched l G (pa j) mm hm) (va_cwO 1 hts gX5_touched_X1_touched_u48X1 rfl rfl rfl (b0 := cX6_touched) (m0 := 2) (r0 := some .int) (List.mem_of_getElem? (i := 15) rfl) (by decide +kernel) ⟨Nat.le_of_ble_eq_true rfl, Nat.le_of_ble_eq_true rfl⟩) ⟨gR.blind, va_recv hK.1 hP (ci := 1) rfl he, (gR.S hK g_nil).2⟩ rfl rfl hl.1 rfl (lv_room (Nat.le_of_ble_eq_true rfl)) dX5_touched_16 ⟨Nat.le_of_ble_eq_true rfl, Nat.le_of_ble_eq_true rfl⟩) (fun r hr0 => ?_)
    subst hr0
    refine g_top (y := (nI (touch (kd j) j mm))) (by rw [show (touch (kd j) j mm) = ((mm + 8) % 32) from by rw [e1]; try rfl]) ?_
    exact W.iret hx hb hr (fun t9 ht9 _ => ⟨(nI (touch (kd j) j mm)), rfl, rfl, ht9⟩) (fun _ h => absurd h List.not_mem_nil) dX5_touched_19
  by_cases e2 : kd j = 2
  · skip
    have hq1 : T[q]? = some (pa j, .inr (7, [.int (nI j)])) := by rw [hq, e2]; rfl
    have he := g_tail (X := [(hp, .inr (5, [.ref ha, .int (nI n)])), (ha, .inl (G.2.2.2, 4, .inr (.inr (.inr (.inr mf)))))]) hq1
    refine g_callSi (va_runU (As := [.int (nI mm)]) (rest := []) ⟨hx, hb, hml, hown, hts⟩ (c_X7_touched l G (pa j) j mm hm (by omega)) (va_cwO 1 hts gX5_touched_X7_touched_u48X7 rfl rfl rfl (b0 := cX6_touched) (m0 := 2) (r0 := some .int) (List.mem_of_getElem? (i := 15) rfl) (by decide +kernel) ⟨Nat.le_of_ble_eq_true rfl, Nat.le_of_ble_eq_true rfl⟩) ⟨gR.blind, va_recv hK.1 hP (ci := 7) rfl he, (gR.S hK (g_one _ hP he)).2⟩ rfl rfl hl.1 rfl (lv_room (Nat.le_of_ble_eq_true rfl)) dX5_touched_16 ⟨Nat.le_of_ble_eq_true rfl, Nat.le_of_ble_eq_true rfl⟩) (fun r hr0 => ?_)
    subst hr0
    refine g_top (y := (nI (touch (kd j) j mm))) (by rw [show (touch (kd j) j mm) = (mm - mm % 8 + (3 * (mm % 8) + j + 1) % 8) from by rw [e2]; try rfl]) ?_
    exact W.iret hx hb hr (fun t9 ht9 _ => ⟨(nI (touch (kd j) j mm)), rfl, rfl, ht9⟩) (fun _ h => absurd h List.not_mem_nil) dX5_touched_19
  by_cases e3 : kd j = 3
  · skip
    have hq1 : T[q]? = some (pa j, .inr (9, [])) := by rw [hq, e3]; rfl
    have he := g_tail (X := [(hp, .inr (5, [.ref ha, .int (nI n)])), (ha, .inl (G.2.2.2, 4, .inr (.inr (.inr (.inr mf)))))]) hq1
    refine g_callSi (va_runU (As := [.int (nI mm)]) (rest := []) ⟨hx, hb, hml, hown, hts⟩ (c_X9_touched l G (pa j) mm hm) (va_cwO 1 hts gX5_touched_X9_touched_u48X9 rfl rfl rfl (b0 := cX6_touched) (m0 := 2) (r0 := some .int) (List.mem_of_getElem? (i := 15) rfl) (by decide +kernel) ⟨Nat.le_of_ble_eq_true rfl, Nat.le_of_ble_eq_true rfl⟩) ⟨gR.blind, va_recv hK.1 hP (ci := 9) rfl he, (gR.S hK g_nil).2⟩ rfl rfl hl.1 rfl (lv_room (Nat.le_of_ble_eq_true rfl)) dX5_touched_16 ⟨Nat.le_of_ble_eq_true rfl, Nat.le_of_ble_eq_true rfl⟩) (fun r hr0 => ?_)
    subst hr0
    refine g_top (y := (nI (touch (kd j) j mm))) (by rw [show (touch (kd j) j mm) = (mm - mm % 8) from by rw [e3]; try rfl]) ?_
    exact W.iret hx hb hr (fun t9 ht9 _ => ⟨(nI (touch (kd j) j mm)), rfl, rfl, ht9⟩) (fun _ h => absurd h List.not_mem_nil) dX5_touched_19
  have e4 : kd j = 4 := by omega
  have hq1 : T[q]? = some (pa j, .inr (2, [])) := by rw [hq, e4]; rfl
  have he := g_tail (X := [(hp, .inr (5, [.ref ha, .int (nI n)])), (ha, .inl (G.2.2.2, 4, .inr (.inr (.inr (.inr mf)))))]) hq1
  refine g_callSi (va_runU (As := [.int (nI mm)]) (rest := []) ⟨hx, hb, hml, hown, hts⟩ (c_X2_touched l G (pa j) mm hm) (va_cwO 1 hts gX5_touched_X2_touched_u48X2 rfl rfl rfl (b0 := cX6_touched) (m0 := 2) (r0 := some .int) (List.mem_of_getElem? (i := 15) rfl) (by decide +kernel) ⟨Nat.le_of_ble_eq_true rfl, Nat.le_of_ble_eq_true rfl⟩) ⟨gR.blind, va_recv hK.1 hP (ci := 2) rfl he, (gR.S hK (g_one _ hP he)).2⟩ rfl rfl hl.1 rfl (lv_room (Nat.le_of_ble_eq_true rfl)) dX5_touched_16 ⟨Nat.le_of_ble_eq_true rfl, Nat.le_of_ble_eq_true rfl⟩) (fun r hr0 => ?_)
  subst hr0
  refine g_top (y := (nI (touch (kd j) j mm))) (by rw [show (touch (kd j) j mm) = ((mm + 8) % 32 - (mm + 8) % 32 % 8 + (7 - (mm + 8) % 32 % 8)) from by rw [e4]; try rfl]) ?_
  exact W.iret hx hb hr (fun t9 ht9 _ => ⟨(nI (touch (kd j) j mm)), rfl, rfl, ht9⟩) (fun _ h => absurd h List.not_mem_nil) dX5_touched_19

set_option maxHeartbeats 4000000 in
set_option maxRecDepth 100000 in
theorem c_People_clear (l : Launch) (G : gG) (hp : Nat) (ha : Nat) (n : Nat) (mf : Nat → Option Nat) (sz : Nat)  : Met l yX5_clear wsX5_clear ({ frames := 0, cells := 0, slots := 0, locals := 0 } : Room) (gM G [.ref hp] [(hp, .inr (5, [.ref ha, .int (nI n)])), (ha, .inl (G.2.2.2, 4, .inr (.inr (.inr (.inr mf)))))] sz) (va_Qv (fun (u : Unit) => True) (fun u t => va_P G.1 vwCl [(hp, .inr (5, [.ref ha, .int (nI 0)])), (ha, .inl (G.2.2.2, 4, .inr (.inr (.inr (.inr mf)))))] t.heap ∧ va_D (va_A [(hp, .inr (5, [.ref ha, .int (nI n)])), (ha, .inl (G.2.2.2, 4, .inr (.inr (.inr (.inr mf)))))] sz) [(hp, .inr (5, [.ref ha, .int (nI 0)])), (ha, .inl (G.2.2.2, 4, .inr (.inr (.inr (.inr mf)))))]) (va_A [(hp, .inr (5, [.ref ha, .int (nI n)])), (ha, .inl (G.2.2.2, 4, .inr (.inr (.inr (.inr mf)))))] sz)) 0 0 (va_A [(hp, .inr (5, [.ref ha, .int (nI n)])), (ha, .inl (G.2.2.2, 4, .inr (.inr (.inr (.inr mf)))))] sz) := by
  refine Met.ofW (cc := cX5_clear) (maxL := 1) (ret := none) (by decide) rfl ?_
  intro p e s m args below meth c s₁ B hml hv
  obtain ⟨rfl, hsz, hP, hK, hD0⟩ := hv
  have hx := B.exec
  have hb := B.bytes
  have hr := B.returns
  have hts := atoms_spec (ws := wsX5_clear) B.pre
  have hown : s.vm.findClass RX5 = some m.cls := findClass_of_methodNamed B.named
  have hlocks := B.notSynchronized
  subst hsz
  have hD := hD0.self (sz := s.heap.size)
  generalize hAe : va_A [(hp, .inr (5, [.ref ha, .int (nI n)])), (ha, .inl (G.2.2.2, 4, .inr (.inr (.inr (.inr mf)))))] s.heap.size = A at hD ⊢
  have hA : ∀ q : Nat, s.heap.size ≤ q → A q := fun q h => by rw [← hAe]; exact Or.inr h
  have hS : va_S A s.heap s.heap [] := va_S.rf
  clear hAe hD0
  have hl := lv_entry ([.ref hp]) (n := 1) (Nat.le_of_ble_eq_true rfl)
  rw [lg_entry_eq]
  generalize (lg_sl ([.ref hp]) ++ List.replicate (1 - (lg_sl ([.ref hp])).length) Slot.unset).toArray = ls at hl ⊢
  have hl : lv_has ls 1 [(0, .ref hp)] := hl
  refine lv_aload_n hx hb dX5_clear_0 rfl (lv_at hl 0 rfl) ?_
  refine lv_iconst (v := (nI 0)) hx hb dX5_clear_1 (by decide) ?_
  refine va_put (D := G.1) (ci := 5) (v := .int (nI 0)) (ty := .int) (C := RX5) (T := TX5) (N := 2) hx hb hts (g_in wsX50 2 rfl) tyX5 tyX5_ok nmX5 hown hK.1 hP hD hS 0 rfl rfl 1 (by decide) (hts _ (List.mem_of_getElem? (i := 1) rfl)) (fun _ h9 => h9) rfl (tyX5_ok 1 (by decide)) rfl rfl (Nat.le_of_ble_eq_true rfl) dX5_clear_2 (fun H locs hP hD hS => ?_)
  have hP : va_P G.1 vwCl [(hp, .inr (5, [.ref ha, .int (nI 0)])), (ha, .inl (G.2.2.2, 4, .inr (.inr (.inr (.inr mf)))))] H := hP
  have hD : va_D A [(hp, .inr (5, [.ref ha, .int (nI 0)])), (ha, .inl (G.2.2.2, 4, .inr (.inr (.inr (.inr mf)))))] := hD
  have hP9 : va_P G.1 vwCl [(hp, .inr (5, [.ref ha, .int (nI 0)])), (ha, .inl (G.2.2.2, 4, .inr (.inr (.inr (.inr mf)))))] H := (hP.sub [0, 1] rfl)
  have hD9 : va_D A [(hp, .inr (5, [.ref ha, .int (nI 0)])), (ha, .inl (G.2.2.2, 4, .inr (.inr (.inr (.inr mf)))))] := (hD.sub [0, 1] (by decide) rfl)
  exact W.vret hx hb hr (fun t9 ht9 hW9 => ⟨⟨(), rfl, trivial, by rw [ht9]; exact hP9, hD9⟩, hS.F ht9⟩) hS.2.2 dX5_clear_5
