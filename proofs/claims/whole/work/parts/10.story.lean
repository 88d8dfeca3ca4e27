/-! words for a story: who has it (hd), its marks (mk), what each remembers (me), how often each was paid (pd), paid since (fl) -/
abbrev inR (x : Int32) (n : Nat) : Prop := 0 ≤ x.toInt ∧ x.toInt < (n : Int)
theorem inR_N {j n : Nat} (h : j < n) (hj : j < 2 ^ 31) : inR (nI j) n := by rw [inR, nT hj]; omega
theorem inR_ex {x : Int32} {n : Nat} (h : inR x n) (hn : n < 2 ^ 31) : ∃ j : Nat, j < n ∧ x = nI j := nI_ex h.1 h.2 hn
abbrev wrS (hd mk : Int32) (me : Nat → Int32) (j : Nat) : Prop := me j ≠ -1 ∧ hd ≠ -1 ∧ hd ≠ nI j ∧ me j ≠ mk
def cnt (P : Nat → Bool) : Nat → Nat
  | 0 => 0
  | n + 1 => cnt P n + (if P n = true then 1 else 0)
theorem cnt_le (P : Nat → Bool) : ∀ n : Nat, cnt P n ≤ n
  | 0 => Nat.le_refl 0
  | n + 1 => by have h := cnt_le P n; simp only [cnt]; split <;> omega
theorem cnt_congr {P R : Nat → Bool} : ∀ {n : Nat}, (∀ i, i < n → P i = R i) → cnt P n = cnt R n
  | 0, _ => rfl
  | n + 1, h => by simp only [cnt]; rw [cnt_congr (fun i hi => h i (by omega)), h n (by omega)]
def sI (f : Nat → Int32) : Nat → Int32
  | 0 => 0
  | n + 1 => sI f n + f n
theorem cntD_t {P : Nat → Prop} [DecidablePred P] {i : Nat} (h : P i) : cnt (fun k => decide (P k)) (i + 1) = cnt (fun k => decide (P k)) i + 1 := by simp [cnt, h]
theorem cntD_f {P : Nat → Prop} [DecidablePred P] {i : Nat} (h : ¬ P i) : cnt (fun k => decide (P k)) (i + 1) = cnt (fun k => decide (P k)) i := by simp [cnt, h]
theorem up_all {f g : Nat → Int32} {i : Nat} {x : Int32} (h : ∀ k, k < i → f k = g k) (hx : x = g i) : ∀ k, k < i + 1 → upd f i x k = g k := by
  intro k hk
  by_cases e : k = i
  · subst e; rw [upd_s]; exact hx
  · rw [upd_n e]; exact h k (by omega)
theorem up_0 {f g : Nat → Int32} : ∀ k, k < 0 → f k = g k := fun k h => absurd h (Nat.not_lt_zero k)
abbrev duS (hd mk : Int32) (me fl : Nat → Int32) (j : Nat) : Prop := wrS hd mk me j ∧ fl j = 0

set_option maxHeartbeats 4000000 in
set_option maxRecDepth 100000 in
theorem c_isNumber_N (l : Launch) (G : gG) (j : Nat) (hj : j < 4) : Met l yX8_isNumber wsX8_isNumber ({ frames := 0, cells := 0, slots := 0, locals := 0 } : Room) (gR G [.int (nI j)] []) (vp_Si (fun r : Int32 => r = (nI 1))) 0 0 (fun _ => False) := by
  refine Met.ofW (cc := cX8_isNumber) (maxL := 1) (ret := (some .boolean)) (by decide) rfl ?_
  intro p e s m args below meth c s₁ B hml hv
  obtain ⟨rfl, hP, hK⟩ := hv
  have hx := B.exec
  have hb := B.bytes
  have hr := B.returns
  have hts := atoms_spec (ws := wsX8_isNumber) B.pre
  have hown : s.vm.findClass RX8 = some m.cls := findClass_of_methodNamed B.named
  have hlocks := B.notSynchronized
  have hl := lv_entry ([.int (nI j)]) (n := 1) (Nat.le_of_ble_eq_true rfl)
  rw [lg_entry_eq]
  generalize (lg_sl ([.int (nI j)]) ++ List.replicate (1 - (lg_sl ([.int (nI j)])).length) Slot.unset).toArray = ls at hl ⊢
  have hl : lv_has ls 1 [(0, .int (nI j))] := hl
  refine lv_iload_n hx hb dX8_isNumber_0 rfl (lv_at hl 0 rfl) ?_
  refine lv_if_lt (tgt := 13) hx hb dX8_isNumber_1 (by decide) (fun c_1 => ?_) (fun c_1 => ?_)
  · skip
    have c_1 := (cLtNN (a := j) (b := 0) (by omega) (by omega)).mp c_1
    exact absurd c_1 (by omega)
  · skip
    have c_1 := gNot (cLtNN (a := j) (b := 0) (by omega) (by omega)) c_1
    refine lv_iload_n hx hb dX8_isNumber_4 rfl (lv_at hl 0 rfl) ?_
    refine lv_iconst (v := (nI 4)) hx hb dX8_isNumber_5 (by decide) ?_
    refine lv_icmp_ge (tgt := 13) hx hb dX8_isNumber_6 (by decide) (fun c_2 => ?_) (fun c_2 => ?_)
    · skip
      have c_2 := (cLeNN (a := 4) (b := j) (by omega) (by omega)).mp c_2
      exact absurd c_2 (by omega)
    · skip
      have c_2 := gNot (cLeNN (a := 4) (b := j) (by omega) (by omega)) c_2
      refine lv_iconst (v := (nI 1)) hx hb dX8_isNumber_9 (by decide) ?_
      refine lv_goto (tgt := 14) hx hb dX8_isNumber_10 (by decide) ?_
      exact W.zret (ty := .boolean) hx hb hr (by decide) (fun t9 ht9 _ => ⟨(nI 1), rfl, rfl, ht9⟩) (fun _ h => absurd h List.not_mem_nil) dX8_isNumber_14

set_option maxHeartbeats 4000000 in
set_option maxRecDepth 100000 in
/-- memoryOf(j): what j remembers -/
theorem c_memoryOf (l : Launch) (G : gG) (h0 : Nat) (am : Nat) (ap : Nat) (as_ : Nat) (hd : Int32) (mk : Int32) (ps : Int32) (me : Nat → Int32) (pd : Nat → Int32) (fl : Nat → Int32) (j : Nat) (hj : j < 4) : Met l yX8_memoryOf wsX8_memoryOf ({ frames := 1, cells := 0, slots := 0, locals := 20 } : Room) (gR G [.ref h0, .int (nI j)] [(h0, .inr (8, [.int hd, .int mk, .int ps, .ref am, .ref ap, .ref as_])), (am, .inl (G.2.1, 4, .inl me)), (ap, .inl (G.2.1, 4, .inl pd)), (as_, .inl (G.2.2.1, 4, .inl fl))]) (vp_Si (fun r : Int32 => r = (me j))) 0 0 (fun _ => False) := by
  refine Met.ofW (cc := cX8_memoryOf) (maxL := 2) (ret := (some .int)) (by decide) rfl ?_
  intro p e s m args below meth c s₁ B hml hv
  obtain ⟨rfl, hP, hK⟩ := hv
  have hx := B.exec
  have hb := B.bytes
  have hr := B.returns
  have hts := atoms_spec (ws := wsX8_memoryOf) B.pre
  have hown : s.vm.findClass RX8 = some m.cls := findClass_of_methodNamed B.named
  have hlocks := B.notSynchronized
  have hl := lv_entry ([.ref h0, .int (nI j)]) (n := 2) (Nat.le_of_ble_eq_true rfl)
  rw [lg_entry_eq]
  generalize (lg_sl ([.ref h0, .int (nI j)]) ++ List.replicate (2 - (lg_sl ([.ref h0, .int (nI j)])).length) Slot.unset).toArray = ls at hl ⊢
  have hl : lv_has ls 2 [(0, .ref h0), (1, .int (nI j))] := hl
  refine lv_iload_n hx hb dX8_memoryOf_0 rfl (lv_at hl 1 rfl) ?_
  refine g_callSi (va_runS (As := [.int (nI j)]) (rest := []) ⟨hx, hb, hml, hown, hts⟩ (c_isNumber_N l G j (by omega)) (va_cwS 1 hts gX8_memoryOf_X8_isNumber rfl rfl rfl (by decide +kernel) ⟨Nat.le_of_ble_eq_true rfl, Nat.le_of_ble_eq_true rfl⟩) (gR.S hK (show va_P G.1 vwCl [] s.heap from g_nil)) rfl rfl hl.1 rfl (lv_room (Nat.le_of_ble_eq_true rfl)) dX8_memoryOf_1 ⟨Nat.le_of_ble_eq_true rfl, Nat.le_of_ble_eq_true rfl⟩) (fun r hr0 => ?_)
  subst hr0
  refine lv_if_eq (tgt := 16) hx hb dX8_memoryOf_4 (by decide) (fun c_1 => ?_) (fun c_1 => ?_)
  · skip
    have c_1 := (cEqNN (a := 1) (b := 0) (by omega) (by omega)).mp c_1
    exact absurd c_1 (by decide)
  · skip
    have c_1 := gNot (cEqNN (a := 1) (b := 0) (by omega) (by omega)) c_1
    refine lv_aload_n hx hb dX8_memoryOf_7 rfl (lv_at hl 0 rfl) ?_
    refine va_get (D := G.1) (ci := 8) (v := .ref am) (C := RX8) (T := TX8) (N := 6) hx hb hts (g_in wsX80 6 rfl) hown hK.1 hP 0 rfl rfl 3 (by decide) (hts _ (List.mem_of_getElem? (i := 1) rfl)) (fun _ h9 => h9) rfl dX8_memoryOf_8 ?_
    refine lv_iload_n hx hb dX8_memoryOf_11 rfl (lv_at hl 1 rfl) ?_
    refine g_iald hx hb hK hP 1 rfl (by omega) (by decide) dX8_memoryOf_12 ?_
    refine lv_goto (tgt := 17) hx hb dX8_memoryOf_13 (by decide) ?_
    exact W.iret hx hb hr (fun t9 ht9 _ => ⟨(me j), rfl, rfl, ht9⟩) (fun _ h => absurd h List.not_mem_nil) dX8_memoryOf_17

set_option maxHeartbeats 4000000 in
set_option maxRecDepth 100000 in
theorem c_timesPaid (l : Launch) (G : gG) (h0 : Nat) (am : Nat) (ap : Nat) (as_ : Nat) (hd : Int32) (mk : Int32) (ps : Int32) (me : Nat → Int32) (pd : Nat → Int32) (fl : Nat → Int32) (j : Nat) (hj : j < 4) : Met l yX8_timesPaid wsX8_timesPaid ({ frames := 1, cells := 0, slots := 0, locals := 20 } : Room) (gR G [.ref h0, .int (nI j)] [(h0, .inr (8, [.int hd, .int mk, .int ps, .ref am, .ref ap, .ref as_])), (am, .inl (G.2.1, 4, .inl me)), (ap, .inl (G.2.1, 4, .inl pd)), (as_, .inl (G.2.2.1, 4, .inl fl))]) (vp_Si (fun r : Int32 => r = (pd j))) 0 0 (fun _ => False) := by
  refine Met.ofW (cc := cX8_timesPaid) (maxL := 2) (ret := (some .int)) (by decide) rfl ?_
  intro p e s m args below meth c s₁ B hml hv
  obtain ⟨rfl, hP, hK⟩ := hv
  have hx := B.exec
  have hb := B.bytes
  have hr := B.returns
  have hts := atoms_spec (ws := wsX8_timesPaid) B.pre
  have hown : s.vm.findClass RX8 = some m.cls := findClass_of_methodNamed B.named
  have hlocks := B.notSynchronized
  have hl := lv_entry ([.ref h0, .int (nI j)]) (n := 2) (Nat.le_of_ble_eq_true rfl)
  rw [lg_entry_eq]
  generalize (lg_sl ([.ref h0, .int (nI j)]) ++ List.replicate (2 - (lg_sl ([.ref h0, .int (nI j)])).length) Slot.unset).toArray = ls at hl ⊢
  have hl : lv_has ls 2 [(0, .ref h0), (1, .int (nI j))] := hl
  refine lv_iload_n hx hb dX8_timesPaid_0 rfl (lv_at hl 1 rfl) ?_
  refine g_callSi (va_runS (As := [.int (nI j)]) (rest := []) ⟨hx, hb, hml, hown, hts⟩ (c_isNumber_N l G j (by omega)) (va_cwS 1 hts gX8_timesPaid_X8_isNumber rfl rfl rfl (by decide +kernel) ⟨Nat.le_of_ble_eq_true rfl, Nat.le_of_ble_eq_true rfl⟩) (gR.S hK (show va_P G.1 vwCl [] s.heap from g_nil)) rfl rfl hl.1 rfl (lv_room (Nat.le_of_ble_eq_true rfl)) dX8_timesPaid_1 ⟨Nat.le_of_ble_eq_true rfl, Nat.le_of_ble_eq_true rfl⟩) (fun r hr0 => ?_)
  subst hr0
  refine lv_if_eq (tgt := 16) hx hb dX8_timesPaid_4 (by decide) (fun c_1 => ?_) (fun c_1 => ?_)
  · skip
    have c_1 := (cEqNN (a := 1) (b := 0) (by omega) (by omega)).mp c_1
    exact absurd c_1 (by decide)
  · skip
    have c_1 := gNot (cEqNN (a := 1) (b := 0) (by omega) (by omega)) c_1
    refine lv_aload_n hx hb dX8_timesPaid_7 rfl (lv_at hl 0 rfl) ?_
    refine va_get (D := G.1) (ci := 8) (v := .ref ap) (C := RX8) (T := TX8) (N := 6) hx hb hts (g_in wsX80 6 rfl) hown hK.1 hP 0 rfl rfl 4 (by decide) (hts _ (List.mem_of_getElem? (i := 1) rfl)) (fun _ h9 => h9) rfl dX8_timesPaid_8 ?_
    refine lv_iload_n hx hb dX8_timesPaid_11 rfl (lv_at hl 1 rfl) ?_
    refine g_iald hx hb hK hP 2 rfl (by omega) (by decide) dX8_timesPaid_12 ?_
    refine lv_goto (tgt := 17) hx hb dX8_timesPaid_13 (by decide) ?_
    exact W.iret hx hb hr (fun t9 ht9 _ => ⟨(pd j), rfl, rfl, ht9⟩) (fun _ h => absurd h List.not_mem_nil) dX8_timesPaid_17

set_option maxHeartbeats 4000000 in
set_option maxRecDepth 100000 in
theorem c_isWrong (l : Launch) (G : gG) (h0 : Nat) (am : Nat) (ap : Nat) (as_ : Nat) (hd : Int32) (mk : Int32) (ps : Int32) (me : Nat → Int32) (pd : Nat → Int32) (fl : Nat → Int32) (j : Nat) (hj : j < 4) : Met l yX8_isWrong wsX8_isWrong ({ frames := 2, cells := 0, slots := 0, locals := 41 } : Room) (gR G [.ref h0, .int (nI j)] [(h0, .inr (8, [.int hd, .int mk, .int ps, .ref am, .ref ap, .ref as_])), (am, .inl (G.2.1, 4, .inl me)), (ap, .inl (G.2.1, 4, .inl pd)), (as_, .inl (G.2.2.1, 4, .inl fl))]) (vp_Si (fun r : Int32 => r = (bI (wrS hd mk me j)))) 0 0 (fun _ => False) := by
  refine Met.ofW (cc := cX8_isWrong) (maxL := 3) (ret := (some .boolean)) (by decide) rfl ?_
  intro p e s m args below meth c s₁ B hml hv
  obtain ⟨rfl, hP, hK⟩ := hv
  have hx := B.exec
  have hb := B.bytes
  have hr := B.returns
  have hts := atoms_spec (ws := wsX8_isWrong) B.pre
  have hown : s.vm.findClass RX8 = some m.cls := findClass_of_methodNamed B.named
  have hlocks := B.notSynchronized
  have hl := lv_entry ([.ref h0, .int (nI j)]) (n := 3) (Nat.le_of_ble_eq_true rfl)
  rw [lg_entry_eq]
  generalize (lg_sl ([.ref h0, .int (nI j)]) ++ List.replicate (3 - (lg_sl ([.ref h0, .int (nI j)])).length) Slot.unset).toArray = ls at hl ⊢
  have hl : lv_has ls 3 [(0, .ref h0), (1, .int (nI j))] := hl
  refine lv_aload_n hx hb dX8_isWrong_0 rfl (lv_at hl 0 rfl) ?_
  refine lv_iload_n hx hb dX8_isWrong_1 rfl (lv_at hl 1 rfl) ?_
  refine g_callSi (va_runV (As := [.int (nI j)]) (rest := []) ⟨hx, hb, hml, hown, hts⟩ (c_memoryOf l G h0 am ap as_ hd mk ps me pd fl j (by omega)) (cwV 1 hts gX8_isWrong_X8_memoryOf rfl rfl rfl (by decide +kernel) ⟨Nat.le_of_ble_eq_true rfl, Nat.le_of_ble_eq_true rfl⟩) (gR.V hK (show va_P G.1 vwCl [(h0, .inr (8, [.int hd, .int mk, .int ps, .ref am, .ref ap, .ref as_])), (am, .inl (G.2.1, 4, .inl me)), (ap, .inl (G.2.1, 4, .inl pd)), (as_, .inl (G.2.2.1, 4, .inl fl))] s.heap from (hP.sub [0, 1, 2, 3] rfl)) hP (ci := 8) (q0 := 0) rfl rfl) rfl rfl hl.1 rfl (lv_room (Nat.le_of_ble_eq_true rfl)) dX8_isWrong_2 ⟨Nat.le_of_ble_eq_true rfl, Nat.le_of_ble_eq_true rfl⟩) (fun r hr0 => ?_)
  subst hr0
  refine lv_istore_n (lv' := [(2, .int (me j)), (0, .ref h0), (1, .int (nI j))]) hx hb dX8_isWrong_5 rfl hl (by decide) rfl (fun ls hl => ?_)
  refine lv_iload_n hx hb dX8_isWrong_6 rfl (lv_at hl 0 rfl) ?_
  refine lv_iconst (v := (-1)) hx hb dX8_isWrong_7 (by decide) ?_
  refine lv_icmp_eq (tgt := 39) hx hb dX8_isWrong_8 (by decide) (fun c_1 => ?_) (fun c_1 => ?_)
  · skip
    refine lv_iconst (v := (nI 0)) hx hb dX8_isWrong_39 (by decide) ?_
    have w9_r : (nI 0) = (bI (wrS hd mk me j)) := (by first | exact bI_t (by refine ⟨?_, ?_, ?_, ?_⟩ <;> assumption) | exact bI_f (by rintro ⟨h1, h2, h3, h4⟩; contradiction))
    exact W.zret (ty := .boolean) hx hb hr (by decide) (fun t9 ht9 _ => ⟨(nI 0), rfl, w9_r, ht9⟩) (fun _ h => absurd h List.not_mem_nil) dX8_isWrong_40
  · skip
    refine lv_aload_n hx hb dX8_isWrong_11 rfl (lv_at hl 1 rfl) ?_
    refine va_get (D := G.1) (ci := 8) (v := .int hd) (C := RX8) (T := TX8) (N := 6) hx hb hts (g_in wsX80 12 rfl) hown hK.1 hP 0 rfl rfl 0 (by decide) (hts _ (List.mem_of_getElem? (i := 1) rfl)) (fun _ h9 => h9) rfl dX8_isWrong_12 ?_
    refine lv_iconst (v := (-1)) hx hb dX8_isWrong_15 (by decide) ?_
    refine lv_icmp_eq (tgt := 39) hx hb dX8_isWrong_16 (by decide) (fun c_2 => ?_) (fun c_2 => ?_)
    · skip
      refine lv_iconst (v := (nI 0)) hx hb dX8_isWrong_39 (by decide) ?_
      have w9_r : (nI 0) = (bI (wrS hd mk me j)) := (by first | exact bI_t (by refine ⟨?_, ?_, ?_, ?_⟩ <;> assumption) | exact bI_f (by rintro ⟨h1, h2, h3, h4⟩; contradiction))
      exact W.zret (ty := .boolean) hx hb hr (by decide) (fun t9 ht9 _ => ⟨(nI 0), rfl, w9_r, ht9⟩) (fun _ h => absurd h List.not_mem_nil) dX8_isWrong_40
    · skip
      refine lv_aload_n hx hb dX8_isWrong_19 rfl (lv_at hl 1 rfl) ?_
      refine va_get (D := G.1) (ci := 8) (v := .int hd) (C := RX8) (T := TX8) (N := 6) hx hb hts (g_in wsX80 12 rfl) hown hK.1 hP 0 rfl rfl 0 (by decide) (hts _ (List.mem_of_getElem? (i := 1) rfl)) (fun _ h9 => h9) rfl dX8_isWrong_20 ?_
      refine lv_iload_n hx hb dX8_isWrong_23 rfl (lv_at hl 2 rfl) ?_
      refine lv_icmp_eq (tgt := 39) hx hb dX8_isWrong_24 (by decide) (fun c_3 => ?_) (fun c_3 => ?_)
      · skip
        refine lv_iconst (v := (nI 0)) hx hb dX8_isWrong_39 (by decide) ?_
        have w9_r : (nI 0) = (bI (wrS hd mk me j)) := (by first | exact bI_t (by refine ⟨?_, ?_, ?_, ?_⟩ <;> assumption) | exact bI_f (by rintro ⟨h1, h2, h3, h4⟩; contradiction))
        exact W.zret (ty := .boolean) hx hb hr (by decide) (fun t9 ht9 _ => ⟨(nI 0), rfl, w9_r, ht9⟩) (fun _ h => absurd h List.not_mem_nil) dX8_isWrong_40
      · skip
        refine lv_iload_n hx hb dX8_isWrong_27 rfl (lv_at hl 0 rfl) ?_
        refine lv_aload_n hx hb dX8_isWrong_28 rfl (lv_at hl 1 rfl) ?_
        refine va_get (D := G.1) (ci := 8) (v := .int mk) (C := RX8) (T := TX8) (N := 6) hx hb hts (g_in wsX80 12 rfl) hown hK.1 hP 0 rfl rfl 1 (by decide) (hts _ (List.mem_of_getElem? (i := 2) rfl)) (fun _ h9 => h9) rfl dX8_isWrong_29 ?_
        refine lv_icmp_eq (tgt := 39) hx hb dX8_isWrong_32 (by decide) (fun c_4 => ?_) (fun c_4 => ?_)
        · skip
          refine lv_iconst (v := (nI 0)) hx hb dX8_isWrong_39 (by decide) ?_
          have w9_r : (nI 0) = (bI (wrS hd mk me j)) := (by first | exact bI_t (by refine ⟨?_, ?_, ?_, ?_⟩ <;> assumption) | exact bI_f (by rintro ⟨h1, h2, h3, h4⟩; contradiction))
          exact W.zret (ty := .boolean) hx hb hr (by decide) (fun t9 ht9 _ => ⟨(nI 0), rfl, w9_r, ht9⟩) (fun _ h => absurd h List.not_mem_nil) dX8_isWrong_40
        · skip
          refine lv_iconst (v := (nI 1)) hx hb dX8_isWrong_35 (by decide) ?_
          refine lv_goto (tgt := 40) hx hb dX8_isWrong_36 (by decide) ?_
          have w9_r : (nI 1) = (bI (wrS hd mk me j)) := (by first | exact bI_t (by refine ⟨?_, ?_, ?_, ?_⟩ <;> assumption) | exact bI_f (by rintro ⟨h1, h2, h3, h4⟩; contradiction))
          exact W.zret (ty := .boolean) hx hb hr (by decide) (fun t9 ht9 _ => ⟨(nI 1), rfl, w9_r, ht9⟩) (fun _ h => absurd h List.not_mem_nil) dX8_isWrong_40

set_option maxHeartbeats 4000000 in
set_option maxRecDepth 100000 in
theorem c_wrongPeople (l : Launch) (G : gG) (h0 : Nat) (am : Nat) (ap : Nat) (as_ : Nat) (hd : Int32) (mk : Int32) (ps : Int32) (me : Nat → Int32) (pd : Nat → Int32) (fl : Nat → Int32)  : Met l yX8_wrongPeople wsX8_wrongPeople ({ frames := 3, cells := 0, slots := 0, locals := 63 } : Room) (gR G [.ref h0] [(h0, .inr (8, [.int hd, .int mk, .int ps, .ref am, .ref ap, .ref as_])), (am, .inl (G.2.1, 4, .inl me)), (ap, .inl (G.2.1, 4, .inl pd)), (as_, .inl (G.2.2.1, 4, .inl fl))]) (vp_Si (fun r : Int32 => r = (nI (cnt (fun k => decide (wrS hd mk me k)) 4)))) 0 0 (fun _ => False) := by
  refine Met.ofW (cc := cX8_wrongPeople) (maxL := 3) (ret := (some .int)) (by decide) rfl ?_
  intro p e s m args below meth c s₁ B hml hv
  obtain ⟨rfl, hP, hK⟩ := hv
  have hx := B.exec
  have hb := B.bytes
  have hr := B.returns
  have hts := atoms_spec (ws := wsX8_wrongPeople) B.pre
  have hown : s.vm.findClass RX8 = some m.cls := findClass_of_methodNamed B.named
  have hlocks := B.notSynchronized
  have hl := lv_entry ([.ref h0]) (n := 3) (Nat.le_of_ble_eq_true rfl)
  rw [lg_entry_eq]
  generalize (lg_sl ([.ref h0]) ++ List.replicate (3 - (lg_sl ([.ref h0])).length) Slot.unset).toArray = ls at hl ⊢
  have hl : lv_has ls 3 [(0, .ref h0)] := hl
  refine lv_iconst (v := (nI 0)) hx hb dX8_wrongPeople_0 (by decide) ?_
  refine lv_istore_n (lv' := [(1, .int (nI 0)), (0, .ref h0)]) hx hb dX8_wrongPeople_1 rfl hl (by decide) rfl (fun ls hl => ?_)
  refine lv_iconst (v := (nI 0)) hx hb dX8_wrongPeople_2 (by decide) ?_
  refine lv_istore_n (lv' := [(2, .int (nI 0)), (1, .int (nI 0)), (0, .ref h0)]) hx hb dX8_wrongPeople_3 rfl hl (by decide) rfl (fun ls hl => ?_)
  refine g_cutR2 (α := Nat) (β := Nat) 4 (fun i w => []) (fun i w ls => (i ≤ 4) ∧ (w = cnt (fun k => decide (wrS hd mk me k)) i) ∧ lv_has ls 3 [(0, .ref h0), (1, .int (nI w)), (2, .int (nI i))]) (g_loopR2 (α := Nat) (β := Nat) 4 (fun i w => []) (fun i w ls => (i ≤ 4) ∧ (w = cnt (fun k => decide (wrS hd mk me k)) i) ∧ lv_has ls 3 [(0, .ref h0), (1, .int (nI w)), (2, .int (nI i))]) (fun i w => 4 - i) ?_) (fun L4_1 => ?_)
  · intro i w ls hI L4_1
    obtain ⟨hi, hw, hl⟩ := hI
    refine lv_iload_n hx hb dX8_wrongPeople_4 rfl (lv_at hl 2 rfl) ?_
    refine lv_iconst (v := (nI 4)) hx hb dX8_wrongPeople_5 (by decide) ?_
    refine lv_icmp_ge (tgt := 26) hx hb dX8_wrongPeople_6 (by decide) (fun c_2 => ?_) (fun c_2 => ?_)
    · skip
      have c_2 := (cLeNN (a := 4) (b := i) (by omega) (by omega)).mp c_2
      obtain rfl : i = 4 := by omega
      refine lv_iload_n hx hb dX8_wrongPeople_26 rfl (lv_at hl 1 rfl) ?_
      have w9_r : (nI w) = (nI (cnt (fun k => decide (wrS hd mk me k)) 4)) := (by rw [hw])
      exact W.iret hx hb hr (fun t9 ht9 _ => ⟨(nI w), rfl, w9_r, ht9⟩) (fun _ h => absurd h List.not_mem_nil) dX8_wrongPeople_27
    · skip
      have c_2 := gNot (cLeNN (a := 4) (b := i) (by omega) (by omega)) c_2
      refine lv_aload_n hx hb dX8_wrongPeople_9 rfl (lv_at hl 0 rfl) ?_
      refine lv_iload_n hx hb dX8_wrongPeople_10 rfl (lv_at hl 2 rfl) ?_
      refine g_callSi (va_runV (As := [.int (nI i)]) (rest := []) ⟨hx, hb, hml, hown, hts⟩ (c_isWrong l G h0 am ap as_ hd mk ps me pd fl i (by omega)) (cwV 1 hts gX8_wrongPeople_X8_isWrong rfl rfl rfl (by decide +kernel) ⟨Nat.le_of_ble_eq_true rfl, Nat.le_of_ble_eq_true rfl⟩) (gR.V hK (show va_P G.1 vwCl [(h0, .inr (8, [.int hd, .int mk, .int ps, .ref am, .ref ap, .ref as_])), (am, .inl (G.2.1, 4, .inl me)), (ap, .inl (G.2.1, 4, .inl pd)), (as_, .inl (G.2.2.1, 4, .inl fl))] s.heap from (hP.sub [0, 1, 2, 3] rfl)) hP (ci := 8) (q0 := 0) rfl rfl) rfl rfl hl.1 rfl (lv_room (Nat.le_of_ble_eq_true rfl)) dX8_wrongPeople_11 ⟨Nat.le_of_ble_eq_true rfl, Nat.le_of_ble_eq_true rfl⟩) (fun r hr0 => ?_)
      subst hr0
      refine lv_if_eq (tgt := 20) hx hb dX8_wrongPeople_14 (by decide) (fun c_3 => ?_) (fun c_3 => ?_)
      · skip
        have c_3 := bI_z.mp c_3
        refine lv_iinc (v := (nI (i + 1))) (lv' := [(2, .int (nI (i + 1))), (0, .ref h0), (1, .int (nI w))]) hx hb dX8_wrongPeople_20 hl (k := 2) rfl (nI_iinc (by decide)) (by decide) rfl (fun ls hl => ?_)
        refine lv_goto (tgt := 4) hx hb dX8_wrongPeople_23 (by decide) ?_
        exact L4_1 (i + 1) w _ (by omega) ⟨(by omega), (by rw [hw]; first | exact (cntD_t (by assumption)).symm | exact (cntD_f (by assumption)).symm), lv_sub hl [1, 2, 0] rfl⟩
      · skip
        have c_3 := bI_nz.mp c_3
        refine lv_iinc (v := (nI (w + 1))) (lv' := [(1, .int (nI (w + 1))), (0, .ref h0), (2, .int (nI i))]) hx hb dX8_wrongPeople_17 hl (k := 1) rfl (nI_iinc (by decide)) (by decide) rfl (fun ls hl => ?_)
        refine lv_iinc (v := (nI (i + 1))) (lv' := [(2, .int (nI (i + 1))), (1, .int (nI (w + 1))), (0, .ref h0)]) hx hb dX8_wrongPeople_20 hl (k := 2) rfl (nI_iinc (by decide)) (by decide) rfl (fun ls hl => ?_)
        refine lv_goto (tgt := 4) hx hb dX8_wrongPeople_23 (by decide) ?_
        exact L4_1 (i + 1) (w + 1) _ (by omega) ⟨(by omega), (by rw [hw]; first | exact (cntD_t (by assumption)).symm | exact (cntD_f (by assumption)).symm), lv_sub hl [2, 1, 0] rfl⟩
  · skip
    exact L4_1 0 0 _ ⟨(by omega), rfl, lv_sub hl [2, 1, 0] rfl⟩

set_option maxHeartbeats 4000000 in
set_option maxRecDepth 100000 in
theorem c_paidInAll (l : Launch) (G : gG) (h0 : Nat) (am : Nat) (ap : Nat) (as_ : Nat) (hd : Int32) (mk : Int32) (ps : Int32) (me : Nat → Int32) (pd : Nat → Int32) (fl : Nat → Int32)  : Met l yX8_paidInAll wsX8_paidInAll ({ frames := 0, cells := 0, slots := 0, locals := 0 } : Room) (gR G [.ref h0] [(h0, .inr (8, [.int hd, .int mk, .int ps, .ref am, .ref ap, .ref as_])), (am, .inl (G.2.1, 4, .inl me)), (ap, .inl (G.2.1, 4, .inl pd)), (as_, .inl (G.2.2.1, 4, .inl fl))]) (vp_Si (fun r : Int32 => r = (sI pd 4))) 0 0 (fun _ => False) := by
  refine Met.ofW (cc := cX8_paidInAll) (maxL := 3) (ret := (some .int)) (by decide) rfl ?_
  intro p e s m args below meth c s₁ B hml hv
  obtain ⟨rfl, hP, hK⟩ := hv
  have hx := B.exec
  have hb := B.bytes
  have hr := B.returns
  have hts := atoms_spec (ws := wsX8_paidInAll) B.pre
  have hown : s.vm.findClass RX8 = some m.cls := findClass_of_methodNamed B.named
  have hlocks := B.notSynchronized
  have hl := lv_entry ([.ref h0]) (n := 3) (Nat.le_of_ble_eq_true rfl)
  rw [lg_entry_eq]
  generalize (lg_sl ([.ref h0]) ++ List.replicate (3 - (lg_sl ([.ref h0])).length) Slot.unset).toArray = ls at hl ⊢
  have hl : lv_has ls 3 [(0, .ref h0)] := hl
  refine lv_iconst (v := (nI 0)) hx hb dX8_paidInAll_0 (by decide) ?_
  refine lv_istore_n (lv' := [(1, .int (nI 0)), (0, .ref h0)]) hx hb dX8_paidInAll_1 rfl hl (by decide) rfl (fun ls hl => ?_)
  refine lv_iconst (v := (nI 0)) hx hb dX8_paidInAll_2 (by decide) ?_
  refine lv_istore_n (lv' := [(2, .int (nI 0)), (1, .int (nI 0)), (0, .ref h0)]) hx hb dX8_paidInAll_3 rfl hl (by decide) rfl (fun ls hl => ?_)
  refine g_cutR2 (α := Nat) (β := Int32) 4 (fun i w => []) (fun i w ls => (i ≤ 4) ∧ (w = sI pd i) ∧ lv_has ls 3 [(0, .ref h0), (1, .int w), (2, .int (nI i))]) (g_loopR2 (α := Nat) (β := Int32) 4 (fun i w => []) (fun i w ls => (i ≤ 4) ∧ (w = sI pd i) ∧ lv_has ls 3 [(0, .ref h0), (1, .int w), (2, .int (nI i))]) (fun i w => 4 - i) ?_) (fun L4_1 => ?_)
  · intro i w ls hI L4_1
    obtain ⟨hi, hw, hl⟩ := hI
    refine lv_iload_n hx hb dX8_paidInAll_4 rfl (lv_at hl 2 rfl) ?_
    refine lv_iconst (v := (nI 4)) hx hb dX8_paidInAll_5 (by decide) ?_
    refine lv_icmp_ge (tgt := 24) hx hb dX8_paidInAll_6 (by decide) (fun c_2 => ?_) (fun c_2 => ?_)
    · skip
      have c_2 := (cLeNN (a := 4) (b := i) (by omega) (by omega)).mp c_2
      obtain rfl : i = 4 := by omega
      refine lv_iload_n hx hb dX8_paidInAll_24 rfl (lv_at hl 1 rfl) ?_
      exact W.iret hx hb hr (fun t9 ht9 _ => ⟨w, rfl, hw, ht9⟩) (fun _ h => absurd h List.not_mem_nil) dX8_paidInAll_25
    · skip
      have c_2 := gNot (cLeNN (a := 4) (b := i) (by omega) (by omega)) c_2
      refine lv_iload_n hx hb dX8_paidInAll_9 rfl (lv_at hl 1 rfl) ?_
      refine lv_aload_n hx hb dX8_paidInAll_10 rfl (lv_at hl 0 rfl) ?_
      refine va_get (D := G.1) (ci := 8) (v := .ref ap) (C := RX8) (T := TX8) (N := 6) hx hb hts (g_in wsX80 2 rfl) hown hK.1 hP 0 rfl rfl 4 (by decide) (hts _ (List.mem_of_getElem? (i := 1) rfl)) (fun _ h9 => h9) rfl dX8_paidInAll_11 ?_
      refine lv_iload_n hx hb dX8_paidInAll_14 rfl (lv_at hl 2 rfl) ?_
      refine g_iald hx hb hK hP 2 rfl (by omega) (by decide) dX8_paidInAll_15 ?_
      refine lv_iadd hx hb dX8_paidInAll_16 ?_
      refine lv_istore_n (lv' := [(1, .int (w + (pd i))), (0, .ref h0), (2, .int (nI i))]) hx hb dX8_paidInAll_17 rfl hl (by decide) rfl (fun ls hl => ?_)
      refine lv_iinc (v := (nI (i + 1))) (lv' := [(2, .int (nI (i + 1))), (1, .int (w + (pd i))), (0, .ref h0)]) hx hb dX8_paidInAll_18 hl (k := 2) rfl (nI_iinc (by decide)) (by decide) rfl (fun ls hl => ?_)
      refine lv_goto (tgt := 4) hx hb dX8_paidInAll_21 (by decide) ?_
      exact L4_1 (i + 1) (w + (pd i)) _ (by omega) ⟨(by omega), (by rw [hw]; rfl), lv_sub hl [2, 1, 0] rfl⟩
  · skip
    exact L4_1 0 0 _ ⟨(by omega), rfl, lv_sub hl [2, 1, 0] rfl⟩

set_option maxHeartbeats 4000000 in
set_option maxRecDepth 100000 in
theorem c_moveTo (l : Launch) (G : gG) (h0 : Nat) (am : Nat) (ap : Nat) (as_ : Nat) (mk : Int32) (ps : Int32) (me : Nat → Int32) (pd : Nat → Int32) (fl : Nat → Int32) (h : Nat) (j : Nat) (x : Int32) (sz : Nat) (hh : h < 4) : Met l yX8_moveTo wsX8_moveTo ({ frames := 1, cells := 0, slots := 0, locals := 20 } : Room) (gM G [.ref h0, .int (nI j), .int x] [(h0, .inr (8, [.int (nI h), .int mk, .int ps, .ref am, .ref ap, .ref as_])), (am, .inl (G.2.1, 4, .inl me)), (ap, .inl (G.2.1, 4, .inl pd)), (as_, .inl (G.2.2.1, 4, .inl fl))] sz) (va_Qv (fun (u : Unit) => True) (fun u t => va_P G.1 vwCl [(h0, .inr (8, [.int (nI j), .int x, .int (ps + (nI 1)), .ref am, .ref ap, .ref as_])), (am, .inl (G.2.1, 4, .inl (upd me h mk))), (ap, .inl (G.2.1, 4, .inl pd)), (as_, .inl (G.2.2.1, 4, .inl (upd fl h (nI 0))))] t.heap ∧ va_D (va_A [(h0, .inr (8, [.int (nI h), .int mk, .int ps, .ref am, .ref ap, .ref as_])), (am, .inl (G.2.1, 4, .inl me)), (ap, .inl (G.2.1, 4, .inl pd)), (as_, .inl (G.2.2.1, 4, .inl fl))] sz) [(h0, .inr (8, [.int (nI j), .int x, .int (ps + (nI 1)), .ref am, .ref ap, .ref as_])), (am, .inl (G.2.1, 4, .inl (upd me h mk))), (ap, .inl (G.2.1, 4, .inl pd)), (as_, .inl (G.2.2.1, 4, .inl (upd fl h (nI 0))))]) (va_A [(h0, .inr (8, [.int (nI h), .int mk, .int ps, .ref am, .ref ap, .ref as_])), (am, .inl (G.2.1, 4, .inl me)), (ap, .inl (G.2.1, 4, .inl pd)), (as_, .inl (G.2.2.1, 4, .inl fl))] sz)) 0 0 (va_A [(h0, .inr (8, [.int (nI h), .int mk, .int ps, .ref am, .ref ap, .ref as_])), (am, .inl (G.2.1, 4, .inl me)), (ap, .inl (G.2.1, 4, .inl pd)), (as_, .inl (G.2.2.1, 4, .inl fl))] sz) := by
  refine Met.ofW (cc := cX8_moveTo) (maxL := 3) (ret := none) (by decide) rfl ?_
  intro p e s m args below meth c s₁ B hml hv
  obtain ⟨rfl, hsz, hP, hK, hD0⟩ := hv
  have hx := B.exec
  have hb := B.bytes
  have hr := B.returns
  have hts := atoms_spec (ws := wsX8_moveTo) B.pre
  have hown : s.vm.findClass RX8 = some m.cls := findClass_of_methodNamed B.named
  have hlocks := B.notSynchronized
  subst hsz
  have hD := hD0.self (sz := s.heap.size)
  generalize hAe : va_A [(h0, .inr (8, [.int (nI h), .int mk, .int ps, .ref am, .ref ap, .ref as_])), (am, .inl (G.2.1, 4, .inl me)), (ap, .inl (G.2.1, 4, .inl pd)), (as_, .inl (G.2.2.1, 4, .inl fl))] s.heap.size = A at hD ⊢
  have hA : ∀ q : Nat, s.heap.size ≤ q → A q := fun q h => by rw [← hAe]; exact Or.inr h
  have hS : va_S A s.heap s.heap [] := va_S.rf
  clear hAe hD0
  have hl := lv_entry ([.ref h0, .int (nI j), .int x]) (n := 3) (Nat.le_of_ble_eq_true rfl)
  rw [lg_entry_eq]
  generalize (lg_sl ([.ref h0, .int (nI j), .int x]) ++ List.replicate (3 - (lg_sl ([.ref h0, .int (nI j), .int x])).length) Slot.unset).toArray = ls at hl ⊢
  have hl : lv_has ls 3 [(0, .ref h0), (1, .int (nI j)), (2, .int x)] := hl
  refine lv_aload_n hx hb dX8_moveTo_0 rfl (lv_at hl 0 rfl) ?_
  refine va_get (D := G.1) (ci := 8) (v := .int (nI h)) (C := RX8) (T := TX8) (N := 6) hx hb hts (g_in wsX80 10 rfl) hown hK.1 hP 0 rfl rfl 0 (by decide) (hts _ (List.mem_of_getElem? (i := 1) rfl)) (fun _ h9 => h9) rfl dX8_moveTo_1 ?_
  refine g_callSi (va_runS (As := [.int (nI h)]) (rest := []) ⟨hx, hb, hml, hown, hts⟩ (c_isNumber_N l G h (by omega)) (va_cwS 1 hts gX8_moveTo_X8_isNumber rfl rfl rfl (by decide +kernel) ⟨Nat.le_of_ble_eq_true rfl, Nat.le_of_ble_eq_true rfl⟩) (gR.S hK (show va_P G.1 vwCl [] s.heap from g_nil)) rfl rfl hl.1 rfl (lv_room (Nat.le_of_ble_eq_true rfl)) dX8_moveTo_4 ⟨Nat.le_of_ble_eq_true rfl, Nat.le_of_ble_eq_true rfl⟩) (fun r hr0 => ?_)
  subst hr0
  refine lv_if_eq (tgt := 33) hx hb dX8_moveTo_7 (by decide) (fun c_1 => ?_) (fun c_1 => ?_)
  · skip
    have c_1 := (cEqNN (a := 1) (b := 0) (by omega) (by omega)).mp c_1
    exact absurd c_1 (by decide)
  · skip
    have c_1 := gNot (cEqNN (a := 1) (b := 0) (by omega) (by omega)) c_1
    refine lv_aload_n hx hb dX8_moveTo_10 rfl (lv_at hl 0 rfl) ?_
    refine va_get (D := G.1) (ci := 8) (v := .ref am) (C := RX8) (T := TX8) (N := 6) hx hb hts (g_in wsX80 10 rfl) hown hK.1 hP 0 rfl rfl 3 (by decide) (hts _ (List.mem_of_getElem? (i := 2) rfl)) (fun _ h9 => h9) rfl dX8_moveTo_11 ?_
    refine lv_aload_n hx hb dX8_moveTo_14 rfl (lv_at hl 0 rfl) ?_
    refine va_get (D := G.1) (ci := 8) (v := .int (nI h)) (C := RX8) (T := TX8) (N := 6) hx hb hts (g_in wsX80 10 rfl) hown hK.1 hP 0 rfl rfl 0 (by decide) (hts _ (List.mem_of_getElem? (i := 1) rfl)) (fun _ h9 => h9) rfl dX8_moveTo_15 ?_
    refine lv_aload_n hx hb dX8_moveTo_18 rfl (lv_at hl 0 rfl) ?_
    refine va_get (D := G.1) (ci := 8) (v := .int mk) (C := RX8) (T := TX8) (N := 6) hx hb hts (g_in wsX80 10 rfl) hown hK.1 hP 0 rfl rfl 1 (by decide) (hts _ (List.mem_of_getElem? (i := 3) rfl)) (fun _ h9 => h9) rfl dX8_moveTo_19 ?_
    refine g_iast hx hb hK hP hD hS 1 rfl (by omega) (by decide) dX8_moveTo_22 (fun H locs hP hD hS => ?_)
    have hP : va_P G.1 vwCl [(h0, .inr (8, [.int (nI h), .int mk, .int ps, .ref am, .ref ap, .ref as_])), (am, .inl (G.2.1, 4, .inl (upd me h mk))), (ap, .inl (G.2.1, 4, .inl pd)), (as_, .inl (G.2.2.1, 4, .inl fl))] H := hP
    have hD : va_D A [(h0, .inr (8, [.int (nI h), .int mk, .int ps, .ref am, .ref ap, .ref as_])), (am, .inl (G.2.1, 4, .inl (upd me h mk))), (ap, .inl (G.2.1, 4, .inl pd)), (as_, .inl (G.2.2.1, 4, .inl fl))] := hD
    refine lv_aload_n hx hb dX8_moveTo_23 rfl (lv_at hl 0 rfl) ?_
    refine va_get (D := G.1) (ci := 8) (v := .ref as_) (C := RX8) (T := TX8) (N := 6) hx hb hts (g_in wsX80 10 rfl) hown hK.1 hP 0 rfl rfl 5 (by decide) (hts _ (List.mem_of_getElem? (i := 4) rfl)) (fun _ h9 => h9) rfl dX8_moveTo_24 ?_
    refine lv_aload_n hx hb dX8_moveTo_27 rfl (lv_at hl 0 rfl) ?_
    refine va_get (D := G.1) (ci := 8) (v := .int (nI h)) (C := RX8) (T := TX8) (N := 6) hx hb hts (g_in wsX80 10 rfl) hown hK.1 hP 0 rfl rfl 0 (by decide) (hts _ (List.mem_of_getElem? (i := 1) rfl)) (fun _ h9 => h9) rfl dX8_moveTo_28 ?_
    refine lv_iconst (v := (nI 0)) hx hb dX8_moveTo_31 (by decide) ?_
    refine g_zast hx hb hK hP hD hS 3 rfl (by decide) (by omega) (by decide) dX8_moveTo_32 (fun H locs hP hD hS => ?_)
    have hP : va_P G.1 vwCl [(h0, .inr (8, [.int (nI h), .int mk, .int ps, .ref am, .ref ap, .ref as_])), (am, .inl (G.2.1, 4, .inl (upd me h mk))), (ap, .inl (G.2.1, 4, .inl pd)), (as_, .inl (G.2.2.1, 4, .inl (upd fl h (nI 0))))] H := hP
    have hD : va_D A [(h0, .inr (8, [.int (nI h), .int mk, .int ps, .ref am, .ref ap, .ref as_])), (am, .inl (G.2.1, 4, .inl (upd me h mk))), (ap, .inl (G.2.1, 4, .inl pd)), (as_, .inl (G.2.2.1, 4, .inl (upd fl h (nI 0))))] := hD
    refine lv_aload_n hx hb dX8_moveTo_33 rfl (lv_at hl 0 rfl) ?_
    refine lv_iload_n hx hb dX8_moveTo_34 rfl (lv_at hl 1 rfl) ?_
    refine va_put (D := G.1) (ci := 8) (v := .int (nI j)) (ty := .int) (C := RX8) (T := TX8) (N := 6) hx hb hts (g_in wsX80 10 rfl) tyX8 tyX8_ok nmX8 hown hK.1 hP hD hS 0 rfl rfl 0 (by decide) (hts _ (List.mem_of_getElem? (i := 1) rfl)) (fun _ h9 => h9) rfl (tyX8_ok 0 (by decide)) rfl rfl (Nat.le_of_ble_eq_true rfl) dX8_moveTo_35 (fun H locs hP hD hS => ?_)
    have hP : va_P G.1 vwCl [(h0, .inr (8, [.int (nI j), .int mk, .int ps, .ref am, .ref ap, .ref as_])), (am, .inl (G.2.1, 4, .inl (upd me h mk))), (ap, .inl (G.2.1, 4, .inl pd)), (as_, .inl (G.2.2.1, 4, .inl (upd fl h (nI 0))))] H := hP
    have hD : va_D A [(h0, .inr (8, [.int (nI j), .int mk, .int ps, .ref am, .ref ap, .ref as_])), (am, .inl (G.2.1, 4, .inl (upd me h mk))), (ap, .inl (G.2.1, 4, .inl pd)), (as_, .inl (G.2.2.1, 4, .inl (upd fl h (nI 0))))] := hD
    refine lv_aload_n hx hb dX8_moveTo_38 rfl (lv_at hl 0 rfl) ?_
    refine lv_iload_n hx hb dX8_moveTo_39 rfl (lv_at hl 2 rfl) ?_
    refine va_put (D := G.1) (ci := 8) (v := .int x) (ty := .int) (C := RX8) (T := TX8) (N := 6) hx hb hts (g_in wsX80 10 rfl) tyX8 tyX8_ok nmX8 hown hK.1 hP hD hS 0 rfl rfl 1 (by decide) (hts _ (List.mem_of_getElem? (i := 3) rfl)) (fun _ h9 => h9) rfl (tyX8_ok 1 (by decide)) rfl rfl (Nat.le_of_ble_eq_true rfl) dX8_moveTo_40 (fun H locs hP hD hS => ?_)
    have hP : va_P G.1 vwCl [(h0, .inr (8, [.int (nI j), .int x, .int ps, .ref am, .ref ap, .ref as_])), (am, .inl (G.2.1, 4, .inl (upd me h mk))), (ap, .inl (G.2.1, 4, .inl pd)), (as_, .inl (G.2.2.1, 4, .inl (upd fl h (nI 0))))] H := hP
    have hD : va_D A [(h0, .inr (8, [.int (nI j), .int x, .int ps, .ref am, .ref ap, .ref as_])), (am, .inl (G.2.1, 4, .inl (upd me h mk))), (ap, .inl (G.2.1, 4, .inl pd)), (as_, .inl (G.2.2.1, 4, .inl (upd fl h (nI 0))))] := hD
    refine lv_aload_n hx hb dX8_moveTo_43 rfl (lv_at hl 0 rfl) ?_
    refine lv_dup hx hb dX8_moveTo_44 rfl ?_
    refine va_get (D := G.1) (ci := 8) (v := .int ps) (C := RX8) (T := TX8) (N := 6) hx hb hts (g_in wsX80 10 rfl) hown hK.1 hP 0 rfl rfl 2 (by decide) (hts _ (List.mem_of_getElem? (i := 5) rfl)) (fun _ h9 => h9) rfl dX8_moveTo_45 ?_
    refine lv_iconst (v := (nI 1)) hx hb dX8_moveTo_48 (by decide) ?_
    refine lv_iadd hx hb dX8_moveTo_49 ?_
    refine va_put (D := G.1) (ci := 8) (v := .int (ps + (nI 1))) (ty := .int) (C := RX8) (T := TX8) (N := 6) hx hb hts (g_in wsX80 10 rfl) tyX8 tyX8_ok nmX8 hown hK.1 hP hD hS 0 rfl rfl 2 (by decide) (hts _ (List.mem_of_getElem? (i := 5) rfl)) (fun _ h9 => h9) rfl (tyX8_ok 2 (by decide)) rfl rfl (Nat.le_of_ble_eq_true rfl) dX8_moveTo_50 (fun H locs hP hD hS => ?_)
    have hP : va_P G.1 vwCl [(h0, .inr (8, [.int (nI j), .int x, .int (ps + (nI 1)), .ref am, .ref ap, .ref as_])), (am, .inl (G.2.1, 4, .inl (upd me h mk))), (ap, .inl (G.2.1, 4, .inl pd)), (as_, .inl (G.2.2.1, 4, .inl (upd fl h (nI 0))))] H := hP
    have hD : va_D A [(h0, .inr (8, [.int (nI j), .int x, .int (ps + (nI 1)), .ref am, .ref ap, .ref as_])), (am, .inl (G.2.1, 4, .inl (upd me h mk))), (ap, .inl (G.2.1, 4, .inl pd)), (as_, .inl (G.2.2.1, 4, .inl (upd fl h (nI 0))))] := hD
    have hP9 : va_P G.1 vwCl [(h0, .inr (8, [.int (nI j), .int x, .int (ps + (nI 1)), .ref am, .ref ap, .ref as_])), (am, .inl (G.2.1, 4, .inl (upd me h mk))), (ap, .inl (G.2.1, 4, .inl pd)), (as_, .inl (G.2.2.1, 4, .inl (upd fl h (nI 0))))] H := (hP.sub [0, 1, 2, 3] rfl)
    have hD9 : va_D A [(h0, .inr (8, [.int (nI j), .int x, .int (ps + (nI 1)), .ref am, .ref ap, .ref as_])), (am, .inl (G.2.1, 4, .inl (upd me h mk))), (ap, .inl (G.2.1, 4, .inl pd)), (as_, .inl (G.2.2.1, 4, .inl (upd fl h (nI 0))))] := (hD.sub [0, 1, 2, 3] (by decide) rfl)
    exact W.vret hx hb hr (fun t9 ht9 hW9 => ⟨⟨(), rfl, trivial, by rw [ht9]; exact hP9, hD9⟩, hS.F ht9⟩) hS.2.2 dX8_moveTo_53

set_option maxHeartbeats 4000000 in
set_option maxRecDepth 100000 in
theorem c_begin (l : Launch) (G : gG) (h0 : Nat) (am : Nat) (ap : Nat) (as_ : Nat) (hd : Int32) (mk : Int32) (ps : Int32) (me : Nat → Int32) (pd : Nat → Int32) (fl : Nat → Int32) (x : Int32) (sz : Nat)  : Met l yX8_begin wsX8_begin ({ frames := 0, cells := 0, slots := 0, locals := 0 } : Room) (gM G [.ref h0, .int x] [(h0, .inr (8, [.int hd, .int mk, .int ps, .ref am, .ref ap, .ref as_])), (am, .inl (G.2.1, 4, .inl me)), (ap, .inl (G.2.1, 4, .inl pd)), (as_, .inl (G.2.2.1, 4, .inl fl))] sz) (va_Qv (fun (u : Unit) => True) (fun u t => va_P G.1 vwCl [(h0, .inr (8, [.int (nI 0), .int x, .int (nI 0), .ref am, .ref ap, .ref as_])), (am, .inl (G.2.1, 4, .inl (fun _ => (-1 : Int32)))), (ap, .inl (G.2.1, 4, .inl (fun _ => nI 0))), (as_, .inl (G.2.2.1, 4, .inl (fun _ => nI 0)))] t.heap ∧ va_D (va_A [(h0, .inr (8, [.int hd, .int mk, .int ps, .ref am, .ref ap, .ref as_])), (am, .inl (G.2.1, 4, .inl me)), (ap, .inl (G.2.1, 4, .inl pd)), (as_, .inl (G.2.2.1, 4, .inl fl))] sz) [(h0, .inr (8, [.int (nI 0), .int x, .int (nI 0), .ref am, .ref ap, .ref as_])), (am, .inl (G.2.1, 4, .inl (fun _ => (-1 : Int32)))), (ap, .inl (G.2.1, 4, .inl (fun _ => nI 0))), (as_, .inl (G.2.2.1, 4, .inl (fun _ => nI 0)))]) (va_A [(h0, .inr (8, [.int hd, .int mk, .int ps, .ref am, .ref ap, .ref as_])), (am, .inl (G.2.1, 4, .inl me)), (ap, .inl (G.2.1, 4, .inl pd)), (as_, .inl (G.2.2.1, 4, .inl fl))] sz)) 0 0 (va_A [(h0, .inr (8, [.int hd, .int mk, .int ps, .ref am, .ref ap, .ref as_])), (am, .inl (G.2.1, 4, .inl me)), (ap, .inl (G.2.1, 4, .inl pd)), (as_, .inl (G.2.2.1, 4, .inl fl))] sz) := by
  refine Met.ofW (cc := cX8_begin) (maxL := 3) (ret := none) (by decide) rfl ?_
  intro p e s m args below meth c s₁ B hml hv
  obtain ⟨rfl, hsz, hP, hK, hD0⟩ := hv
  have hx := B.exec
  have hb := B.bytes
  have hr := B.returns
  have hts := atoms_spec (ws := wsX8_begin) B.pre
  have hown : s.vm.findClass RX8 = some m.cls := findClass_of_methodNamed B.named
  have hlocks := B.notSynchronized
  subst hsz
  have hD := hD0.self (sz := s.heap.size)
  generalize hAe : va_A [(h0, .inr (8, [.int hd, .int mk, .int ps, .ref am, .ref ap, .ref as_])), (am, .inl (G.2.1, 4, .inl me)), (ap, .inl (G.2.1, 4, .inl pd)), (as_, .inl (G.2.2.1, 4, .inl fl))] s.heap.size = A at hD ⊢
  have hA : ∀ q : Nat, s.heap.size ≤ q → A q := fun q h => by rw [← hAe]; exact Or.inr h
  have hS : va_S A s.heap s.heap [] := va_S.rf
  clear hAe hD0
  have hl := lv_entry ([.ref h0, .int x]) (n := 3) (Nat.le_of_ble_eq_true rfl)
  rw [lg_entry_eq]
  generalize (lg_sl ([.ref h0, .int x]) ++ List.replicate (3 - (lg_sl ([.ref h0, .int x])).length) Slot.unset).toArray = ls at hl ⊢
  have hl : lv_has ls 3 [(0, .ref h0), (1, .int x)] := hl
  refine lv_aload_n hx hb dX8_begin_0 rfl (lv_at hl 0 rfl) ?_
  refine lv_iconst (v := (nI 0)) hx hb dX8_begin_1 (by decide) ?_
  refine va_put (D := G.1) (ci := 8) (v := .int (nI 0)) (ty := .int) (C := RX8) (T := TX8) (N := 6) hx hb hts (g_in wsX80 7 rfl) tyX8 tyX8_ok nmX8 hown hK.1 hP hD hS 0 rfl rfl 0 (by decide) (hts _ (List.mem_of_getElem? (i := 1) rfl)) (fun _ h9 => h9) rfl (tyX8_ok 0 (by decide)) rfl rfl (Nat.le_of_ble_eq_true rfl) dX8_begin_2 (fun H locs hP hD hS => ?_)
  have hP : va_P G.1 vwCl [(h0, .inr (8, [.int (nI 0), .int mk, .int ps, .ref am, .ref ap, .ref as_])), (am, .inl (G.2.1, 4, .inl me)), (ap, .inl (G.2.1, 4, .inl pd)), (as_, .inl (G.2.2.1, 4, .inl fl))] H := hP
  have hD : va_D A [(h0, .inr (8, [.int (nI 0), .int mk, .int ps, .ref am, .ref ap, .ref as_])), (am, .inl (G.2.1, 4, .inl me)), (ap, .inl (G.2.1, 4, .inl pd)), (as_, .inl (G.2.2.1, 4, .inl fl))] := hD
  refine lv_aload_n hx hb dX8_begin_5 rfl (lv_at hl 0 rfl) ?_
  refine lv_iload_n hx hb dX8_begin_6 rfl (lv_at hl 1 rfl) ?_
  refine va_put (D := G.1) (ci := 8) (v := .int x) (ty := .int) (C := RX8) (T := TX8) (N := 6) hx hb hts (g_in wsX80 7 rfl) tyX8 tyX8_ok nmX8 hown hK.1 hP hD hS 0 rfl rfl 1 (by decide) (hts _ (List.mem_of_getElem? (i := 2) rfl)) (fun _ h9 => h9) rfl (tyX8_ok 1 (by decide)) rfl rfl (Nat.le_of_ble_eq_true rfl) dX8_begin_7 (fun H locs hP hD hS => ?_)
  have hP : va_P G.1 vwCl [(h0, .inr (8, [.int (nI 0), .int x, .int ps, .ref am, .ref ap, .ref as_])), (am, .inl (G.2.1, 4, .inl me)), (ap, .inl (G.2.1, 4, .inl pd)), (as_, .inl (G.2.2.1, 4, .inl fl))] H := hP
  have hD : va_D A [(h0, .inr (8, [.int (nI 0), .int x, .int ps, .ref am, .ref ap, .ref as_])), (am, .inl (G.2.1, 4, .inl me)), (ap, .inl (G.2.1, 4, .inl pd)), (as_, .inl (G.2.2.1, 4, .inl fl))] := hD
  refine lv_aload_n hx hb dX8_begin_10 rfl (lv_at hl 0 rfl) ?_
  refine lv_iconst (v := (nI 0)) hx hb dX8_begin_11 (by decide) ?_
  refine va_put (D := G.1) (ci := 8) (v := .int (nI 0)) (ty := .int) (C := RX8) (T := TX8) (N := 6) hx hb hts (g_in wsX80 7 rfl) tyX8 tyX8_ok nmX8 hown hK.1 hP hD hS 0 rfl rfl 2 (by decide) (hts _ (List.mem_of_getElem? (i := 3) rfl)) (fun _ h9 => h9) rfl (tyX8_ok 2 (by decide)) rfl rfl (Nat.le_of_ble_eq_true rfl) dX8_begin_12 (fun H locs hP hD hS => ?_)
  have hP : va_P G.1 vwCl [(h0, .inr (8, [.int (nI 0), .int x, .int (nI 0), .ref am, .ref ap, .ref as_])), (am, .inl (G.2.1, 4, .inl me)), (ap, .inl (G.2.1, 4, .inl pd)), (as_, .inl (G.2.2.1, 4, .inl fl))] H := hP
  have hD : va_D A [(h0, .inr (8, [.int (nI 0), .int x, .int (nI 0), .ref am, .ref ap, .ref as_])), (am, .inl (G.2.1, 4, .inl me)), (ap, .inl (G.2.1, 4, .inl pd)), (as_, .inl (G.2.2.1, 4, .inl fl))] := hD
  refine lv_iconst (v := (nI 0)) hx hb dX8_begin_15 (by decide) ?_
  refine lv_istore_n (lv' := [(2, .int (nI 0)), (0, .ref h0), (1, .int x)]) hx hb dX8_begin_16 rfl hl (by decide) rfl (fun ls hl => ?_)
  refine g_cutM4 (α := Nat) (β := Nat → Int32) (γ := Nat → Int32) (δ := Nat → Int32) 17 (fun i me2 pd2 fl2 => []) (fun i me2 pd2 fl2 H locs ls => (i ≤ 4) ∧ (∀ k, k < i → me2 k = -1) ∧ (∀ k, k < i → pd2 k = nI 0) ∧ (∀ k, k < i → fl2 k = nI 0) ∧ va_P G.1 vwCl [(h0, .inr (8, [.int (nI 0), .int x, .int (nI 0), .ref am, .ref ap, .ref as_])), (am, .inl (G.2.1, 4, .inl me2)), (ap, .inl (G.2.1, 4, .inl pd2)), (as_, .inl (G.2.2.1, 4, .inl fl2))] H ∧ va_D A [(h0, .inr (8, [.int (nI 0), .int x, .int (nI 0), .ref am, .ref ap, .ref as_])), (am, .inl (G.2.1, 4, .inl me2)), (ap, .inl (G.2.1, 4, .inl pd2)), (as_, .inl (G.2.2.1, 4, .inl fl2))] ∧ va_S A s.heap H locs ∧ lv_has ls 3 [(0, .ref h0), (2, .int (nI i))]) (g_loopM4 (α := Nat) (β := Nat → Int32) (γ := Nat → Int32) (δ := Nat → Int32) 17 (fun i me2 pd2 fl2 => []) (fun i me2 pd2 fl2 H locs ls => (i ≤ 4) ∧ (∀ k, k < i → me2 k = -1) ∧ (∀ k, k < i → pd2 k = nI 0) ∧ (∀ k, k < i → fl2 k = nI 0) ∧ va_P G.1 vwCl [(h0, .inr (8, [.int (nI 0), .int x, .int (nI 0), .ref am, .ref ap, .ref as_])), (am, .inl (G.2.1, 4, .inl me2)), (ap, .inl (G.2.1, 4, .inl pd2)), (as_, .inl (G.2.2.1, 4, .inl fl2))] H ∧ va_D A [(h0, .inr (8, [.int (nI 0), .int x, .int (nI 0), .ref am, .ref ap, .ref as_])), (am, .inl (G.2.1, 4, .inl me2)), (ap, .inl (G.2.1, 4, .inl pd2)), (as_, .inl (G.2.2.1, 4, .inl fl2))] ∧ va_S A s.heap H locs ∧ lv_has ls 3 [(0, .ref h0), (2, .int (nI i))]) (fun i me2 pd2 fl2 => 4 - i) ?_) (fun L17_1 => ?_)
  · intro i me2 pd2 fl2 H locs ls hI L17_1
    obtain ⟨hi, hme, hpd, hfl, hP, hD, hS, hl⟩ := hI
    refine lv_iload_n hx hb dX8_begin_17 rfl (lv_at hl 1 rfl) ?_
    refine lv_iconst (v := (nI 4)) hx hb dX8_begin_18 (by decide) ?_
    refine lv_icmp_ge (tgt := 49) hx hb dX8_begin_19 (by decide) (fun c_2 => ?_) (fun c_2 => ?_)
    · skip
      have c_2 := (cLeNN (a := 4) (b := i) (by omega) (by omega)).mp c_2
      obtain rfl : i = 4 := by omega
      have hP := g_arr hP 1 rfl (show ∀ k, k < 4 → me2 k = (fun _ => (-1 : Int32)) k from hme)
      have hD := hD.set (p := 1) (a := am) (e := .inl (G.2.1, 4, .inl (fun _ => (-1 : Int32)))) rfl
      have hP : va_P G.1 vwCl [(h0, .inr (8, [.int (nI 0), .int x, .int (nI 0), .ref am, .ref ap, .ref as_])), (am, .inl (G.2.1, 4, .inl (fun _ => (-1 : Int32)))), (ap, .inl (G.2.1, 4, .inl pd2)), (as_, .inl (G.2.2.1, 4, .inl fl2))] H := hP
      have hD : va_D A [(h0, .inr (8, [.int (nI 0), .int x, .int (nI 0), .ref am, .ref ap, .ref as_])), (am, .inl (G.2.1, 4, .inl (fun _ => (-1 : Int32)))), (ap, .inl (G.2.1, 4, .inl pd2)), (as_, .inl (G.2.2.1, 4, .inl fl2))] := hD
      have hP := g_arr hP 2 rfl (show ∀ k, k < 4 → pd2 k = (fun _ => nI 0) k from hpd)
      have hD := hD.set (p := 2) (a := ap) (e := .inl (G.2.1, 4, .inl (fun _ => nI 0))) rfl
      have hP : va_P G.1 vwCl [(h0, .inr (8, [.int (nI 0), .int x, .int (nI 0), .ref am, .ref ap, .ref as_])), (am, .inl (G.2.1, 4, .inl (fun _ => (-1 : Int32)))), (ap, .inl (G.2.1, 4, .inl (fun _ => nI 0))), (as_, .inl (G.2.2.1, 4, .inl fl2))] H := hP
      have hD : va_D A [(h0, .inr (8, [.int (nI 0), .int x, .int (nI 0), .ref am, .ref ap, .ref as_])), (am, .inl (G.2.1, 4, .inl (fun _ => (-1 : Int32)))), (ap, .inl (G.2.1, 4, .inl (fun _ => nI 0))), (as_, .inl (G.2.2.1, 4, .inl fl2))] := hD
      have hP := g_arr hP 3 rfl (show ∀ k, k < 4 → fl2 k = (fun _ => nI 0) k from hfl)
      have hD := hD.set (p := 3) (a := as_) (e := .inl (G.2.2.1, 4, .inl (fun _ => nI 0))) rfl
      have hP : va_P G.1 vwCl [(h0, .inr (8, [.int (nI 0), .int x, .int (nI 0), .ref am, .ref ap, .ref as_])), (am, .inl (G.2.1, 4, .inl (fun _ => (-1 : Int32)))), (ap, .inl (G.2.1, 4, .inl (fun _ => nI 0))), (as_, .inl (G.2.2.1, 4, .inl (fun _ => nI 0)))] H := hP
      have hD : va_D A [(h0, .inr (8, [.int (nI 0), .int x, .int (nI 0), .ref am, .ref ap, .ref as_])), (am, .inl (G.2.1, 4, .inl (fun _ => (-1 : Int32)))), (ap, .inl (G.2.1, 4, .inl (fun _ => nI 0))), (as_, .inl (G.2.2.1, 4, .inl (fun _ => nI 0)))] := hD
      have hP9 : va_P G.1 vwCl [(h0, .inr (8, [.int (nI 0), .int x, .int (nI 0), .ref am, .ref ap, .ref as_])), (am, .inl (G.2.1, 4, .inl (fun _ => (-1 : Int32)))), (ap, .inl (G.2.1, 4, .inl (fun _ => nI 0))), (as_, .inl (G.2.2.1, 4, .inl (fun _ => nI 0)))] H := (hP.sub [0, 1, 2, 3] rfl)
      have hD9 : va_D A [(h0, .inr (8, [.int (nI 0), .int x, .int (nI 0), .ref am, .ref ap, .ref as_])), (am, .inl (G.2.1, 4, .inl (fun _ => (-1 : Int32)))), (ap, .inl (G.2.1, 4, .inl (fun _ => nI 0))), (as_, .inl (G.2.2.1, 4, .inl (fun _ => nI 0)))] := (hD.sub [0, 1, 2, 3] (by decide) rfl)
      exact W.vret hx hb hr (fun t9 ht9 hW9 => ⟨⟨(), rfl, trivial, by rw [ht9]; exact hP9, hD9⟩, hS.F ht9⟩) hS.2.2 dX8_begin_49
    · skip
      have c_2 := gNot (cLeNN (a := 4) (b := i) (by omega) (by omega)) c_2
      refine lv_aload_n hx hb dX8_begin_22 rfl (lv_at hl 0 rfl) ?_
      refine va_get (D := G.1) (ci := 8) (v := .ref am) (C := RX8) (T := TX8) (N := 6) hx hb hts (g_in wsX80 7 rfl) hown hK.1 hP 0 rfl rfl 3 (by decide) (hts _ (List.mem_of_getElem? (i := 4) rfl)) (fun _ h9 => h9) rfl dX8_begin_23 ?_
      refine lv_iload_n hx hb dX8_begin_26 rfl (lv_at hl 1 rfl) ?_
      refine lv_iconst (v := (-1)) hx hb dX8_begin_27 (by decide) ?_
      refine g_iast hx hb hK hP hD hS 1 rfl (by omega) (by decide) dX8_begin_28 (fun H locs hP hD hS => ?_)
      have hP : va_P G.1 vwCl [(h0, .inr (8, [.int (nI 0), .int x, .int (nI 0), .ref am, .ref ap, .ref as_])), (am, .inl (G.2.1, 4, .inl (upd me2 i (-1)))), (ap, .inl (G.2.1, 4, .inl pd2)), (as_, .inl (G.2.2.1, 4, .inl fl2))] H := hP
      have hD : va_D A [(h0, .inr (8, [.int (nI 0), .int x, .int (nI 0), .ref am, .ref ap, .ref as_])), (am, .inl (G.2.1, 4, .inl (upd me2 i (-1)))), (ap, .inl (G.2.1, 4, .inl pd2)), (as_, .inl (G.2.2.1, 4, .inl fl2))] := hD
      refine lv_aload_n hx hb dX8_begin_29 rfl (lv_at hl 0 rfl) ?_
      refine va_get (D := G.1) (ci := 8) (v := .ref ap) (C := RX8) (T := TX8) (N := 6) hx hb hts (g_in wsX80 7 rfl) hown hK.1 hP 0 rfl rfl 4 (by decide) (hts _ (List.mem_of_getElem? (i := 5) rfl)) (fun _ h9 => h9) rfl dX8_begin_30 ?_
      refine lv_iload_n hx hb dX8_begin_33 rfl (lv_at hl 1 rfl) ?_
      refine lv_iconst (v := (nI 0)) hx hb dX8_begin_34 (by decide) ?_
      refine g_iast hx hb hK hP hD hS 2 rfl (by omega) (by decide) dX8_begin_35 (fun H locs hP hD hS => ?_)
      have hP : va_P G.1 vwCl [(h0, .inr (8, [.int (nI 0), .int x, .int (nI 0), .ref am, .ref ap, .ref as_])), (am, .inl (G.2.1, 4, .inl (upd me2 i (-1)))), (ap, .inl (G.2.1, 4, .inl (upd pd2 i (nI 0)))), (as_, .inl (G.2.2.1, 4, .inl fl2))] H := hP
      have hD : va_D A [(h0, .inr (8, [.int (nI 0), .int x, .int (nI 0), .ref am, .ref ap, .ref as_])), (am, .inl (G.2.1, 4, .inl (upd me2 i (-1)))), (ap, .inl (G.2.1, 4, .inl (upd pd2 i (nI 0)))), (as_, .inl (G.2.2.1, 4, .inl fl2))] := hD
      refine lv_aload_n hx hb dX8_begin_36 rfl (lv_at hl 0 rfl) ?_
      refine va_get (D := G.1) (ci := 8) (v := .ref as_) (C := RX8) (T := TX8) (N := 6) hx hb hts (g_in wsX80 7 rfl) hown hK.1 hP 0 rfl rfl 5 (by decide) (hts _ (List.mem_of_getElem? (i := 6) rfl)) (fun _ h9 => h9) rfl dX8_begin_37 ?_
      refine lv_iload_n hx hb dX8_begin_40 rfl (lv_at hl 1 rfl) ?_
      refine lv_iconst (v := (nI 0)) hx hb dX8_begin_41 (by decide) ?_
      refine g_zast hx hb hK hP hD hS 3 rfl (by decide) (by omega) (by decide) dX8_begin_42 (fun H locs hP hD hS => ?_)
      have hP : va_P G.1 vwCl [(h0, .inr (8, [.int (nI 0), .int x, .int (nI 0), .ref am, .ref ap, .ref as_])), (am, .inl (G.2.1, 4, .inl (upd me2 i (-1)))), (ap, .inl (G.2.1, 4, .inl (upd pd2 i (nI 0)))), (as_, .inl (G.2.2.1, 4, .inl (upd fl2 i (nI 0))))] H := hP
      have hD : va_D A [(h0, .inr (8, [.int (nI 0), .int x, .int (nI 0), .ref am, .ref ap, .ref as_])), (am, .inl (G.2.1, 4, .inl (upd me2 i (-1)))), (ap, .inl (G.2.1, 4, .inl (upd pd2 i (nI 0)))), (as_, .inl (G.2.2.1, 4, .inl (upd fl2 i (nI 0))))] := hD
      refine lv_iinc (v := (nI (i + 1))) (lv' := [(2, .int (nI (i + 1))), (0, .ref h0)]) hx hb dX8_begin_43 hl (k := 1) rfl (nI_iinc (by decide)) (by decide) rfl (fun ls hl => ?_)
      refine lv_goto (tgt := 17) hx hb dX8_begin_46 (by decide) ?_
      exact L17_1 (i + 1) (upd me2 i (-1)) (upd pd2 i (nI 0)) (upd fl2 i (nI 0)) _ _ _ (by omega) ⟨(by omega), up_all hme rfl, up_all hpd rfl, up_all hfl rfl, (hP.sub [0, 1, 2, 3] rfl), (hD.sub [0, 1, 2, 3] (by decide) rfl), hS, lv_sub hl [1, 0] rfl⟩
  · skip
    exact L17_1 0 me pd fl _ _ _ ⟨(by omega), up_0, up_0, up_0, (hP.sub [0, 1, 2, 3] rfl), (hD.sub [0, 1, 2, 3] (by decide) rfl), hS, lv_sub hl [1, 0] rfl⟩

set_option maxHeartbeats 4000000 in
set_option maxRecDepth 100000 in
theorem c_copyFrom (l : Launch) (G : gG) (h0 : Nat) (am : Nat) (ap : Nat) (as_ : Nat) (hd : Int32) (mk : Int32) (ps : Int32) (me : Nat → Int32) (pd : Nat → Int32) (fl : Nat → Int32) (h1 : Nat) (am2 : Nat) (ap2 : Nat) (as_2 : Nat) (hd2 : Int32) (mk2 : Int32) (ps2 : Int32) (me2 : Nat → Int32) (pd2 : Nat → Int32) (fl2 : Nat → Int32) (sz : Nat) (hz : ∀ k, k < 4 → vp_nar .boolean (fl2 k) = fl2 k) : Met l yX8_copyFrom wsX8_copyFrom ({ frames := 0, cells := 0, slots := 0, locals := 0 } : Room) (gM G [.ref h0, .ref h1] [(h0, .inr (8, [.int hd, .int mk, .int ps, .ref am, .ref ap, .ref as_])), (am, .inl (G.2.1, 4, .inl me)), (ap, .inl (G.2.1, 4, .inl pd)), (as_, .inl (G.2.2.1, 4, .inl fl)), (h1, .inr (8, [.int hd2, .int mk2, .int ps2, .ref am2, .ref ap2, .ref as_2])), (am2, .inl (G.2.1, 4, .inl me2)), (ap2, .inl (G.2.1, 4, .inl pd2)), (as_2, .inl (G.2.2.1, 4, .inl fl2))] sz) (va_Qv (fun (u : Unit) => True) (fun u t => va_P G.1 vwCl [(h0, .inr (8, [.int hd2, .int mk2, .int ps2, .ref am, .ref ap, .ref as_])), (am, .inl (G.2.1, 4, .inl me2)), (ap, .inl (G.2.1, 4, .inl pd2)), (as_, .inl (G.2.2.1, 4, .inl fl2)), (h1, .inr (8, [.int hd2, .int mk2, .int ps2, .ref am2, .ref ap2, .ref as_2])), (am2, .inl (G.2.1, 4, .inl me2)), (ap2, .inl (G.2.1, 4, .inl pd2)), (as_2, .inl (G.2.2.1, 4, .inl fl2))] t.heap ∧ va_D (va_A [(h0, .inr (8, [.int hd, .int mk, .int ps, .ref am, .ref ap, .ref as_])), (am, .inl (G.2.1, 4, .inl me)), (ap, .inl (G.2.1, 4, .inl pd)), (as_, .inl (G.2.2.1, 4, .inl fl)), (h1, .inr (8, [.int hd2, .int mk2, .int ps2, .ref am2, .ref ap2, .ref as_2])), (am2, .inl (G.2.1, 4, .inl me2)), (ap2, .inl (G.2.1, 4, .inl pd2)), (as_2, .inl (G.2.2.1, 4, .inl fl2))] sz) [(h0, .inr (8, [.int hd2, .int mk2, .int ps2, .ref am, .ref ap, .ref as_])), (am, .inl (G.2.1, 4, .inl me2)), (ap, .inl (G.2.1, 4, .inl pd2)), (as_, .inl (G.2.2.1, 4, .inl fl2)), (h1, .inr (8, [.int hd2, .int mk2, .int ps2, .ref am2, .ref ap2, .ref as_2])), (am2, .inl (G.2.1, 4, .inl me2)), (ap2, .inl (G.2.1, 4, .inl pd2)), (as_2, .inl (G.2.2.1, 4, .inl fl2))]) (va_A [(h0, .inr (8, [.int hd, .int mk, .int ps, .ref am, .ref ap, .ref as_])), (am, .inl (G.2.1, 4, .inl me)), (ap, .inl (G.2.1, 4, .inl pd)), (as_, .inl (G.2.2.1, 4, .inl fl)), (h1, .inr (8, [.int hd2, .int mk2, .int ps2, .ref am2, .ref ap2, .ref as_2])), (am2, .inl (G.2.1, 4, .inl me2)), (ap2, .inl (G.2.1, 4, .inl pd2)), (as_2, .inl (G.2.2.1, 4, .inl fl2))] sz)) 0 0 (va_A [(h0, .inr (8, [.int hd, .int mk, .int ps, .ref am, .ref ap, .ref as_])), (am, .inl (G.2.1, 4, .inl me)), (ap, .inl (G.2.1, 4, .inl pd)), (as_, .inl (G.2.2.1, 4, .inl fl)), (h1, .inr (8, [.int hd2, .int mk2, .int ps2, .ref am2, .ref ap2, .ref as_2])), (am2, .inl (G.2.1, 4, .inl me2)), (ap2, .inl (G.2.1, 4, .inl pd2)), (as_2, .inl (G.2.2.1, 4, .inl fl2))] sz) := by
  refine Met.ofW (cc := cX8_copyFrom) (maxL := 3) (ret := none) (by decide) rfl ?_
  intro p e s m args below meth c s₁ B hml hv
  obtain ⟨rfl, hsz, hP, hK, hD0⟩ := hv
  have hx := B.exec
  have hb := B.bytes
  have hr := B.returns
  have hts := atoms_spec (ws := wsX8_copyFrom) B.pre
  have hown : s.vm.findClass RX8 = some m.cls := findClass_of_methodNamed B.named
  have hlocks := B.notSynchronized
  subst hsz
  have hD := hD0.self (sz := s.heap.size)
  generalize hAe : va_A [(h0, .inr (8, [.int hd, .int mk, .int ps, .ref am, .ref ap, .ref as_])), (am, .inl (G.2.1, 4, .inl me)), (ap, .inl (G.2.1, 4, .inl pd)), (as_, .inl (G.2.2.1, 4, .inl fl)), (h1, .inr (8, [.int hd2, .int mk2, .int ps2, .ref am2, .ref ap2, .ref as_2])), (am2, .inl (G.2.1, 4, .inl me2)), (ap2, .inl (G.2.1, 4, .inl pd2)), (as_2, .inl (G.2.2.1, 4, .inl fl2))] s.heap.size = A at hD ⊢
  have hA : ∀ q : Nat, s.heap.size ≤ q → A q := fun q h => by rw [← hAe]; exact Or.inr h
  have hS : va_S A s.heap s.heap [] := va_S.rf
  clear hAe hD0
  have hl := lv_entry ([.ref h0, .ref h1]) (n := 3) (Nat.le_of_ble_eq_true rfl)
  rw [lg_entry_eq]
  generalize (lg_sl ([.ref h0, .ref h1]) ++ List.replicate (3 - (lg_sl ([.ref h0, .ref h1])).length) Slot.unset).toArray = ls at hl ⊢
  have hl : lv_has ls 3 [(0, .ref h0), (1, .ref h1)] := hl
  refine lv_aload_n hx hb dX8_copyFrom_0 rfl (lv_at hl 0 rfl) ?_
  refine lv_aload_n hx hb dX8_copyFrom_1 rfl (lv_at hl 1 rfl) ?_
  refine va_get (D := G.1) (ci := 8) (v := .int hd2) (C := RX8) (T := TX8) (N := 6) hx hb hts (g_in wsX80 7 rfl) hown hK.1 hP 4 rfl rfl 0 (by decide) (hts _ (List.mem_of_getElem? (i := 1) rfl)) (fun _ h9 => h9) rfl dX8_copyFrom_2 ?_
  refine va_put (D := G.1) (ci := 8) (v := .int hd2) (ty := .int) (C := RX8) (T := TX8) (N := 6) hx hb hts (g_in wsX80 7 rfl) tyX8 tyX8_ok nmX8 hown hK.1 hP hD hS 0 rfl rfl 0 (by decide) (hts _ (List.mem_of_getElem? (i := 1) rfl)) (fun _ h9 => h9) rfl (tyX8_ok 0 (by decide)) rfl rfl (Nat.le_of_ble_eq_true rfl) dX8_copyFrom_5 (fun H locs hP hD hS => ?_)
  have hP : va_P G.1 vwCl [(h0, .inr (8, [.int hd2, .int mk, .int ps, .ref am, .ref ap, .ref as_])), (am, .inl (G.2.1, 4, .inl me)), (ap, .inl (G.2.1, 4, .inl pd)), (as_, .inl (G.2.2.1, 4, .inl fl)), (h1, .inr (8, [.int hd2, .int mk2, .int ps2, .ref am2, .ref ap2, .ref as_2])), (am2, .inl (G.2.1, 4, .inl me2)), (ap2, .inl (G.2.1, 4, .inl pd2)), (as_2, .inl (G.2.2.1, 4, .inl fl2))] H := hP
  have hD : va_D A [(h0, .inr (8, [.int hd2, .int mk, .int ps, .ref am, .ref ap, .ref as_])), (am, .inl (G.2.1, 4, .inl me)), (ap, .inl (G.2.1, 4, .inl pd)), (as_, .inl (G.2.2.1, 4, .inl fl)), (h1, .inr (8, [.int hd2, .int mk2, .int ps2, .ref am2, .ref ap2, .ref as_2])), (am2, .inl (G.2.1, 4, .inl me2)), (ap2, .inl (G.2.1, 4, .inl pd2)), (as_2, .inl (G.2.2.1, 4, .inl fl2))] := hD
  refine lv_aload_n hx hb dX8_copyFrom_8 rfl (lv_at hl 0 rfl) ?_
  refine lv_aload_n hx hb dX8_copyFrom_9 rfl (lv_at hl 1 rfl) ?_
  refine va_get (D := G.1) (ci := 8) (v := .int mk2) (C := RX8) (T := TX8) (N := 6) hx hb hts (g_in wsX80 7 rfl) hown hK.1 hP 4 rfl rfl 1 (by decide) (hts _ (List.mem_of_getElem? (i := 2) rfl)) (fun _ h9 => h9) rfl dX8_copyFrom_10 ?_
  refine va_put (D := G.1) (ci := 8) (v := .int mk2) (ty := .int) (C := RX8) (T := TX8) (N := 6) hx hb hts (g_in wsX80 7 rfl) tyX8 tyX8_ok nmX8 hown hK.1 hP hD hS 0 rfl rfl 1 (by decide) (hts _ (List.mem_of_getElem? (i := 2) rfl)) (fun _ h9 => h9) rfl (tyX8_ok 1 (by decide)) rfl rfl (Nat.le_of_ble_eq_true rfl) dX8_copyFrom_13 (fun H locs hP hD hS => ?_)
  have hP : va_P G.1 vwCl [(h0, .inr (8, [.int hd2, .int mk2, .int ps, .ref am, .ref ap, .ref as_])), (am, .inl (G.2.1, 4, .inl me)), (ap, .inl (G.2.1, 4, .inl pd)), (as_, .inl (G.2.2.1, 4, .inl fl)), (h1, .inr (8, [.int hd2, .int mk2, .int ps2, .ref am2, .ref ap2, .ref as_2])), (am2, .inl (G.2.1, 4, .inl me2)), (ap2, .inl (G.2.1, 4, .inl pd2)), (as_2, .inl (G.2.2.1, 4, .inl fl2))] H := hP
  have hD : va_D A [(h0, .inr (8, [.int hd2, .int mk2, .int ps, .ref am, .ref ap, .ref as_])), (am, .inl (G.2.1, 4, .inl me)), (ap, .inl (G.2.1, 4, .inl pd)), (as_, .inl (G.2.2.1, 4, .inl fl)), (h1, .inr (8, [.int hd2, .int mk2, .int ps2, .ref am2, .ref ap2, .ref as_2])), (am2, .inl (G.2.1, 4, .inl me2)), (ap2, .inl (G.2.1, 4, .inl pd2)), (as_2, .inl (G.2.2.1, 4, .inl fl2))] := hD
  refine lv_aload_n hx hb dX8_copyFrom_16 rfl (lv_at hl 0 rfl) ?_
  refine lv_aload_n hx hb dX8_copyFrom_17 rfl (lv_at hl 1 rfl) ?_
  refine va_get (D := G.1) (ci := 8) (v := .int ps2) (C := RX8) (T := TX8) (N := 6) hx hb hts (g_in wsX80 7 rfl) hown hK.1 hP 4 rfl rfl 2 (by decide) (hts _ (List.mem_of_getElem? (i := 3) rfl)) (fun _ h9 => h9) rfl dX8_copyFrom_18 ?_
  refine va_put (D := G.1) (ci := 8) (v := .int ps2) (ty := .int) (C := RX8) (T := TX8) (N := 6) hx hb hts (g_in wsX80 7 rfl) tyX8 tyX8_ok nmX8 hown hK.1 hP hD hS 0 rfl rfl 2 (by decide) (hts _ (List.mem_of_getElem? (i := 3) rfl)) (fun _ h9 => h9) rfl (tyX8_ok 2 (by decide)) rfl rfl (Nat.le_of_ble_eq_true rfl) dX8_copyFrom_21 (fun H locs hP hD hS => ?_)
  have hP : va_P G.1 vwCl [(h0, .inr (8, [.int hd2, .int mk2, .int ps2, .ref am, .ref ap, .ref as_])), (am, .inl (G.2.1, 4, .inl me)), (ap, .inl (G.2.1, 4, .inl pd)), (as_, .inl (G.2.2.1, 4, .inl fl)), (h1, .inr (8, [.int hd2, .int mk2, .int ps2, .ref am2, .ref ap2, .ref as_2])), (am2, .inl (G.2.1, 4, .inl me2)), (ap2, .inl (G.2.1, 4, .inl pd2)), (as_2, .inl (G.2.2.1, 4, .inl fl2))] H := hP
  have hD : va_D A [(h0, .inr (8, [.int hd2, .int mk2, .int ps2, .ref am, .ref ap, .ref as_])), (am, .inl (G.2.1, 4, .inl me)), (ap, .inl (G.2.1, 4, .inl pd)), (as_, .inl (G.2.2.1, 4, .inl fl)), (h1, .inr (8, [.int hd2, .int mk2, .int ps2, .ref am2, .ref ap2, .ref as_2])), (am2, .inl (G.2.1, 4, .inl me2)), (ap2, .inl (G.2.1, 4, .inl pd2)), (as_2, .inl (G.2.2.1, 4, .inl fl2))] := hD
  refine lv_iconst (v := (nI 0)) hx hb dX8_copyFrom_24 (by decide) ?_
  refine lv_istore_n (lv' := [(2, .int (nI 0)), (0, .ref h0), (1, .ref h1)]) hx hb dX8_copyFrom_25 rfl hl (by decide) rfl (fun ls hl => ?_)
  refine g_cutM4 (α := Nat) (β := Nat → Int32) (γ := Nat → Int32) (δ := Nat → Int32) 26 (fun i me3 pd3 fl3 => []) (fun i me3 pd3 fl3 H locs ls => (i ≤ 4) ∧ (∀ k, k < i → me3 k = me2 k) ∧ (∀ k, k < i → pd3 k = pd2 k) ∧ (∀ k, k < i → fl3 k = fl2 k) ∧ va_P G.1 vwCl [(h0, .inr (8, [.int hd2, .int mk2, .int ps2, .ref am, .ref ap, .ref as_])), (am, .inl (G.2.1, 4, .inl me3)), (ap, .inl (G.2.1, 4, .inl pd3)), (as_, .inl (G.2.2.1, 4, .inl fl3)), (h1, .inr (8, [.int hd2, .int mk2, .int ps2, .ref am2, .ref ap2, .ref as_2])), (am2, .inl (G.2.1, 4, .inl me2)), (ap2, .inl (G.2.1, 4, .inl pd2)), (as_2, .inl (G.2.2.1, 4, .inl fl2))] H ∧ va_D A [(h0, .inr (8, [.int hd2, .int mk2, .int ps2, .ref am, .ref ap, .ref as_])), (am, .inl (G.2.1, 4, .inl me3)), (ap, .inl (G.2.1, 4, .inl pd3)), (as_, .inl (G.2.2.1, 4, .inl fl3)), (h1, .inr (8, [.int hd2, .int mk2, .int ps2, .ref am2, .ref ap2, .ref as_2])), (am2, .inl (G.2.1, 4, .inl me2)), (ap2, .inl (G.2.1, 4, .inl pd2)), (as_2, .inl (G.2.2.1, 4, .inl fl2))] ∧ va_S A s.heap H locs ∧ lv_has ls 3 [(0, .ref h0), (1, .ref h1), (2, .int (nI i))]) (g_loopM4 (α := Nat) (β := Nat → Int32) (γ := Nat → Int32) (δ := Nat → Int32) 26 (fun i me3 pd3 fl3 => []) (fun i me3 pd3 fl3 H locs ls => (i ≤ 4) ∧ (∀ k, k < i → me3 k = me2 k) ∧ (∀ k, k < i → pd3 k = pd2 k) ∧ (∀ k, k < i → fl3 k = fl2 k) ∧ va_P G.1 vwCl [(h0, .inr (8, [.int hd2, .int mk2, .int ps2, .ref am, .ref ap, .ref as_])), (am, .inl (G.2.1, 4, .inl me3)), (ap, .inl (G.2.1, 4, .inl pd3)), (as_, .inl (G.2.2.1, 4, .inl fl3)), (h1, .inr (8, [.int hd2, .int mk2, .int ps2, .ref am2, .ref ap2, .ref as_2])), (am2, .inl (G.2.1, 4, .inl me2)), (ap2, .inl (G.2.1, 4, .inl pd2)), (as_2, .inl (G.2.2.1, 4, .inl fl2))] H ∧ va_D A [(h0, .inr (8, [.int hd2, .int mk2, .int ps2, .ref am, .ref ap, .ref as_])), (am, .inl (G.2.1, 4, .inl me3)), (ap, .inl (G.2.1, 4, .inl pd3)), (as_, .inl (G.2.2.1, 4, .inl fl3)), (h1, .inr (8, [.int hd2, .int mk2, .int ps2, .ref am2, .ref ap2, .ref as_2])), (am2, .inl (G.2.1, 4, .inl me2)), (ap2, .inl (G.2.1, 4, .inl pd2)), (as_2, .inl (G.2.2.1, 4, .inl fl2))] ∧ va_S A s.heap H locs ∧ lv_has ls 3 [(0, .ref h0), (1, .ref h1), (2, .int (nI i))]) (fun i me3 pd3 fl3 => 4 - i) ?_) (fun L26_1 => ?_)
  · intro i me3 pd3 fl3 H locs ls hI L26_1
    obtain ⟨hi, hme, hpd, hfl, hP, hD, hS, hl⟩ := hI
    refine lv_iload_n hx hb dX8_copyFrom_26 rfl (lv_at hl 2 rfl) ?_
    refine lv_iconst (v := (nI 4)) hx hb dX8_copyFrom_27 (by decide) ?_
    refine lv_icmp_ge (tgt := 73) hx hb dX8_copyFrom_28 (by decide) (fun c_2 => ?_) (fun c_2 => ?_)
    · skip
      have c_2 := (cLeNN (a := 4) (b := i) (by omega) (by omega)).mp c_2
      obtain rfl : i = 4 := by omega
      have hP := g_arr hP 1 rfl (show ∀ k, k < 4 → me3 k = me2 k from hme)
      have hD := hD.set (p := 1) (a := am) (e := .inl (G.2.1, 4, .inl me2)) rfl
      have hP : va_P G.1 vwCl [(h0, .inr (8, [.int hd2, .int mk2, .int ps2, .ref am, .ref ap, .ref as_])), (am, .inl (G.2.1, 4, .inl me2)), (ap, .inl (G.2.1, 4, .inl pd3)), (as_, .inl (G.2.2.1, 4, .inl fl3)), (h1, .inr (8, [.int hd2, .int mk2, .int ps2, .ref am2, .ref ap2, .ref as_2])), (am2, .inl (G.2.1, 4, .inl me2)), (ap2, .inl (G.2.1, 4, .inl pd2)), (as_2, .inl (G.2.2.1, 4, .inl fl2))] H := hP
      have hD : va_D A [(h0, .inr (8, [.int hd2, .int mk2, .int ps2, .ref am, .ref ap, .ref as_])), (am, .inl (G.2.1, 4, .inl me2)), (ap, .inl (G.2.1, 4, .inl pd3)), (as_, .inl (G.2.2.1, 4, .inl fl3)), (h1, .inr (8, [.int hd2, .int mk2, .int ps2, .ref am2, .ref ap2, .ref as_2])), (am2, .inl (G.2.1, 4, .inl me2)), (ap2, .inl (G.2.1, 4, .inl pd2)), (as_2, .inl (G.2.2.1, 4, .inl fl2))] := hD
      have hP := g_arr hP 2 rfl (show ∀ k, k < 4 → pd3 k = pd2 k from hpd)
      have hD := hD.set (p := 2) (a := ap) (e := .inl (G.2.1, 4, .inl pd2)) rfl
      have hP : va_P G.1 vwCl [(h0, .inr (8, [.int hd2, .int mk2, .int ps2, .ref am, .ref ap, .ref as_])), (am, .inl (G.2.1, 4, .inl me2)), (ap, .inl (G.2.1, 4, .inl pd2)), (as_, .inl (G.2.2.1, 4, .inl fl3)), (h1, .inr (8, [.int hd2, .int mk2, .int ps2, .ref am2, .ref ap2, .ref as_2])), (am2, .inl (G.2.1, 4, .inl me2)), (ap2, .inl (G.2.1, 4, .inl pd2)), (as_2, .inl (G.2.2.1, 4, .inl fl2))] H := hP
      have hD : va_D A [(h0, .inr (8, [.int hd2, .int mk2, .int ps2, .ref am, .ref ap, .ref as_])), (am, .inl (G.2.1, 4, .inl me2)), (ap, .inl (G.2.1, 4, .inl pd2)), (as_, .inl (G.2.2.1, 4, .inl fl3)), (h1, .inr (8, [.int hd2, .int mk2, .int ps2, .ref am2, .ref ap2, .ref as_2])), (am2, .inl (G.2.1, 4, .inl me2)), (ap2, .inl (G.2.1, 4, .inl pd2)), (as_2, .inl (G.2.2.1, 4, .inl fl2))] := hD
      have hP := g_arr hP 3 rfl (show ∀ k, k < 4 → fl3 k = fl2 k from hfl)
      have hD := hD.set (p := 3) (a := as_) (e := .inl (G.2.2.1, 4, .inl fl2)) rfl
      have hP : va_P G.1 vwCl [(h0, .inr (8, [.int hd2, .int mk2, .int ps2, .ref am, .ref ap, .ref as_])), (am, .inl (G.2.1, 4, .inl me2)), (ap, .inl (G.2.1, 4, .inl pd2)), (as_, .inl (G.2.2.1, 4, .inl fl2)), (h1, .inr (8, [.int hd2, .int mk2, .int ps2, .ref am2, .ref ap2, .ref as_2])), (am2, .inl (G.2.1, 4, .inl me2)), (ap2, .inl (G.2.1, 4, .inl pd2)), (as_2, .inl (G.2.2.1, 4, .inl fl2))] H := hP
      have hD : va_D A [(h0, .inr (8, [.int hd2, .int mk2, .int ps2, .ref am, .ref ap, .ref as_])), (am, .inl (G.2.1, 4, .inl me2)), (ap, .inl (G.2.1, 4, .inl pd2)), (as_, .inl (G.2.2.1, 4, .inl fl2)), (h1, .inr (8, [.int hd2, .int mk2, .int ps2, .ref am2, .ref ap2, .ref as_2])), (am2, .inl (G.2.1, 4, .inl me2)), (ap2, .inl (G.2.1, 4, .inl pd2)), (as_2, .inl (G.2.2.1, 4, .inl fl2))] := hD
      have hP9 : va_P G.1 vwCl [(h0, .inr (8, [.int hd2, .int mk2, .int ps2, .ref am, .ref ap, .ref as_])), (am, .inl (G.2.1, 4, .inl me2)), (ap, .inl (G.2.1, 4, .inl pd2)), (as_, .inl (G.2.2.1, 4, .inl fl2)), (h1, .inr (8, [.int hd2, .int mk2, .int ps2, .ref am2, .ref ap2, .ref as_2])), (am2, .inl (G.2.1, 4, .inl me2)), (ap2, .inl (G.2.1, 4, .inl pd2)), (as_2, .inl (G.2.2.1, 4, .inl fl2))] H := (hP.sub [0, 1, 2, 3, 4, 5, 6, 7] rfl)
      have hD9 : va_D A [(h0, .inr (8, [.int hd2, .int mk2, .int ps2, .ref am, .ref ap, .ref as_])), (am, .inl (G.2.1, 4, .inl me2)), (ap, .inl (G.2.1, 4, .inl pd2)), (as_, .inl (G.2.2.1, 4, .inl fl2)), (h1, .inr (8, [.int hd2, .int mk2, .int ps2, .ref am2, .ref ap2, .ref as_2])), (am2, .inl (G.2.1, 4, .inl me2)), (ap2, .inl (G.2.1, 4, .inl pd2)), (as_2, .inl (G.2.2.1, 4, .inl fl2))] := (hD.sub [0, 1, 2, 3, 4, 5, 6, 7] (by decide) rfl)
      exact W.vret hx hb hr (fun t9 ht9 hW9 => ⟨⟨(), rfl, trivial, by rw [ht9]; exact hP9, hD9⟩, hS.F ht9⟩) hS.2.2 dX8_copyFrom_73
    · skip
      have c_2 := gNot (cLeNN (a := 4) (b := i) (by omega) (by omega)) c_2
      refine lv_aload_n hx hb dX8_copyFrom_31 rfl (lv_at hl 0 rfl) ?_
      refine va_get (D := G.1) (ci := 8) (v := .ref am) (C := RX8) (T := TX8) (N := 6) hx hb hts (g_in wsX80 7 rfl) hown hK.1 hP 0 rfl rfl 3 (by decide) (hts _ (List.mem_of_getElem? (i := 4) rfl)) (fun _ h9 => h9) rfl dX8_copyFrom_32 ?_
      refine lv_iload_n hx hb dX8_copyFrom_35 rfl (lv_at hl 2 rfl) ?_
      refine lv_aload_n hx hb dX8_copyFrom_36 rfl (lv_at hl 1 rfl) ?_
      refine va_get (D := G.1) (ci := 8) (v := .ref am2) (C := RX8) (T := TX8) (N := 6) hx hb hts (g_in wsX80 7 rfl) hown hK.1 hP 4 rfl rfl 3 (by decide) (hts _ (List.mem_of_getElem? (i := 4) rfl)) (fun _ h9 => h9) rfl dX8_copyFrom_37 ?_
      refine lv_iload_n hx hb dX8_copyFrom_40 rfl (lv_at hl 2 rfl) ?_
      refine g_iald hx hb hK hP 5 rfl (by omega) (by decide) dX8_copyFrom_41 ?_
      refine g_iast hx hb hK hP hD hS 1 rfl (by omega) (by decide) dX8_copyFrom_42 (fun H locs hP hD hS => ?_)
      have hP : va_P G.1 vwCl [(h0, .inr (8, [.int hd2, .int mk2, .int ps2, .ref am, .ref ap, .ref as_])), (am, .inl (G.2.1, 4, .inl (upd me3 i (me2 i)))), (ap, .inl (G.2.1, 4, .inl pd3)), (as_, .inl (G.2.2.1, 4, .inl fl3)), (h1, .inr (8, [.int hd2, .int mk2, .int ps2, .ref am2, .ref ap2, .ref as_2])), (am2, .inl (G.2.1, 4, .inl me2)), (ap2, .inl (G.2.1, 4, .inl pd2)), (as_2, .inl (G.2.2.1, 4, .inl fl2))] H := hP
      have hD : va_D A [(h0, .inr (8, [.int hd2, .int mk2, .int ps2, .ref am, .ref ap, .ref as_])), (am, .inl (G.2.1, 4, .inl (upd me3 i (me2 i)))), (ap, .inl (G.2.1, 4, .inl pd3)), (as_, .inl (G.2.2.1, 4, .inl fl3)), (h1, .inr (8, [.int hd2, .int mk2, .int ps2, .ref am2, .ref ap2, .ref as_2])), (am2, .inl (G.2.1, 4, .inl me2)), (ap2, .inl (G.2.1, 4, .inl pd2)), (as_2, .inl (G.2.2.1, 4, .inl fl2))] := hD
      refine lv_aload_n hx hb dX8_copyFrom_43 rfl (lv_at hl 0 rfl) ?_
      refine va_get (D := G.1) (ci := 8) (v := .ref ap) (C := RX8) (T := TX8) (N := 6) hx hb hts (g_in wsX80 7 rfl) hown hK.1 hP 0 rfl rfl 4 (by decide) (hts _ (List.mem_of_getElem? (i := 5) rfl)) (fun _ h9 => h9) rfl dX8_copyFrom_44 ?_
      refine lv_iload_n hx hb dX8_copyFrom_47 rfl (lv_at hl 2 rfl) ?_
      refine lv_aload_n hx hb dX8_copyFrom_48 rfl (lv_at hl 1 rfl) ?_
      refine va_get (D := G.1) (ci := 8) (v := .ref ap2) (C := RX8) (T := TX8) (N := 6) hx hb hts (g_in wsX80 7 rfl) hown hK.1 hP 4 rfl rfl 4 (by decide) (hts _ (List.mem_of_getElem? (i := 5) rfl)) (fun _ h9 => h9) rfl dX8_copyFrom_49 ?_
      refine lv_iload_n hx hb dX8_copyFrom_52 rfl (lv_at hl 2 rfl) ?_
      refine g_iald hx hb hK hP 6 rfl (by omega) (by decide) dX8_copyFrom_53 ?_
      refine g_iast hx hb hK hP hD hS 2 rfl (by omega) (by decide) dX8_copyFrom_54 (fun H locs hP hD hS => ?_)
      have hP : va_P G.1 vwCl [(h0, .inr (8, [.int hd2, .int mk2, .int ps2, .ref am, .ref ap, .ref as_])), (am, .inl (G.2.1, 4, .inl (upd me3 i (me2 i)))), (ap, .inl (G.2.1, 4, .inl (upd pd3 i (pd2 i)))), (as_, .inl (G.2.2.1, 4, .inl fl3)), (h1, .inr (8, [.int hd2, .int mk2, .int ps2, .ref am2, .ref ap2, .ref as_2])), (am2, .inl (G.2.1, 4, .inl me2)), (ap2, .inl (G.2.1, 4, .inl pd2)), (as_2, .inl (G.2.2.1, 4, .inl fl2))] H := hP
      have hD : va_D A [(h0, .inr (8, [.int hd2, .int mk2, .int ps2, .ref am, .ref ap, .ref as_])), (am, .inl (G.2.1, 4, .inl (upd me3 i (me2 i)))), (ap, .inl (G.2.1, 4, .inl (upd pd3 i (pd2 i)))), (as_, .inl (G.2.2.1, 4, .inl fl3)), (h1, .inr (8, [.int hd2, .int mk2, .int ps2, .ref am2, .ref ap2, .ref as_2])), (am2, .inl (G.2.1, 4, .inl me2)), (ap2, .inl (G.2.1, 4, .inl pd2)), (as_2, .inl (G.2.2.1, 4, .inl fl2))] := hD
      refine lv_aload_n hx hb dX8_copyFrom_55 rfl (lv_at hl 0 rfl) ?_
      refine va_get (D := G.1) (ci := 8) (v := .ref as_) (C := RX8) (T := TX8) (N := 6) hx hb hts (g_in wsX80 7 rfl) hown hK.1 hP 0 rfl rfl 5 (by decide) (hts _ (List.mem_of_getElem? (i := 6) rfl)) (fun _ h9 => h9) rfl dX8_copyFrom_56 ?_
      refine lv_iload_n hx hb dX8_copyFrom_59 rfl (lv_at hl 2 rfl) ?_
      refine lv_aload_n hx hb dX8_copyFrom_60 rfl (lv_at hl 1 rfl) ?_
      refine va_get (D := G.1) (ci := 8) (v := .ref as_2) (C := RX8) (T := TX8) (N := 6) hx hb hts (g_in wsX80 7 rfl) hown hK.1 hP 4 rfl rfl 5 (by decide) (hts _ (List.mem_of_getElem? (i := 6) rfl)) (fun _ h9 => h9) rfl dX8_copyFrom_61 ?_
      refine lv_iload_n hx hb dX8_copyFrom_64 rfl (lv_at hl 2 rfl) ?_
      refine g_zald hx hb hK hP 7 rfl (by omega) (by decide) dX8_copyFrom_65 ?_
      refine g_zast hx hb hK hP hD hS 3 rfl (hz _ (by omega)) (by omega) (by decide) dX8_copyFrom_66 (fun H locs hP hD hS => ?_)
      have hP : va_P G.1 vwCl [(h0, .inr (8, [.int hd2, .int mk2, .int ps2, .ref am, .ref ap, .ref as_])), (am, .inl (G.2.1, 4, .inl (upd me3 i (me2 i)))), (ap, .inl (G.2.1, 4, .inl (upd pd3 i (pd2 i)))), (as_, .inl (G.2.2.1, 4, .inl (upd fl3 i (fl2 i)))), (h1, .inr (8, [.int hd2, .int mk2, .int ps2, .ref am2, .ref ap2, .ref as_2])), (am2, .inl (G.2.1, 4, .inl me2)), (ap2, .inl (G.2.1, 4, .inl pd2)), (as_2, .inl (G.2.2.1, 4, .inl fl2))] H := hP
      have hD : va_D A [(h0, .inr (8, [.int hd2, .int mk2, .int ps2, .ref am, .ref ap, .ref as_])), (am, .inl (G.2.1, 4, .inl (upd me3 i (me2 i)))), (ap, .inl (G.2.1, 4, .inl (upd pd3 i (pd2 i)))), (as_, .inl (G.2.2.1, 4, .inl (upd fl3 i (fl2 i)))), (h1, .inr (8, [.int hd2, .int mk2, .int ps2, .ref am2, .ref ap2, .ref as_2])), (am2, .inl (G.2.1, 4, .inl me2)), (ap2, .inl (G.2.1, 4, .inl pd2)), (as_2, .inl (G.2.2.1, 4, .inl fl2))] := hD
      refine lv_iinc (v := (nI (i + 1))) (lv' := [(2, .int (nI (i + 1))), (0, .ref h0), (1, .ref h1)]) hx hb dX8_copyFrom_67 hl (k := 2) rfl (nI_iinc (by decide)) (by decide) rfl (fun ls hl => ?_)
      refine lv_goto (tgt := 26) hx hb dX8_copyFrom_70 (by decide) ?_
      exact L26_1 (i + 1) (upd me3 i (me2 i)) (upd pd3 i (pd2 i)) (upd fl3 i (fl2 i)) _ _ _ (by omega) ⟨(by omega), up_all hme rfl, up_all hpd rfl, up_all hfl rfl, (hP.sub [0, 1, 2, 3, 4, 5, 6, 7] rfl), (hD.sub [0, 1, 2, 3, 4, 5, 6, 7] (by decide) rfl), hS, lv_sub hl [1, 2, 0] rfl⟩
  · skip
    exact L26_1 0 me pd fl _ _ _ ⟨(by omega), up_0, up_0, up_0, (hP.sub [0, 1, 2, 3, 4, 5, 6, 7] rfl), (hD.sub [0, 1, 2, 3, 4, 5, 6, 7] (by decide) rfl), hS, lv_sub hl [1, 2, 0] rfl⟩

set_option maxHeartbeats 4000000 in
set_option maxRecDepth 100000 in
theorem c_payIfDue (l : Launch) (G : gG) (h0 : Nat) (am : Nat) (ap : Nat) (as_ : Nat) (hd : Int32) (mk : Int32) (ps : Int32) (me : Nat → Int32) (pd : Nat → Int32) (fl : Nat → Int32) (j : Nat) (sz : Nat) (hj : j < 4) : Met l yX8_payIfDue wsX8_payIfDue ({ frames := 3, cells := 0, slots := 0, locals := 63 } : Room) (gM G [.ref h0, .int (nI j)] [(h0, .inr (8, [.int hd, .int mk, .int ps, .ref am, .ref ap, .ref as_])), (am, .inl (G.2.1, 4, .inl me)), (ap, .inl (G.2.1, 4, .inl pd)), (as_, .inl (G.2.2.1, 4, .inl fl))] sz) (va_Qi (fun (r : Int32) (u : (Nat → Int32) × (Nat → Int32)) => r = (bI (duS hd mk me fl j)) ∧ (duS hd mk me fl j → u.1 = upd pd j (pd j + nI 1) ∧ u.2 = upd fl j (nI 1)) ∧ (¬ duS hd mk me fl j → u.1 = pd ∧ u.2 = fl)) (fun u t => va_P G.1 vwCl [(h0, .inr (8, [.int hd, .int mk, .int ps, .ref am, .ref ap, .ref as_])), (am, .inl (G.2.1, 4, .inl me)), (ap, .inl (G.2.1, 4, .inl u.1)), (as_, .inl (G.2.2.1, 4, .inl u.2))] t.heap ∧ va_D (va_A [(h0, .inr (8, [.int hd, .int mk, .int ps, .ref am, .ref ap, .ref as_])), (am, .inl (G.2.1, 4, .inl me)), (ap, .inl (G.2.1, 4, .inl pd)), (as_, .inl (G.2.2.1, 4, .inl fl))] sz) [(h0, .inr (8, [.int hd, .int mk, .int ps, .ref am, .ref ap, .ref as_])), (am, .inl (G.2.1, 4, .inl me)), (ap, .inl (G.2.1, 4, .inl u.1)), (as_, .inl (G.2.2.1, 4, .inl u.2))]) (va_A [(h0, .inr (8, [.int hd, .int mk, .int ps, .ref am, .ref ap, .ref as_])), (am, .inl (G.2.1, 4, .inl me)), (ap, .inl (G.2.1, 4, .inl pd)), (as_, .inl (G.2.2.1, 4, .inl fl))] sz)) 0 0 (va_A [(h0, .inr (8, [.int hd, .int mk, .int ps, .ref am, .ref ap, .ref as_])), (am, .inl (G.2.1, 4, .inl me)), (ap, .inl (G.2.1, 4, .inl pd)), (as_, .inl (G.2.2.1, 4, .inl fl))] sz) := by
  refine Met.ofW (cc := cX8_payIfDue) (maxL := 2) (ret := (some .boolean)) (by decide) rfl ?_
  intro p e s m args below meth c s₁ B hml hv
  obtain ⟨rfl, hsz, hP, hK, hD0⟩ := hv
  have hx := B.exec
  have hb := B.bytes
  have hr := B.returns
  have hts := atoms_spec (ws := wsX8_payIfDue) B.pre
  have hown : s.vm.findClass RX8 = some m.cls := findClass_of_methodNamed B.named
  have hlocks := B.notSynchronized
  subst hsz
  have hD := hD0.self (sz := s.heap.size)
  generalize hAe : va_A [(h0, .inr (8, [.int hd, .int mk, .int ps, .ref am, .ref ap, .ref as_])), (am, .inl (G.2.1, 4, .inl me)), (ap, .inl (G.2.1, 4, .inl pd)), (as_, .inl (G.2.2.1, 4, .inl fl))] s.heap.size = A at hD ⊢
  have hA : ∀ q : Nat, s.heap.size ≤ q → A q := fun q h => by rw [← hAe]; exact Or.inr h
  have hS : va_S A s.heap s.heap [] := va_S.rf
  clear hAe hD0
  have hl := lv_entry ([.ref h0, .int (nI j)]) (n := 2) (Nat.le_of_ble_eq_true rfl)
  rw [lg_entry_eq]
  generalize (lg_sl ([.ref h0, .int (nI j)]) ++ List.replicate (2 - (lg_sl ([.ref h0, .int (nI j)])).length) Slot.unset).toArray = ls at hl ⊢
  have hl : lv_has ls 2 [(0, .ref h0), (1, .int (nI j))] := hl
  refine lv_iload_n hx hb dX8_payIfDue_0 rfl (lv_at hl 1 rfl) ?_
  refine g_callSi (va_runS (As := [.int (nI j)]) (rest := []) ⟨hx, hb, hml, hown, hts⟩ (c_isNumber_N l G j (by omega)) (va_cwS 1 hts gX8_payIfDue_X8_isNumber rfl rfl rfl (by decide +kernel) ⟨Nat.le_of_ble_eq_true rfl, Nat.le_of_ble_eq_true rfl⟩) (gR.S hK (show va_P G.1 vwCl [] s.heap from g_nil)) rfl rfl hl.1 rfl (lv_room (Nat.le_of_ble_eq_true rfl)) dX8_payIfDue_1 ⟨Nat.le_of_ble_eq_true rfl, Nat.le_of_ble_eq_true rfl⟩) (fun r hr0 => ?_)
  subst hr0
  refine lv_if_eq (tgt := 24) hx hb dX8_payIfDue_4 (by decide) (fun c_1 => ?_) (fun c_1 => ?_)
  · skip
    have c_1 := (cEqNN (a := 1) (b := 0) (by omega) (by omega)).mp c_1
    exact absurd c_1 (by decide)
  · skip
    have c_1 := gNot (cEqNN (a := 1) (b := 0) (by omega) (by omega)) c_1
    refine lv_aload_n hx hb dX8_payIfDue_7 rfl (lv_at hl 0 rfl) ?_
    refine lv_iload_n hx hb dX8_payIfDue_8 rfl (lv_at hl 1 rfl) ?_
    refine g_callSi (va_runV (As := [.int (nI j)]) (rest := []) ⟨hx, hb, hml, hown, hts⟩ (c_isWrong l G h0 am ap as_ hd mk ps me pd fl j (by omega)) (cwV 1 hts gX8_payIfDue_X8_isWrong rfl rfl rfl (by decide +kernel) ⟨Nat.le_of_ble_eq_true rfl, Nat.le_of_ble_eq_true rfl⟩) (gR.V hK (show va_P G.1 vwCl [(h0, .inr (8, [.int hd, .int mk, .int ps, .ref am, .ref ap, .ref as_])), (am, .inl (G.2.1, 4, .inl me)), (ap, .inl (G.2.1, 4, .inl pd)), (as_, .inl (G.2.2.1, 4, .inl fl))] s.heap from (hP.sub [0, 1, 2, 3] rfl)) hP (ci := 8) (q0 := 0) rfl rfl) rfl rfl hl.1 rfl (lv_room (Nat.le_of_ble_eq_true rfl)) dX8_payIfDue_9 ⟨Nat.le_of_ble_eq_true rfl, Nat.le_of_ble_eq_true rfl⟩) (fun r hr0 => ?_)
    subst hr0
    refine lv_if_eq (tgt := 24) hx hb dX8_payIfDue_12 (by decide) (fun c_2 => ?_) (fun c_2 => ?_)
    · skip
      have c_2 := bI_z.mp c_2
      refine lv_iconst (v := (nI 0)) hx hb dX8_payIfDue_24 (by decide) ?_
      have w9_r : (nI 0) = (bI (duS hd mk me fl j)) := (by first | exact bI_t ⟨by assumption, by assumption⟩ | exact bI_f (fun h => absurd h.1 (by assumption)) | exact bI_f (fun h => absurd h.2 (by assumption)))
      have w9_0 : duS hd mk me fl j → pd = upd pd j (pd j + nI 1) ∧ fl = upd fl j (nI 1) := (by first | exact fun h => ⟨rfl, rfl⟩ | exact fun h => absurd h.1 (by assumption) | exact fun h => absurd h.2 (by assumption))
      have w9_1 : ¬ duS hd mk me fl j → pd = pd ∧ fl = fl := (by first | exact fun h => ⟨rfl, rfl⟩ | exact fun h => absurd ⟨by assumption, by assumption⟩ h)
      have hP9 : va_P G.1 vwCl [(h0, .inr (8, [.int hd, .int mk, .int ps, .ref am, .ref ap, .ref as_])), (am, .inl (G.2.1, 4, .inl me)), (ap, .inl (G.2.1, 4, .inl pd)), (as_, .inl (G.2.2.1, 4, .inl fl))] s.heap := (hP.sub [0, 1, 2, 3] rfl)
      have hD9 : va_D A [(h0, .inr (8, [.int hd, .int mk, .int ps, .ref am, .ref ap, .ref as_])), (am, .inl (G.2.1, 4, .inl me)), (ap, .inl (G.2.1, 4, .inl pd)), (as_, .inl (G.2.2.1, 4, .inl fl))] := (hD.sub [0, 1, 2, 3] (by decide) rfl)
      exact W.zret (ty := .boolean) hx hb hr (by decide) (fun t9 ht9 hW9 => ⟨⟨(nI 0), (pd, fl), rfl, ⟨w9_r, w9_0, w9_1⟩, by rw [ht9]; exact hP9, hD9⟩, hS.F ht9⟩) hS.2.2 dX8_payIfDue_25
    · skip
      have c_2 := bI_nz.mp c_2
      refine lv_aload_n hx hb dX8_payIfDue_15 rfl (lv_at hl 0 rfl) ?_
      refine va_get (D := G.1) (ci := 8) (v := .ref as_) (C := RX8) (T := TX8) (N := 6) hx hb hts (g_in wsX80 18 rfl) hown hK.1 hP 0 rfl rfl 5 (by decide) (hts _ (List.mem_of_getElem? (i := 1) rfl)) (fun _ h9 => h9) rfl dX8_payIfDue_16 ?_
      refine lv_iload_n hx hb dX8_payIfDue_19 rfl (lv_at hl 1 rfl) ?_
      refine g_zald hx hb hK hP 3 rfl (by omega) (by decide) dX8_payIfDue_20 ?_
      refine lv_if_eq (tgt := 26) hx hb dX8_payIfDue_21 (by decide) (fun c_3 => ?_) (fun c_3 => ?_)
      · skip
        refine lv_aload_n hx hb dX8_payIfDue_26 rfl (lv_at hl 0 rfl) ?_
        refine va_get (D := G.1) (ci := 8) (v := .ref as_) (C := RX8) (T := TX8) (N := 6) hx hb hts (g_in wsX80 18 rfl) hown hK.1 hP 0 rfl rfl 5 (by decide) (hts _ (List.mem_of_getElem? (i := 1) rfl)) (fun _ h9 => h9) rfl dX8_payIfDue_27 ?_
        refine lv_iload_n hx hb dX8_payIfDue_30 rfl (lv_at hl 1 rfl) ?_
        refine lv_iconst (v := (nI 1)) hx hb dX8_payIfDue_31 (by decide) ?_
        refine g_zast hx hb hK hP hD hS 3 rfl (by decide) (by omega) (by decide) dX8_payIfDue_32 (fun H locs hP hD hS => ?_)
        have hP : va_P G.1 vwCl [(h0, .inr (8, [.int hd, .int mk, .int ps, .ref am, .ref ap, .ref as_])), (am, .inl (G.2.1, 4, .inl me)), (ap, .inl (G.2.1, 4, .inl pd)), (as_, .inl (G.2.2.1, 4, .inl (upd fl j (nI 1))))] H := hP
        have hD : va_D A [(h0, .inr (8, [.int hd, .int mk, .int ps, .ref am, .ref ap, .ref as_])), (am, .inl (G.2.1, 4, .inl me)), (ap, .inl (G.2.1, 4, .inl pd)), (as_, .inl (G.2.2.1, 4, .inl (upd fl j (nI 1))))] := hD
        refine lv_aload_n hx hb dX8_payIfDue_33 rfl (lv_at hl 0 rfl) ?_
        refine va_get (D := G.1) (ci := 8) (v := .ref ap) (C := RX8) (T := TX8) (N := 6) hx hb hts (g_in wsX80 18 rfl) hown hK.1 hP 0 rfl rfl 4 (by decide) (hts _ (List.mem_of_getElem? (i := 2) rfl)) (fun _ h9 => h9) rfl dX8_payIfDue_34 ?_
        refine lv_iload_n hx hb dX8_payIfDue_37 rfl (lv_at hl 1 rfl) ?_
        refine lv_dup2_11 hx hb dX8_payIfDue_38 rfl rfl ?_
        refine g_iald hx hb hK hP 2 rfl (by omega) (by decide) dX8_payIfDue_39 ?_
        refine lv_iconst (v := (nI 1)) hx hb dX8_payIfDue_40 (by decide) ?_
        refine lv_iadd hx hb dX8_payIfDue_41 ?_
        refine g_iast hx hb hK hP hD hS 2 rfl (by omega) (by decide) dX8_payIfDue_42 (fun H locs hP hD hS => ?_)
        have hP : va_P G.1 vwCl [(h0, .inr (8, [.int hd, .int mk, .int ps, .ref am, .ref ap, .ref as_])), (am, .inl (G.2.1, 4, .inl me)), (ap, .inl (G.2.1, 4, .inl (upd pd j ((pd j) + (nI 1))))), (as_, .inl (G.2.2.1, 4, .inl (upd fl j (nI 1))))] H := hP
        have hD : va_D A [(h0, .inr (8, [.int hd, .int mk, .int ps, .ref am, .ref ap, .ref as_])), (am, .inl (G.2.1, 4, .inl me)), (ap, .inl (G.2.1, 4, .inl (upd pd j ((pd j) + (nI 1))))), (as_, .inl (G.2.2.1, 4, .inl (upd fl j (nI 1))))] := hD
        refine lv_iconst (v := (nI 1)) hx hb dX8_payIfDue_43 (by decide) ?_
        have w9_r : (nI 1) = (bI (duS hd mk me fl j)) := (by first | exact bI_t ⟨by assumption, by assumption⟩ | exact bI_f (fun h => absurd h.1 (by assumption)) | exact bI_f (fun h => absurd h.2 (by assumption)))
        have w9_0 : duS hd mk me fl j → (upd pd j ((pd j) + (nI 1))) = upd pd j (pd j + nI 1) ∧ (upd fl j (nI 1)) = upd fl j (nI 1) := (by first | exact fun h => ⟨rfl, rfl⟩ | exact fun h => absurd h.1 (by assumption) | exact fun h => absurd h.2 (by assumption))
        have w9_1 : ¬ duS hd mk me fl j → (upd pd j ((pd j) + (nI 1))) = pd ∧ (upd fl j (nI 1)) = fl := (by first | exact fun h => ⟨rfl, rfl⟩ | exact fun h => absurd ⟨by assumption, by assumption⟩ h)
        have hP9 : va_P G.1 vwCl [(h0, .inr (8, [.int hd, .int mk, .int ps, .ref am, .ref ap, .ref as_])), (am, .inl (G.2.1, 4, .inl me)), (ap, .inl (G.2.1, 4, .inl (upd pd j ((pd j) + (nI 1))))), (as_, .inl (G.2.2.1, 4, .inl (upd fl j (nI 1))))] H := (hP.sub [0, 1, 2, 3] rfl)
        have hD9 : va_D A [(h0, .inr (8, [.int hd, .int mk, .int ps, .ref am, .ref ap, .ref as_])), (am, .inl (G.2.1, 4, .inl me)), (ap, .inl (G.2.1, 4, .inl (upd pd j ((pd j) + (nI 1))))), (as_, .inl (G.2.2.1, 4, .inl (upd fl j (nI 1))))] := (hD.sub [0, 1, 2, 3] (by decide) rfl)
        exact W.zret (ty := .boolean) hx hb hr (by decide) (fun t9 ht9 hW9 => ⟨⟨(nI 1), (upd pd j ((pd j) + (nI 1)), upd fl j (nI 1)), rfl, ⟨w9_r, w9_0, w9_1⟩, by rw [ht9]; exact hP9, hD9⟩, hS.F ht9⟩) hS.2.2 dX8_payIfDue_44
      · skip
        refine lv_iconst (v := (nI 0)) hx hb dX8_payIfDue_24 (by decide) ?_
        have w9_r : (nI 0) = (bI (duS hd mk me fl j)) := (by first | exact bI_t ⟨by assumption, by assumption⟩ | exact bI_f (fun h => absurd h.1 (by assumption)) | exact bI_f (fun h => absurd h.2 (by assumption)))
        have w9_0 : duS hd mk me fl j → pd = upd pd j (pd j + nI 1) ∧ fl = upd fl j (nI 1) := (by first | exact fun h => ⟨rfl, rfl⟩ | exact fun h => absurd h.1 (by assumption) | exact fun h => absurd h.2 (by assumption))
        have w9_1 : ¬ duS hd mk me fl j → pd = pd ∧ fl = fl := (by first | exact fun h => ⟨rfl, rfl⟩ | exact fun h => absurd ⟨by assumption, by assumption⟩ h)
        have hP9 : va_P G.1 vwCl [(h0, .inr (8, [.int hd, .int mk, .int ps, .ref am, .ref ap, .ref as_])), (am, .inl (G.2.1, 4, .inl me)), (ap, .inl (G.2.1, 4, .inl pd)), (as_, .inl (G.2.2.1, 4, .inl fl))] s.heap := (hP.sub [0, 1, 2, 3] rfl)
        have hD9 : va_D A [(h0, .inr (8, [.int hd, .int mk, .int ps, .ref am, .ref ap, .ref as_])), (am, .inl (G.2.1, 4, .inl me)), (ap, .inl (G.2.1, 4, .inl pd)), (as_, .inl (G.2.2.1, 4, .inl fl))] := (hD.sub [0, 1, 2, 3] (by decide) rfl)
        exact W.zret (ty := .boolean) hx hb hr (by decide) (fun t9 ht9 hW9 => ⟨⟨(nI 0), (pd, fl), rfl, ⟨w9_r, w9_0, w9_1⟩, by rw [ht9]; exact hP9, hD9⟩, hS.F ht9⟩) hS.2.2 dX8_payIfDue_25
