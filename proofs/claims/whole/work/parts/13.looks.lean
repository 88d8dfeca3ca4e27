/-! words for looks: lp (of how many passes), so (sort), vs (value), z of them -/
abbrev fitL (lp so vs : Nat → Int32) (z : Nat) (q : Int32) (k : Nat) : Prop := ∀ i, i < z → lp i = q → nI (saw (so i) k) = vs i
theorem ex_all {f g : Nat → Int32} {i : Nat} (h : ∀ k, k < i → f k = g k) (hx : f i = g i) : ∀ k, k < i + 1 → f k = g k := by
  intro k hk
  by_cases e : k = i
  · subst e; exact hx
  · exact h k (by omega)

set_option maxHeartbeats 4000000 in
set_option maxRecDepth 100000 in
theorem c_Looks_add (l : Launch) (G : gG) (h0 : Nat) (a1 : Nat) (a2 : Nat) (a3 : Nat) (z : Nat) (lp : Nat → Int32) (so : Nat → Int32) (vs : Nat → Int32) (x1 : Int32) (x2 : Int32) (x3 : Int32) (sz : Nat) (hz : z ≤ 8) : Met l yX3_add wsX3_add ({ frames := 0, cells := 0, slots := 0, locals := 0 } : Room) (gM G [.ref h0, .int x1, .int x2, .int x3] [(h0, .inr (3, [.ref a1, .ref a2, .ref a3, .int (nI z)])), (a1, .inl (G.2.1, 8, .inl lp)), (a2, .inl (G.2.1, 8, .inl so)), (a3, .inl (G.2.1, 8, .inl vs))] sz) (va_Qi (fun (r : Int32) (u : Nat × (Nat → Int32) × (Nat → Int32) × (Nat → Int32)) => r = (bI (z < 8)) ∧ (z < 8 → u.1 = z + 1 ∧ u.2.1 = upd lp z x1 ∧ u.2.2.1 = upd so z x2 ∧ u.2.2.2 = upd vs z x3) ∧ (¬ z < 8 → u.1 = z ∧ u.2.1 = lp ∧ u.2.2.1 = so ∧ u.2.2.2 = vs)) (fun u t => va_P G.1 vwCl [(h0, .inr (3, [.ref a1, .ref a2, .ref a3, .int (nI u.1)])), (a1, .inl (G.2.1, 8, .inl u.2.1)), (a2, .inl (G.2.1, 8, .inl u.2.2.1)), (a3, .inl (G.2.1, 8, .inl u.2.2.2))] t.heap ∧ va_D (va_A [(h0, .inr (3, [.ref a1, .ref a2, .ref a3, .int (nI z)])), (a1, .inl (G.2.1, 8, .inl lp)), (a2, .inl (G.2.1, 8, .inl so)), (a3, .inl (G.2.1, 8, .inl vs))] sz) [(h0, .inr (3, [.ref a1, .ref a2, .ref a3, .int (nI u.1)])), (a1, .inl (G.2.1, 8, .inl u.2.1)), (a2, .inl (G.2.1, 8, .inl u.2.2.1)), (a3, .inl (G.2.1, 8, .inl u.2.2.2))]) (va_A [(h0, .inr (3, [.ref a1, .ref a2, .ref a3, .int (nI z)])), (a1, .inl (G.2.1, 8, .inl lp)), (a2, .inl (G.2.1, 8, .inl so)), (a3, .inl (G.2.1, 8, .inl vs))] sz)) 0 0 (va_A [(h0, .inr (3, [.ref a1, .ref a2, .ref a3, .int (nI z)])), (a1, .inl (G.2.1, 8, .inl lp)), (a2, .inl (G.2.1, 8, .inl so)), (a3, .inl (G.2.1, 8, .inl vs))] sz) := by
  refine Met.ofW (cc := cX3_add) (maxL := 4) (ret := (some .boolean)) (by decide) rfl ?_
  intro p e s m args below meth c s₁ B hml hv
  obtain ⟨rfl, hsz, hP, hK, hD0⟩ := hv
  have hx := B.exec
  have hb := B.bytes
  have hr := B.returns
  have hts := atoms_spec (ws := wsX3_add) B.pre
  have hown : s.vm.findClass RX3 = some m.cls := findClass_of_methodNamed B.named
  have hlocks := B.notSynchronized
  subst hsz
  have hD := hD0.self (sz := s.heap.size)
  generalize hAe : va_A [(h0, .inr (3, [.ref a1, .ref a2, .ref a3, .int (nI z)])), (a1, .inl (G.2.1, 8, .inl lp)), (a2, .inl (G.2.1, 8, .inl so)), (a3, .inl (G.2.1, 8, .inl vs))] s.heap.size = A at hD ⊢
  have hA : ∀ q : Nat, s.heap.size ≤ q → A q := fun q h => by rw [← hAe]; exact Or.inr h
  have hS : va_S A s.heap s.heap [] := va_S.rf
  clear hAe hD0
  have hl := lv_entry ([.ref h0, .int x1, .int x2, .int x3]) (n := 4) (Nat.le_of_ble_eq_true rfl)
  rw [lg_entry_eq]
  generalize (lg_sl ([.ref h0, .int x1, .int x2, .int x3]) ++ List.replicate (4 - (lg_sl ([.ref h0, .int x1, .int x2, .int x3])).length) Slot.unset).toArray = ls at hl ⊢
  have hl : lv_has ls 4 [(0, .ref h0), (1, .int x1), (2, .int x2), (3, .int x3)] := hl
  refine lv_aload_n hx hb dX3_add_0 rfl (lv_at hl 0 rfl) ?_
  refine va_get (D := G.1) (ci := 3) (v := .int (nI z)) (C := RX3) (T := TX3) (N := 4) hx hb hts (g_in wsX30 5 rfl) hown hK.1 hP 0 rfl rfl 3 (by decide) (hts _ (List.mem_of_getElem? (i := 1) rfl)) (fun _ h9 => h9) rfl dX3_add_1 ?_
  refine lv_bipush (v := (nI 8)) hx hb dX3_add_4 (by decide) ?_
  refine lv_icmp_lt (tgt := 11) hx hb dX3_add_6 (by decide) (fun c_1 => ?_) (fun c_1 => ?_)
  · skip
    have c_1 := (cLtNN (a := z) (b := 8) (by omega) (by omega)).mp c_1
    refine lv_aload_n hx hb dX3_add_11 rfl (lv_at hl 0 rfl) ?_
    refine va_get (D := G.1) (ci := 3) (v := .ref a1) (C := RX3) (T := TX3) (N := 4) hx hb hts (g_in wsX30 5 rfl) hown hK.1 hP 0 rfl rfl 0 (by decide) (hts _ (List.mem_of_getElem? (i := 2) rfl)) (fun _ h9 => h9) rfl dX3_add_12 ?_
    refine lv_aload_n hx hb dX3_add_15 rfl (lv_at hl 0 rfl) ?_
    refine va_get (D := G.1) (ci := 3) (v := .int (nI z)) (C := RX3) (T := TX3) (N := 4) hx hb hts (g_in wsX30 5 rfl) hown hK.1 hP 0 rfl rfl 3 (by decide) (hts _ (List.mem_of_getElem? (i := 1) rfl)) (fun _ h9 => h9) rfl dX3_add_16 ?_
    refine lv_iload_n hx hb dX3_add_19 rfl (lv_at hl 1 rfl) ?_
    refine g_iast hx hb hK hP hD hS 1 rfl (by omega) (by decide) dX3_add_20 (fun H locs hP hD hS => ?_)
    have hP : va_P G.1 vwCl [(h0, .inr (3, [.ref a1, .ref a2, .ref a3, .int (nI z)])), (a1, .inl (G.2.1, 8, .inl (upd lp z x1))), (a2, .inl (G.2.1, 8, .inl so)), (a3, .inl (G.2.1, 8, .inl vs))] H := hP
    have hD : va_D A [(h0, .inr (3, [.ref a1, .ref a2, .ref a3, .int (nI z)])), (a1, .inl (G.2.1, 8, .inl (upd lp z x1))), (a2, .inl (G.2.1, 8, .inl so)), (a3, .inl (G.2.1, 8, .inl vs))] := hD
    refine lv_aload_n hx hb dX3_add_21 rfl (lv_at hl 0 rfl) ?_
    refine va_get (D := G.1) (ci := 3) (v := .ref a2) (C := RX3) (T := TX3) (N := 4) hx hb hts (g_in wsX30 5 rfl) hown hK.1 hP 0 rfl rfl 1 (by decide) (hts _ (List.mem_of_getElem? (i := 3) rfl)) (fun _ h9 => h9) rfl dX3_add_22 ?_
    refine lv_aload_n hx hb dX3_add_25 rfl (lv_at hl 0 rfl) ?_
    refine va_get (D := G.1) (ci := 3) (v := .int (nI z)) (C := RX3) (T := TX3) (N := 4) hx hb hts (g_in wsX30 5 rfl) hown hK.1 hP 0 rfl rfl 3 (by decide) (hts _ (List.mem_of_getElem? (i := 1) rfl)) (fun _ h9 => h9) rfl dX3_add_26 ?_
    refine lv_iload_n hx hb dX3_add_29 rfl (lv_at hl 2 rfl) ?_
    refine g_iast hx hb hK hP hD hS 2 rfl (by omega) (by decide) dX3_add_30 (fun H locs hP hD hS => ?_)
    have hP : va_P G.1 vwCl [(h0, .inr (3, [.ref a1, .ref a2, .ref a3, .int (nI z)])), (a1, .inl (G.2.1, 8, .inl (upd lp z x1))), (a2, .inl (G.2.1, 8, .inl (upd so z x2))), (a3, .inl (G.2.1, 8, .inl vs))] H := hP
    have hD : va_D A [(h0, .inr (3, [.ref a1, .ref a2, .ref a3, .int (nI z)])), (a1, .inl (G.2.1, 8, .inl (upd lp z x1))), (a2, .inl (G.2.1, 8, .inl (upd so z x2))), (a3, .inl (G.2.1, 8, .inl vs))] := hD
    refine lv_aload_n hx hb dX3_add_31 rfl (lv_at hl 0 rfl) ?_
    refine va_get (D := G.1) (ci := 3) (v := .ref a3) (C := RX3) (T := TX3) (N := 4) hx hb hts (g_in wsX30 5 rfl) hown hK.1 hP 0 rfl rfl 2 (by decide) (hts _ (List.mem_of_getElem? (i := 4) rfl)) (fun _ h9 => h9) rfl dX3_add_32 ?_
    refine lv_aload_n hx hb dX3_add_35 rfl (lv_at hl 0 rfl) ?_
    refine va_get (D := G.1) (ci := 3) (v := .int (nI z)) (C := RX3) (T := TX3) (N := 4) hx hb hts (g_in wsX30 5 rfl) hown hK.1 hP 0 rfl rfl 3 (by decide) (hts _ (List.mem_of_getElem? (i := 1) rfl)) (fun _ h9 => h9) rfl dX3_add_36 ?_
    refine lv_iload_n hx hb dX3_add_39 rfl (lv_at hl 3 rfl) ?_
    refine g_iast hx hb hK hP hD hS 3 rfl (by omega) (by decide) dX3_add_40 (fun H locs hP hD hS => ?_)
    have hP : va_P G.1 vwCl [(h0, .inr (3, [.ref a1, .ref a2, .ref a3, .int (nI z)])), (a1, .inl (G.2.1, 8, .inl (upd lp z x1))), (a2, .inl (G.2.1, 8, .inl (upd so z x2))), (a3, .inl (G.2.1, 8, .inl (upd vs z x3)))] H := hP
    have hD : va_D A [(h0, .inr (3, [.ref a1, .ref a2, .ref a3, .int (nI z)])), (a1, .inl (G.2.1, 8, .inl (upd lp z x1))), (a2, .inl (G.2.1, 8, .inl (upd so z x2))), (a3, .inl (G.2.1, 8, .inl (upd vs z x3)))] := hD
    refine lv_aload_n hx hb dX3_add_41 rfl (lv_at hl 0 rfl) ?_
    refine lv_dup hx hb dX3_add_42 rfl ?_
    refine va_get (D := G.1) (ci := 3) (v := .int (nI z)) (C := RX3) (T := TX3) (N := 4) hx hb hts (g_in wsX30 5 rfl) hown hK.1 hP 0 rfl rfl 3 (by decide) (hts _ (List.mem_of_getElem? (i := 1) rfl)) (fun _ h9 => h9) rfl dX3_add_43 ?_
    refine lv_iconst (v := (nI 1)) hx hb dX3_add_46 (by decide) ?_
    refine lv_iadd hx hb dX3_add_47 ?_
    refine g_top (y := (nI (z + 1))) (nI_add _ _) ?_
    refine va_put (D := G.1) (ci := 3) (v := .int (nI (z + 1))) (ty := .int) (C := RX3) (T := TX3) (N := 4) hx hb hts (g_in wsX30 5 rfl) tyX3 tyX3_ok nmX3 hown hK.1 hP hD hS 0 rfl rfl 3 (by decide) (hts _ (List.mem_of_getElem? (i := 1) rfl)) (fun _ h9 => h9) rfl (tyX3_ok 3 (by decide)) rfl rfl (Nat.le_of_ble_eq_true rfl) dX3_add_48 (fun H locs hP hD hS => ?_)
    have hP : va_P G.1 vwCl [(h0, .inr (3, [.ref a1, .ref a2, .ref a3, .int (nI (z + 1))])), (a1, .inl (G.2.1, 8, .inl (upd lp z x1))), (a2, .inl (G.2.1, 8, .inl (upd so z x2))), (a3, .inl (G.2.1, 8, .inl (upd vs z x3)))] H := hP
    have hD : va_D A [(h0, .inr (3, [.ref a1, .ref a2, .ref a3, .int (nI (z + 1))])), (a1, .inl (G.2.1, 8, .inl (upd lp z x1))), (a2, .inl (G.2.1, 8, .inl (upd so z x2))), (a3, .inl (G.2.1, 8, .inl (upd vs z x3)))] := hD
    refine lv_iconst (v := (nI 1)) hx hb dX3_add_51 (by decide) ?_
    have w9_r : (nI 1) = (bI (z < 8)) := (by first | exact bI_t (by omega) | exact bI_f (by omega))
    have w9_0 : z < 8 → (z + 1) = z + 1 ∧ (upd lp z x1) = upd lp z x1 ∧ (upd so z x2) = upd so z x2 ∧ (upd vs z x3) = upd vs z x3 := (fun h => by first | exact ⟨rfl, rfl, rfl, rfl⟩ | omega)
    have w9_1 : ¬ z < 8 → (z + 1) = z ∧ (upd lp z x1) = lp ∧ (upd so z x2) = so ∧ (upd vs z x3) = vs := (fun h => by first | exact ⟨rfl, rfl, rfl, rfl⟩ | omega)
    have hP9 : va_P G.1 vwCl [(h0, .inr (3, [.ref a1, .ref a2, .ref a3, .int (nI (z + 1))])), (a1, .inl (G.2.1, 8, .inl (upd lp z x1))), (a2, .inl (G.2.1, 8, .inl (upd so z x2))), (a3, .inl (G.2.1, 8, .inl (upd vs z x3)))] H := (hP.sub [0, 1, 2, 3] rfl)
    have hD9 : va_D A [(h0, .inr (3, [.ref a1, .ref a2, .ref a3, .int (nI (z + 1))])), (a1, .inl (G.2.1, 8, .inl (upd lp z x1))), (a2, .inl (G.2.1, 8, .inl (upd so z x2))), (a3, .inl (G.2.1, 8, .inl (upd vs z x3)))] := (hD.sub [0, 1, 2, 3] (by decide) rfl)
    exact W.zret (ty := .boolean) hx hb hr (by decide) (fun t9 ht9 hW9 => ⟨⟨(nI 1), (z + 1, upd lp z x1, upd so z x2, upd vs z x3), rfl, ⟨w9_r, w9_0, w9_1⟩, by rw [ht9]; exact hP9, hD9⟩, hS.F ht9⟩) hS.2.2 dX3_add_52
  · skip
    have c_1 := gNot (cLtNN (a := z) (b := 8) (by omega) (by omega)) c_1
    refine lv_iconst (v := (nI 0)) hx hb dX3_add_9 (by decide) ?_
    have w9_r : (nI 0) = (bI (z < 8)) := (by first | exact bI_t (by omega) | exact bI_f (by omega))
    have w9_0 : z < 8 → z = z + 1 ∧ lp = upd lp z x1 ∧ so = upd so z x2 ∧ vs = upd vs z x3 := (fun h => by first | exact ⟨rfl, rfl, rfl, rfl⟩ | omega)
    have w9_1 : ¬ z < 8 → z = z ∧ lp = lp ∧ so = so ∧ vs = vs := (fun h => by first | exact ⟨rfl, rfl, rfl, rfl⟩ | omega)
    have hP9 : va_P G.1 vwCl [(h0, .inr (3, [.ref a1, .ref a2, .ref a3, .int (nI z)])), (a1, .inl (G.2.1, 8, .inl lp)), (a2, .inl (G.2.1, 8, .inl so)), (a3, .inl (G.2.1, 8, .inl vs))] s.heap := (hP.sub [0, 1, 2, 3] rfl)
    have hD9 : va_D A [(h0, .inr (3, [.ref a1, .ref a2, .ref a3, .int (nI z)])), (a1, .inl (G.2.1, 8, .inl lp)), (a2, .inl (G.2.1, 8, .inl so)), (a3, .inl (G.2.1, 8, .inl vs))] := (hD.sub [0, 1, 2, 3] (by decide) rfl)
    exact W.zret (ty := .boolean) hx hb hr (by decide) (fun t9 ht9 hW9 => ⟨⟨(nI 0), (z, lp, so, vs), rfl, ⟨w9_r, w9_0, w9_1⟩, by rw [ht9]; exact hP9, hD9⟩, hS.F ht9⟩) hS.2.2 dX3_add_10

set_option maxHeartbeats 4000000 in
set_option maxRecDepth 100000 in
theorem c_Looks_clear (l : Launch) (G : gG) (h0 : Nat) (a1 : Nat) (a2 : Nat) (a3 : Nat) (z : Nat) (lp : Nat → Int32) (so : Nat → Int32) (vs : Nat → Int32) (sz : Nat)  : Met l yX3_clear wsX3_clear ({ frames := 0, cells := 0, slots := 0, locals := 0 } : Room) (gM G [.ref h0] [(h0, .inr (3, [.ref a1, .ref a2, .ref a3, .int (nI z)])), (a1, .inl (G.2.1, 8, .inl lp)), (a2, .inl (G.2.1, 8, .inl so)), (a3, .inl (G.2.1, 8, .inl vs))] sz) (va_Qv (fun (u : Unit) => True) (fun u t => va_P G.1 vwCl [(h0, .inr (3, [.ref a1, .ref a2, .ref a3, .int (nI 0)])), (a1, .inl (G.2.1, 8, .inl lp)), (a2, .inl (G.2.1, 8, .inl so)), (a3, .inl (G.2.1, 8, .inl vs))] t.heap ∧ va_D (va_A [(h0, .inr (3, [.ref a1, .ref a2, .ref a3, .int (nI z)])), (a1, .inl (G.2.1, 8, .inl lp)), (a2, .inl (G.2.1, 8, .inl so)), (a3, .inl (G.2.1, 8, .inl vs))] sz) [(h0, .inr (3, [.ref a1, .ref a2, .ref a3, .int (nI 0)])), (a1, .inl (G.2.1, 8, .inl lp)), (a2, .inl (G.2.1, 8, .inl so)), (a3, .inl (G.2.1, 8, .inl vs))]) (va_A [(h0, .inr (3, [.ref a1, .ref a2, .ref a3, .int (nI z)])), (a1, .inl (G.2.1, 8, .inl lp)), (a2, .inl (G.2.1, 8, .inl so)), (a3, .inl (G.2.1, 8, .inl vs))] sz)) 0 0 (va_A [(h0, .inr (3, [.ref a1, .ref a2, .ref a3, .int (nI z)])), (a1, .inl (G.2.1, 8, .inl lp)), (a2, .inl (G.2.1, 8, .inl so)), (a3, .inl (G.2.1, 8, .inl vs))] sz) := by
  refine Met.ofW (cc := cX3_clear) (maxL := 1) (ret := none) (by decide) rfl ?_
  intro p e s m args below meth c s₁ B hml hv
  obtain ⟨rfl, hsz, hP, hK, hD0⟩ := hv
  have hx := B.exec
  have hb := B.bytes
  have hr := B.returns
  have hts := atoms_spec (ws := wsX3_clear) B.pre
  have hown : s.vm.findClass RX3 = some m.cls := findClass_of_methodNamed B.named
  have hlocks := B.notSynchronized
  subst hsz
  have hD := hD0.self (sz := s.heap.size)
  generalize hAe : va_A [(h0, .inr (3, [.ref a1, .ref a2, .ref a3, .int (nI z)])), (a1, .inl (G.2.1, 8, .inl lp)), (a2, .inl (G.2.1, 8, .inl so)), (a3, .inl (G.2.1, 8, .inl vs))] s.heap.size = A at hD ⊢
  have hA : ∀ q : Nat, s.heap.size ≤ q → A q := fun q h => by rw [← hAe]; exact Or.inr h
  have hS : va_S A s.heap s.heap [] := va_S.rf
  clear hAe hD0
  have hl := lv_entry ([.ref h0]) (n := 1) (Nat.le_of_ble_eq_true rfl)
  rw [lg_entry_eq]
  generalize (lg_sl ([.ref h0]) ++ List.replicate (1 - (lg_sl ([.ref h0])).length) Slot.unset).toArray = ls at hl ⊢
  have hl : lv_has ls 1 [(0, .ref h0)] := hl
  refine lv_aload_n hx hb dX3_clear_0 rfl (lv_at hl 0 rfl) ?_
  refine lv_iconst (v := (nI 0)) hx hb dX3_clear_1 (by decide) ?_
  refine va_put (D := G.1) (ci := 3) (v := .int (nI 0)) (ty := .int) (C := RX3) (T := TX3) (N := 4) hx hb hts (g_in wsX30 2 rfl) tyX3 tyX3_ok nmX3 hown hK.1 hP hD hS 0 rfl rfl 3 (by decide) (hts _ (List.mem_of_getElem? (i := 1) rfl)) (fun _ h9 => h9) rfl (tyX3_ok 3 (by decide)) rfl rfl (Nat.le_of_ble_eq_true rfl) dX3_clear_2 (fun H locs hP hD hS => ?_)
  have hP : va_P G.1 vwCl [(h0, .inr (3, [.ref a1, .ref a2, .ref a3, .int (nI 0)])), (a1, .inl (G.2.1, 8, .inl lp)), (a2, .inl (G.2.1, 8, .inl so)), (a3, .inl (G.2.1, 8, .inl vs))] H := hP
  have hD : va_D A [(h0, .inr (3, [.ref a1, .ref a2, .ref a3, .int (nI 0)])), (a1, .inl (G.2.1, 8, .inl lp)), (a2, .inl (G.2.1, 8, .inl so)), (a3, .inl (G.2.1, 8, .inl vs))] := hD
  have hP9 : va_P G.1 vwCl [(h0, .inr (3, [.ref a1, .ref a2, .ref a3, .int (nI 0)])), (a1, .inl (G.2.1, 8, .inl lp)), (a2, .inl (G.2.1, 8, .inl so)), (a3, .inl (G.2.1, 8, .inl vs))] H := (hP.sub [0, 1, 2, 3] rfl)
  have hD9 : va_D A [(h0, .inr (3, [.ref a1, .ref a2, .ref a3, .int (nI 0)])), (a1, .inl (G.2.1, 8, .inl lp)), (a2, .inl (G.2.1, 8, .inl so)), (a3, .inl (G.2.1, 8, .inl vs))] := (hD.sub [0, 1, 2, 3] (by decide) rfl)
  exact W.vret hx hb hr (fun t9 ht9 hW9 => ⟨⟨(), rfl, trivial, by rw [ht9]; exact hP9, hD9⟩, hS.F ht9⟩) hS.2.2 dX3_clear_5

set_option maxHeartbeats 4000000 in
set_option maxRecDepth 100000 in
theorem c_Looks_copyFrom (l : Launch) (G : gG) (h0 : Nat) (a1 : Nat) (a2 : Nat) (a3 : Nat) (z : Nat) (lp : Nat → Int32) (so : Nat → Int32) (vs : Nat → Int32) (h1 : Nat) (b1 : Nat) (b2 : Nat) (b3 : Nat) (z2 : Nat) (lp2 : Nat → Int32) (so2 : Nat → Int32) (vs2 : Nat → Int32) (sz : Nat)  : Met l yX3_copyFrom wsX3_copyFrom ({ frames := 0, cells := 0, slots := 0, locals := 0 } : Room) (gM G [.ref h0, .ref h1] [(h0, .inr (3, [.ref a1, .ref a2, .ref a3, .int (nI z)])), (a1, .inl (G.2.1, 8, .inl lp)), (a2, .inl (G.2.1, 8, .inl so)), (a3, .inl (G.2.1, 8, .inl vs)), (h1, .inr (3, [.ref b1, .ref b2, .ref b3, .int (nI z2)])), (b1, .inl (G.2.1, 8, .inl lp2)), (b2, .inl (G.2.1, 8, .inl so2)), (b3, .inl (G.2.1, 8, .inl vs2))] sz) (va_Qv (fun (u : Unit) => True) (fun u t => va_P G.1 vwCl [(h0, .inr (3, [.ref a1, .ref a2, .ref a3, .int (nI z2)])), (a1, .inl (G.2.1, 8, .inl lp2)), (a2, .inl (G.2.1, 8, .inl so2)), (a3, .inl (G.2.1, 8, .inl vs2)), (h1, .inr (3, [.ref b1, .ref b2, .ref b3, .int (nI z2)])), (b1, .inl (G.2.1, 8, .inl lp2)), (b2, .inl (G.2.1, 8, .inl so2)), (b3, .inl (G.2.1, 8, .inl vs2))] t.heap ∧ va_D (va_A [(h0, .inr (3, [.ref a1, .ref a2, .ref a3, .int (nI z)])), (a1, .inl (G.2.1, 8, .inl lp)), (a2, .inl (G.2.1, 8, .inl so)), (a3, .inl (G.2.1, 8, .inl vs)), (h1, .inr (3, [.ref b1, .ref b2, .ref b3, .int (nI z2)])), (b1, .inl (G.2.1, 8, .inl lp2)), (b2, .inl (G.2.1, 8, .inl so2)), (b3, .inl (G.2.1, 8, .inl vs2))] sz) [(h0, .inr (3, [.ref a1, .ref a2, .ref a3, .int (nI z2)])), (a1, .inl (G.2.1, 8, .inl lp2)), (a2, .inl (G.2.1, 8, .inl so2)), (a3, .inl (G.2.1, 8, .inl vs2)), (h1, .inr (3, [.ref b1, .ref b2, .ref b3, .int (nI z2)])), (b1, .inl (G.2.1, 8, .inl lp2)), (b2, .inl (G.2.1, 8, .inl so2)), (b3, .inl (G.2.1, 8, .inl vs2))]) (va_A [(h0, .inr (3, [.ref a1, .ref a2, .ref a3, .int (nI z)])), (a1, .inl (G.2.1, 8, .inl lp)), (a2, .inl (G.2.1, 8, .inl so)), (a3, .inl (G.2.1, 8, .inl vs)), (h1, .inr (3, [.ref b1, .ref b2, .ref b3, .int (nI z2)])), (b1, .inl (G.2.1, 8, .inl lp2)), (b2, .inl (G.2.1, 8, .inl so2)), (b3, .inl (G.2.1, 8, .inl vs2))] sz)) 0 0 (va_A [(h0, .inr (3, [.ref a1, .ref a2, .ref a3, .int (nI z)])), (a1, .inl (G.2.1, 8, .inl lp)), (a2, .inl (G.2.1, 8, .inl so)), (a3, .inl (G.2.1, 8, .inl vs)), (h1, .inr (3, [.ref b1, .ref b2, .ref b3, .int (nI z2)])), (b1, .inl (G.2.1, 8, .inl lp2)), (b2, .inl (G.2.1, 8, .inl so2)), (b3, .inl (G.2.1, 8, .inl vs2))] sz) := by
  refine Met.ofW (cc := cX3_copyFrom) (maxL := 3) (ret := none) (by decide) rfl ?_
  intro p e s m args below meth c s₁ B hml hv
  obtain ⟨rfl, hsz, hP, hK, hD0⟩ := hv
  have hx := B.exec
  have hb := B.bytes
  have hr := B.returns
  have hts := atoms_spec (ws := wsX3_copyFrom) B.pre
  have hown : s.vm.findClass RX3 = some m.cls := findClass_of_methodNamed B.named
  have hlocks := B.notSynchronized
  subst hsz
  have hD := hD0.self (sz := s.heap.size)
  generalize hAe : va_A [(h0, .inr (3, [.ref a1, .ref a2, .ref a3, .int (nI z)])), (a1, .inl (G.2.1, 8, .inl lp)), (a2, .inl (G.2.1, 8, .inl so)), (a3, .inl (G.2.1, 8, .inl vs)), (h1, .inr (3, [.ref b1, .ref b2, .ref b3, .int (nI z2)])), (b1, .inl (G.2.1, 8, .inl lp2)), (b2, .inl (G.2.1, 8, .inl so2)), (b3, .inl (G.2.1, 8, .inl vs2))] s.heap.size = A at hD ⊢
  have hA : ∀ q : Nat, s.heap.size ≤ q → A q := fun q h => by rw [← hAe]; exact Or.inr h
  have hS : va_S A s.heap s.heap [] := va_S.rf
  clear hAe hD0
  have hl := lv_entry ([.ref h0, .ref h1]) (n := 3) (Nat.le_of_ble_eq_true rfl)
  rw [lg_entry_eq]
  generalize (lg_sl ([.ref h0, .ref h1]) ++ List.replicate (3 - (lg_sl ([.ref h0, .ref h1])).length) Slot.unset).toArray = ls at hl ⊢
  have hl : lv_has ls 3 [(0, .ref h0), (1, .ref h1)] := hl
  refine lv_aload_n hx hb dX3_copyFrom_0 rfl (lv_at hl 0 rfl) ?_
  refine lv_aload_n hx hb dX3_copyFrom_1 rfl (lv_at hl 1 rfl) ?_
  refine va_get (D := G.1) (ci := 3) (v := .int (nI z2)) (C := RX3) (T := TX3) (N := 4) hx hb hts (g_in wsX30 5 rfl) hown hK.1 hP 4 rfl rfl 3 (by decide) (hts _ (List.mem_of_getElem? (i := 1) rfl)) (fun _ h9 => h9) rfl dX3_copyFrom_2 ?_
  refine va_put (D := G.1) (ci := 3) (v := .int (nI z2)) (ty := .int) (C := RX3) (T := TX3) (N := 4) hx hb hts (g_in wsX30 5 rfl) tyX3 tyX3_ok nmX3 hown hK.1 hP hD hS 0 rfl rfl 3 (by decide) (hts _ (List.mem_of_getElem? (i := 1) rfl)) (fun _ h9 => h9) rfl (tyX3_ok 3 (by decide)) rfl rfl (Nat.le_of_ble_eq_true rfl) dX3_copyFrom_5 (fun H locs hP hD hS => ?_)
  have hP : va_P G.1 vwCl [(h0, .inr (3, [.ref a1, .ref a2, .ref a3, .int (nI z2)])), (a1, .inl (G.2.1, 8, .inl lp)), (a2, .inl (G.2.1, 8, .inl so)), (a3, .inl (G.2.1, 8, .inl vs)), (h1, .inr (3, [.ref b1, .ref b2, .ref b3, .int (nI z2)])), (b1, .inl (G.2.1, 8, .inl lp2)), (b2, .inl (G.2.1, 8, .inl so2)), (b3, .inl (G.2.1, 8, .inl vs2))] H := hP
  have hD : va_D A [(h0, .inr (3, [.ref a1, .ref a2, .ref a3, .int (nI z2)])), (a1, .inl (G.2.1, 8, .inl lp)), (a2, .inl (G.2.1, 8, .inl so)), (a3, .inl (G.2.1, 8, .inl vs)), (h1, .inr (3, [.ref b1, .ref b2, .ref b3, .int (nI z2)])), (b1, .inl (G.2.1, 8, .inl lp2)), (b2, .inl (G.2.1, 8, .inl so2)), (b3, .inl (G.2.1, 8, .inl vs2))] := hD
  refine lv_iconst (v := (nI 0)) hx hb dX3_copyFrom_8 (by decide) ?_
  refine lv_istore_n (lv' := [(2, .int (nI 0)), (0, .ref h0), (1, .ref h1)]) hx hb dX3_copyFrom_9 rfl hl (by decide) rfl (fun ls hl => ?_)
  refine g_cutM4 (α := Nat) (β := Nat → Int32) (γ := Nat → Int32) (δ := Nat → Int32) 10 (fun i lp3 so3 vs3 => []) (fun i lp3 so3 vs3 H locs ls => (i ≤ 8) ∧ (∀ k, k < i → lp3 k = lp2 k) ∧ (∀ k, k < i → so3 k = so2 k) ∧ (∀ k, k < i → vs3 k = vs2 k) ∧ va_P G.1 vwCl [(h0, .inr (3, [.ref a1, .ref a2, .ref a3, .int (nI z2)])), (a1, .inl (G.2.1, 8, .inl lp3)), (a2, .inl (G.2.1, 8, .inl so3)), (a3, .inl (G.2.1, 8, .inl vs3)), (h1, .inr (3, [.ref b1, .ref b2, .ref b3, .int (nI z2)])), (b1, .inl (G.2.1, 8, .inl lp2)), (b2, .inl (G.2.1, 8, .inl so2)), (b3, .inl (G.2.1, 8, .inl vs2))] H ∧ va_D A [(h0, .inr (3, [.ref a1, .ref a2, .ref a3, .int (nI z2)])), (a1, .inl (G.2.1, 8, .inl lp3)), (a2, .inl (G.2.1, 8, .inl so3)), (a3, .inl (G.2.1, 8, .inl vs3)), (h1, .inr (3, [.ref b1, .ref b2, .ref b3, .int (nI z2)])), (b1, .inl (G.2.1, 8, .inl lp2)), (b2, .inl (G.2.1, 8, .inl so2)), (b3, .inl (G.2.1, 8, .inl vs2))] ∧ va_S A s.heap H locs ∧ lv_has ls 3 [(0, .ref h0), (1, .ref h1), (2, .int (nI i))]) (g_loopM4 (α := Nat) (β := Nat → Int32) (γ := Nat → Int32) (δ := Nat → Int32) 10 (fun i lp3 so3 vs3 => []) (fun i lp3 so3 vs3 H locs ls => (i ≤ 8) ∧ (∀ k, k < i → lp3 k = lp2 k) ∧ (∀ k, k < i → so3 k = so2 k) ∧ (∀ k, k < i → vs3 k = vs2 k) ∧ va_P G.1 vwCl [(h0, .inr (3, [.ref a1, .ref a2, .ref a3, .int (nI z2)])), (a1, .inl (G.2.1, 8, .inl lp3)), (a2, .inl (G.2.1, 8, .inl so3)), (a3, .inl (G.2.1, 8, .inl vs3)), (h1, .inr (3, [.ref b1, .ref b2, .ref b3, .int (nI z2)])), (b1, .inl (G.2.1, 8, .inl lp2)), (b2, .inl (G.2.1, 8, .inl so2)), (b3, .inl (G.2.1, 8, .inl vs2))] H ∧ va_D A [(h0, .inr (3, [.ref a1, .ref a2, .ref a3, .int (nI z2)])), (a1, .inl (G.2.1, 8, .inl lp3)), (a2, .inl (G.2.1, 8, .inl so3)), (a3, .inl (G.2.1, 8, .inl vs3)), (h1, .inr (3, [.ref b1, .ref b2, .ref b3, .int (nI z2)])), (b1, .inl (G.2.1, 8, .inl lp2)), (b2, .inl (G.2.1, 8, .inl so2)), (b3, .inl (G.2.1, 8, .inl vs2))] ∧ va_S A s.heap H locs ∧ lv_has ls 3 [(0, .ref h0), (1, .ref h1), (2, .int (nI i))]) (fun i lp3 so3 vs3 => 8 - i) ?_) (fun L10_1 => ?_)
  · intro i lp3 so3 vs3 H locs ls hI L10_1
    obtain ⟨hi, h10, h11, h12, hP, hD, hS, hl⟩ := hI
    refine lv_iload_n hx hb dX3_copyFrom_10 rfl (lv_at hl 2 rfl) ?_
    refine lv_bipush (v := (nI 8)) hx hb dX3_copyFrom_11 (by decide) ?_
    refine lv_icmp_ge (tgt := 58) hx hb dX3_copyFrom_13 (by decide) (fun c_2 => ?_) (fun c_2 => ?_)
    · skip
      have c_2 := (cLeNN (a := 8) (b := i) (by omega) (by omega)).mp c_2
      obtain rfl : i = 8 := by omega
      have hP := g_arr hP 1 rfl (show ∀ k, k < 8 → lp3 k = lp2 k from h10)
      have hD := hD.set (p := 1) (a := a1) (e := .inl (G.2.1, 8, .inl lp2)) rfl
      have hP : va_P G.1 vwCl [(h0, .inr (3, [.ref a1, .ref a2, .ref a3, .int (nI z2)])), (a1, .inl (G.2.1, 8, .inl lp2)), (a2, .inl (G.2.1, 8, .inl so3)), (a3, .inl (G.2.1, 8, .inl vs3)), (h1, .inr (3, [.ref b1, .ref b2, .ref b3, .int (nI z2)])), (b1, .inl (G.2.1, 8, .inl lp2)), (b2, .inl (G.2.1, 8, .inl so2)), (b3, .inl (G.2.1, 8, .inl vs2))] H := hP
      have hD : va_D A [(h0, .inr (3, [.ref a1, .ref a2, .ref a3, .int (nI z2)])), (a1, .inl (G.2.1, 8, .inl lp2)), (a2, .inl (G.2.1, 8, .inl so3)), (a3, .inl (G.2.1, 8, .inl vs3)), (h1, .inr (3, [.ref b1, .ref b2, .ref b3, .int (nI z2)])), (b1, .inl (G.2.1, 8, .inl lp2)), (b2, .inl (G.2.1, 8, .inl so2)), (b3, .inl (G.2.1, 8, .inl vs2))] := hD
      have hP := g_arr hP 2 rfl (show ∀ k, k < 8 → so3 k = so2 k from h11)
      have hD := hD.set (p := 2) (a := a2) (e := .inl (G.2.1, 8, .inl so2)) rfl
      have hP : va_P G.1 vwCl [(h0, .inr (3, [.ref a1, .ref a2, .ref a3, .int (nI z2)])), (a1, .inl (G.2.1, 8, .inl lp2)), (a2, .inl (G.2.1, 8, .inl so2)), (a3, .inl (G.2.1, 8, .inl vs3)), (h1, .inr (3, [.ref b1, .ref b2, .ref b3, .int (nI z2)])), (b1, .inl (G.2.1, 8, .inl lp2)), (b2, .inl (G.2.1, 8, .inl so2)), (b3, .inl (G.2.1, 8, .inl vs2))] H := hP
      have hD : va_D A [(h0, .inr (3, [.ref a1, .ref a2, .ref a3, .int (nI z2)])), (a1, .inl (G.2.1, 8, .inl lp2)), (a2, .inl (G.2.1, 8, .inl so2)), (a3, .inl (G.2.1, 8, .inl vs3)), (h1, .inr (3, [.ref b1, .ref b2, .ref b3, .int (nI z2)])), (b1, .inl (G.2.1, 8, .inl lp2)), (b2, .inl (G.2.1, 8, .inl so2)), (b3, .inl (G.2.1, 8, .inl vs2))] := hD
      have hP := g_arr hP 3 rfl (show ∀ k, k < 8 → vs3 k = vs2 k from h12)
      have hD := hD.set (p := 3) (a := a3) (e := .inl (G.2.1, 8, .inl vs2)) rfl
      have hP : va_P G.1 vwCl [(h0, .inr (3, [.ref a1, .ref a2, .ref a3, .int (nI z2)])), (a1, .inl (G.2.1, 8, .inl lp2)), (a2, .inl (G.2.1, 8, .inl so2)), (a3, .inl (G.2.1, 8, .inl vs2)), (h1, .inr (3, [.ref b1, .ref b2, .ref b3, .int (nI z2)])), (b1, .inl (G.2.1, 8, .inl lp2)), (b2, .inl (G.2.1, 8, .inl so2)), (b3, .inl (G.2.1, 8, .inl vs2))] H := hP
      have hD : va_D A [(h0, .inr (3, [.ref a1, .ref a2, .ref a3, .int (nI z2)])), (a1, .inl (G.2.1, 8, .inl lp2)), (a2, .inl (G.2.1, 8, .inl so2)), (a3, .inl (G.2.1, 8, .inl vs2)), (h1, .inr (3, [.ref b1, .ref b2, .ref b3, .int (nI z2)])), (b1, .inl (G.2.1, 8, .inl lp2)), (b2, .inl (G.2.1, 8, .inl so2)), (b3, .inl (G.2.1, 8, .inl vs2))] := hD
      have hP9 : va_P G.1 vwCl [(h0, .inr (3, [.ref a1, .ref a2, .ref a3, .int (nI z2)])), (a1, .inl (G.2.1, 8, .inl lp2)), (a2, .inl (G.2.1, 8, .inl so2)), (a3, .inl (G.2.1, 8, .inl vs2)), (h1, .inr (3, [.ref b1, .ref b2, .ref b3, .int (nI z2)])), (b1, .inl (G.2.1, 8, .inl lp2)), (b2, .inl (G.2.1, 8, .inl so2)), (b3, .inl (G.2.1, 8, .inl vs2))] H := (hP.sub [0, 1, 2, 3, 4, 5, 6, 7] rfl)
      have hD9 : va_D A [(h0, .inr (3, [.ref a1, .ref a2, .ref a3, .int (nI z2)])), (a1, .inl (G.2.1, 8, .inl lp2)), (a2, .inl (G.2.1, 8, .inl so2)), (a3, .inl (G.2.1, 8, .inl vs2)), (h1, .inr (3, [.ref b1, .ref b2, .ref b3, .int (nI z2)])), (b1, .inl (G.2.1, 8, .inl lp2)), (b2, .inl (G.2.1, 8, .inl so2)), (b3, .inl (G.2.1, 8, .inl vs2))] := (hD.sub [0, 1, 2, 3, 4, 5, 6, 7] (by decide) rfl)
      exact W.vret hx hb hr (fun t9 ht9 hW9 => ⟨⟨(), rfl, trivial, by rw [ht9]; exact hP9, hD9⟩, hS.F ht9⟩) hS.2.2 dX3_copyFrom_58
    · skip
      have c_2 := gNot (cLeNN (a := 8) (b := i) (by omega) (by omega)) c_2
      refine lv_aload_n hx hb dX3_copyFrom_16 rfl (lv_at hl 0 rfl) ?_
      refine va_get (D := G.1) (ci := 3) (v := .ref a1) (C := RX3) (T := TX3) (N := 4) hx hb hts (g_in wsX30 5 rfl) hown hK.1 hP 0 rfl rfl 0 (by decide) (hts _ (List.mem_of_getElem? (i := 2) rfl)) (fun _ h9 => h9) rfl dX3_copyFrom_17 ?_
      refine lv_iload_n hx hb dX3_copyFrom_20 rfl (lv_at hl 2 rfl) ?_
      refine lv_aload_n hx hb dX3_copyFrom_21 rfl (lv_at hl 1 rfl) ?_
      refine va_get (D := G.1) (ci := 3) (v := .ref b1) (C := RX3) (T := TX3) (N := 4) hx hb hts (g_in wsX30 5 rfl) hown hK.1 hP 4 rfl rfl 0 (by decide) (hts _ (List.mem_of_getElem? (i := 2) rfl)) (fun _ h9 => h9) rfl dX3_copyFrom_22 ?_
      refine lv_iload_n hx hb dX3_copyFrom_25 rfl (lv_at hl 2 rfl) ?_
      refine g_iald hx hb hK hP 5 rfl (by omega) (by decide) dX3_copyFrom_26 ?_
      refine g_iast hx hb hK hP hD hS 1 rfl (by omega) (by decide) dX3_copyFrom_27 (fun H locs hP hD hS => ?_)
      have hP : va_P G.1 vwCl [(h0, .inr (3, [.ref a1, .ref a2, .ref a3, .int (nI z2)])), (a1, .inl (G.2.1, 8, .inl (upd lp3 i (lp2 i)))), (a2, .inl (G.2.1, 8, .inl so3)), (a3, .inl (G.2.1, 8, .inl vs3)), (h1, .inr (3, [.ref b1, .ref b2, .ref b3, .int (nI z2)])), (b1, .inl (G.2.1, 8, .inl lp2)), (b2, .inl (G.2.1, 8, .inl so2)), (b3, .inl (G.2.1, 8, .inl vs2))] H := hP
      have hD : va_D A [(h0, .inr (3, [.ref a1, .ref a2, .ref a3, .int (nI z2)])), (a1, .inl (G.2.1, 8, .inl (upd lp3 i (lp2 i)))), (a2, .inl (G.2.1, 8, .inl so3)), (a3, .inl (G.2.1, 8, .inl vs3)), (h1, .inr (3, [.ref b1, .ref b2, .ref b3, .int (nI z2)])), (b1, .inl (G.2.1, 8, .inl lp2)), (b2, .inl (G.2.1, 8, .inl so2)), (b3, .inl (G.2.1, 8, .inl vs2))] := hD
      refine lv_aload_n hx hb dX3_copyFrom_28 rfl (lv_at hl 0 rfl) ?_
      refine va_get (D := G.1) (ci := 3) (v := .ref a2) (C := RX3) (T := TX3) (N := 4) hx hb hts (g_in wsX30 5 rfl) hown hK.1 hP 0 rfl rfl 1 (by decide) (hts _ (List.mem_of_getElem? (i := 3) rfl)) (fun _ h9 => h9) rfl dX3_copyFrom_29 ?_
      refine lv_iload_n hx hb dX3_copyFrom_32 rfl (lv_at hl 2 rfl) ?_
      refine lv_aload_n hx hb dX3_copyFrom_33 rfl (lv_at hl 1 rfl) ?_
      refine va_get (D := G.1) (ci := 3) (v := .ref b2) (C := RX3) (T := TX3) (N := 4) hx hb hts (g_in wsX30 5 rfl) hown hK.1 hP 4 rfl rfl 1 (by decide) (hts _ (List.mem_of_getElem? (i := 3) rfl)) (fun _ h9 => h9) rfl dX3_copyFrom_34 ?_
      refine lv_iload_n hx hb dX3_copyFrom_37 rfl (lv_at hl 2 rfl) ?_
      refine g_iald hx hb hK hP 6 rfl (by omega) (by decide) dX3_copyFrom_38 ?_
      refine g_iast hx hb hK hP hD hS 2 rfl (by omega) (by decide) dX3_copyFrom_39 (fun H locs hP hD hS => ?_)
      have hP : va_P G.1 vwCl [(h0, .inr (3, [.ref a1, .ref a2, .ref a3, .int (nI z2)])), (a1, .inl (G.2.1, 8, .inl (upd lp3 i (lp2 i)))), (a2, .inl (G.2.1, 8, .inl (upd so3 i (so2 i)))), (a3, .inl (G.2.1, 8, .inl vs3)), (h1, .inr (3, [.ref b1, .ref b2, .ref b3, .int (nI z2)])), (b1, .inl (G.2.1, 8, .inl lp2)), (b2, .inl (G.2.1, 8, .inl so2)), (b3, .inl (G.2.1, 8, .inl vs2))] H := hP
      have hD : va_D A [(h0, .inr (3, [.ref a1, .ref a2, .ref a3, .int (nI z2)])), (a1, .inl (G.2.1, 8, .inl (upd lp3 i (lp2 i)))), (a2, .inl (G.2.1, 8, .inl (upd so3 i (so2 i)))), (a3, .inl (G.2.1, 8, .inl vs3)), (h1, .inr (3, [.ref b1, .ref b2, .ref b3, .int (nI z2)])), (b1, .inl (G.2.1, 8, .inl lp2)), (b2, .inl (G.2.1, 8, .inl so2)), (b3, .inl (G.2.1, 8, .inl vs2))] := hD
      refine lv_aload_n hx hb dX3_copyFrom_40 rfl (lv_at hl 0 rfl) ?_
      refine va_get (D := G.1) (ci := 3) (v := .ref a3) (C := RX3) (T := TX3) (N := 4) hx hb hts (g_in wsX30 5 rfl) hown hK.1 hP 0 rfl rfl 2 (by decide) (hts _ (List.mem_of_getElem? (i := 4) rfl)) (fun _ h9 => h9) rfl dX3_copyFrom_41 ?_
      refine lv_iload_n hx hb dX3_copyFrom_44 rfl (lv_at hl 2 rfl) ?_
      refine lv_aload_n hx hb dX3_copyFrom_45 rfl (lv_at hl 1 rfl) ?_
      refine va_get (D := G.1) (ci := 3) (v := .ref b3) (C := RX3) (T := TX3) (N := 4) hx hb hts (g_in wsX30 5 rfl) hown hK.1 hP 4 rfl rfl 2 (by decide) (hts _ (List.mem_of_getElem? (i := 4) rfl)) (fun _ h9 => h9) rfl dX3_copyFrom_46 ?_
      refine lv_iload_n hx hb dX3_copyFrom_49 rfl (lv_at hl 2 rfl) ?_
      refine g_iald hx hb hK hP 7 rfl (by omega) (by decide) dX3_copyFrom_50 ?_
      refine g_iast hx hb hK hP hD hS 3 rfl (by omega) (by decide) dX3_copyFrom_51 (fun H locs hP hD hS => ?_)
      have hP : va_P G.1 vwCl [(h0, .inr (3, [.ref a1, .ref a2, .ref a3, .int (nI z2)])), (a1, .inl (G.2.1, 8, .inl (upd lp3 i (lp2 i)))), (a2, .inl (G.2.1, 8, .inl (upd so3 i (so2 i)))), (a3, .inl (G.2.1, 8, .inl (upd vs3 i (vs2 i)))), (h1, .inr (3, [.ref b1, .ref b2, .ref b3, .int (nI z2)])), (b1, .inl (G.2.1, 8, .inl lp2)), (b2, .inl (G.2.1, 8, .inl so2)), (b3, .inl (G.2.1, 8, .inl vs2))] H := hP
      have hD : va_D A [(h0, .inr (3, [.ref a1, .ref a2, .ref a3, .int (nI z2)])), (a1, .inl (G.2.1, 8, .inl (upd lp3 i (lp2 i)))), (a2, .inl (G.2.1, 8, .inl (upd so3 i (so2 i)))), (a3, .inl (G.2.1, 8, .inl (upd vs3 i (vs2 i)))), (h1, .inr (3, [.ref b1, .ref b2, .ref b3, .int (nI z2)])), (b1, .inl (G.2.1, 8, .inl lp2)), (b2, .inl (G.2.1, 8, .inl so2)), (b3, .inl (G.2.1, 8, .inl vs2))] := hD
      refine lv_iinc (v := (nI (i + 1))) (lv' := [(2, .int (nI (i + 1))), (0, .ref h0), (1, .ref h1)]) hx hb dX3_copyFrom_52 hl (k := 2) rfl (nI_iinc (by decide)) (by decide) rfl (fun ls hl => ?_)
      refine lv_goto (tgt := 10) hx hb dX3_copyFrom_55 (by decide) ?_
      exact L10_1 (i + 1) (upd lp3 i (lp2 i)) (upd so3 i (so2 i)) (upd vs3 i (vs2 i)) _ _ _ (by omega) ⟨(by omega), up_all h10 rfl, up_all h11 rfl, up_all h12 rfl, (hP.sub [0, 1, 2, 3, 4, 5, 6, 7] rfl), (hD.sub [0, 1, 2, 3, 4, 5, 6, 7] (by decide) rfl), hS, lv_sub hl [1, 2, 0] rfl⟩
  · skip
    exact L10_1 0 lp so vs _ _ _ ⟨(by omega), up_0, up_0, up_0, (hP.sub [0, 1, 2, 3, 4, 5, 6, 7] rfl), (hD.sub [0, 1, 2, 3, 4, 5, 6, 7] (by decide) rfl), hS, lv_sub hl [1, 2, 0] rfl⟩

set_option maxHeartbeats 4000000 in
set_option maxRecDepth 100000 in
theorem c_fit (l : Launch) (G : gG) (h0 : Nat) (a1 : Nat) (a2 : Nat) (a3 : Nat) (z : Nat) (lp : Nat → Int32) (so : Nat → Int32) (vs : Nat → Int32) (q : Int32) (k : Nat) (hz : z ≤ 8) (hk : k < 128) : Met l yX3_fit wsX3_fit ({ frames := 2, cells := 0, slots := 0, locals := 41 } : Room) (gR G [.ref h0, .int q, .int (nI k)] [(h0, .inr (3, [.ref a1, .ref a2, .ref a3, .int (nI z)])), (a1, .inl (G.2.1, 8, .inl lp)), (a2, .inl (G.2.1, 8, .inl so)), (a3, .inl (G.2.1, 8, .inl vs))]) (vp_Si (fun r : Int32 => r = (bI (fitL lp so vs z q k)))) 0 0 (fun _ => False) := by
  refine Met.ofW (cc := cX3_fit) (maxL := 4) (ret := (some .boolean)) (by decide) rfl ?_
  intro p e s m args below meth c s₁ B hml hv
  obtain ⟨rfl, hP, hK⟩ := hv
  have hx := B.exec
  have hb := B.bytes
  have hr := B.returns
  have hts := atoms_spec (ws := wsX3_fit) B.pre
  have hown : s.vm.findClass RX3 = some m.cls := findClass_of_methodNamed B.named
  have hlocks := B.notSynchronized
  have hl := lv_entry ([.ref h0, .int q, .int (nI k)]) (n := 4) (Nat.le_of_ble_eq_true rfl)
  rw [lg_entry_eq]
  generalize (lg_sl ([.ref h0, .int q, .int (nI k)]) ++ List.replicate (4 - (lg_sl ([.ref h0, .int q, .int (nI k)])).length) Slot.unset).toArray = ls at hl ⊢
  have hl : lv_has ls 4 [(0, .ref h0), (1, .int q), (2, .int (nI k))] := hl
  refine lv_iconst (v := (nI 0)) hx hb dX3_fit_0 (by decide) ?_
  refine lv_istore_n (lv' := [(3, .int (nI 0)), (0, .ref h0), (1, .int q), (2, .int (nI k))]) hx hb dX3_fit_1 rfl hl (by decide) rfl (fun ls hl => ?_)
  refine g_cutR1 (α := Nat) 2 (fun i => []) (fun i ls => (i ≤ z) ∧ (∀ j, j < i → lp j = q → nI (saw (so j) k) = vs j) ∧ lv_has ls 4 [(0, .ref h0), (1, .int q), (2, .int (nI k)), (3, .int (nI i))]) (g_loopR1 (α := Nat) 2 (fun i => []) (fun i ls => (i ≤ z) ∧ (∀ j, j < i → lp j = q → nI (saw (so j) k) = vs j) ∧ lv_has ls 4 [(0, .ref h0), (1, .int q), (2, .int (nI k)), (3, .int (nI i))]) (fun i => 8 - i) ?_) (fun L2_1 => ?_)
  · intro i ls hI L2_1
    obtain ⟨hi, ha, hl⟩ := hI
    refine lv_iload_n hx hb dX3_fit_2 rfl (lv_at hl 3 rfl) ?_
    refine lv_aload_n hx hb dX3_fit_3 rfl (lv_at hl 0 rfl) ?_
    refine va_get (D := G.1) (ci := 3) (v := .int (nI z)) (C := RX3) (T := TX3) (N := 4) hx hb hts (g_in wsX30 14 rfl) hown hK.1 hP 0 rfl rfl 3 (by decide) (hts _ (List.mem_of_getElem? (i := 1) rfl)) (fun _ h9 => h9) rfl dX3_fit_4 ?_
    refine lv_icmp_ge (tgt := 53) hx hb dX3_fit_7 (by decide) (fun c_2 => ?_) (fun c_2 => ?_)
    · skip
      have c_2 := (cLeNN (a := z) (b := i) (by omega) (by omega)).mp c_2
      refine lv_iconst (v := (nI 1)) hx hb dX3_fit_53 (by decide) ?_
      have w9_r : (nI 1) = (bI (fitL lp so vs z q k)) := (by first | exact bI_t (fun j hj => ha j (by omega)) | exact bI_f (fun h => absurd (h i (by omega) (by assumption)) (by assumption)))
      exact W.zret (ty := .boolean) hx hb hr (by decide) (fun t9 ht9 _ => ⟨(nI 1), rfl, w9_r, ht9⟩) (fun _ h => absurd h List.not_mem_nil) dX3_fit_54
    · skip
      have c_2 := gNot (cLeNN (a := z) (b := i) (by omega) (by omega)) c_2
      refine lv_iload_n hx hb dX3_fit_10 rfl (lv_at hl 3 rfl) ?_
      refine lv_bipush (v := (nI 8)) hx hb dX3_fit_11 (by decide) ?_
      refine lv_icmp_ge (tgt := 53) hx hb dX3_fit_13 (by decide) (fun c_3 => ?_) (fun c_3 => ?_)
      · skip
        have c_3 := (cLeNN (a := 8) (b := i) (by omega) (by omega)).mp c_3
        refine lv_iconst (v := (nI 1)) hx hb dX3_fit_53 (by decide) ?_
        have w9_r : (nI 1) = (bI (fitL lp so vs z q k)) := (by first | exact bI_t (fun j hj => ha j (by omega)) | exact bI_f (fun h => absurd (h i (by omega) (by assumption)) (by assumption)))
        exact W.zret (ty := .boolean) hx hb hr (by decide) (fun t9 ht9 _ => ⟨(nI 1), rfl, w9_r, ht9⟩) (fun _ h => absurd h List.not_mem_nil) dX3_fit_54
      · skip
        have c_3 := gNot (cLeNN (a := 8) (b := i) (by omega) (by omega)) c_3
        refine lv_aload_n hx hb dX3_fit_16 rfl (lv_at hl 0 rfl) ?_
        refine va_get (D := G.1) (ci := 3) (v := .ref a1) (C := RX3) (T := TX3) (N := 4) hx hb hts (g_in wsX30 14 rfl) hown hK.1 hP 0 rfl rfl 0 (by decide) (hts _ (List.mem_of_getElem? (i := 2) rfl)) (fun _ h9 => h9) rfl dX3_fit_17 ?_
        refine lv_iload_n hx hb dX3_fit_20 rfl (lv_at hl 3 rfl) ?_
        refine g_iald hx hb hK hP 1 rfl (by omega) (by decide) dX3_fit_21 ?_
        refine lv_iload_n hx hb dX3_fit_22 rfl (lv_at hl 1 rfl) ?_
        refine lv_icmp_ne (tgt := 47) hx hb dX3_fit_23 (by decide) (fun c_4 => ?_) (fun c_4 => ?_)
        · skip
          refine lv_iinc (v := (nI (i + 1))) (lv' := [(3, .int (nI (i + 1))), (0, .ref h0), (1, .int q), (2, .int (nI k))]) hx hb dX3_fit_47 hl (k := 3) rfl (nI_iinc (by decide)) (by decide) rfl (fun ls hl => ?_)
          refine lv_goto (tgt := 2) hx hb dX3_fit_50 (by decide) ?_
          exact L2_1 (i + 1) _ (by omega) ⟨(by omega), fun j hj h => by rcases Nat.lt_succ_iff_lt_or_eq.mp hj with h9 | h9 <;> first | exact ha j h9 h | (subst h9; first | assumption | exact absurd h (by assumption)), lv_sub hl [1, 2, 3, 0] rfl⟩
        · skip
          refine lv_iload_n hx hb dX3_fit_26 rfl (lv_at hl 2 rfl) ?_
          refine lv_aload_n hx hb dX3_fit_27 rfl (lv_at hl 0 rfl) ?_
          refine va_get (D := G.1) (ci := 3) (v := .ref a2) (C := RX3) (T := TX3) (N := 4) hx hb hts (g_in wsX30 14 rfl) hown hK.1 hP 0 rfl rfl 1 (by decide) (hts _ (List.mem_of_getElem? (i := 3) rfl)) (fun _ h9 => h9) rfl dX3_fit_28 ?_
          refine lv_iload_n hx hb dX3_fit_31 rfl (lv_at hl 3 rfl) ?_
          refine g_iald hx hb hK hP 2 rfl (by omega) (by decide) dX3_fit_32 ?_
          refine g_callSi (va_runSN (As := [.int (nI k), .int (so i)]) (rest := []) ⟨hx, hb, hml, hown, hts⟩ (c_seenAt l G k (so i) (by omega)) ⟨va_cnB 2 hts gX3_fit_X11_seenAt_n25 rfl rfl rfl (hK.nw 55 rfl) (hts _ (List.mem_of_getElem? (i := 6) rfl)) (by decide +kernel) ⟨Nat.le_of_ble_eq_true rfl, Nat.le_of_ble_eq_true rfl⟩, hts _ (List.mem_of_getElem? (i := 5) rfl), trivial⟩ (gR.S hK (show va_P G.1 vwCl [] s.heap from g_nil)) rfl rfl hl.1 rfl (lv_room (Nat.le_of_ble_eq_true rfl)) dX3_fit_33 ⟨Nat.le_of_ble_eq_true rfl, Nat.le_of_ble_eq_true rfl⟩) (fun r hr0 => ?_)
          subst hr0
          have hsw := saw_lt (so := so i) hk
          have hsw := saw_lt (so := so i) hk
          refine lv_aload_n hx hb dX3_fit_36 rfl (lv_at hl 0 rfl) ?_
          refine va_get (D := G.1) (ci := 3) (v := .ref a3) (C := RX3) (T := TX3) (N := 4) hx hb hts (g_in wsX30 14 rfl) hown hK.1 hP 0 rfl rfl 2 (by decide) (hts _ (List.mem_of_getElem? (i := 4) rfl)) (fun _ h9 => h9) rfl dX3_fit_37 ?_
          refine lv_iload_n hx hb dX3_fit_40 rfl (lv_at hl 3 rfl) ?_
          refine g_iald hx hb hK hP 3 rfl (by omega) (by decide) dX3_fit_41 ?_
          refine lv_icmp_eq (tgt := 47) hx hb dX3_fit_42 (by decide) (fun c_5 => ?_) (fun c_5 => ?_)
          · skip
            refine lv_iinc (v := (nI (i + 1))) (lv' := [(3, .int (nI (i + 1))), (0, .ref h0), (1, .int q), (2, .int (nI k))]) hx hb dX3_fit_47 hl (k := 3) rfl (nI_iinc (by decide)) (by decide) rfl (fun ls hl => ?_)
            refine lv_goto (tgt := 2) hx hb dX3_fit_50 (by decide) ?_
            exact L2_1 (i + 1) _ (by omega) ⟨(by omega), fun j hj h => by rcases Nat.lt_succ_iff_lt_or_eq.mp hj with h9 | h9 <;> first | exact ha j h9 h | (subst h9; first | assumption | exact absurd h (by assumption)), lv_sub hl [1, 2, 3, 0] rfl⟩
          · skip
            refine lv_iconst (v := (nI 0)) hx hb dX3_fit_45 (by decide) ?_
            have w9_r : (nI 0) = (bI (fitL lp so vs z q k)) := (by first | exact bI_t (fun j hj => ha j (by omega)) | exact bI_f (fun h => absurd (h i (by omega) (by assumption)) (by assumption)))
            exact W.zret (ty := .boolean) hx hb hr (by decide) (fun t9 ht9 _ => ⟨(nI 0), rfl, w9_r, ht9⟩) (fun _ h => absurd h List.not_mem_nil) dX3_fit_46
  · skip
    exact L2_1 0 _ ⟨(by omega), fun j h => absurd h (Nat.not_lt_zero j), lv_sub hl [1, 2, 3, 0] rfl⟩
