/-! PEOPLE are made, and taken as a KIND -/
def kx (x : Int32) : Nat := if x = nI 99 then 1 else if x = nI 100 then 4 else if x = nI 115 then 2 else if x = nI 119 then 3 else 0
theorem kx_lt (x : Int32) : kx x < 5 := by unfold kx; repeat' split
                                           all_goals omega
abbrev isK (k : Nat) (w : Int) : Prop := w = 0 ∨ w = (k : Int) ∨ (w = 1 ∧ k = 4)
def asR (n : Nat) (kd : Nat → Nat) (x : Int32) (w : Int) : Int32 := if inR x n then (if 0 ≤ w ∧ w ≤ 4 then (if isK (kd x.toNatClampNeg) w then x else -1) else -102) else -101

set_option maxHeartbeats 4000000 in
set_option maxRecDepth 100000 in
theorem c_X6_init (l : Launch) (G : gG) (h0 : Nat) (sz : Nat)  : Met l yX6_init wsX6_init ({ frames := 1, cells := 0, slots := 0, locals := 12 } : Room) (gM G [.ref h0] [] sz) (va_Qv (fun (u : Unit) => True) (fun u t => va_P G.1 vwCl [] t.heap ∧ va_D (va_A [] sz) []) (va_A [] sz)) 0 0 (va_A [] sz) := by
  refine Met.ofW (cc := cX6_init) (maxL := 1) (ret := none) (by decide) rfl ?_
  intro p e s m args below meth c s₁ B hml hv
  obtain ⟨rfl, hsz, hP, hK, hD0⟩ := hv
  have hx := B.exec
  have hb := B.bytes
  have hr := B.returns
  have hts := atoms_spec (ws := wsX6_init) B.pre
  have hown : s.vm.findClass RX6 = some m.cls := findClass_of_methodNamed B.named
  have hlocks := B.notSynchronized
  have hin : meth.name = "<init>" := (name_of_methodNamed B.named B.method).1
  subst hsz
  have hD := hD0.self (sz := s.heap.size)
  generalize hAe : va_A [] s.heap.size = A at hD ⊢
  have hA : ∀ q : Nat, s.heap.size ≤ q → A q := fun q h => by rw [← hAe]; exact Or.inr h
  have hS : va_S A s.heap s.heap [] := va_S.rf
  clear hAe hD0
  have hl := lv_entry ([.ref h0]) (n := 1) (Nat.le_of_ble_eq_true rfl)
  rw [lg_entry_eq]
  generalize (lg_sl ([.ref h0]) ++ List.replicate (1 - (lg_sl ([.ref h0])).length) Slot.unset).toArray = ls at hl ⊢
  have hl : lv_has ls 1 [(0, .ref h0)] := hl
  refine lv_aload_n hx hb dX6_init_0 rfl (lv_at hl 0 rfl) ?_
  refine W.objInit hx hb hown (hts _ (List.mem_of_getElem? (i := 1) rfl)) (hts _ (List.mem_of_getElem? (i := 2) rfl)) (hts _ (List.mem_of_getElem? (i := 3) rfl)) rfl (by rw [hml]; exact hl.1) rfl dX6_init_1 (Nat.le_of_ble_eq_true rfl) (Nat.le_of_ble_eq_true rfl) ?_
  refine W.eq (g2 := F0 m 4 ls []) rfl ?_
  have hP9 : va_P G.1 vwCl [] s.heap := (hP.sub [] rfl)
  have hD9 : va_D A [] := (hD.sub [] (by decide) rfl)
  exact W.vret hx hb hr (fun t9 ht9 hW9 => ⟨⟨(), rfl, trivial, by rw [ht9]; exact hP9, hD9⟩, hS.F ht9⟩) hS.2.2 dX6_init_4

set_option maxHeartbeats 4000000 in
set_option maxRecDepth 100000 in
theorem c_X1_init (l : Launch) (G : gG) (h0 : Nat) (sz : Nat)  : Met l yX1_init wsX1_init ({ frames := 2, cells := 0, slots := 0, locals := 32 } : Room) (gM G [.ref h0] [] sz) (va_Qv (fun (u : Unit) => True) (fun u t => va_P G.1 vwCl [] t.heap ∧ va_D (va_A [] sz) []) (va_A [] sz)) 0 0 (va_A [] sz) := by
  refine Met.ofW (cc := cX1_init) (maxL := 1) (ret := none) (by decide) rfl ?_
  intro p e s m args below meth c s₁ B hml hv
  obtain ⟨rfl, hsz, hP, hK, hD0⟩ := hv
  have hx := B.exec
  have hb := B.bytes
  have hr := B.returns
  have hts := atoms_spec (ws := wsX1_init) B.pre
  have hown : s.vm.findClass RX1 = some m.cls := findClass_of_methodNamed B.named
  have hlocks := B.notSynchronized
  have hin : meth.name = "<init>" := (name_of_methodNamed B.named B.method).1
  subst hsz
  have hD := hD0.self (sz := s.heap.size)
  generalize hAe : va_A [] s.heap.size = A at hD ⊢
  have hA : ∀ q : Nat, s.heap.size ≤ q → A q := fun q h => by rw [← hAe]; exact Or.inr h
  have hS : va_S A s.heap s.heap [] := va_S.rf
  clear hAe hD0
  have hl := lv_entry ([.ref h0]) (n := 1) (Nat.le_of_ble_eq_true rfl)
  rw [lg_entry_eq]
  generalize (lg_sl ([.ref h0]) ++ List.replicate (1 - (lg_sl ([.ref h0])).length) Slot.unset).toArray = ls at hl ⊢
  have hl : lv_has ls 1 [(0, .ref h0)] := hl
  refine lv_aload_n hx hb dX1_init_0 rfl (lv_at hl 0 rfl) ?_
  refine g_callv (S := Unit) (w1 := fun u => []) (wr := []) (wc := []) hP hD hS hA [] [] rfl rfl (by decide) (by decide) (va_runIN (As := []) (rest := []) ⟨hx, hb, hml, hown, hts⟩ (c_X6_init l G h0 _ ) ⟨va_cnB 0 hts gX1_init_X6_init_n3 rfl rfl rfl (hK.nw 24 rfl) (hts _ (List.mem_of_getElem? (i := 2) rfl)) (by decide +kernel) ⟨Nat.le_of_ble_eq_true rfl, Nat.le_of_ble_eq_true rfl⟩, rfl, (hts _ (List.mem_of_getElem? (i := 1) rfl))⟩ (gM.S (As := .ref h0 :: []) hK (show va_P G.1 vwCl [] s.heap from g_nil) (show va_D A [] from g_nilD)) rfl rfl hl.1 rfl (lv_room (Nat.le_of_ble_eq_true rfl)) dX1_init_1 ⟨Nat.le_of_ble_eq_true rfl, Nat.le_of_ble_eq_true rfl⟩) (fun u H locs hq hP hD hS => ?_)
  have hP : va_P G.1 vwCl [] H := hP
  have hD : va_D A [] := hD
  have hP9 : va_P G.1 vwCl [] H := (hP.sub [] rfl)
  have hD9 : va_D A [] := (hD.sub [] (by decide) rfl)
  exact W.vret hx hb hr (fun t9 ht9 hW9 => ⟨⟨(), rfl, trivial, by rw [ht9]; exact hP9, hD9⟩, hS.F ht9⟩) hS.2.2 dX1_init_4

set_option maxHeartbeats 4000000 in
set_option maxRecDepth 100000 in
theorem c_X9_init (l : Launch) (G : gG) (h0 : Nat) (sz : Nat)  : Met l yX9_init wsX9_init ({ frames := 2, cells := 0, slots := 0, locals := 32 } : Room) (gM G [.ref h0] [] sz) (va_Qv (fun (u : Unit) => True) (fun u t => va_P G.1 vwCl [] t.heap ∧ va_D (va_A [] sz) []) (va_A [] sz)) 0 0 (va_A [] sz) := by
  refine Met.ofW (cc := cX9_init) (maxL := 1) (ret := none) (by decide) rfl ?_
  intro p e s m args below meth c s₁ B hml hv
  obtain ⟨rfl, hsz, hP, hK, hD0⟩ := hv
  have hx := B.exec
  have hb := B.bytes
  have hr := B.returns
  have hts := atoms_spec (ws := wsX9_init) B.pre
  have hown : s.vm.findClass RX9 = some m.cls := findClass_of_methodNamed B.named
  have hlocks := B.notSynchronized
  have hin : meth.name = "<init>" := (name_of_methodNamed B.named B.method).1
  subst hsz
  have hD := hD0.self (sz := s.heap.size)
  generalize hAe : va_A [] s.heap.size = A at hD ⊢
  have hA : ∀ q : Nat, s.heap.size ≤ q → A q := fun q h => by rw [← hAe]; exact Or.inr h
  have hS : va_S A s.heap s.heap [] := va_S.rf
  clear hAe hD0
  have hl := lv_entry ([.ref h0]) (n := 1) (Nat.le_of_ble_eq_true rfl)
  rw [lg_entry_eq]
  generalize (lg_sl ([.ref h0]) ++ List.replicate (1 - (lg_sl ([.ref h0])).length) Slot.unset).toArray = ls at hl ⊢
  have hl : lv_has ls 1 [(0, .ref h0)] := hl
  refine lv_aload_n hx hb dX9_init_0 rfl (lv_at hl 0 rfl) ?_
  refine g_callv (S := Unit) (w1 := fun u => []) (wr := []) (wc := []) hP hD hS hA [] [] rfl rfl (by decide) (by decide) (va_runIN (As := []) (rest := []) ⟨hx, hb, hml, hown, hts⟩ (c_X6_init l G h0 _ ) ⟨va_cnB 0 hts gX9_init_X6_init_n3 rfl rfl rfl (hK.nw 28 rfl) (hts _ (List.mem_of_getElem? (i := 2) rfl)) (by decide +kernel) ⟨Nat.le_of_ble_eq_true rfl, Nat.le_of_ble_eq_true rfl⟩, rfl, (hts _ (List.mem_of_getElem? (i := 1) rfl))⟩ (gM.S (As := .ref h0 :: []) hK (show va_P G.1 vwCl [] s.heap from g_nil) (show va_D A [] from g_nilD)) rfl rfl hl.1 rfl (lv_room (Nat.le_of_ble_eq_true rfl)) dX9_init_1 ⟨Nat.le_of_ble_eq_true rfl, Nat.le_of_ble_eq_true rfl⟩) (fun u H locs hq hP hD hS => ?_)
  have hP : va_P G.1 vwCl [] H := hP
  have hD : va_D A [] := hD
  have hP9 : va_P G.1 vwCl [] H := (hP.sub [] rfl)
  have hD9 : va_D A [] := (hD.sub [] (by decide) rfl)
  exact W.vret hx hb hr (fun t9 ht9 hW9 => ⟨⟨(), rfl, trivial, by rw [ht9]; exact hP9, hD9⟩, hS.F ht9⟩) hS.2.2 dX9_init_4

set_option maxHeartbeats 4000000 in
set_option maxRecDepth 100000 in
theorem c_X2_init (l : Launch) (G : gG) (h0 : Nat) (sz : Nat)  : Met l yX2_init wsX2_init ({ frames := 3, cells := 0, slots := 0, locals := 52 } : Room) (gM G [.ref h0] [] sz) (va_Qv (fun (u : Unit) => True) (fun u t => va_P G.1 vwCl [] t.heap ∧ va_D (va_A [] sz) []) (va_A [] sz)) 0 0 (va_A [] sz) := by
  refine Met.ofW (cc := cX2_init) (maxL := 1) (ret := none) (by decide) rfl ?_
  intro p e s m args below meth c s₁ B hml hv
  obtain ⟨rfl, hsz, hP, hK, hD0⟩ := hv
  have hx := B.exec
  have hb := B.bytes
  have hr := B.returns
  have hts := atoms_spec (ws := wsX2_init) B.pre
  have hown : s.vm.findClass RX2 = some m.cls := findClass_of_methodNamed B.named
  have hlocks := B.notSynchronized
  have hin : meth.name = "<init>" := (name_of_methodNamed B.named B.method).1
  subst hsz
  have hD := hD0.self (sz := s.heap.size)
  generalize hAe : va_A [] s.heap.size = A at hD ⊢
  have hA : ∀ q : Nat, s.heap.size ≤ q → A q := fun q h => by rw [← hAe]; exact Or.inr h
  have hS : va_S A s.heap s.heap [] := va_S.rf
  clear hAe hD0
  have hl := lv_entry ([.ref h0]) (n := 1) (Nat.le_of_ble_eq_true rfl)
  rw [lg_entry_eq]
  generalize (lg_sl ([.ref h0]) ++ List.replicate (1 - (lg_sl ([.ref h0])).length) Slot.unset).toArray = ls at hl ⊢
  have hl : lv_has ls 1 [(0, .ref h0)] := hl
  refine lv_aload_n hx hb dX2_init_0 rfl (lv_at hl 0 rfl) ?_
  refine g_callv (S := Unit) (w1 := fun u => []) (wr := []) (wc := []) hP hD hS hA [] [] rfl rfl (by decide) (by decide) (va_runIN (As := []) (rest := []) ⟨hx, hb, hml, hown, hts⟩ (c_X1_init l G h0 _ ) ⟨va_cnB 0 hts gX2_init_X1_init_n3 rfl rfl rfl (hK.nw 30 rfl) (hts _ (List.mem_of_getElem? (i := 2) rfl)) (by decide +kernel) ⟨Nat.le_of_ble_eq_true rfl, Nat.le_of_ble_eq_true rfl⟩, rfl, (hts _ (List.mem_of_getElem? (i := 1) rfl))⟩ (gM.S (As := .ref h0 :: []) hK (show va_P G.1 vwCl [] s.heap from g_nil) (show va_D A [] from g_nilD)) rfl rfl hl.1 rfl (lv_room (Nat.le_of_ble_eq_true rfl)) dX2_init_1 ⟨Nat.le_of_ble_eq_true rfl, Nat.le_of_ble_eq_true rfl⟩) (fun u H locs hq hP hD hS => ?_)
  have hP : va_P G.1 vwCl [] H := hP
  have hD : va_D A [] := hD
  have hP9 : va_P G.1 vwCl [] H := (hP.sub [] rfl)
  have hD9 : va_D A [] := (hD.sub [] (by decide) rfl)
  exact W.vret hx hb hr (fun t9 ht9 hW9 => ⟨⟨(), rfl, trivial, by rw [ht9]; exact hP9, hD9⟩, hS.F ht9⟩) hS.2.2 dX2_init_4

set_option maxHeartbeats 4000000 in
set_option maxRecDepth 100000 in
theorem c_X7_init (l : Launch) (G : gG) (h0 : Nat) (i : Nat) (i0 : Nat) (sz : Nat)  : Met l yX7_init wsX7_init ({ frames := 2, cells := 0, slots := 0, locals := 32 } : Room) (gM G [.ref h0, .int (nI i)] [(h0, .inr (7, [.int (nI i0)]))] sz) (va_Qv (fun (u : Unit) => True) (fun u t => va_P G.1 vwCl [(h0, .inr (7, [.int (nI i)]))] t.heap ∧ va_D (va_A [(h0, .inr (7, [.int (nI i0)]))] sz) [(h0, .inr (7, [.int (nI i)]))]) (va_A [(h0, .inr (7, [.int (nI i0)]))] sz)) 0 0 (va_A [(h0, .inr (7, [.int (nI i0)]))] sz) := by
  refine Met.ofW (cc := cX7_init) (maxL := 2) (ret := none) (by decide) rfl ?_
  intro p e s m args below meth c s₁ B hml hv
  obtain ⟨rfl, hsz, hP, hK, hD0⟩ := hv
  have hx := B.exec
  have hb := B.bytes
  have hr := B.returns
  have hts := atoms_spec (ws := wsX7_init) B.pre
  have hown : s.vm.findClass RX7 = some m.cls := findClass_of_methodNamed B.named
  have hlocks := B.notSynchronized
  have hin : meth.name = "<init>" := (name_of_methodNamed B.named B.method).1
  subst hsz
  have hD := hD0.self (sz := s.heap.size)
  generalize hAe : va_A [(h0, .inr (7, [.int (nI i0)]))] s.heap.size = A at hD ⊢
  have hA : ∀ q : Nat, s.heap.size ≤ q → A q := fun q h => by rw [← hAe]; exact Or.inr h
  have hS : va_S A s.heap s.heap [] := va_S.rf
  clear hAe hD0
  have hl := lv_entry ([.ref h0, .int (nI i)]) (n := 2) (Nat.le_of_ble_eq_true rfl)
  rw [lg_entry_eq]
  generalize (lg_sl ([.ref h0, .int (nI i)]) ++ List.replicate (2 - (lg_sl ([.ref h0, .int (nI i)])).length) Slot.unset).toArray = ls at hl ⊢
  have hl : lv_has ls 2 [(0, .ref h0), (1, .int (nI i))] := hl
  refine lv_aload_n hx hb dX7_init_0 rfl (lv_at hl 0 rfl) ?_
  refine g_callv (S := Unit) (w1 := fun u => []) (wr := [(h0, .inr (7, [.int (nI i0)]))]) (wc := []) hP hD hS hA [] [0] rfl rfl (by decide) (by decide) (va_runIN (As := []) (rest := []) ⟨hx, hb, hml, hown, hts⟩ (c_X6_init l G h0 _ ) ⟨va_cnB 0 hts gX7_init_X6_init_n3 rfl rfl rfl (hK.nw 26 rfl) (hts _ (List.mem_of_getElem? (i := 3) rfl)) (by decide +kernel) ⟨Nat.le_of_ble_eq_true rfl, Nat.le_of_ble_eq_true rfl⟩, rfl, (hts _ (List.mem_of_getElem? (i := 2) rfl))⟩ (gM.S (As := .ref h0 :: []) hK (show va_P G.1 vwCl [] s.heap from g_nil) (show va_D A [] from g_nilD)) rfl rfl hl.1 rfl (lv_room (Nat.le_of_ble_eq_true rfl)) dX7_init_1 ⟨Nat.le_of_ble_eq_true rfl, Nat.le_of_ble_eq_true rfl⟩) (fun u H locs hq hP hD hS => ?_)
  have hP : va_P G.1 vwCl [(h0, .inr (7, [.int (nI i0)]))] H := hP
  have hD : va_D A [(h0, .inr (7, [.int (nI i0)]))] := hD
  refine lv_aload_n hx hb dX7_init_4 rfl (lv_at hl 0 rfl) ?_
  refine lv_iload_n hx hb dX7_init_5 rfl (lv_at hl 1 rfl) ?_
  refine va_putF (D := G.1) (ci := 7) (v := .int (nI i)) (ty := .int) (C := RX7) (T := TX7) (N := 1) hx hb hts (g_in wsX70 8 rfl) tyX7 tyX7_ok nmX7 hown hK.1 hP hD hS 0 rfl rfl 0 (by decide) (hts _ (List.mem_of_getElem? (i := 1) rfl)) (fun _ h9 => h9) rfl hin rfl (tyX7_ok 0 (by decide)) rfl rfl (Nat.le_of_ble_eq_true rfl) dX7_init_6 (fun H locs hP hD hS => ?_)
  have hP : va_P G.1 vwCl [(h0, .inr (7, [.int (nI i)]))] H := hP
  have hD : va_D A [(h0, .inr (7, [.int (nI i)]))] := hD
  have hP9 : va_P G.1 vwCl [(h0, .inr (7, [.int (nI i)]))] H := (hP.sub [0] rfl)
  have hD9 : va_D A [(h0, .inr (7, [.int (nI i)]))] := (hD.sub [0] (by decide) rfl)
  exact W.vret hx hb hr (fun t9 ht9 hW9 => ⟨⟨(), rfl, trivial, by rw [ht9]; exact hP9, hD9⟩, hS.F ht9⟩) hS.2.2 dX7_init_9

set_option maxHeartbeats 4000000 in
set_option maxRecDepth 100000 in
theorem c_personOf (l : Launch) (G : gG) (x : Int32) (j : Nat) (sz : Nat)  : Met l yX5_personOf wsX5_personOf ({ frames := 4, cells := 1, slots := 1, locals := 72 } : Room) (gM G [.int x, .int (nI j)] [] sz) (va_Qr (fun _ : Unit => True) (fun _ a t => va_P G.1 vwCl [(a, pE (kx x) j)] t.heap ∧ va_D (va_A [] sz) [(a, pE (kx x) j)]) (va_A [] sz)) 1 1 (va_A [] sz) := by
  refine Met.ofW (cc := cX5_personOf) (maxL := 2) (ret := (some (.object "RingOfThirds$Person"))) (by decide) rfl ?_
  intro p e s m args below meth c s₁ B hml hv
  obtain ⟨rfl, hsz, hP, hK, hD0⟩ := hv
  have hx := B.exec
  have hb := B.bytes
  have hr := B.returns
  have hts := atoms_spec (ws := wsX5_personOf) B.pre
  have hown : s.vm.findClass RX5 = some m.cls := findClass_of_methodNamed B.named
  have hlocks := B.notSynchronized
  subst hsz
  have hD := hD0.self (sz := s.heap.size)
  generalize hAe : va_A [] s.heap.size = A at hD ⊢
  have hA : ∀ q : Nat, s.heap.size ≤ q → A q := fun q h => by rw [← hAe]; exact Or.inr h
  have hS : va_S A s.heap s.heap [] := va_S.rf
  clear hAe hD0
  have hl := lv_entry ([.int x, .int (nI j)]) (n := 2) (Nat.le_of_ble_eq_true rfl)
  rw [lg_entry_eq]
  generalize (lg_sl ([.int x, .int (nI j)]) ++ List.replicate (2 - (lg_sl ([.int x, .int (nI j)])).length) Slot.unset).toArray = ls at hl ⊢
  have hl : lv_has ls 2 [(0, .int x), (1, .int (nI j))] := hl
  refine lv_iload_n hx hb dX5_personOf_0 rfl (lv_at hl 0 rfl) ?_
  by_cases k_1 : x = nI 99
  · skip
    refine lv_lookup (off := 43) (tgt := 44) hx hb dX5_personOf_1 rfl (by rw [k_1]; rfl) (by decide) ?_
    refine va_new (ci := 1) (fs := []) (C := RX1) (T := TX1) (N := 0) hx hb hts (g_in wsX10 0 rfl) tyX1 tyX1_ok hown (hts _ (List.mem_of_getElem? (i := 1) rfl)) (hts _ (List.mem_of_getElem? (i := 2) rfl)) (hts _ (List.mem_of_getElem? (i := 3) rfl)) hK.1 hP hD hS hA rfl (fun j hj => absurd hj (Nat.not_lt_zero j)) (Nat.le_of_ble_eq_true rfl) (Nat.le_of_ble_eq_true rfl) dX5_personOf_44 (fun q_2 H hP hD hS => ?_)
    have hP : va_P G.1 vwCl [(q_2, .inr (1, []))] H := hP
    have hD : va_D A [(q_2, .inr (1, []))] := hD
    refine lv_dup hx hb dX5_personOf_47 rfl ?_
    refine g_callv (S := Unit) (w1 := fun u => []) (wr := [(q_2, .inr (1, []))]) (wc := []) hP hD hS hA [] [0] rfl rfl (by decide) (by decide) (va_runIN (As := []) (rest := [.ref q_2]) ⟨hx, hb, hml, hown, hts⟩ (c_X1_init l G q_2 _ ) ⟨va_cnB 0 hts gX5_personOf_X1_init_n23 rfl rfl rfl (hK.nw 23 rfl) (hts _ (List.mem_of_getElem? (i := 3) rfl)) (by decide +kernel) ⟨Nat.le_of_ble_eq_true rfl, Nat.le_of_ble_eq_true rfl⟩, rfl, (hts _ (List.mem_of_getElem? (i := 16) rfl))⟩ (gM.S (As := .ref q_2 :: []) hK (show va_P G.1 vwCl [] H from g_nil) (show va_D A [] from g_nilD)) rfl rfl hl.1 rfl (lv_room (Nat.le_of_ble_eq_true rfl)) dX5_personOf_48 ⟨Nat.le_of_ble_eq_true rfl, Nat.le_of_ble_eq_true rfl⟩) (fun u H locs hq hP hD hS => ?_)
    have hP : va_P G.1 vwCl [(q_2, .inr (1, []))] H := hP
    have hD : va_D A [(q_2, .inr (1, []))] := hD
    have hP9 : va_P G.1 vwCl [(q_2, pE (kx x) j)] H := by rw [show pE (kx x) j = .inr (1, []) from by unfold kx; rw [if_pos k_1]; rfl]; exact hP.sub [0] rfl
    have hD9 : va_D A [(q_2, pE (kx x) j)] := by rw [show pE (kx x) j = .inr (1, []) from by unfold kx; rw [if_pos k_1]; rfl]; exact hD.sub [0] (by decide) rfl
    refine W.widen (k := 1) (n := 1) (Nat.le_of_ble_eq_true rfl) (Nat.le_of_ble_eq_true rfl) ?_
    exact W.aret hx hb hr (Or.inl ⟨_, rfl⟩) (Or.inr ⟨_, rfl⟩) (fun t9 ht9 hW9 => ⟨⟨(), q_2, rfl, trivial, by rw [ht9]; exact hP9, hD9⟩, hS.F ht9⟩) hS.2.2 dX5_personOf_51
  by_cases k_3 : x = nI 100
  · skip
    refine lv_lookup (off := 68) (tgt := 69) hx hb dX5_personOf_1 rfl (by rw [k_3]; rfl) (by decide) ?_
    refine va_new (ci := 2) (fs := []) (C := RX2) (T := TX2) (N := 0) hx hb hts (g_in wsX20 0 rfl) tyX2 tyX2_ok hown (hts _ (List.mem_of_getElem? (i := 10) rfl)) (hts _ (List.mem_of_getElem? (i := 11) rfl)) (hts _ (List.mem_of_getElem? (i := 12) rfl)) hK.1 hP hD hS hA rfl (fun j hj => absurd hj (Nat.not_lt_zero j)) (Nat.le_of_ble_eq_true rfl) (Nat.le_of_ble_eq_true rfl) dX5_personOf_69 (fun q_4 H hP hD hS => ?_)
    have hP : va_P G.1 vwCl [(q_4, .inr (2, []))] H := hP
    have hD : va_D A [(q_4, .inr (2, []))] := hD
    refine lv_dup hx hb dX5_personOf_72 rfl ?_
    refine g_callv (S := Unit) (w1 := fun u => []) (wr := [(q_4, .inr (2, []))]) (wc := []) hP hD hS hA [] [0] rfl rfl (by decide) (by decide) (va_runIN (As := []) (rest := [.ref q_4]) ⟨hx, hb, hml, hown, hts⟩ (c_X2_init l G q_4 _ ) ⟨va_cnB 0 hts gX5_personOf_X2_init_n34 rfl rfl rfl (hK.nw 29 rfl) (hts _ (List.mem_of_getElem? (i := 12) rfl)) (by decide +kernel) ⟨Nat.le_of_ble_eq_true rfl, Nat.le_of_ble_eq_true rfl⟩, rfl, (hts _ (List.mem_of_getElem? (i := 28) rfl))⟩ (gM.S (As := .ref q_4 :: []) hK (show va_P G.1 vwCl [] H from g_nil) (show va_D A [] from g_nilD)) rfl rfl hl.1 rfl (lv_room (Nat.le_of_ble_eq_true rfl)) dX5_personOf_73 ⟨Nat.le_of_ble_eq_true rfl, Nat.le_of_ble_eq_true rfl⟩) (fun u H locs hq hP hD hS => ?_)
    have hP : va_P G.1 vwCl [(q_4, .inr (2, []))] H := hP
    have hD : va_D A [(q_4, .inr (2, []))] := hD
    have hP9 : va_P G.1 vwCl [(q_4, pE (kx x) j)] H := by rw [show pE (kx x) j = .inr (2, []) from by unfold kx; rw [if_neg k_1, if_pos k_3]; rfl]; exact hP.sub [0] rfl
    have hD9 : va_D A [(q_4, pE (kx x) j)] := by rw [show pE (kx x) j = .inr (2, []) from by unfold kx; rw [if_neg k_1, if_pos k_3]; rfl]; exact hD.sub [0] (by decide) rfl
    refine W.widen (k := 1) (n := 1) (Nat.le_of_ble_eq_true rfl) (Nat.le_of_ble_eq_true rfl) ?_
    exact W.aret hx hb hr (Or.inl ⟨_, rfl⟩) (Or.inr ⟨_, rfl⟩) (fun t9 ht9 hW9 => ⟨⟨(), q_4, rfl, trivial, by rw [ht9]; exact hP9, hD9⟩, hS.F ht9⟩) hS.2.2 dX5_personOf_76
  by_cases k_5 : x = nI 115
  · skip
    refine lv_lookup (off := 51) (tgt := 52) hx hb dX5_personOf_1 rfl (by rw [k_5]; rfl) (by decide) ?_
    refine va_new (ci := 7) (fs := [.int (nI 0)]) (C := RX7) (T := TX7) (N := 1) hx hb hts (g_in wsX70 30 rfl) tyX7 tyX7_ok hown (hts _ (List.mem_of_getElem? (i := 4) rfl)) (hts _ (List.mem_of_getElem? (i := 5) rfl)) (hts _ (List.mem_of_getElem? (i := 6) rfl)) hK.1 hP hD hS hA rfl (fun j hj => by rcases (show j = 0 by omega) with rfl <;> rfl) (Nat.le_of_ble_eq_true rfl) (Nat.le_of_ble_eq_true rfl) dX5_personOf_52 (fun q_6 H hP hD hS => ?_)
    have hP : va_P G.1 vwCl [(q_6, .inr (7, [.int (nI 0)]))] H := hP
    have hD : va_D A [(q_6, .inr (7, [.int (nI 0)]))] := hD
    refine lv_dup hx hb dX5_personOf_55 rfl ?_
    refine lv_iload_n hx hb dX5_personOf_56 rfl (lv_at hl 1 rfl) ?_
    refine g_callv (S := Unit) (w1 := fun u => [(q_6, .inr (7, [.int (nI j)]))]) (wr := []) (wc := [(q_6, .inr (7, [.int (nI 0)]))]) hP hD hS hA [0] [] rfl rfl (by decide) (by decide) (va_runIN (As := [.int (nI j)]) (rest := [.ref q_6]) ⟨hx, hb, hml, hown, hts⟩ (c_X7_init l G q_6 j 0 _ ) ⟨va_cnB 1 hts gX5_personOf_X7_init_n26 rfl rfl rfl (hK.nw 25 rfl) (hts _ (List.mem_of_getElem? (i := 6) rfl)) (by decide +kernel) ⟨Nat.le_of_ble_eq_true rfl, Nat.le_of_ble_eq_true rfl⟩, rfl, (hts _ (List.mem_of_getElem? (i := 23) rfl))⟩ (gM.S (As := .ref q_6 :: [.int (nI j)]) hK (show va_P G.1 vwCl [(q_6, .inr (7, [.int (nI 0)]))] H from (hP.sub [0] rfl)) (show va_D A [(q_6, .inr (7, [.int (nI 0)]))] from (hD.sub [0] (by decide) rfl))) rfl rfl hl.1 rfl (lv_room (Nat.le_of_ble_eq_true rfl)) dX5_personOf_57 ⟨Nat.le_of_ble_eq_true rfl, Nat.le_of_ble_eq_true rfl⟩) (fun u H locs hq hP hD hS => ?_)
    have hP : va_P G.1 vwCl [(q_6, .inr (7, [.int (nI j)]))] H := hP
    have hD : va_D A [(q_6, .inr (7, [.int (nI j)]))] := hD
    have hP9 : va_P G.1 vwCl [(q_6, pE (kx x) j)] H := by rw [show pE (kx x) j = .inr (7, [.int (nI j)]) from by unfold kx; rw [if_neg k_1, if_neg k_3, if_pos k_5]; rfl]; exact hP.sub [0] rfl
    have hD9 : va_D A [(q_6, pE (kx x) j)] := by rw [show pE (kx x) j = .inr (7, [.int (nI j)]) from by unfold kx; rw [if_neg k_1, if_neg k_3, if_pos k_5]; rfl]; exact hD.sub [0] (by decide) rfl
    refine W.widen (k := 1) (n := 1) (Nat.le_of_ble_eq_true rfl) (Nat.le_of_ble_eq_true rfl) ?_
    exact W.aret hx hb hr (Or.inl ⟨_, rfl⟩) (Or.inr ⟨_, rfl⟩) (fun t9 ht9 hW9 => ⟨⟨(), q_6, rfl, trivial, by rw [ht9]; exact hP9, hD9⟩, hS.F ht9⟩) hS.2.2 dX5_personOf_60
  by_cases k_7 : x = nI 119
  · skip
    refine lv_lookup (off := 60) (tgt := 61) hx hb dX5_personOf_1 rfl (by rw [k_7]; rfl) (by decide) ?_
    refine va_new (ci := 9) (fs := []) (C := RX9) (T := TX9) (N := 0) hx hb hts (g_in wsX90 0 rfl) tyX9 tyX9_ok hown (hts _ (List.mem_of_getElem? (i := 7) rfl)) (hts _ (List.mem_of_getElem? (i := 8) rfl)) (hts _ (List.mem_of_getElem? (i := 9) rfl)) hK.1 hP hD hS hA rfl (fun j hj => absurd hj (Nat.not_lt_zero j)) (Nat.le_of_ble_eq_true rfl) (Nat.le_of_ble_eq_true rfl) dX5_personOf_61 (fun q_8 H hP hD hS => ?_)
    have hP : va_P G.1 vwCl [(q_8, .inr (9, []))] H := hP
    have hD : va_D A [(q_8, .inr (9, []))] := hD
    refine lv_dup hx hb dX5_personOf_64 rfl ?_
    refine g_callv (S := Unit) (w1 := fun u => []) (wr := [(q_8, .inr (9, []))]) (wc := []) hP hD hS hA [] [0] rfl rfl (by decide) (by decide) (va_runIN (As := []) (rest := [.ref q_8]) ⟨hx, hb, hml, hown, hts⟩ (c_X9_init l G q_8 _ ) ⟨va_cnB 0 hts gX5_personOf_X9_init_n31 rfl rfl rfl (hK.nw 27 rfl) (hts _ (List.mem_of_getElem? (i := 9) rfl)) (by decide +kernel) ⟨Nat.le_of_ble_eq_true rfl, Nat.le_of_ble_eq_true rfl⟩, rfl, (hts _ (List.mem_of_getElem? (i := 26) rfl))⟩ (gM.S (As := .ref q_8 :: []) hK (show va_P G.1 vwCl [] H from g_nil) (show va_D A [] from g_nilD)) rfl rfl hl.1 rfl (lv_room (Nat.le_of_ble_eq_true rfl)) dX5_personOf_65 ⟨Nat.le_of_ble_eq_true rfl, Nat.le_of_ble_eq_true rfl⟩) (fun u H locs hq hP hD hS => ?_)
    have hP : va_P G.1 vwCl [(q_8, .inr (9, []))] H := hP
    have hD : va_D A [(q_8, .inr (9, []))] := hD
    have hP9 : va_P G.1 vwCl [(q_8, pE (kx x) j)] H := by rw [show pE (kx x) j = .inr (9, []) from by unfold kx; rw [if_neg k_1, if_neg k_3, if_neg k_5, if_pos k_7]; rfl]; exact hP.sub [0] rfl
    have hD9 : va_D A [(q_8, pE (kx x) j)] := by rw [show pE (kx x) j = .inr (9, []) from by unfold kx; rw [if_neg k_1, if_neg k_3, if_neg k_5, if_pos k_7]; rfl]; exact hD.sub [0] (by decide) rfl
    refine W.widen (k := 1) (n := 1) (Nat.le_of_ble_eq_true rfl) (Nat.le_of_ble_eq_true rfl) ?_
    exact W.aret hx hb hr (Or.inl ⟨_, rfl⟩) (Or.inr ⟨_, rfl⟩) (fun t9 ht9 hW9 => ⟨⟨(), q_8, rfl, trivial, by rw [ht9]; exact hP9, hD9⟩, hS.F ht9⟩) hS.2.2 dX5_personOf_68
  refine lv_lookup (off := 76) (tgt := 77) hx hb dX5_personOf_1 rfl (by rw [lv_osw k_1 (show (nI 99).toInt = 99 from by decide)]; rw [lv_osw k_3 (show (nI 100).toInt = 100 from by decide)]; rw [lv_osw k_5 (show (nI 115).toInt = 115 from by decide)]; rw [lv_osw k_7 (show (nI 119).toInt = 119 from by decide)]; rfl) (by decide) ?_
  refine va_new (ci := 6) (fs := []) (C := RX6) (T := TX6) (N := 0) hx hb hts (g_in wsX60 0 rfl) tyX6 tyX6_ok hown (hts _ (List.mem_of_getElem? (i := 13) rfl)) (hts _ (List.mem_of_getElem? (i := 14) rfl)) (hts _ (List.mem_of_getElem? (i := 15) rfl)) hK.1 hP hD hS hA rfl (fun j hj => absurd hj (Nat.not_lt_zero j)) (Nat.le_of_ble_eq_true rfl) (Nat.le_of_ble_eq_true rfl) dX5_personOf_77 (fun q_9 H hP hD hS => ?_)
  have hP : va_P G.1 vwCl [(q_9, .inr (6, []))] H := hP
  have hD : va_D A [(q_9, .inr (6, []))] := hD
  refine lv_dup hx hb dX5_personOf_80 rfl ?_
  refine g_callv (S := Unit) (w1 := fun u => []) (wr := [(q_9, .inr (6, []))]) (wc := []) hP hD hS hA [] [0] rfl rfl (by decide) (by decide) (va_runIN (As := []) (rest := [.ref q_9]) ⟨hx, hb, hml, hown, hts⟩ (c_X6_init l G q_9 _ ) ⟨va_cnB 0 hts gX5_personOf_X6_init_n35 rfl rfl rfl (hK.nw 31 rfl) (hts _ (List.mem_of_getElem? (i := 15) rfl)) (by decide +kernel) ⟨Nat.le_of_ble_eq_true rfl, Nat.le_of_ble_eq_true rfl⟩, rfl, (hts _ (List.mem_of_getElem? (i := 18) rfl))⟩ (gM.S (As := .ref q_9 :: []) hK (show va_P G.1 vwCl [] H from g_nil) (show va_D A [] from g_nilD)) rfl rfl hl.1 rfl (lv_room (Nat.le_of_ble_eq_true rfl)) dX5_personOf_81 ⟨Nat.le_of_ble_eq_true rfl, Nat.le_of_ble_eq_true rfl⟩) (fun u H locs hq hP hD hS => ?_)
  have hP : va_P G.1 vwCl [(q_9, .inr (6, []))] H := hP
  have hD : va_D A [(q_9, .inr (6, []))] := hD
  have hP9 : va_P G.1 vwCl [(q_9, pE (kx x) j)] H := by rw [show pE (kx x) j = .inr (6, []) from by unfold kx; rw [if_neg k_1, if_neg k_3, if_neg k_5, if_neg k_7]; rfl]; exact hP.sub [0] rfl
  have hD9 : va_D A [(q_9, pE (kx x) j)] := by rw [show pE (kx x) j = .inr (6, []) from by unfold kx; rw [if_neg k_1, if_neg k_3, if_neg k_5, if_neg k_7]; rfl]; exact hD.sub [0] (by decide) rfl
  refine W.widen (k := 1) (n := 1) (Nat.le_of_ble_eq_true rfl) (Nat.le_of_ble_eq_true rfl) ?_
  exact W.aret hx hb hr (Or.inl ⟨_, rfl⟩) (Or.inr ⟨_, rfl⟩) (fun t9 ht9 hW9 => ⟨⟨(), q_9, rfl, trivial, by rw [ht9]; exact hP9, hD9⟩, hS.F ht9⟩) hS.2.2 dX5_personOf_84

set_option maxHeartbeats 4000000 in
set_option maxRecDepth 100000 in
theorem c_join (l : Launch) (G : gG) (hp : Nat) (ha : Nat) (n : Nat) (mf : Nat → Option Nat) (T : va_W) (x : Int32) (sz : Nat) (hn : n < 4) : Met l yX5_join wsX5_join ({ frames := 5, cells := 1, slots := 1, locals := 93 } : Room) (gM G [.ref hp, .int x] (([(hp, .inr (5, [.ref ha, .int (nI n)])), (ha, .inl (G.2.2.2, 4, .inr (.inr (.inr (.inr mf)))))] : va_W) ++ T) sz) (va_Qv (fun (u : Nat) => True) (fun u t => va_P G.1 vwCl (([(hp, .inr (5, [.ref ha, .int (nI (n + 1))])), (ha, .inl (G.2.2.2, 4, .inr (.inr (.inr (.inr (va_up mf n (some u)))))))] : va_W) ++ (u, pE (kx x) n) :: T) t.heap ∧ va_D (va_A (([(hp, .inr (5, [.ref ha, .int (nI n)])), (ha, .inl (G.2.2.2, 4, .inr (.inr (.inr (.inr mf)))))] : va_W) ++ T) sz) (([(hp, .inr (5, [.ref ha, .int (nI (n + 1))])), (ha, .inl (G.2.2.2, 4, .inr (.inr (.inr (.inr (va_up mf n (some u)))))))] : va_W) ++ (u, pE (kx x) n) :: T)) (va_A (([(hp, .inr (5, [.ref ha, .int (nI n)])), (ha, .inl (G.2.2.2, 4, .inr (.inr (.inr (.inr mf)))))] : va_W) ++ T) sz)) 1 1 (va_A (([(hp, .inr (5, [.ref ha, .int (nI n)])), (ha, .inl (G.2.2.2, 4, .inr (.inr (.inr (.inr mf)))))] : va_W) ++ T) sz) := by
  refine Met.ofW (cc := cX5_join) (maxL := 2) (ret := none) (by decide) rfl ?_
  intro p e s m args below meth c s₁ B hml hv
  obtain ⟨rfl, hsz, hP, hK, hD0⟩ := hv
  have hx := B.exec
  have hb := B.bytes
  have hr := B.returns
  have hts := atoms_spec (ws := wsX5_join) B.pre
  have hown : s.vm.findClass RX5 = some m.cls := findClass_of_methodNamed B.named
  have hlocks := B.notSynchronized
  subst hsz
  have hD := hD0.self (sz := s.heap.size)
  generalize hAe : va_A (([(hp, .inr (5, [.ref ha, .int (nI n)])), (ha, .inl (G.2.2.2, 4, .inr (.inr (.inr (.inr mf)))))] : va_W) ++ T) s.heap.size = A at hD ⊢
  have hA : ∀ q : Nat, s.heap.size ≤ q → A q := fun q h => by rw [← hAe]; exact Or.inr h
  have hS : va_S A s.heap s.heap [] := va_S.rf
  clear hAe hD0
  have hl := lv_entry ([.ref hp, .int x]) (n := 2) (Nat.le_of_ble_eq_true rfl)
  rw [lg_entry_eq]
  generalize (lg_sl ([.ref hp, .int x]) ++ List.replicate (2 - (lg_sl ([.ref hp, .int x])).length) Slot.unset).toArray = ls at hl ⊢
  have hl : lv_has ls 2 [(0, .ref hp), (1, .int x)] := hl
  refine lv_aload_n hx hb dX5_join_0 rfl (lv_at hl 0 rfl) ?_
  refine va_get (D := G.1) (ci := 5) (v := .int (nI n)) (C := RX5) (T := TX5) (N := 2) hx hb hts (g_in wsX50 36 rfl) hown hK.1 hP 0 rfl rfl 1 (by decide) (hts _ (List.mem_of_getElem? (i := 1) rfl)) (fun _ h9 => h9) rfl dX5_join_1 ?_
  refine lv_iconst (v := (nI 4)) hx hb dX5_join_4 (by decide) ?_
  refine lv_icmp_lt (tgt := 9) hx hb dX5_join_5 (by decide) (fun c_1 => ?_) (fun c_1 => ?_)
  · skip
    have c_1 := (cLtNN (a := n) (b := 4) (by omega) (by omega)).mp c_1
    refine lv_aload_n hx hb dX5_join_9 rfl (lv_at hl 0 rfl) ?_
    refine va_get (D := G.1) (ci := 5) (v := .ref ha) (C := RX5) (T := TX5) (N := 2) hx hb hts (g_in wsX50 36 rfl) hown hK.1 hP 0 rfl rfl 0 (by decide) (hts _ (List.mem_of_getElem? (i := 2) rfl)) (fun _ h9 => h9) rfl dX5_join_10 ?_
    refine lv_aload_n hx hb dX5_join_13 rfl (lv_at hl 0 rfl) ?_
    refine va_get (D := G.1) (ci := 5) (v := .int (nI n)) (C := RX5) (T := TX5) (N := 2) hx hb hts (g_in wsX50 36 rfl) hown hK.1 hP 0 rfl rfl 1 (by decide) (hts _ (List.mem_of_getElem? (i := 1) rfl)) (fun _ h9 => h9) rfl dX5_join_14 ?_
    refine lv_iload_n hx hb dX5_join_17 rfl (lv_at hl 1 rfl) ?_
    refine lv_aload_n hx hb dX5_join_18 rfl (lv_at hl 0 rfl) ?_
    refine va_get (D := G.1) (ci := 5) (v := .int (nI n)) (C := RX5) (T := TX5) (N := 2) hx hb hts (g_in wsX50 36 rfl) hown hK.1 hP 0 rfl rfl 1 (by decide) (hts _ (List.mem_of_getElem? (i := 1) rfl)) (fun _ h9 => h9) rfl dX5_join_19 ?_
    refine g_callrQ (w1 := fun a => [(a, pE (kx x) n)]) hP hD hS hA [0, 1] rfl (by decide) (va_runS (As := [.int x, .int (nI n)]) (rest := [.int (nI n), .ref ha]) ⟨hx, hb, hml, hown, hts⟩ (c_personOf l G x n _) (va_cwS 2 hts gX5_join_X5_personOf rfl rfl rfl (by decide +kernel) ⟨Nat.le_of_ble_eq_true rfl, Nat.le_of_ble_eq_true rfl⟩) (gM.S hK g_nil (show va_D A [] from g_nilD)) rfl rfl hl.1 rfl (lv_room (Nat.le_of_ble_eq_true rfl)) dX5_join_22 ⟨Nat.le_of_ble_eq_true rfl, Nat.le_of_ble_eq_true rfl⟩) (fun a H locs hP hD hS => ?_)
    have hP : va_P G.1 vwCl (([(hp, .inr (5, [.ref ha, .int (nI n)])), (ha, .inl (G.2.2.2, 4, .inr (.inr (.inr (.inr mf))))), (a, pE (kx x) n)] : va_W) ++ T) H := hP
    have hD : va_D A (([(hp, .inr (5, [.ref ha, .int (nI n)])), (ha, .inl (G.2.2.2, 4, .inr (.inr (.inr (.inr mf))))), (a, pE (kx x) n)] : va_W) ++ T) := hD
    refine g_aast hx hb hK hP hD hS 1 rfl (g_any (kx_lt x) hK hP (q0 := 2) rfl) (by omega) (by decide) dX5_join_25 (fun H locs hP hD hS => ?_)
    have hP : va_P G.1 vwCl (([(hp, .inr (5, [.ref ha, .int (nI n)])), (ha, .inl (G.2.2.2, 4, .inr (.inr (.inr (.inr (va_up mf n (some a))))))), (a, pE (kx x) n)] : va_W) ++ T) H := hP
    have hD : va_D A (([(hp, .inr (5, [.ref ha, .int (nI n)])), (ha, .inl (G.2.2.2, 4, .inr (.inr (.inr (.inr (va_up mf n (some a))))))), (a, pE (kx x) n)] : va_W) ++ T) := hD
    refine lv_aload_n hx hb dX5_join_26 rfl (lv_at hl 0 rfl) ?_
    refine lv_dup hx hb dX5_join_27 rfl ?_
    refine va_get (D := G.1) (ci := 5) (v := .int (nI n)) (C := RX5) (T := TX5) (N := 2) hx hb hts (g_in wsX50 36 rfl) hown hK.1 hP 0 rfl rfl 1 (by decide) (hts _ (List.mem_of_getElem? (i := 1) rfl)) (fun _ h9 => h9) rfl dX5_join_28 ?_
    refine lv_iconst (v := (nI 1)) hx hb dX5_join_31 (by decide) ?_
    refine lv_iadd hx hb dX5_join_32 ?_
    refine g_top (y := (nI (n + 1))) (nI_add _ _) ?_
    refine va_put (D := G.1) (ci := 5) (v := .int (nI (n + 1))) (ty := .int) (C := RX5) (T := TX5) (N := 2) hx hb hts (g_in wsX50 36 rfl) tyX5 tyX5_ok nmX5 hown hK.1 hP hD hS 0 rfl rfl 1 (by decide) (hts _ (List.mem_of_getElem? (i := 1) rfl)) (fun _ h9 => h9) rfl (tyX5_ok 1 (by decide)) rfl rfl (Nat.le_of_ble_eq_true rfl) dX5_join_33 (fun H locs hP hD hS => ?_)
    have hP : va_P G.1 vwCl (([(hp, .inr (5, [.ref ha, .int (nI (n + 1))])), (ha, .inl (G.2.2.2, 4, .inr (.inr (.inr (.inr (va_up mf n (some a))))))), (a, pE (kx x) n)] : va_W) ++ T) H := hP
    have hD : va_D A (([(hp, .inr (5, [.ref ha, .int (nI (n + 1))])), (ha, .inl (G.2.2.2, 4, .inr (.inr (.inr (.inr (va_up mf n (some a))))))), (a, pE (kx x) n)] : va_W) ++ T) := hD
    have hP9 : va_P G.1 vwCl (([(hp, .inr (5, [.ref ha, .int (nI (n + 1))])), (ha, .inl (G.2.2.2, 4, .inr (.inr (.inr (.inr (va_up mf n (some a)))))))] : va_W) ++ (a, pE (kx x) n) :: T) H := hP
    have hD9 : va_D A (([(hp, .inr (5, [.ref ha, .int (nI (n + 1))])), (ha, .inl (G.2.2.2, 4, .inr (.inr (.inr (.inr (va_up mf n (some a)))))))] : va_W) ++ (a, pE (kx x) n) :: T) := hD
    refine W.widen (k := 1) (n := 1) (Nat.le_of_ble_eq_true rfl) (Nat.le_of_ble_eq_true rfl) ?_
    exact W.vret hx hb hr (fun t9 ht9 hW9 => ⟨⟨(a), rfl, trivial, by rw [ht9]; exact hP9, hD9⟩, hS.F ht9⟩) hS.2.2 dX5_join_36
  · skip
    have c_1 := gNot (cLtNN (a := n) (b := 4) (by omega) (by omega)) c_1
    exact absurd c_1 (by omega)

set_option maxHeartbeats 4000000 in
set_option maxRecDepth 100000 in
theorem c_isA (l : Launch) (G : gG) (hp : Nat) (ha : Nat) (n : Nat) (mf : Nat → Option Nat) (kd : Nat → Nat) (pa : Nat → Nat) (j : Nat) (T : va_W) (w : Int32) (hn : n ≤ 4) (hmf : ∀ i, i < n → mf i = some (pa i)) (hkd : ∀ i, i < n → kd i < 5) (hT : pplT T n kd pa) (hj : j < n) : Met l yX5_isA wsX5_isA ({ frames := 1, cells := 0, slots := 0, locals := 21 } : Room) (gR G [.ref hp, .int (nI j), .int w] (([(hp, .inr (5, [.ref ha, .int (nI n)])), (ha, .inl (G.2.2.2, 4, .inr (.inr (.inr (.inr mf)))))] : va_W) ++ T)) (vp_Si (fun r : Int32 => r = (bI (isK (kd j) w.toInt)))) 0 0 (fun _ => False) := by
  refine Met.ofW (cc := cX5_isA) (maxL := 4) (ret := (some .boolean)) (by decide) rfl ?_
  intro p e s m args below meth c s₁ B hml hv
  obtain ⟨rfl, hP, hK⟩ := hv
  have hx := B.exec
  have hb := B.bytes
  have hr := B.returns
  have hts := atoms_spec (ws := wsX5_isA) B.pre
  have hown : s.vm.findClass RX5 = some m.cls := findClass_of_methodNamed B.named
  have hlocks := B.notSynchronized
  have hl := lv_entry ([.ref hp, .int (nI j), .int w]) (n := 4) (Nat.le_of_ble_eq_true rfl)
  rw [lg_entry_eq]
  generalize (lg_sl ([.ref hp, .int (nI j), .int w]) ++ List.replicate (4 - (lg_sl ([.ref hp, .int (nI j), .int w])).length) Slot.unset).toArray = ls at hl ⊢
  have hl : lv_has ls 4 [(0, .ref hp), (1, .int (nI j)), (2, .int w)] := hl
  refine lv_aload_n hx hb dX5_isA_0 rfl (lv_at hl 0 rfl) ?_
  refine lv_iload_n hx hb dX5_isA_1 rfl (lv_at hl 1 rfl) ?_
  refine g_callSq (va_runV (As := [.int (nI j)]) (rest := []) ⟨hx, hb, hml, hown, hts⟩ (c_memberAt l G hp ha n mf j (pa j) (by omega) (by omega) (hmf j hj)) (cwV 1 hts gX5_isA_X5_memberAt rfl rfl rfl (by decide +kernel) ⟨Nat.le_of_ble_eq_true rfl, Nat.le_of_ble_eq_true rfl⟩) (gR.V hK (show va_P G.1 vwCl [(hp, .inr (5, [.ref ha, .int (nI n)])), (ha, .inl (G.2.2.2, 4, .inr (.inr (.inr (.inr mf)))))] s.heap from (hP.sub [0, 1] rfl)) hP (ci := 5) (q0 := 0) rfl rfl) rfl rfl hl.1 rfl (lv_room (Nat.le_of_ble_eq_true rfl)) dX5_isA_2 ⟨Nat.le_of_ble_eq_true rfl, Nat.le_of_ble_eq_true rfl⟩) ?_
  refine lv_astore_n (lv' := [(3, .ref (pa j)), (0, .ref hp), (1, .int (nI j)), (2, .int w)]) hx hb dX5_isA_5 rfl hl (by decide) rfl (fun ls hl => ?_)
  refine lv_iload_n hx hb dX5_isA_6 rfl (lv_at hl 3 rfl) ?_
  by_cases k_1 : w.toInt = (0 : Int)
  · skip
    refine lv_tableIn (off := 33) (tgt := 40) hx hb dX5_isA_7 (by rw [k_1]; decide) (by rw [k_1]; decide) (by rw [k_1]; rfl) (by decide) ?_
    refine lv_aload_n hx hb dX5_isA_40 rfl (lv_at hl 0 rfl) ?_
    refine lv_ifnull hx hb dX5_isA_41 ?_
    refine lv_iconst (v := (nI 1)) hx hb dX5_isA_44 (by decide) ?_
    refine lv_goto (tgt := 49) hx hb dX5_isA_45 (by decide) ?_
    have w9_r : (nI 1) = (bI (isK (kd j) w.toInt)) := (by first | exact bI_t (by omega) | exact bI_f (by omega))
    exact W.zret (ty := .boolean) hx hb hr (by decide) (fun t9 ht9 _ => ⟨(nI 1), rfl, w9_r, ht9⟩) (fun _ h => absurd h List.not_mem_nil) dX5_isA_49
  by_cases k_2 : w.toInt = (1 : Int)
  · skip
    refine lv_tableIn (off := 43) (tgt := 50) hx hb dX5_isA_7 (by rw [k_2]; decide) (by rw [k_2]; decide) (by rw [k_2]; rfl) (by decide) ?_
    refine lv_aload_n hx hb dX5_isA_50 rfl (lv_at hl 0 rfl) ?_
    obtain ⟨q, hq⟩ := hT j hj
    have hk5 := hkd j hj
    by_cases e0 : kd j = 0
    · skip
      have hq1 : T[q]? = some (pa j, .inr (6, [])) := by rw [hq, e0]; rfl
      have he := g_tail (X := [(hp, .inr (5, [.ref ha, .int (nI n)])), (ha, .inl (G.2.2.2, 4, .inr (.inr (.inr (.inr mf)))))]) hq1
      refine va_instNo hx hb hown (hts _ (List.mem_of_getElem? (i := 1) rfl)) (hK.nc 0 rfl) (va_recv hK.1 hP (ci := 6) rfl he) dX5_isA_51 ?_
      refine g_top (x := 0) (y := nI 0) rfl ?_
      have w9_r : (nI 0) = (bI (isK (kd j) w.toInt)) := (by first | exact bI_t (by omega) | exact bI_f (by omega))
      exact W.zret (ty := .boolean) hx hb hr (by decide) (fun t9 ht9 _ => ⟨(nI 0), rfl, w9_r, ht9⟩) (fun _ h => absurd h List.not_mem_nil) dX5_isA_54
    by_cases e1 : kd j = 1
    · skip
      have hq1 : T[q]? = some (pa j, .inr (1, [])) := by rw [hq, e1]; rfl
      have he := g_tail (X := [(hp, .inr (5, [.ref ha, .int (nI n)])), (ha, .inl (G.2.2.2, 4, .inr (.inr (.inr (.inr mf)))))]) hq1
      refine va_instS hx hb hown (hts _ (List.mem_of_getElem? (i := 1) rfl)) (hK.1.1 1 _ rfl).2 (va_recv hK.1 hP (ci := 1) rfl he) dX5_isA_51 ?_
      refine g_top (x := 1) (y := nI 1) rfl ?_
      have w9_r : (nI 1) = (bI (isK (kd j) w.toInt)) := (by first | exact bI_t (by omega) | exact bI_f (by omega))
      exact W.zret (ty := .boolean) hx hb hr (by decide) (fun t9 ht9 _ => ⟨(nI 1), rfl, w9_r, ht9⟩) (fun _ h => absurd h List.not_mem_nil) dX5_isA_54
    by_cases e2 : kd j = 2
    · skip
      have hq1 : T[q]? = some (pa j, .inr (7, [.int (nI j)])) := by rw [hq, e2]; rfl
      have he := g_tail (X := [(hp, .inr (5, [.ref ha, .int (nI n)])), (ha, .inl (G.2.2.2, 4, .inr (.inr (.inr (.inr mf)))))]) hq1
      refine va_instNo hx hb hown (hts _ (List.mem_of_getElem? (i := 1) rfl)) (hK.nc 7 rfl) (va_recv hK.1 hP (ci := 7) rfl he) dX5_isA_51 ?_
      refine g_top (x := 0) (y := nI 0) rfl ?_
      have w9_r : (nI 0) = (bI (isK (kd j) w.toInt)) := (by first | exact bI_t (by omega) | exact bI_f (by omega))
      exact W.zret (ty := .boolean) hx hb hr (by decide) (fun t9 ht9 _ => ⟨(nI 0), rfl, w9_r, ht9⟩) (fun _ h => absurd h List.not_mem_nil) dX5_isA_54
    by_cases e3 : kd j = 3
    · skip
      have hq1 : T[q]? = some (pa j, .inr (9, [])) := by rw [hq, e3]; rfl
      have he := g_tail (X := [(hp, .inr (5, [.ref ha, .int (nI n)])), (ha, .inl (G.2.2.2, 4, .inr (.inr (.inr (.inr mf)))))]) hq1
      refine va_instNo hx hb hown (hts _ (List.mem_of_getElem? (i := 1) rfl)) (hK.nc 10 rfl) (va_recv hK.1 hP (ci := 9) rfl he) dX5_isA_51 ?_
      refine g_top (x := 0) (y := nI 0) rfl ?_
      have w9_r : (nI 0) = (bI (isK (kd j) w.toInt)) := (by first | exact bI_t (by omega) | exact bI_f (by omega))
      exact W.zret (ty := .boolean) hx hb hr (by decide) (fun t9 ht9 _ => ⟨(nI 0), rfl, w9_r, ht9⟩) (fun _ h => absurd h List.not_mem_nil) dX5_isA_54
    have e4 : kd j = 4 := by omega
    have hq1 : T[q]? = some (pa j, .inr (2, [])) := by rw [hq, e4]; rfl
    have he := g_tail (X := [(hp, .inr (5, [.ref ha, .int (nI n)])), (ha, .inl (G.2.2.2, 4, .inr (.inr (.inr (.inr mf)))))]) hq1
    refine va_instY hx hb hown (hts _ (List.mem_of_getElem? (i := 1) rfl)) (hK.nw 66 rfl) (va_recv hK.1 hP (ci := 2) rfl he) dX5_isA_51 ?_
    refine g_top (x := 1) (y := nI 1) rfl ?_
    have w9_r : (nI 1) = (bI (isK (kd j) w.toInt)) := (by first | exact bI_t (by omega) | exact bI_f (by omega))
    exact W.zret (ty := .boolean) hx hb hr (by decide) (fun t9 ht9 _ => ⟨(nI 1), rfl, w9_r, ht9⟩) (fun _ h => absurd h List.not_mem_nil) dX5_isA_54
  by_cases k_3 : w.toInt = (2 : Int)
  · skip
    refine lv_tableIn (off := 48) (tgt := 55) hx hb dX5_isA_7 (by rw [k_3]; decide) (by rw [k_3]; decide) (by rw [k_3]; rfl) (by decide) ?_
    refine lv_aload_n hx hb dX5_isA_55 rfl (lv_at hl 0 rfl) ?_
    obtain ⟨q, hq⟩ := hT j hj
    have hk5 := hkd j hj
    by_cases e0 : kd j = 0
    · skip
      have hq1 : T[q]? = some (pa j, .inr (6, [])) := by rw [hq, e0]; rfl
      have he := g_tail (X := [(hp, .inr (5, [.ref ha, .int (nI n)])), (ha, .inl (G.2.2.2, 4, .inr (.inr (.inr (.inr mf)))))]) hq1
      refine va_instNo hx hb hown (hts _ (List.mem_of_getElem? (i := 2) rfl)) (hK.nc 1 rfl) (va_recv hK.1 hP (ci := 6) rfl he) dX5_isA_56 ?_
      refine g_top (x := 0) (y := nI 0) rfl ?_
      have w9_r : (nI 0) = (bI (isK (kd j) w.toInt)) := (by first | exact bI_t (by omega) | exact bI_f (by omega))
      exact W.zret (ty := .boolean) hx hb hr (by decide) (fun t9 ht9 _ => ⟨(nI 0), rfl, w9_r, ht9⟩) (fun _ h => absurd h List.not_mem_nil) dX5_isA_59
    by_cases e1 : kd j = 1
    · skip
      have hq1 : T[q]? = some (pa j, .inr (1, [])) := by rw [hq, e1]; rfl
      have he := g_tail (X := [(hp, .inr (5, [.ref ha, .int (nI n)])), (ha, .inl (G.2.2.2, 4, .inr (.inr (.inr (.inr mf)))))]) hq1
      refine va_instNo hx hb hown (hts _ (List.mem_of_getElem? (i := 2) rfl)) (hK.nc 4 rfl) (va_recv hK.1 hP (ci := 1) rfl he) dX5_isA_56 ?_
      refine g_top (x := 0) (y := nI 0) rfl ?_
      have w9_r : (nI 0) = (bI (isK (kd j) w.toInt)) := (by first | exact bI_t (by omega) | exact bI_f (by omega))
      exact W.zret (ty := .boolean) hx hb hr (by decide) (fun t9 ht9 _ => ⟨(nI 0), rfl, w9_r, ht9⟩) (fun _ h => absurd h List.not_mem_nil) dX5_isA_59
    by_cases e2 : kd j = 2
    · skip
      have hq1 : T[q]? = some (pa j, .inr (7, [.int (nI j)])) := by rw [hq, e2]; rfl
      have he := g_tail (X := [(hp, .inr (5, [.ref ha, .int (nI n)])), (ha, .inl (G.2.2.2, 4, .inr (.inr (.inr (.inr mf)))))]) hq1
      refine va_instS hx hb hown (hts _ (List.mem_of_getElem? (i := 2) rfl)) (hK.1.1 7 _ rfl).2 (va_recv hK.1 hP (ci := 7) rfl he) dX5_isA_56 ?_
      refine g_top (x := 1) (y := nI 1) rfl ?_
      have w9_r : (nI 1) = (bI (isK (kd j) w.toInt)) := (by first | exact bI_t (by omega) | exact bI_f (by omega))
      exact W.zret (ty := .boolean) hx hb hr (by decide) (fun t9 ht9 _ => ⟨(nI 1), rfl, w9_r, ht9⟩) (fun _ h => absurd h List.not_mem_nil) dX5_isA_59
    by_cases e3 : kd j = 3
    · skip
      have hq1 : T[q]? = some (pa j, .inr (9, [])) := by rw [hq, e3]; rfl
      have he := g_tail (X := [(hp, .inr (5, [.ref ha, .int (nI n)])), (ha, .inl (G.2.2.2, 4, .inr (.inr (.inr (.inr mf)))))]) hq1
      refine va_instNo hx hb hown (hts _ (List.mem_of_getElem? (i := 2) rfl)) (hK.nc 11 rfl) (va_recv hK.1 hP (ci := 9) rfl he) dX5_isA_56 ?_
      refine g_top (x := 0) (y := nI 0) rfl ?_
      have w9_r : (nI 0) = (bI (isK (kd j) w.toInt)) := (by first | exact bI_t (by omega) | exact bI_f (by omega))
      exact W.zret (ty := .boolean) hx hb hr (by decide) (fun t9 ht9 _ => ⟨(nI 0), rfl, w9_r, ht9⟩) (fun _ h => absurd h List.not_mem_nil) dX5_isA_59
    have e4 : kd j = 4 := by omega
    have hq1 : T[q]? = some (pa j, .inr (2, [])) := by rw [hq, e4]; rfl
    have he := g_tail (X := [(hp, .inr (5, [.ref ha, .int (nI n)])), (ha, .inl (G.2.2.2, 4, .inr (.inr (.inr (.inr mf)))))]) hq1
    refine va_instNo hx hb hown (hts _ (List.mem_of_getElem? (i := 2) rfl)) (hK.nc 13 rfl) (va_recv hK.1 hP (ci := 2) rfl he) dX5_isA_56 ?_
    refine g_top (x := 0) (y := nI 0) rfl ?_
    have w9_r : (nI 0) = (bI (isK (kd j) w.toInt)) := (by first | exact bI_t (by omega) | exact bI_f (by omega))
    exact W.zret (ty := .boolean) hx hb hr (by decide) (fun t9 ht9 _ => ⟨(nI 0), rfl, w9_r, ht9⟩) (fun _ h => absurd h List.not_mem_nil) dX5_isA_59
  by_cases k_4 : w.toInt = (3 : Int)
  · skip
    refine lv_tableIn (off := 53) (tgt := 60) hx hb dX5_isA_7 (by rw [k_4]; decide) (by rw [k_4]; decide) (by rw [k_4]; rfl) (by decide) ?_
    refine lv_aload_n hx hb dX5_isA_60 rfl (lv_at hl 0 rfl) ?_
    obtain ⟨q, hq⟩ := hT j hj
    have hk5 := hkd j hj
    by_cases e0 : kd j = 0
    · skip
      have hq1 : T[q]? = some (pa j, .inr (6, [])) := by rw [hq, e0]; rfl
      have he := g_tail (X := [(hp, .inr (5, [.ref ha, .int (nI n)])), (ha, .inl (G.2.2.2, 4, .inr (.inr (.inr (.inr mf)))))]) hq1
      refine va_instNo hx hb hown (hts _ (List.mem_of_getElem? (i := 3) rfl)) (hK.nc 2 rfl) (va_recv hK.1 hP (ci := 6) rfl he) dX5_isA_61 ?_
      refine g_top (x := 0) (y := nI 0) rfl ?_
      have w9_r : (nI 0) = (bI (isK (kd j) w.toInt)) := (by first | exact bI_t (by omega) | exact bI_f (by omega))
      exact W.zret (ty := .boolean) hx hb hr (by decide) (fun t9 ht9 _ => ⟨(nI 0), rfl, w9_r, ht9⟩) (fun _ h => absurd h List.not_mem_nil) dX5_isA_64
    by_cases e1 : kd j = 1
    · skip
      have hq1 : T[q]? = some (pa j, .inr (1, [])) := by rw [hq, e1]; rfl
      have he := g_tail (X := [(hp, .inr (5, [.ref ha, .int (nI n)])), (ha, .inl (G.2.2.2, 4, .inr (.inr (.inr (.inr mf)))))]) hq1
      refine va_instNo hx hb hown (hts _ (List.mem_of_getElem? (i := 3) rfl)) (hK.nc 5 rfl) (va_recv hK.1 hP (ci := 1) rfl he) dX5_isA_61 ?_
      refine g_top (x := 0) (y := nI 0) rfl ?_
      have w9_r : (nI 0) = (bI (isK (kd j) w.toInt)) := (by first | exact bI_t (by omega) | exact bI_f (by omega))
      exact W.zret (ty := .boolean) hx hb hr (by decide) (fun t9 ht9 _ => ⟨(nI 0), rfl, w9_r, ht9⟩) (fun _ h => absurd h List.not_mem_nil) dX5_isA_64
    by_cases e2 : kd j = 2
    · skip
      have hq1 : T[q]? = some (pa j, .inr (7, [.int (nI j)])) := by rw [hq, e2]; rfl
      have he := g_tail (X := [(hp, .inr (5, [.ref ha, .int (nI n)])), (ha, .inl (G.2.2.2, 4, .inr (.inr (.inr (.inr mf)))))]) hq1
      refine va_instNo hx hb hown (hts _ (List.mem_of_getElem? (i := 3) rfl)) (hK.nc 8 rfl) (va_recv hK.1 hP (ci := 7) rfl he) dX5_isA_61 ?_
      refine g_top (x := 0) (y := nI 0) rfl ?_
      have w9_r : (nI 0) = (bI (isK (kd j) w.toInt)) := (by first | exact bI_t (by omega) | exact bI_f (by omega))
      exact W.zret (ty := .boolean) hx hb hr (by decide) (fun t9 ht9 _ => ⟨(nI 0), rfl, w9_r, ht9⟩) (fun _ h => absurd h List.not_mem_nil) dX5_isA_64
    by_cases e3 : kd j = 3
    · skip
      have hq1 : T[q]? = some (pa j, .inr (9, [])) := by rw [hq, e3]; rfl
      have he := g_tail (X := [(hp, .inr (5, [.ref ha, .int (nI n)])), (ha, .inl (G.2.2.2, 4, .inr (.inr (.inr (.inr mf)))))]) hq1
      refine va_instS hx hb hown (hts _ (List.mem_of_getElem? (i := 3) rfl)) (hK.1.1 9 _ rfl).2 (va_recv hK.1 hP (ci := 9) rfl he) dX5_isA_61 ?_
      refine g_top (x := 1) (y := nI 1) rfl ?_
      have w9_r : (nI 1) = (bI (isK (kd j) w.toInt)) := (by first | exact bI_t (by omega) | exact bI_f (by omega))
      exact W.zret (ty := .boolean) hx hb hr (by decide) (fun t9 ht9 _ => ⟨(nI 1), rfl, w9_r, ht9⟩) (fun _ h => absurd h List.not_mem_nil) dX5_isA_64
    have e4 : kd j = 4 := by omega
    have hq1 : T[q]? = some (pa j, .inr (2, [])) := by rw [hq, e4]; rfl
    have he := g_tail (X := [(hp, .inr (5, [.ref ha, .int (nI n)])), (ha, .inl (G.2.2.2, 4, .inr (.inr (.inr (.inr mf)))))]) hq1
    refine va_instNo hx hb hown (hts _ (List.mem_of_getElem? (i := 3) rfl)) (hK.nc 14 rfl) (va_recv hK.1 hP (ci := 2) rfl he) dX5_isA_61 ?_
    refine g_top (x := 0) (y := nI 0) rfl ?_
    have w9_r : (nI 0) = (bI (isK (kd j) w.toInt)) := (by first | exact bI_t (by omega) | exact bI_f (by omega))
    exact W.zret (ty := .boolean) hx hb hr (by decide) (fun t9 ht9 _ => ⟨(nI 0), rfl, w9_r, ht9⟩) (fun _ h => absurd h List.not_mem_nil) dX5_isA_64
  by_cases k_5 : w.toInt = (4 : Int)
  · skip
    refine lv_tableIn (off := 58) (tgt := 65) hx hb dX5_isA_7 (by rw [k_5]; decide) (by rw [k_5]; decide) (by rw [k_5]; rfl) (by decide) ?_
    refine lv_aload_n hx hb dX5_isA_65 rfl (lv_at hl 0 rfl) ?_
    obtain ⟨q, hq⟩ := hT j hj
    have hk5 := hkd j hj
    by_cases e0 : kd j = 0
    · skip
      have hq1 : T[q]? = some (pa j, .inr (6, [])) := by rw [hq, e0]; rfl
      have he := g_tail (X := [(hp, .inr (5, [.ref ha, .int (nI n)])), (ha, .inl (G.2.2.2, 4, .inr (.inr (.inr (.inr mf)))))]) hq1
      refine va_instNo hx hb hown (hts _ (List.mem_of_getElem? (i := 4) rfl)) (hK.nc 3 rfl) (va_recv hK.1 hP (ci := 6) rfl he) dX5_isA_66 ?_
      refine g_top (x := 0) (y := nI 0) rfl ?_
      have w9_r : (nI 0) = (bI (isK (kd j) w.toInt)) := (by first | exact bI_t (by omega) | exact bI_f (by omega))
      exact W.zret (ty := .boolean) hx hb hr (by decide) (fun t9 ht9 _ => ⟨(nI 0), rfl, w9_r, ht9⟩) (fun _ h => absurd h List.not_mem_nil) dX5_isA_69
    by_cases e1 : kd j = 1
    · skip
      have hq1 : T[q]? = some (pa j, .inr (1, [])) := by rw [hq, e1]; rfl
      have he := g_tail (X := [(hp, .inr (5, [.ref ha, .int (nI n)])), (ha, .inl (G.2.2.2, 4, .inr (.inr (.inr (.inr mf)))))]) hq1
      refine va_instNo hx hb hown (hts _ (List.mem_of_getElem? (i := 4) rfl)) (hK.nc 6 rfl) (va_recv hK.1 hP (ci := 1) rfl he) dX5_isA_66 ?_
      refine g_top (x := 0) (y := nI 0) rfl ?_
      have w9_r : (nI 0) = (bI (isK (kd j) w.toInt)) := (by first | exact bI_t (by omega) | exact bI_f (by omega))
      exact W.zret (ty := .boolean) hx hb hr (by decide) (fun t9 ht9 _ => ⟨(nI 0), rfl, w9_r, ht9⟩) (fun _ h => absurd h List.not_mem_nil) dX5_isA_69
    by_cases e2 : kd j = 2
    · skip
      have hq1 : T[q]? = some (pa j, .inr (7, [.int (nI j)])) := by rw [hq, e2]; rfl
      have he := g_tail (X := [(hp, .inr (5, [.ref ha, .int (nI n)])), (ha, .inl (G.2.2.2, 4, .inr (.inr (.inr (.inr mf)))))]) hq1
      refine va_instNo hx hb hown (hts _ (List.mem_of_getElem? (i := 4) rfl)) (hK.nc 9 rfl) (va_recv hK.1 hP (ci := 7) rfl he) dX5_isA_66 ?_
      refine g_top (x := 0) (y := nI 0) rfl ?_
      have w9_r : (nI 0) = (bI (isK (kd j) w.toInt)) := (by first | exact bI_t (by omega) | exact bI_f (by omega))
      exact W.zret (ty := .boolean) hx hb hr (by decide) (fun t9 ht9 _ => ⟨(nI 0), rfl, w9_r, ht9⟩) (fun _ h => absurd h List.not_mem_nil) dX5_isA_69
    by_cases e3 : kd j = 3
    · skip
      have hq1 : T[q]? = some (pa j, .inr (9, [])) := by rw [hq, e3]; rfl
      have he := g_tail (X := [(hp, .inr (5, [.ref ha, .int (nI n)])), (ha, .inl (G.2.2.2, 4, .inr (.inr (.inr (.inr mf)))))]) hq1
      refine va_instNo hx hb hown (hts _ (List.mem_of_getElem? (i := 4) rfl)) (hK.nc 12 rfl) (va_recv hK.1 hP (ci := 9) rfl he) dX5_isA_66 ?_
      refine g_top (x := 0) (y := nI 0) rfl ?_
      have w9_r : (nI 0) = (bI (isK (kd j) w.toInt)) := (by first | exact bI_t (by omega) | exact bI_f (by omega))
      exact W.zret (ty := .boolean) hx hb hr (by decide) (fun t9 ht9 _ => ⟨(nI 0), rfl, w9_r, ht9⟩) (fun _ h => absurd h List.not_mem_nil) dX5_isA_69
    have e4 : kd j = 4 := by omega
    have hq1 : T[q]? = some (pa j, .inr (2, [])) := by rw [hq, e4]; rfl
    have he := g_tail (X := [(hp, .inr (5, [.ref ha, .int (nI n)])), (ha, .inl (G.2.2.2, 4, .inr (.inr (.inr (.inr mf)))))]) hq1
    refine va_instS hx hb hown (hts _ (List.mem_of_getElem? (i := 4) rfl)) (hK.1.1 2 _ rfl).2 (va_recv hK.1 hP (ci := 2) rfl he) dX5_isA_66 ?_
    refine g_top (x := 1) (y := nI 1) rfl ?_
    have w9_r : (nI 1) = (bI (isK (kd j) w.toInt)) := (by first | exact bI_t (by omega) | exact bI_f (by omega))
    exact W.zret (ty := .boolean) hx hb hr (by decide) (fun t9 ht9 _ => ⟨(nI 1), rfl, w9_r, ht9⟩) (fun _ h => absurd h List.not_mem_nil) dX5_isA_69
  refine lv_tableOut (tgt := 70) hx hb dX5_isA_7 (by omega) (by decide) ?_
  have hk5 := hkd j hj
  refine lv_iconst (v := (nI 0)) hx hb dX5_isA_70 (by decide) ?_
  have w9_r : (nI 0) = (bI (isK (kd j) w.toInt)) := (by first | exact bI_t (by omega) | exact bI_f (by omega))
  exact W.zret (ty := .boolean) hx hb hr (by decide) (fun t9 ht9 _ => ⟨(nI 0), rfl, w9_r, ht9⟩) (fun _ h => absurd h List.not_mem_nil) dX5_isA_71

set_option maxHeartbeats 4000000 in
set_option maxRecDepth 100000 in
theorem c_as (l : Launch) (G : gG) (ad : Nat → Nat) (cW : Int32) (iK : Int32) (rr : Int32) (n : Nat) (mf : Nat → Option Nat) (kd : Nat → Nat) (pa : Nat → Nat) (T : va_W) (x : Int32) (w : Int32) (hn : n ≤ 4) (hmf : ∀ i, i < n → mf i = some (pa i)) (hkd : ∀ i, i < n → kd i < 5) (hT : pplT T n kd pa) : Met l yX11_as wsX11_as ({ frames := 2, cells := 0, slots := 0, locals := 44 } : Room) (gR G [.ref (ad 0), .int x, .int w] (([(ad 0, .inr (11, [.ref (ad 1), .ref (ad 3), .ref (ad 5), .ref (ad 9), .ref (ad 13), .ref (ad 17), .ref (ad 21), .ref (ad 25), .ref (ad 29), .ref (ad 33), .ref (ad 34), .int cW, .int iK, .int rr])), (ad 3, .inr (5, [.ref (ad 4), .int (nI n)])), (ad 4, .inl (G.2.2.2, 4, .inr (.inr (.inr (.inr mf)))))] : va_W) ++ T)) (vp_Si (fun r : Int32 => r = (asR n kd x w.toInt))) 0 0 (fun _ => False) := by
  refine Met.ofW (cc := cX11_as) (maxL := 3) (ret := (some .int)) (by decide) rfl ?_
  intro p e s m args below meth c s₁ B hml hv
  obtain ⟨rfl, hP, hK⟩ := hv
  have hx := B.exec
  have hb := B.bytes
  have hr := B.returns
  have hts := atoms_spec (ws := wsX11_as) B.pre
  have hown : s.vm.findClass RX11 = some m.cls := findClass_of_methodNamed B.named
  have hlocks := B.notSynchronized
  have hl := lv_entry ([.ref (ad 0), .int x, .int w]) (n := 3) (Nat.le_of_ble_eq_true rfl)
  rw [lg_entry_eq]
  generalize (lg_sl ([.ref (ad 0), .int x, .int w]) ++ List.replicate (3 - (lg_sl ([.ref (ad 0), .int x, .int w])).length) Slot.unset).toArray = ls at hl ⊢
  have hl : lv_has ls 3 [(0, .ref (ad 0)), (1, .int x), (2, .int w)] := hl
  refine lv_aload_n hx hb dX11_as_0 rfl (lv_at hl 0 rfl) ?_
  refine va_get (D := G.1) (ci := 11) (v := .ref (ad 3)) (C := RX11) (T := TX11) (N := 14) hx hb hts (g_in wsX110 19 rfl) hown hK.1 hP 0 rfl rfl 1 (by decide) (hts _ (List.mem_of_getElem? (i := 1) rfl)) (fun _ h9 => h9) rfl dX11_as_1 ?_
  refine lv_iload_n hx hb dX11_as_4 rfl (lv_at hl 1 rfl) ?_
  refine g_callSi (va_runVN (As := [.int x]) (rest := []) ⟨hx, hb, hml, hown, hts⟩ (c_has l G (ad 3) (ad 4) n mf x (by omega)) ⟨va_cnB 1 hts gX11_as_X5_has_n115 rfl rfl rfl (hK.nw 34 rfl) (hts _ (List.mem_of_getElem? (i := 3) rfl)) (by decide +kernel) ⟨Nat.le_of_ble_eq_true rfl, Nat.le_of_ble_eq_true rfl⟩, hts _ (List.mem_of_getElem? (i := 2) rfl), hts _ (List.mem_of_getElem? (i := 4) rfl)⟩ (gR.V hK (show va_P G.1 vwCl [(ad 3, .inr (5, [.ref (ad 4), .int (nI n)])), (ad 4, .inl (G.2.2.2, 4, .inr (.inr (.inr (.inr mf)))))] s.heap from (hP.sub [1, 2] rfl)) hP (ci := 5) (q0 := 1) rfl rfl) rfl rfl hl.1 rfl (lv_room (Nat.le_of_ble_eq_true rfl)) dX11_as_5 ⟨Nat.le_of_ble_eq_true rfl, Nat.le_of_ble_eq_true rfl⟩) (fun r hr0 => ?_)
  subst hr0
  refine lv_if_ne (tgt := 14) hx hb dX11_as_8 (by decide) (fun c_1 => ?_) (fun c_1 => ?_)
  · skip
    have c_1 := bI_nz.mp c_1
    obtain ⟨j, hj, rfl⟩ := inR_ex c_1 (by omega)
    refine lv_iload_n hx hb dX11_as_14 rfl (lv_at hl 2 rfl) ?_
    refine lv_if_lt (tgt := 23) hx hb dX11_as_15 (by decide) (fun c_2 => ?_) (fun c_2 => ?_)
    · skip
      have c_2 := (cLtIN (b := 0) (by omega)).mp c_2
      refine lv_bipush (v := (-102)) hx hb dX11_as_23 (by decide) ?_
      have w9_r : (-102) = (asR n kd (nI j) w.toInt) := (by unfold asR; rw [if_pos (inR_N hj (by omega)), if_neg (by omega)])
      exact W.iret hx hb hr (fun t9 ht9 _ => ⟨(-102), rfl, w9_r, ht9⟩) (fun _ h => absurd h List.not_mem_nil) dX11_as_25
    · skip
      have c_2 := gNot (cLtIN (b := 0) (by omega)) c_2
      refine lv_iload_n hx hb dX11_as_18 rfl (lv_at hl 2 rfl) ?_
      refine lv_iconst (v := (nI 4)) hx hb dX11_as_19 (by decide) ?_
      refine lv_icmp_le (tgt := 26) hx hb dX11_as_20 (by decide) (fun c_3 => ?_) (fun c_3 => ?_)
      · skip
        have c_3 := (cLeIN (b := 4) (by omega)).mp c_3
        refine lv_aload_n hx hb dX11_as_26 rfl (lv_at hl 0 rfl) ?_
        refine va_get (D := G.1) (ci := 11) (v := .ref (ad 3)) (C := RX11) (T := TX11) (N := 14) hx hb hts (g_in wsX110 19 rfl) hown hK.1 hP 0 rfl rfl 1 (by decide) (hts _ (List.mem_of_getElem? (i := 1) rfl)) (fun _ h9 => h9) rfl dX11_as_27 ?_
        refine lv_iload_n hx hb dX11_as_30 rfl (lv_at hl 1 rfl) ?_
        refine lv_iload_n hx hb dX11_as_31 rfl (lv_at hl 2 rfl) ?_
        refine g_callSi (va_runVN (As := [.int (nI j), .int w]) (rest := []) ⟨hx, hb, hml, hown, hts⟩ (c_isA l G (ad 3) (ad 4) n mf kd pa j T w (by omega) hmf hkd hT (by omega)) ⟨va_cnB 2 hts gX11_as_X5_isA_n139 rfl rfl rfl (hK.nw 43 rfl) (hts _ (List.mem_of_getElem? (i := 3) rfl)) (by decide +kernel) ⟨Nat.le_of_ble_eq_true rfl, Nat.le_of_ble_eq_true rfl⟩, hts _ (List.mem_of_getElem? (i := 7) rfl), hts _ (List.mem_of_getElem? (i := 8) rfl)⟩ (gR.V hK (show va_P G.1 vwCl (([(ad 3, .inr (5, [.ref (ad 4), .int (nI n)])), (ad 4, .inl (G.2.2.2, 4, .inr (.inr (.inr (.inr mf)))))] : va_W) ++ T) s.heap from (hP.part [1, 2] rfl)) hP (ci := 5) (q0 := 1) rfl rfl) rfl rfl hl.1 rfl (lv_room (Nat.le_of_ble_eq_true rfl)) dX11_as_32 ⟨Nat.le_of_ble_eq_true rfl, Nat.le_of_ble_eq_true rfl⟩) (fun r hr0 => ?_)
        subst hr0
        refine lv_if_eq (tgt := 42) hx hb dX11_as_35 (by decide) (fun c_4 => ?_) (fun c_4 => ?_)
        · skip
          have c_4 := bI_z.mp c_4
          refine lv_iconst (v := (-1)) hx hb dX11_as_42 (by decide) ?_
          have w9_r : (-1) = (asR n kd (nI j) w.toInt) := (by unfold asR; rw [if_pos (inR_N hj (by omega)), if_pos (by omega), nI_clamp (by omega)]; first | rw [if_pos (by assumption)] | rw [if_neg (by assumption)])
          exact W.iret hx hb hr (fun t9 ht9 _ => ⟨(-1), rfl, w9_r, ht9⟩) (fun _ h => absurd h List.not_mem_nil) dX11_as_43
        · skip
          have c_4 := bI_nz.mp c_4
          refine lv_iload_n hx hb dX11_as_38 rfl (lv_at hl 1 rfl) ?_
          refine lv_goto (tgt := 43) hx hb dX11_as_39 (by decide) ?_
          have w9_r : (nI j) = (asR n kd (nI j) w.toInt) := (by unfold asR; rw [if_pos (inR_N hj (by omega)), if_pos (by omega), nI_clamp (by omega)]; first | rw [if_pos (by assumption)] | rw [if_neg (by assumption)])
          exact W.iret hx hb hr (fun t9 ht9 _ => ⟨(nI j), rfl, w9_r, ht9⟩) (fun _ h => absurd h List.not_mem_nil) dX11_as_43
      · skip
        have c_3 := gNot (cLeIN (b := 4) (by omega)) c_3
        refine lv_bipush (v := (-102)) hx hb dX11_as_23 (by decide) ?_
        have w9_r : (-102) = (asR n kd (nI j) w.toInt) := (by unfold asR; rw [if_pos (inR_N hj (by omega)), if_neg (by omega)])
        exact W.iret hx hb hr (fun t9 ht9 _ => ⟨(-102), rfl, w9_r, ht9⟩) (fun _ h => absurd h List.not_mem_nil) dX11_as_25
  · skip
    have c_1 := bI_z.mp c_1
    refine lv_bipush (v := (-101)) hx hb dX11_as_11 (by decide) ?_
    have w9_r : (-101) = (asR n kd x w.toInt) := (by unfold asR; rw [if_neg (by assumption)])
    exact W.iret hx hb hr (fun t9 ht9 _ => ⟨(-101), rfl, w9_r, ht9⟩) (fun _ h => absurd h List.not_mem_nil) dX11_as_13
