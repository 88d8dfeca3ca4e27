/-! words for chains: passes, first passes, the queue's places, how many stand in it -/
abbrev BS : Type := (Nat → Int32) × (Nat → Int32) × (Nat → Nat) × Nat
def reachB (pl : Nat) (bp fi : Int32) (b : BS) : BS := if b.1 pl = -1 ∧ b.2.2.2 < 128 then (upd b.1 pl bp, upd b.2.1 pl fi, (fun j => if j = b.2.2.2 then pl else b.2.2.1 j), b.2.2.2 + 1) else b
def rfB (kd : Nat → Nat) (k : Nat) (fur : Int32) : Nat → BS → BS
  | 0, b => b
  | i + 1, b => if i = k / 32 then rfB kd k fur i b else reachB (toP kd i k) fur (if fur = nI 1 then nI i else (rfB kd k fur i b).2.1 k) (rfB kd k fur i b)
def mB (kd : Nat → Nat) (n : Nat) : Nat → Nat → BS → BS
  | 0, _, b => b
  | f + 1, i, b => if i < b.2.2.2 then mB kd n f (i + 1) (rfB kd (b.2.2.1 i) (b.1 (b.2.2.1 i) + nI 1) n b) else b
theorem mB_go {kd : Nat → Nat} {n i : Nat} {b : BS} (hi : i < 128) (h : i < b.2.2.2) : mB kd n (128 - i) i b = mB kd n (128 - (i + 1)) (i + 1) (rfB kd (b.2.2.1 i) (b.1 (b.2.2.1 i) + nI 1) n b) := by
  obtain ⟨f, hf⟩ : ∃ f, 128 - i = f + 1 := ⟨128 - (i + 1), by omega⟩
  rw [hf, show 128 - (i + 1) = f by omega]; simp only [mB]; rw [if_pos h]
theorem mB_end {kd : Nat → Nat} {n i : Nat} {b : BS} (h : ¬ i < b.2.2.2 ∨ 128 ≤ i) : mB kd n (128 - i) i b = b := by
  by_cases h1 : 128 ≤ i
  · rw [show 128 - i = 0 by omega]; rfl
  · obtain ⟨f, hf⟩ : ∃ f, 128 - i = f + 1 := ⟨128 - (i + 1), by omega⟩
    rw [hf]; simp only [mB]; rw [if_neg (by omega)]

set_option maxHeartbeats 4000000 in
set_option maxRecDepth 100000 in
theorem c_reach (l : Launch) (G : gG) (h0 : Nat) (c1 : Nat) (c2 : Nat) (c3 : Nat) (pa0 : Nat → Int32) (fp : Nat → Int32) (qu : Nat → Int32) (qn : Nat) (pl : Nat) (bp : Int32) (fi : Int32) (qv : Nat → Nat) (sz : Nat) (hpl : pl < 128) (hqn : qn ≤ 128) (hq0 : ∀ i, i < qn → qu i = nI (qv i)) (hq1 : ∀ i, i < qn → qv i < 128) : Met l yX0_reach wsX0_reach ({ frames := 0, cells := 0, slots := 0, locals := 0 } : Room) (gM G [.ref h0, .int (nI pl), .int bp, .int fi] [(h0, .inr (0, [.ref c1, .ref c2, .ref c3, .int (nI qn)])), (c1, .inl (G.2.1, 128, .inl pa0)), (c2, .inl (G.2.1, 128, .inl fp)), (c3, .inl (G.2.1, 128, .inl qu))] sz) (va_Qv (fun (u : (Nat → Int32) × (Nat → Int32) × (Nat → Int32) × (Nat → Nat) × Nat) => ((u.1, u.2.1, u.2.2.2.1, u.2.2.2.2) = reachB pl bp fi (pa0, fp, qv, qn)) ∧ (u.2.2.2.2 ≤ 128) ∧ (∀ i, i < u.2.2.2.2 → u.2.2.1 i = nI (u.2.2.2.1 i)) ∧ (∀ i, i < u.2.2.2.2 → u.2.2.2.1 i < 128)) (fun u t => va_P G.1 vwCl [(h0, .inr (0, [.ref c1, .ref c2, .ref c3, .int (nI u.2.2.2.2)])), (c1, .inl (G.2.1, 128, .inl u.1)), (c2, .inl (G.2.1, 128, .inl u.2.1)), (c3, .inl (G.2.1, 128, .inl u.2.2.1))] t.heap ∧ va_D (va_A [(h0, .inr (0, [.ref c1, .ref c2, .ref c3, .int (nI qn)])), (c1, .inl (G.2.1, 128, .inl pa0)), (c2, .inl (G.2.1, 128, .inl fp)), (c3, .inl (G.2.1, 128, .inl qu))] sz) [(h0, .inr (0, [.ref c1, .ref c2, .ref c3, .int (nI u.2.2.2.2)])), (c1, .inl (G.2.1, 128, .inl u.1)), (c2, .inl (G.2.1, 128, .inl u.2.1)), (c3, .inl (G.2.1, 128, .inl u.2.2.1))]) (va_A [(h0, .inr (0, [.ref c1, .ref c2, .ref c3, .int (nI qn)])), (c1, .inl (G.2.1, 128, .inl pa0)), (c2, .inl (G.2.1, 128, .inl fp)), (c3, .inl (G.2.1, 128, .inl qu))] sz)) 0 0 (va_A [(h0, .inr (0, [.ref c1, .ref c2, .ref c3, .int (nI qn)])), (c1, .inl (G.2.1, 128, .inl pa0)), (c2, .inl (G.2.1, 128, .inl fp)), (c3, .inl (G.2.1, 128, .inl qu))] sz) := by
  refine Met.ofW (cc := cX0_reach) (maxL := 4) (ret := none) (by decide) rfl ?_
  intro p e s m args below meth c s₁ B hml hv
  obtain ⟨rfl, hsz, hP, hK, hD0⟩ := hv
  have hx := B.exec
  have hb := B.bytes
  have hr := B.returns
  have hts := atoms_spec (ws := wsX0_reach) B.pre
  have hown : s.vm.findClass RX0 = some m.cls := findClass_of_methodNamed B.named
  have hlocks := B.notSynchronized
  subst hsz
  have hD := hD0.self (sz := s.heap.size)
  generalize hAe : va_A [(h0, .inr (0, [.ref c1, .ref c2, .ref c3, .int (nI qn)])), (c1, .inl (G.2.1, 128, .inl pa0)), (c2, .inl (G.2.1, 128, .inl fp)), (c3, .inl (G.2.1, 128, .inl qu))] s.heap.size = A at hD ⊢
  have hA : ∀ q : Nat, s.heap.size ≤ q → A q := fun q h => by rw [← hAe]; exact Or.inr h
  have hS : va_S A s.heap s.heap [] := va_S.rf
  clear hAe hD0
  have hl := lv_entry ([.ref h0, .int (nI pl), .int bp, .int fi]) (n := 4) (Nat.le_of_ble_eq_true rfl)
  rw [lg_entry_eq]
  generalize (lg_sl ([.ref h0, .int (nI pl), .int bp, .int fi]) ++ List.replicate (4 - (lg_sl ([.ref h0, .int (nI pl), .int bp, .int fi])).length) Slot.unset).toArray = ls at hl ⊢
  have hl : lv_has ls 4 [(0, .ref h0), (1, .int (nI pl)), (2, .int bp), (3, .int fi)] := hl
  refine lv_iload_n hx hb dX0_reach_0 rfl (lv_at hl 1 rfl) ?_
  refine lv_if_lt (tgt := 31) hx hb dX0_reach_1 (by decide) (fun c_1 => ?_) (fun c_1 => ?_)
  · skip
    have c_1 := (cLtNN (a := pl) (b := 0) (by omega) (by omega)).mp c_1
    exact absurd c_1 (by omega)
  · skip
    have c_1 := gNot (cLtNN (a := pl) (b := 0) (by omega) (by omega)) c_1
    refine lv_iload_n hx hb dX0_reach_4 rfl (lv_at hl 1 rfl) ?_
    refine lv_sipush (v := (nI 128)) hx hb dX0_reach_5 (by decide) ?_
    refine lv_icmp_ge (tgt := 31) hx hb dX0_reach_8 (by decide) (fun c_2 => ?_) (fun c_2 => ?_)
    · skip
      have c_2 := (cLeNN (a := 128) (b := pl) (by omega) (by omega)).mp c_2
      exact absurd c_2 (by omega)
    · skip
      have c_2 := gNot (cLeNN (a := 128) (b := pl) (by omega) (by omega)) c_2
      refine lv_aload_n hx hb dX0_reach_11 rfl (lv_at hl 0 rfl) ?_
      refine va_get (D := G.1) (ci := 0) (v := .ref c1) (C := RX0) (T := TX0) (N := 4) hx hb hts (g_in wsX00 5 rfl) hown hK.1 hP 0 rfl rfl 0 (by decide) (hts _ (List.mem_of_getElem? (i := 1) rfl)) (fun _ h9 => h9) rfl dX0_reach_12 ?_
      refine lv_iload_n hx hb dX0_reach_15 rfl (lv_at hl 1 rfl) ?_
      refine g_iald hx hb hK hP 1 rfl (by omega) (by decide) dX0_reach_16 ?_
      refine lv_iconst (v := (-1)) hx hb dX0_reach_17 (by decide) ?_
      refine lv_icmp_ne (tgt := 31) hx hb dX0_reach_18 (by decide) (fun c_3 => ?_) (fun c_3 => ?_)
      · skip
        have w9_0 : (pa0, fp, qv, qn) = reachB pl bp fi (pa0, fp, qv, qn) := (by unfold reachB; rw [if_neg (by first | omega | (rintro ⟨h1, h2⟩; first | contradiction | omega))])
        have hP9 : va_P G.1 vwCl [(h0, .inr (0, [.ref c1, .ref c2, .ref c3, .int (nI qn)])), (c1, .inl (G.2.1, 128, .inl pa0)), (c2, .inl (G.2.1, 128, .inl fp)), (c3, .inl (G.2.1, 128, .inl qu))] s.heap := (hP.sub [0, 1, 2, 3] rfl)
        have hD9 : va_D A [(h0, .inr (0, [.ref c1, .ref c2, .ref c3, .int (nI qn)])), (c1, .inl (G.2.1, 128, .inl pa0)), (c2, .inl (G.2.1, 128, .inl fp)), (c3, .inl (G.2.1, 128, .inl qu))] := (hD.sub [0, 1, 2, 3] (by decide) rfl)
        exact W.vret hx hb hr (fun t9 ht9 hW9 => ⟨⟨(pa0, fp, qu, qv, qn), rfl, ⟨w9_0, hqn, hq0, hq1⟩, by rw [ht9]; exact hP9, hD9⟩, hS.F ht9⟩) hS.2.2 dX0_reach_31
      · skip
        refine lv_aload_n hx hb dX0_reach_21 rfl (lv_at hl 0 rfl) ?_
        refine va_get (D := G.1) (ci := 0) (v := .int (nI qn)) (C := RX0) (T := TX0) (N := 4) hx hb hts (g_in wsX00 5 rfl) hown hK.1 hP 0 rfl rfl 3 (by decide) (hts _ (List.mem_of_getElem? (i := 2) rfl)) (fun _ h9 => h9) rfl dX0_reach_22 ?_
        refine lv_sipush (v := (nI 128)) hx hb dX0_reach_25 (by decide) ?_
        refine lv_icmp_lt (tgt := 32) hx hb dX0_reach_28 (by decide) (fun c_4 => ?_) (fun c_4 => ?_)
        · skip
          have c_4 := (cLtNN (a := qn) (b := 128) (by omega) (by omega)).mp c_4
          refine lv_aload_n hx hb dX0_reach_32 rfl (lv_at hl 0 rfl) ?_
          refine va_get (D := G.1) (ci := 0) (v := .ref c1) (C := RX0) (T := TX0) (N := 4) hx hb hts (g_in wsX00 5 rfl) hown hK.1 hP 0 rfl rfl 0 (by decide) (hts _ (List.mem_of_getElem? (i := 1) rfl)) (fun _ h9 => h9) rfl dX0_reach_33 ?_
          refine lv_iload_n hx hb dX0_reach_36 rfl (lv_at hl 1 rfl) ?_
          refine lv_iload_n hx hb dX0_reach_37 rfl (lv_at hl 2 rfl) ?_
          refine g_iast hx hb hK hP hD hS 1 rfl (by omega) (by decide) dX0_reach_38 (fun H locs hP hD hS => ?_)
          have hP : va_P G.1 vwCl [(h0, .inr (0, [.ref c1, .ref c2, .ref c3, .int (nI qn)])), (c1, .inl (G.2.1, 128, .inl (upd pa0 pl bp))), (c2, .inl (G.2.1, 128, .inl fp)), (c3, .inl (G.2.1, 128, .inl qu))] H := hP
          have hD : va_D A [(h0, .inr (0, [.ref c1, .ref c2, .ref c3, .int (nI qn)])), (c1, .inl (G.2.1, 128, .inl (upd pa0 pl bp))), (c2, .inl (G.2.1, 128, .inl fp)), (c3, .inl (G.2.1, 128, .inl qu))] := hD
          refine lv_aload_n hx hb dX0_reach_39 rfl (lv_at hl 0 rfl) ?_
          refine va_get (D := G.1) (ci := 0) (v := .ref c2) (C := RX0) (T := TX0) (N := 4) hx hb hts (g_in wsX00 5 rfl) hown hK.1 hP 0 rfl rfl 1 (by decide) (hts _ (List.mem_of_getElem? (i := 3) rfl)) (fun _ h9 => h9) rfl dX0_reach_40 ?_
          refine lv_iload_n hx hb dX0_reach_43 rfl (lv_at hl 1 rfl) ?_
          refine lv_iload_n hx hb dX0_reach_44 rfl (lv_at hl 3 rfl) ?_
          refine g_iast hx hb hK hP hD hS 2 rfl (by omega) (by decide) dX0_reach_45 (fun H locs hP hD hS => ?_)
          have hP : va_P G.1 vwCl [(h0, .inr (0, [.ref c1, .ref c2, .ref c3, .int (nI qn)])), (c1, .inl (G.2.1, 128, .inl (upd pa0 pl bp))), (c2, .inl (G.2.1, 128, .inl (upd fp pl fi))), (c3, .inl (G.2.1, 128, .inl qu))] H := hP
          have hD : va_D A [(h0, .inr (0, [.ref c1, .ref c2, .ref c3, .int (nI qn)])), (c1, .inl (G.2.1, 128, .inl (upd pa0 pl bp))), (c2, .inl (G.2.1, 128, .inl (upd fp pl fi))), (c3, .inl (G.2.1, 128, .inl qu))] := hD
          refine lv_aload_n hx hb dX0_reach_46 rfl (lv_at hl 0 rfl) ?_
          refine va_get (D := G.1) (ci := 0) (v := .ref c3) (C := RX0) (T := TX0) (N := 4) hx hb hts (g_in wsX00 5 rfl) hown hK.1 hP 0 rfl rfl 2 (by decide) (hts _ (List.mem_of_getElem? (i := 4) rfl)) (fun _ h9 => h9) rfl dX0_reach_47 ?_
          refine lv_aload_n hx hb dX0_reach_50 rfl (lv_at hl 0 rfl) ?_
          refine va_get (D := G.1) (ci := 0) (v := .int (nI qn)) (C := RX0) (T := TX0) (N := 4) hx hb hts (g_in wsX00 5 rfl) hown hK.1 hP 0 rfl rfl 3 (by decide) (hts _ (List.mem_of_getElem? (i := 2) rfl)) (fun _ h9 => h9) rfl dX0_reach_51 ?_
          refine lv_iload_n hx hb dX0_reach_54 rfl (lv_at hl 1 rfl) ?_
          refine g_iast hx hb hK hP hD hS 3 rfl (by omega) (by decide) dX0_reach_55 (fun H locs hP hD hS => ?_)
          have hP : va_P G.1 vwCl [(h0, .inr (0, [.ref c1, .ref c2, .ref c3, .int (nI qn)])), (c1, .inl (G.2.1, 128, .inl (upd pa0 pl bp))), (c2, .inl (G.2.1, 128, .inl (upd fp pl fi))), (c3, .inl (G.2.1, 128, .inl (upd qu qn (nI pl))))] H := hP
          have hD : va_D A [(h0, .inr (0, [.ref c1, .ref c2, .ref c3, .int (nI qn)])), (c1, .inl (G.2.1, 128, .inl (upd pa0 pl bp))), (c2, .inl (G.2.1, 128, .inl (upd fp pl fi))), (c3, .inl (G.2.1, 128, .inl (upd qu qn (nI pl))))] := hD
          refine lv_aload_n hx hb dX0_reach_56 rfl (lv_at hl 0 rfl) ?_
          refine lv_dup hx hb dX0_reach_57 rfl ?_
          refine va_get (D := G.1) (ci := 0) (v := .int (nI qn)) (C := RX0) (T := TX0) (N := 4) hx hb hts (g_in wsX00 5 rfl) hown hK.1 hP 0 rfl rfl 3 (by decide) (hts _ (List.mem_of_getElem? (i := 2) rfl)) (fun _ h9 => h9) rfl dX0_reach_58 ?_
          refine lv_iconst (v := (nI 1)) hx hb dX0_reach_61 (by decide) ?_
          refine lv_iadd hx hb dX0_reach_62 ?_
          refine g_top (y := (nI (qn + 1))) (nI_add _ _) ?_
          refine va_put (D := G.1) (ci := 0) (v := .int (nI (qn + 1))) (ty := .int) (C := RX0) (T := TX0) (N := 4) hx hb hts (g_in wsX00 5 rfl) tyX0 tyX0_ok nmX0 hown hK.1 hP hD hS 0 rfl rfl 3 (by decide) (hts _ (List.mem_of_getElem? (i := 2) rfl)) (fun _ h9 => h9) rfl (tyX0_ok 3 (by decide)) rfl rfl (Nat.le_of_ble_eq_true rfl) dX0_reach_63 (fun H locs hP hD hS => ?_)
          have hP : va_P G.1 vwCl [(h0, .inr (0, [.ref c1, .ref c2, .ref c3, .int (nI (qn + 1))])), (c1, .inl (G.2.1, 128, .inl (upd pa0 pl bp))), (c2, .inl (G.2.1, 128, .inl (upd fp pl fi))), (c3, .inl (G.2.1, 128, .inl (upd qu qn (nI pl))))] H := hP
          have hD : va_D A [(h0, .inr (0, [.ref c1, .ref c2, .ref c3, .int (nI (qn + 1))])), (c1, .inl (G.2.1, 128, .inl (upd pa0 pl bp))), (c2, .inl (G.2.1, 128, .inl (upd fp pl fi))), (c3, .inl (G.2.1, 128, .inl (upd qu qn (nI pl))))] := hD
          have w9_0 : ((upd pa0 pl bp), (upd fp pl fi), (fun j => if j = qn then pl else qv j), (qn + 1)) = reachB pl bp fi (pa0, fp, qv, qn) := (by unfold reachB; rw [if_pos ⟨by assumption, by omega⟩])
          have w9_1 : (qn + 1) ≤ 128 := (by omega)
          have w9_2 : ∀ i, i < (qn + 1) → (upd qu qn (nI pl)) i = nI ((fun j => if j = qn then pl else qv j) i) := (fun i hi => by by_cases e : i = qn; (subst e; rw [upd_s]; simp only [if_true]); (rw [upd_n e]; simp only [if_neg e]; exact hq0 i (by omega)))
          have w9_3 : ∀ i, i < (qn + 1) → (fun j => if j = qn then pl else qv j) i < 128 := (fun i hi => by by_cases e : i = qn; (simp only [if_pos e]; omega); (simp only [if_neg e]; exact hq1 i (by omega)))
          have hP9 : va_P G.1 vwCl [(h0, .inr (0, [.ref c1, .ref c2, .ref c3, .int (nI (qn + 1))])), (c1, .inl (G.2.1, 128, .inl (upd pa0 pl bp))), (c2, .inl (G.2.1, 128, .inl (upd fp pl fi))), (c3, .inl (G.2.1, 128, .inl (upd qu qn (nI pl))))] H := (hP.sub [0, 1, 2, 3] rfl)
          have hD9 : va_D A [(h0, .inr (0, [.ref c1, .ref c2, .ref c3, .int (nI (qn + 1))])), (c1, .inl (G.2.1, 128, .inl (upd pa0 pl bp))), (c2, .inl (G.2.1, 128, .inl (upd fp pl fi))), (c3, .inl (G.2.1, 128, .inl (upd qu qn (nI pl))))] := (hD.sub [0, 1, 2, 3] (by decide) rfl)
          exact W.vret hx hb hr (fun t9 ht9 hW9 => ⟨⟨(upd pa0 pl bp, upd fp pl fi, upd qu qn (nI pl), (fun j => if j = qn then pl else qv j), qn + 1), rfl, ⟨w9_0, w9_1, w9_2, w9_3⟩, by rw [ht9]; exact hP9, hD9⟩, hS.F ht9⟩) hS.2.2 dX0_reach_66
        · skip
          have c_4 := gNot (cLtNN (a := qn) (b := 128) (by omega) (by omega)) c_4
          have w9_0 : (pa0, fp, qv, qn) = reachB pl bp fi (pa0, fp, qv, qn) := (by unfold reachB; rw [if_neg (by first | omega | (rintro ⟨h1, h2⟩; first | contradiction | omega))])
          have hP9 : va_P G.1 vwCl [(h0, .inr (0, [.ref c1, .ref c2, .ref c3, .int (nI qn)])), (c1, .inl (G.2.1, 128, .inl pa0)), (c2, .inl (G.2.1, 128, .inl fp)), (c3, .inl (G.2.1, 128, .inl qu))] s.heap := (hP.sub [0, 1, 2, 3] rfl)
          have hD9 : va_D A [(h0, .inr (0, [.ref c1, .ref c2, .ref c3, .int (nI qn)])), (c1, .inl (G.2.1, 128, .inl pa0)), (c2, .inl (G.2.1, 128, .inl fp)), (c3, .inl (G.2.1, 128, .inl qu))] := (hD.sub [0, 1, 2, 3] (by decide) rfl)
          exact W.vret hx hb hr (fun t9 ht9 hW9 => ⟨⟨(pa0, fp, qu, qv, qn), rfl, ⟨w9_0, hqn, hq0, hq1⟩, by rw [ht9]; exact hP9, hD9⟩, hS.F ht9⟩) hS.2.2 dX0_reach_31

set_option maxHeartbeats 4000000 in
set_option maxRecDepth 100000 in
theorem c_passesTo (l : Launch) (G : gG) (h0 : Nat) (c1 : Nat) (c2 : Nat) (c3 : Nat) (pa0 : Nat → Int32) (fp : Nat → Int32) (qu : Nat → Int32) (qn : Nat) (k : Nat) (hk : k < 128) : Met l yX0_passesTo wsX0_passesTo ({ frames := 0, cells := 0, slots := 0, locals := 0 } : Room) (gR G [.ref h0, .int (nI k)] [(h0, .inr (0, [.ref c1, .ref c2, .ref c3, .int (nI qn)])), (c1, .inl (G.2.1, 128, .inl pa0)), (c2, .inl (G.2.1, 128, .inl fp)), (c3, .inl (G.2.1, 128, .inl qu))]) (vp_Si (fun r : Int32 => r = (pa0 k))) 0 0 (fun _ => False) := by
  refine Met.ofW (cc := cX0_passesTo) (maxL := 2) (ret := (some .int)) (by decide) rfl ?_
  intro p e s m args below meth c s₁ B hml hv
  obtain ⟨rfl, hP, hK⟩ := hv
  have hx := B.exec
  have hb := B.bytes
  have hr := B.returns
  have hts := atoms_spec (ws := wsX0_passesTo) B.pre
  have hown : s.vm.findClass RX0 = some m.cls := findClass_of_methodNamed B.named
  have hlocks := B.notSynchronized
  have hl := lv_entry ([.ref h0, .int (nI k)]) (n := 2) (Nat.le_of_ble_eq_true rfl)
  rw [lg_entry_eq]
  generalize (lg_sl ([.ref h0, .int (nI k)]) ++ List.replicate (2 - (lg_sl ([.ref h0, .int (nI k)])).length) Slot.unset).toArray = ls at hl ⊢
  have hl : lv_has ls 2 [(0, .ref h0), (1, .int (nI k))] := hl
  refine lv_iload_n hx hb dX0_passesTo_0 rfl (lv_at hl 1 rfl) ?_
  refine lv_if_lt (tgt := 20) hx hb dX0_passesTo_1 (by decide) (fun c_1 => ?_) (fun c_1 => ?_)
  · skip
    have c_1 := (cLtNN (a := k) (b := 0) (by omega) (by omega)).mp c_1
    exact absurd c_1 (by omega)
  · skip
    have c_1 := gNot (cLtNN (a := k) (b := 0) (by omega) (by omega)) c_1
    refine lv_iload_n hx hb dX0_passesTo_4 rfl (lv_at hl 1 rfl) ?_
    refine lv_sipush (v := (nI 128)) hx hb dX0_passesTo_5 (by decide) ?_
    refine lv_icmp_ge (tgt := 20) hx hb dX0_passesTo_8 (by decide) (fun c_2 => ?_) (fun c_2 => ?_)
    · skip
      have c_2 := (cLeNN (a := 128) (b := k) (by omega) (by omega)).mp c_2
      exact absurd c_2 (by omega)
    · skip
      have c_2 := gNot (cLeNN (a := 128) (b := k) (by omega) (by omega)) c_2
      refine lv_aload_n hx hb dX0_passesTo_11 rfl (lv_at hl 0 rfl) ?_
      refine va_get (D := G.1) (ci := 0) (v := .ref c1) (C := RX0) (T := TX0) (N := 4) hx hb hts (g_in wsX00 2 rfl) hown hK.1 hP 0 rfl rfl 0 (by decide) (hts _ (List.mem_of_getElem? (i := 1) rfl)) (fun _ h9 => h9) rfl dX0_passesTo_12 ?_
      refine lv_iload_n hx hb dX0_passesTo_15 rfl (lv_at hl 1 rfl) ?_
      refine g_iald hx hb hK hP 1 rfl (by omega) (by decide) dX0_passesTo_16 ?_
      refine lv_goto (tgt := 21) hx hb dX0_passesTo_17 (by decide) ?_
      exact W.iret hx hb hr (fun t9 ht9 _ => ⟨(pa0 k), rfl, rfl, ht9⟩) (fun _ h => absurd h List.not_mem_nil) dX0_passesTo_21

set_option maxHeartbeats 4000000 in
set_option maxRecDepth 100000 in
theorem c_firstPassTo (l : Launch) (G : gG) (h0 : Nat) (c1 : Nat) (c2 : Nat) (c3 : Nat) (pa0 : Nat → Int32) (fp : Nat → Int32) (qu : Nat → Int32) (qn : Nat) (k : Nat) (hk : k < 128) : Met l yX0_firstPassTo wsX0_firstPassTo ({ frames := 0, cells := 0, slots := 0, locals := 0 } : Room) (gR G [.ref h0, .int (nI k)] [(h0, .inr (0, [.ref c1, .ref c2, .ref c3, .int (nI qn)])), (c1, .inl (G.2.1, 128, .inl pa0)), (c2, .inl (G.2.1, 128, .inl fp)), (c3, .inl (G.2.1, 128, .inl qu))]) (vp_Si (fun r : Int32 => r = (fp k))) 0 0 (fun _ => False) := by
  refine Met.ofW (cc := cX0_firstPassTo) (maxL := 2) (ret := (some .int)) (by decide) rfl ?_
  intro p e s m args below meth c s₁ B hml hv
  obtain ⟨rfl, hP, hK⟩ := hv
  have hx := B.exec
  have hb := B.bytes
  have hr := B.returns
  have hts := atoms_spec (ws := wsX0_firstPassTo) B.pre
  have hown : s.vm.findClass RX0 = some m.cls := findClass_of_methodNamed B.named
  have hlocks := B.notSynchronized
  have hl := lv_entry ([.ref h0, .int (nI k)]) (n := 2) (Nat.le_of_ble_eq_true rfl)
  rw [lg_entry_eq]
  generalize (lg_sl ([.ref h0, .int (nI k)]) ++ List.replicate (2 - (lg_sl ([.ref h0, .int (nI k)])).length) Slot.unset).toArray = ls at hl ⊢
  have hl : lv_has ls 2 [(0, .ref h0), (1, .int (nI k))] := hl
  refine lv_iload_n hx hb dX0_firstPassTo_0 rfl (lv_at hl 1 rfl) ?_
  refine lv_if_lt (tgt := 20) hx hb dX0_firstPassTo_1 (by decide) (fun c_1 => ?_) (fun c_1 => ?_)
  · skip
    have c_1 := (cLtNN (a := k) (b := 0) (by omega) (by omega)).mp c_1
    exact absurd c_1 (by omega)
  · skip
    have c_1 := gNot (cLtNN (a := k) (b := 0) (by omega) (by omega)) c_1
    refine lv_iload_n hx hb dX0_firstPassTo_4 rfl (lv_at hl 1 rfl) ?_
    refine lv_sipush (v := (nI 128)) hx hb dX0_firstPassTo_5 (by decide) ?_
    refine lv_icmp_ge (tgt := 20) hx hb dX0_firstPassTo_8 (by decide) (fun c_2 => ?_) (fun c_2 => ?_)
    · skip
      have c_2 := (cLeNN (a := 128) (b := k) (by omega) (by omega)).mp c_2
      exact absurd c_2 (by omega)
    · skip
      have c_2 := gNot (cLeNN (a := 128) (b := k) (by omega) (by omega)) c_2
      refine lv_aload_n hx hb dX0_firstPassTo_11 rfl (lv_at hl 0 rfl) ?_
      refine va_get (D := G.1) (ci := 0) (v := .ref c2) (C := RX0) (T := TX0) (N := 4) hx hb hts (g_in wsX00 2 rfl) hown hK.1 hP 0 rfl rfl 1 (by decide) (hts _ (List.mem_of_getElem? (i := 1) rfl)) (fun _ h9 => h9) rfl dX0_firstPassTo_12 ?_
      refine lv_iload_n hx hb dX0_firstPassTo_15 rfl (lv_at hl 1 rfl) ?_
      refine g_iald hx hb hK hP 2 rfl (by omega) (by decide) dX0_firstPassTo_16 ?_
      refine lv_goto (tgt := 21) hx hb dX0_firstPassTo_17 (by decide) ?_
      exact W.iret hx hb hr (fun t9 ht9 _ => ⟨(fp k), rfl, rfl, ht9⟩) (fun _ h => absurd h List.not_mem_nil) dX0_firstPassTo_21

set_option maxHeartbeats 4000000 in
set_option maxRecDepth 100000 in
theorem c_reachFrom (l : Launch) (G : gG) (h0 : Nat) (c1 : Nat) (c2 : Nat) (c3 : Nat) (pa0 : Nat → Int32) (fp : Nat → Int32) (qu : Nat → Int32) (qn : Nat) (hp : Nat) (ha : Nat) (n : Nat) (mf : Nat → Option Nat) (kd : Nat → Nat) (pa : Nat → Nat) (T : va_W) (k : Nat) (qv : Nat → Nat) (sz : Nat) (hn : n ≤ 4) (hmf : ∀ i, i < n → mf i = some (pa i)) (hkd : ∀ i, i < n → kd i < 5) (hT : pplT T n kd pa) (hqn : qn ≤ 128) (hq0 : ∀ i, i < qn → qu i = nI (qv i)) (hq1 : ∀ i, i < qn → qv i < 128) (hk : k < 128) : Met l yX0_reachFrom wsX0_reachFrom ({ frames := 3, cells := 0, slots := 0, locals := 66 } : Room) (gM G [.ref h0, .int (nI k), .ref hp] (([(h0, .inr (0, [.ref c1, .ref c2, .ref c3, .int (nI qn)])), (c1, .inl (G.2.1, 128, .inl pa0)), (c2, .inl (G.2.1, 128, .inl fp)), (c3, .inl (G.2.1, 128, .inl qu)), (hp, .inr (5, [.ref ha, .int (nI n)])), (ha, .inl (G.2.2.2, 4, .inr (.inr (.inr (.inr mf)))))] : va_W) ++ T) sz) (va_Qv (fun (u : (Nat → Int32) × (Nat → Int32) × (Nat → Int32) × (Nat → Nat) × Nat) => ((u.1, u.2.1, u.2.2.2.1, u.2.2.2.2) = rfB kd k (pa0 k + nI 1) n (pa0, fp, qv, qn)) ∧ (u.2.2.2.2 ≤ 128) ∧ (∀ i, i < u.2.2.2.2 → u.2.2.1 i = nI (u.2.2.2.1 i)) ∧ (∀ i, i < u.2.2.2.2 → u.2.2.2.1 i < 128)) (fun u t => va_P G.1 vwCl (([(h0, .inr (0, [.ref c1, .ref c2, .ref c3, .int (nI u.2.2.2.2)])), (c1, .inl (G.2.1, 128, .inl u.1)), (c2, .inl (G.2.1, 128, .inl u.2.1)), (c3, .inl (G.2.1, 128, .inl u.2.2.1)), (hp, .inr (5, [.ref ha, .int (nI n)])), (ha, .inl (G.2.2.2, 4, .inr (.inr (.inr (.inr mf)))))] : va_W) ++ T) t.heap ∧ va_D (va_A (([(h0, .inr (0, [.ref c1, .ref c2, .ref c3, .int (nI qn)])), (c1, .inl (G.2.1, 128, .inl pa0)), (c2, .inl (G.2.1, 128, .inl fp)), (c3, .inl (G.2.1, 128, .inl qu)), (hp, .inr (5, [.ref ha, .int (nI n)])), (ha, .inl (G.2.2.2, 4, .inr (.inr (.inr (.inr mf)))))] : va_W) ++ T) sz) (([(h0, .inr (0, [.ref c1, .ref c2, .ref c3, .int (nI u.2.2.2.2)])), (c1, .inl (G.2.1, 128, .inl u.1)), (c2, .inl (G.2.1, 128, .inl u.2.1)), (c3, .inl (G.2.1, 128, .inl u.2.2.1)), (hp, .inr (5, [.ref ha, .int (nI n)])), (ha, .inl (G.2.2.2, 4, .inr (.inr (.inr (.inr mf)))))] : va_W) ++ T)) (va_A (([(h0, .inr (0, [.ref c1, .ref c2, .ref c3, .int (nI qn)])), (c1, .inl (G.2.1, 128, .inl pa0)), (c2, .inl (G.2.1, 128, .inl fp)), (c3, .inl (G.2.1, 128, .inl qu)), (hp, .inr (5, [.ref ha, .int (nI n)])), (ha, .inl (G.2.2.2, 4, .inr (.inr (.inr (.inr mf)))))] : va_W) ++ T) sz)) 0 0 (va_A (([(h0, .inr (0, [.ref c1, .ref c2, .ref c3, .int (nI qn)])), (c1, .inl (G.2.1, 128, .inl pa0)), (c2, .inl (G.2.1, 128, .inl fp)), (c3, .inl (G.2.1, 128, .inl qu)), (hp, .inr (5, [.ref ha, .int (nI n)])), (ha, .inl (G.2.2.2, 4, .inr (.inr (.inr (.inr mf)))))] : va_W) ++ T) sz) := by
  refine Met.ofW (cc := cX0_reachFrom) (maxL := 6) (ret := none) (by decide) rfl ?_
  intro p e s m args below meth c s₁ B hml hv
  obtain ⟨rfl, hsz, hP, hK, hD0⟩ := hv
  have hx := B.exec
  have hb := B.bytes
  have hr := B.returns
  have hts := atoms_spec (ws := wsX0_reachFrom) B.pre
  have hown : s.vm.findClass RX0 = some m.cls := findClass_of_methodNamed B.named
  have hlocks := B.notSynchronized
  subst hsz
  have hD := hD0.self (sz := s.heap.size)
  generalize hAe : va_A (([(h0, .inr (0, [.ref c1, .ref c2, .ref c3, .int (nI qn)])), (c1, .inl (G.2.1, 128, .inl pa0)), (c2, .inl (G.2.1, 128, .inl fp)), (c3, .inl (G.2.1, 128, .inl qu)), (hp, .inr (5, [.ref ha, .int (nI n)])), (ha, .inl (G.2.2.2, 4, .inr (.inr (.inr (.inr mf)))))] : va_W) ++ T) s.heap.size = A at hD ⊢
  have hA : ∀ q : Nat, s.heap.size ≤ q → A q := fun q h => by rw [← hAe]; exact Or.inr h
  have hS : va_S A s.heap s.heap [] := va_S.rf
  clear hAe hD0
  have hl := lv_entry ([.ref h0, .int (nI k), .ref hp]) (n := 6) (Nat.le_of_ble_eq_true rfl)
  rw [lg_entry_eq]
  generalize (lg_sl ([.ref h0, .int (nI k), .ref hp]) ++ List.replicate (6 - (lg_sl ([.ref h0, .int (nI k), .ref hp])).length) Slot.unset).toArray = ls at hl ⊢
  have hl : lv_has ls 6 [(0, .ref h0), (1, .int (nI k)), (2, .ref hp)] := hl
  refine lv_aload_n hx hb dX0_reachFrom_0 rfl (lv_at hl 0 rfl) ?_
  refine lv_iload_n hx hb dX0_reachFrom_1 rfl (lv_at hl 1 rfl) ?_
  refine g_callSi (va_runV (As := [.int (nI k)]) (rest := []) ⟨hx, hb, hml, hown, hts⟩ (c_passesTo l G h0 c1 c2 c3 pa0 fp qu qn k (by omega)) (cwV 1 hts gX0_reachFrom_X0_passesTo rfl rfl rfl (by decide +kernel) ⟨Nat.le_of_ble_eq_true rfl, Nat.le_of_ble_eq_true rfl⟩) (gR.V hK (show va_P G.1 vwCl [(h0, .inr (0, [.ref c1, .ref c2, .ref c3, .int (nI qn)])), (c1, .inl (G.2.1, 128, .inl pa0)), (c2, .inl (G.2.1, 128, .inl fp)), (c3, .inl (G.2.1, 128, .inl qu))] s.heap from (hP.sub [0, 1, 2, 3] rfl)) hP (ci := 0) (q0 := 0) rfl rfl) rfl rfl hl.1 rfl (lv_room (Nat.le_of_ble_eq_true rfl)) dX0_reachFrom_2 ⟨Nat.le_of_ble_eq_true rfl, Nat.le_of_ble_eq_true rfl⟩) (fun r hr0 => ?_)
  subst hr0
  refine lv_iconst (v := (nI 1)) hx hb dX0_reachFrom_5 (by decide) ?_
  refine lv_iadd hx hb dX0_reachFrom_6 ?_
  refine lv_istore_n (lv' := [(3, .int ((pa0 k) + (nI 1))), (0, .ref h0), (1, .int (nI k)), (2, .ref hp)]) hx hb dX0_reachFrom_7 rfl hl (by decide) rfl (fun ls hl => ?_)
  refine lv_iconst (v := (nI 0)) hx hb dX0_reachFrom_8 (by decide) ?_
  refine lv_istore (lv' := [(4, .int (nI 0)), (3, .int ((pa0 k) + (nI 1))), (0, .ref h0), (1, .int (nI k)), (2, .ref hp)]) hx hb dX0_reachFrom_9 hl (by decide) rfl (fun ls hl => ?_)
  refine g_cutM6 (α := Nat) (β := Nat → Int32) (γ := Nat → Int32) (δ := Nat → Int32) (ε := Nat → Nat) (ζ := Nat) 11 (fun i pa2 fp2 qu2 qv2 qn2 => []) (fun i pa2 fp2 qu2 qv2 qn2 H locs ls => (i ≤ n) ∧ ((pa2, fp2, qv2, qn2) = rfB kd k (pa0 k + nI 1) i (pa0, fp, qv, qn)) ∧ (qn2 ≤ 128) ∧ (∀ i, i < qn2 → qu2 i = nI (qv2 i)) ∧ (∀ i, i < qn2 → qv2 i < 128) ∧ va_P G.1 vwCl (([(h0, .inr (0, [.ref c1, .ref c2, .ref c3, .int (nI qn2)])), (c1, .inl (G.2.1, 128, .inl pa2)), (c2, .inl (G.2.1, 128, .inl fp2)), (c3, .inl (G.2.1, 128, .inl qu2)), (hp, .inr (5, [.ref ha, .int (nI n)])), (ha, .inl (G.2.2.2, 4, .inr (.inr (.inr (.inr mf)))))] : va_W) ++ T) H ∧ va_D A (([(h0, .inr (0, [.ref c1, .ref c2, .ref c3, .int (nI qn2)])), (c1, .inl (G.2.1, 128, .inl pa2)), (c2, .inl (G.2.1, 128, .inl fp2)), (c3, .inl (G.2.1, 128, .inl qu2)), (hp, .inr (5, [.ref ha, .int (nI n)])), (ha, .inl (G.2.2.2, 4, .inr (.inr (.inr (.inr mf)))))] : va_W) ++ T) ∧ va_S A s.heap H locs ∧ lv_has ls 6 [(0, .ref h0), (1, .int (nI k)), (2, .ref hp), (3, .int (pa0 k + (nI 1))), (4, .int (nI i))]) (g_loopM6 (α := Nat) (β := Nat → Int32) (γ := Nat → Int32) (δ := Nat → Int32) (ε := Nat → Nat) (ζ := Nat) 11 (fun i pa2 fp2 qu2 qv2 qn2 => []) (fun i pa2 fp2 qu2 qv2 qn2 H locs ls => (i ≤ n) ∧ ((pa2, fp2, qv2, qn2) = rfB kd k (pa0 k + nI 1) i (pa0, fp, qv, qn)) ∧ (qn2 ≤ 128) ∧ (∀ i, i < qn2 → qu2 i = nI (qv2 i)) ∧ (∀ i, i < qn2 → qv2 i < 128) ∧ va_P G.1 vwCl (([(h0, .inr (0, [.ref c1, .ref c2, .ref c3, .int (nI qn2)])), (c1, .inl (G.2.1, 128, .inl pa2)), (c2, .inl (G.2.1, 128, .inl fp2)), (c3, .inl (G.2.1, 128, .inl qu2)), (hp, .inr (5, [.ref ha, .int (nI n)])), (ha, .inl (G.2.2.2, 4, .inr (.inr (.inr (.inr mf)))))] : va_W) ++ T) H ∧ va_D A (([(h0, .inr (0, [.ref c1, .ref c2, .ref c3, .int (nI qn2)])), (c1, .inl (G.2.1, 128, .inl pa2)), (c2, .inl (G.2.1, 128, .inl fp2)), (c3, .inl (G.2.1, 128, .inl qu2)), (hp, .inr (5, [.ref ha, .int (nI n)])), (ha, .inl (G.2.2.2, 4, .inr (.inr (.inr (.inr mf)))))] : va_W) ++ T) ∧ va_S A s.heap H locs ∧ lv_has ls 6 [(0, .ref h0), (1, .int (nI k)), (2, .ref hp), (3, .int (pa0 k + (nI 1))), (4, .int (nI i))]) (fun i pa2 fp2 qu2 qv2 qn2 => n - i) ?_) (fun L11_1 => ?_)
  · intro i pa2 fp2 qu2 qv2 qn2 H locs ls hI L11_1
    obtain ⟨hi, heq, hn2, h20, h21, hP, hD, hS, hl⟩ := hI
    refine lv_iload hx hb dX0_reachFrom_11 (lv_at hl 4 rfl) ?_
    refine lv_aload_n hx hb dX0_reachFrom_13 rfl (lv_at hl 2 rfl) ?_
    refine va_getN (D := G.1) (ci := 5) (v := .int (nI n)) (C := RX5) (T := TX5) (N := 2) hx hb hts (g_in wsX50 63 rfl) hown hK.1 hP 4 rfl rfl 1 (by decide) (hK.nest 4 rfl rfl) (fun _ h9 => h9) rfl dX0_reachFrom_14 ?_
    refine lv_icmp_ge (tgt := 77) hx hb dX0_reachFrom_17 (by decide) (fun c_2 => ?_) (fun c_2 => ?_)
    · skip
      have c_2 := (cLeNN (a := n) (b := i) (by omega) (by omega)).mp c_2
      have hin : i = n := by omega
      have w9_0 : (pa2, fp2, qv2, qn2) = rfB kd k (pa0 k + nI 1) n (pa0, fp, qv, qn) := (by rw [← hin]; exact heq)
      have hP9 : va_P G.1 vwCl (([(h0, .inr (0, [.ref c1, .ref c2, .ref c3, .int (nI qn2)])), (c1, .inl (G.2.1, 128, .inl pa2)), (c2, .inl (G.2.1, 128, .inl fp2)), (c3, .inl (G.2.1, 128, .inl qu2)), (hp, .inr (5, [.ref ha, .int (nI n)])), (ha, .inl (G.2.2.2, 4, .inr (.inr (.inr (.inr mf)))))] : va_W) ++ T) H := (hP.part [0, 1, 2, 3, 4, 5] rfl)
      have hD9 : va_D A (([(h0, .inr (0, [.ref c1, .ref c2, .ref c3, .int (nI qn2)])), (c1, .inl (G.2.1, 128, .inl pa2)), (c2, .inl (G.2.1, 128, .inl fp2)), (c3, .inl (G.2.1, 128, .inl qu2)), (hp, .inr (5, [.ref ha, .int (nI n)])), (ha, .inl (G.2.2.2, 4, .inr (.inr (.inr (.inr mf)))))] : va_W) ++ T) := (hD.part [0, 1, 2, 3, 4, 5] (by decide) rfl)
      exact W.vret hx hb hr (fun t9 ht9 hW9 => ⟨⟨(pa2, fp2, qu2, qv2, qn2), rfl, ⟨w9_0, hn2, h20, h21⟩, by rw [ht9]; exact hP9, hD9⟩, hS.F ht9⟩) hS.2.2 dX0_reachFrom_77
    · skip
      have c_2 := gNot (cLeNN (a := n) (b := i) (by omega) (by omega)) c_2
      refine lv_iload hx hb dX0_reachFrom_20 (lv_at hl 4 rfl) ?_
      refine lv_iload_n hx hb dX0_reachFrom_22 rfl (lv_at hl 1 rfl) ?_
      refine g_callSi (va_runSN (As := [.int (nI k)]) (rest := [.int (nI i)]) ⟨hx, hb, hml, hown, hts⟩ (c_holderAt l G k (by omega)) ⟨va_cnB 1 hts gX0_reachFrom_X11_holderAt_n48 rfl rfl rfl (hK.nw 46 rfl) (hts _ (List.mem_of_getElem? (i := 8) rfl)) (by decide +kernel) ⟨Nat.le_of_ble_eq_true rfl, Nat.le_of_ble_eq_true rfl⟩, hts _ (List.mem_of_getElem? (i := 7) rfl), trivial⟩ (gR.S hK (show va_P G.1 vwCl [] H from g_nil)) rfl rfl hl.1 rfl (lv_room (Nat.le_of_ble_eq_true rfl)) dX0_reachFrom_23 ⟨Nat.le_of_ble_eq_true rfl, Nat.le_of_ble_eq_true rfl⟩) (fun r hr0 => ?_)
      subst hr0
      refine lv_icmp_ne (tgt := 32) hx hb dX0_reachFrom_26 (by decide) (fun c_3 => ?_) (fun c_3 => ?_)
      · skip
        have c_3 := gNot (cEqNN (a := i) (b := k / 32) (by omega) (by omega)) c_3
        have htl := touch_lt (k := kd i) (i := i) (m := k % 32) (by omega)
        refine lv_iload_n hx hb dX0_reachFrom_32 rfl (lv_at hl 3 rfl) ?_
        refine lv_iconst (v := (nI 1)) hx hb dX0_reachFrom_33 (by decide) ?_
        refine lv_icmp_ne (tgt := 42) hx hb dX0_reachFrom_34 (by decide) (fun c_4 => ?_) (fun c_4 => ?_)
        · skip
          refine lv_aload_n hx hb dX0_reachFrom_42 rfl (lv_at hl 0 rfl) ?_
          refine lv_iload_n hx hb dX0_reachFrom_43 rfl (lv_at hl 1 rfl) ?_
          refine g_callSi (va_runV (As := [.int (nI k)]) (rest := []) ⟨hx, hb, hml, hown, hts⟩ (c_firstPassTo l G h0 c1 c2 c3 pa2 fp2 qu2 qn2 k (by omega)) (cwV 1 hts gX0_reachFrom_X0_firstPassTo rfl rfl rfl (by decide +kernel) ⟨Nat.le_of_ble_eq_true rfl, Nat.le_of_ble_eq_true rfl⟩) (gR.V hK (show va_P G.1 vwCl [(h0, .inr (0, [.ref c1, .ref c2, .ref c3, .int (nI qn2)])), (c1, .inl (G.2.1, 128, .inl pa2)), (c2, .inl (G.2.1, 128, .inl fp2)), (c3, .inl (G.2.1, 128, .inl qu2))] H from (hP.sub [0, 1, 2, 3] rfl)) hP (ci := 0) (q0 := 0) rfl rfl) rfl rfl hl.1 rfl (lv_room (Nat.le_of_ble_eq_true rfl)) dX0_reachFrom_44 ⟨Nat.le_of_ble_eq_true rfl, Nat.le_of_ble_eq_true rfl⟩) (fun r hr0 => ?_)
          subst hr0
          refine lv_istore (lv' := [(5, .int (fp2 k)), (0, .ref h0), (1, .int (nI k)), (2, .ref hp), (3, .int (pa0 k + (nI 1))), (4, .int (nI i))]) hx hb dX0_reachFrom_47 hl (by decide) rfl (fun ls hl => ?_)
          refine lv_aload_n hx hb dX0_reachFrom_49 rfl (lv_at hl 1 rfl) ?_
          refine lv_iload hx hb dX0_reachFrom_50 (lv_at hl 5 rfl) ?_
          refine lv_aload_n hx hb dX0_reachFrom_52 rfl (lv_at hl 3 rfl) ?_
          refine lv_iload hx hb dX0_reachFrom_53 (lv_at hl 5 rfl) ?_
          refine lv_iload_n hx hb dX0_reachFrom_55 rfl (lv_at hl 2 rfl) ?_
          refine g_callSi (va_runSN (As := [.int (nI k)]) (rest := [.int (nI i), .ref hp, .int (nI i), .ref h0]) ⟨hx, hb, hml, hown, hts⟩ (c_marksAt l G k (by omega)) ⟨va_cnB 1 hts gX0_reachFrom_X11_marksAt_n54 rfl rfl rfl (hK.nw 47 rfl) (hts _ (List.mem_of_getElem? (i := 8) rfl)) (by decide +kernel) ⟨Nat.le_of_ble_eq_true rfl, Nat.le_of_ble_eq_true rfl⟩, hts _ (List.mem_of_getElem? (i := 15) rfl), trivial⟩ (gR.S hK (show va_P G.1 vwCl [] H from g_nil)) rfl rfl hl.1 rfl (lv_room (Nat.le_of_ble_eq_true rfl)) dX0_reachFrom_56 ⟨Nat.le_of_ble_eq_true rfl, Nat.le_of_ble_eq_true rfl⟩) (fun r hr0 => ?_)
          subst hr0
          refine g_callSi (va_runVN (As := [.int (nI i), .int (nI (k % 32))]) (rest := [.int (nI i), .ref h0]) ⟨hx, hb, hml, hown, hts⟩ (c_touched l G hp ha n mf kd pa i (k % 32) T hn hmf hkd hT (by omega) (by omega)) ⟨va_cnB 2 hts gX0_reachFrom_X5_touched_n57 rfl rfl rfl (hK.nw 48 rfl) (hts _ (List.mem_of_getElem? (i := 18) rfl)) (by decide +kernel) ⟨Nat.le_of_ble_eq_true rfl, Nat.le_of_ble_eq_true rfl⟩, hts _ (List.mem_of_getElem? (i := 17) rfl), hts _ (List.mem_of_getElem? (i := 19) rfl)⟩ (gR.V hK (show va_P G.1 vwCl (([(hp, .inr (5, [.ref ha, .int (nI n)])), (ha, .inl (G.2.2.2, 4, .inr (.inr (.inr (.inr mf)))))] : va_W) ++ T) H from (hP.part [4, 5] rfl)) hP (ci := 5) (q0 := 4) rfl rfl) rfl rfl hl.1 rfl (lv_room (Nat.le_of_ble_eq_true rfl)) dX0_reachFrom_59 ⟨Nat.le_of_ble_eq_true rfl, Nat.le_of_ble_eq_true rfl⟩) (fun r hr0 => ?_)
          subst hr0
          refine g_callSi (va_runSN (As := [.int (nI i), .int (nI (touch (kd i) i (k % 32)))]) (rest := [.ref h0]) ⟨hx, hb, hml, hown, hts⟩ (c_placeOf l G i (touch (kd i) i (k % 32)) (by omega) htl) ⟨va_cnB 2 hts gX0_reachFrom_X11_placeOf_n61 rfl rfl rfl (hK.nw 49 rfl) (hts _ (List.mem_of_getElem? (i := 8) rfl)) (by decide +kernel) ⟨Nat.le_of_ble_eq_true rfl, Nat.le_of_ble_eq_true rfl⟩, hts _ (List.mem_of_getElem? (i := 55) rfl), trivial⟩ (gR.S hK (show va_P G.1 vwCl [] H from g_nil)) rfl rfl hl.1 rfl (lv_room (Nat.le_of_ble_eq_true rfl)) dX0_reachFrom_62 ⟨Nat.le_of_ble_eq_true rfl, Nat.le_of_ble_eq_true rfl⟩) (fun r hr0 => ?_)
          subst hr0
          refine lv_iload_n hx hb dX0_reachFrom_65 rfl (lv_at hl 4 rfl) ?_
          refine lv_iload hx hb dX0_reachFrom_66 (lv_at hl 0 rfl) ?_
          refine g_callvQ (S := (Nat → Int32) × (Nat → Int32) × (Nat → Int32) × (Nat → Nat) × Nat) (w1 := fun u => [(h0, .inr (0, [.ref c1, .ref c2, .ref c3, .int (nI u.2.2.2.2)])), (c1, .inl (G.2.1, 128, .inl u.1)), (c2, .inl (G.2.1, 128, .inl u.2.1)), (c3, .inl (G.2.1, 128, .inl u.2.2.1))]) (wr := [(hp, .inr (5, [.ref ha, .int (nI n)])), (ha, .inl (G.2.2.2, 4, .inr (.inr (.inr (.inr mf)))))]) (wc := [(h0, .inr (0, [.ref c1, .ref c2, .ref c3, .int (nI qn2)])), (c1, .inl (G.2.1, 128, .inl pa2)), (c2, .inl (G.2.1, 128, .inl fp2)), (c3, .inl (G.2.1, 128, .inl qu2))]) (T := T) hP hD hS hA [0, 1, 2, 3] [4, 5] rfl rfl (by decide) (by decide) (va_runV (As := [.int (nI (32 * i + (touch (kd i) i (k % 32)))), .int (pa0 k + (nI 1)), .int (fp2 k)]) (rest := []) ⟨hx, hb, hml, hown, hts⟩ (c_reach l G h0 c1 c2 c3 pa2 fp2 qu2 qn2 (32 * i + (touch (kd i) i (k % 32))) (pa0 k + (nI 1)) (fp2 k) qv2 _ (by omega) hn2 h20 h21) (cwV 3 hts gX0_reachFrom_X0_reach rfl rfl rfl (by decide +kernel) ⟨Nat.le_of_ble_eq_true rfl, Nat.le_of_ble_eq_true rfl⟩) (gM.V hK (show va_P G.1 vwCl [(h0, .inr (0, [.ref c1, .ref c2, .ref c3, .int (nI qn2)])), (c1, .inl (G.2.1, 128, .inl pa2)), (c2, .inl (G.2.1, 128, .inl fp2)), (c3, .inl (G.2.1, 128, .inl qu2))] H from (hP.sub [0, 1, 2, 3] rfl)) (show va_D A [(h0, .inr (0, [.ref c1, .ref c2, .ref c3, .int (nI qn2)])), (c1, .inl (G.2.1, 128, .inl pa2)), (c2, .inl (G.2.1, 128, .inl fp2)), (c3, .inl (G.2.1, 128, .inl qu2))] from (hD.sub [0, 1, 2, 3] (by decide) rfl)) (ci := 0) (q0 := 0) rfl rfl) rfl rfl hl.1 rfl (lv_room (Nat.le_of_ble_eq_true rfl)) dX0_reachFrom_68 ⟨Nat.le_of_ble_eq_true rfl, Nat.le_of_ble_eq_true rfl⟩) (fun u H locs hq hP hD hS => ?_)
          obtain ⟨pa2_5, fp2_6, qu2_7, qv2_8, qn2_9⟩ := u
          obtain ⟨heq_11, hn2_12, h20_13, h21_14⟩ := hq
          have heq_11 : (pa2_5, fp2_6, qv2_8, qn2_9) = reachB (32 * i + (touch (kd i) i (k % 32))) (pa0 k + (nI 1)) (fp2 k) (pa2, fp2, qv2, qn2) := heq_11
          have hn2_12 : qn2_9 ≤ 128 := hn2_12
          have h20_13 : ∀ i, i < qn2_9 → qu2_7 i = nI (qv2_8 i) := h20_13
          have h21_14 : ∀ i, i < qn2_9 → qv2_8 i < 128 := h21_14
          have hP : va_P G.1 vwCl (([(hp, .inr (5, [.ref ha, .int (nI n)])), (ha, .inl (G.2.2.2, 4, .inr (.inr (.inr (.inr mf))))), (h0, .inr (0, [.ref c1, .ref c2, .ref c3, .int (nI qn2_9)])), (c1, .inl (G.2.1, 128, .inl pa2_5)), (c2, .inl (G.2.1, 128, .inl fp2_6)), (c3, .inl (G.2.1, 128, .inl qu2_7))] : va_W) ++ T) H := hP
          have hD : va_D A (([(hp, .inr (5, [.ref ha, .int (nI n)])), (ha, .inl (G.2.2.2, 4, .inr (.inr (.inr (.inr mf))))), (h0, .inr (0, [.ref c1, .ref c2, .ref c3, .int (nI qn2_9)])), (c1, .inl (G.2.1, 128, .inl pa2_5)), (c2, .inl (G.2.1, 128, .inl fp2_6)), (c3, .inl (G.2.1, 128, .inl qu2_7))] : va_W) ++ T) := hD
          refine lv_iinc (v := (nI (i + 1))) (lv' := [(4, .int (nI (i + 1))), (5, .int (fp2 k)), (0, .ref h0), (1, .int (nI k)), (2, .ref hp), (3, .int (pa0 k + (nI 1)))]) hx hb dX0_reachFrom_71 hl (k := 5) rfl (nI_iinc (by decide)) (by decide) rfl (fun ls hl => ?_)
          refine lv_goto (tgt := 11) hx hb dX0_reachFrom_74 (by decide) ?_
          exact L11_1 (i + 1) pa2_5 fp2_6 qu2_7 qv2_8 qn2_9 _ _ _ (by omega) ⟨(by omega), (by simp only [rfB]; rw [if_neg (by assumption)]; rw [← heq]; unfold toP; first | (rw [if_pos (by assumption)]; exact heq_11) | (rw [if_neg (by assumption)]; exact heq_11)), hn2_12, h20_13, h21_14, (hP.part [2, 3, 4, 5, 0, 1] rfl), (hD.part [2, 3, 4, 5, 0, 1] (by decide) rfl), hS, lv_sub hl [2, 3, 4, 5, 0] rfl⟩
        · skip
          refine lv_iload hx hb dX0_reachFrom_37 (lv_at hl 4 rfl) ?_
          refine lv_goto (tgt := 47) hx hb dX0_reachFrom_39 (by decide) ?_
          refine lv_istore (lv' := [(5, .int (nI i)), (0, .ref h0), (1, .int (nI k)), (2, .ref hp), (3, .int (pa0 k + (nI 1))), (4, .int (nI i))]) hx hb dX0_reachFrom_47 hl (by decide) rfl (fun ls hl => ?_)
          refine lv_aload_n hx hb dX0_reachFrom_49 rfl (lv_at hl 1 rfl) ?_
          refine lv_iload hx hb dX0_reachFrom_50 (lv_at hl 5 rfl) ?_
          refine lv_aload_n hx hb dX0_reachFrom_52 rfl (lv_at hl 3 rfl) ?_
          refine lv_iload hx hb dX0_reachFrom_53 (lv_at hl 5 rfl) ?_
          refine lv_iload_n hx hb dX0_reachFrom_55 rfl (lv_at hl 2 rfl) ?_
          refine g_callSi (va_runSN (As := [.int (nI k)]) (rest := [.int (nI i), .ref hp, .int (nI i), .ref h0]) ⟨hx, hb, hml, hown, hts⟩ (c_marksAt l G k (by omega)) ⟨va_cnB 1 hts gX0_reachFrom_X11_marksAt_n54 rfl rfl rfl (hK.nw 47 rfl) (hts _ (List.mem_of_getElem? (i := 8) rfl)) (by decide +kernel) ⟨Nat.le_of_ble_eq_true rfl, Nat.le_of_ble_eq_true rfl⟩, hts _ (List.mem_of_getElem? (i := 15) rfl), trivial⟩ (gR.S hK (show va_P G.1 vwCl [] H from g_nil)) rfl rfl hl.1 rfl (lv_room (Nat.le_of_ble_eq_true rfl)) dX0_reachFrom_56 ⟨Nat.le_of_ble_eq_true rfl, Nat.le_of_ble_eq_true rfl⟩) (fun r hr0 => ?_)
          subst hr0
          refine g_callSi (va_runVN (As := [.int (nI i), .int (nI (k % 32))]) (rest := [.int (nI i), .ref h0]) ⟨hx, hb, hml, hown, hts⟩ (c_touched l G hp ha n mf kd pa i (k % 32) T hn hmf hkd hT (by omega) (by omega)) ⟨va_cnB 2 hts gX0_reachFrom_X5_touched_n57 rfl rfl rfl (hK.nw 48 rfl) (hts _ (List.mem_of_getElem? (i := 18) rfl)) (by decide +kernel) ⟨Nat.le_of_ble_eq_true rfl, Nat.le_of_ble_eq_true rfl⟩, hts _ (List.mem_of_getElem? (i := 17) rfl), hts _ (List.mem_of_getElem? (i := 19) rfl)⟩ (gR.V hK (show va_P G.1 vwCl (([(hp, .inr (5, [.ref ha, .int (nI n)])), (ha, .inl (G.2.2.2, 4, .inr (.inr (.inr (.inr mf)))))] : va_W) ++ T) H from (hP.part [4, 5] rfl)) hP (ci := 5) (q0 := 4) rfl rfl) rfl rfl hl.1 rfl (lv_room (Nat.le_of_ble_eq_true rfl)) dX0_reachFrom_59 ⟨Nat.le_of_ble_eq_true rfl, Nat.le_of_ble_eq_true rfl⟩) (fun r hr0 => ?_)
          subst hr0
          refine g_callSi (va_runSN (As := [.int (nI i), .int (nI (touch (kd i) i (k % 32)))]) (rest := [.ref h0]) ⟨hx, hb, hml, hown, hts⟩ (c_placeOf l G i (touch (kd i) i (k % 32)) (by omega) htl) ⟨va_cnB 2 hts gX0_reachFrom_X11_placeOf_n61 rfl rfl rfl (hK.nw 49 rfl) (hts _ (List.mem_of_getElem? (i := 8) rfl)) (by decide +kernel) ⟨Nat.le_of_ble_eq_true rfl, Nat.le_of_ble_eq_true rfl⟩, hts _ (List.mem_of_getElem? (i := 55) rfl), trivial⟩ (gR.S hK (show va_P G.1 vwCl [] H from g_nil)) rfl rfl hl.1 rfl (lv_room (Nat.le_of_ble_eq_true rfl)) dX0_reachFrom_62 ⟨Nat.le_of_ble_eq_true rfl, Nat.le_of_ble_eq_true rfl⟩) (fun r hr0 => ?_)
          subst hr0
          refine lv_iload_n hx hb dX0_reachFrom_65 rfl (lv_at hl 4 rfl) ?_
          refine lv_iload hx hb dX0_reachFrom_66 (lv_at hl 0 rfl) ?_
          refine g_callvQ (S := (Nat → Int32) × (Nat → Int32) × (Nat → Int32) × (Nat → Nat) × Nat) (w1 := fun u => [(h0, .inr (0, [.ref c1, .ref c2, .ref c3, .int (nI u.2.2.2.2)])), (c1, .inl (G.2.1, 128, .inl u.1)), (c2, .inl (G.2.1, 128, .inl u.2.1)), (c3, .inl (G.2.1, 128, .inl u.2.2.1))]) (wr := [(hp, .inr (5, [.ref ha, .int (nI n)])), (ha, .inl (G.2.2.2, 4, .inr (.inr (.inr (.inr mf)))))]) (wc := [(h0, .inr (0, [.ref c1, .ref c2, .ref c3, .int (nI qn2)])), (c1, .inl (G.2.1, 128, .inl pa2)), (c2, .inl (G.2.1, 128, .inl fp2)), (c3, .inl (G.2.1, 128, .inl qu2))]) (T := T) hP hD hS hA [0, 1, 2, 3] [4, 5] rfl rfl (by decide) (by decide) (va_runV (As := [.int (nI (32 * i + (touch (kd i) i (k % 32)))), .int (pa0 k + (nI 1)), .int (nI i)]) (rest := []) ⟨hx, hb, hml, hown, hts⟩ (c_reach l G h0 c1 c2 c3 pa2 fp2 qu2 qn2 (32 * i + (touch (kd i) i (k % 32))) (pa0 k + (nI 1)) (nI i) qv2 _ (by omega) hn2 h20 h21) (cwV 3 hts gX0_reachFrom_X0_reach rfl rfl rfl (by decide +kernel) ⟨Nat.le_of_ble_eq_true rfl, Nat.le_of_ble_eq_true rfl⟩) (gM.V hK (show va_P G.1 vwCl [(h0, .inr (0, [.ref c1, .ref c2, .ref c3, .int (nI qn2)])), (c1, .inl (G.2.1, 128, .inl pa2)), (c2, .inl (G.2.1, 128, .inl fp2)), (c3, .inl (G.2.1, 128, .inl qu2))] H from (hP.sub [0, 1, 2, 3] rfl)) (show va_D A [(h0, .inr (0, [.ref c1, .ref c2, .ref c3, .int (nI qn2)])), (c1, .inl (G.2.1, 128, .inl pa2)), (c2, .inl (G.2.1, 128, .inl fp2)), (c3, .inl (G.2.1, 128, .inl qu2))] from (hD.sub [0, 1, 2, 3] (by decide) rfl)) (ci := 0) (q0 := 0) rfl rfl) rfl rfl hl.1 rfl (lv_room (Nat.le_of_ble_eq_true rfl)) dX0_reachFrom_68 ⟨Nat.le_of_ble_eq_true rfl, Nat.le_of_ble_eq_true rfl⟩) (fun u H locs hq hP hD hS => ?_)
          obtain ⟨pa2_15, fp2_16, qu2_17, qv2_18, qn2_19⟩ := u
          obtain ⟨heq_21, hn2_22, h20_23, h21_24⟩ := hq
          have heq_21 : (pa2_15, fp2_16, qv2_18, qn2_19) = reachB (32 * i + (touch (kd i) i (k % 32))) (pa0 k + (nI 1)) (nI i) (pa2, fp2, qv2, qn2) := heq_21
          have hn2_22 : qn2_19 ≤ 128 := hn2_22
          have h20_23 : ∀ i, i < qn2_19 → qu2_17 i = nI (qv2_18 i) := h20_23
          have h21_24 : ∀ i, i < qn2_19 → qv2_18 i < 128 := h21_24
          have hP : va_P G.1 vwCl (([(hp, .inr (5, [.ref ha, .int (nI n)])), (ha, .inl (G.2.2.2, 4, .inr (.inr (.inr (.inr mf))))), (h0, .inr (0, [.ref c1, .ref c2, .ref c3, .int (nI qn2_19)])), (c1, .inl (G.2.1, 128, .inl pa2_15)), (c2, .inl (G.2.1, 128, .inl fp2_16)), (c3, .inl (G.2.1, 128, .inl qu2_17))] : va_W) ++ T) H := hP
          have hD : va_D A (([(hp, .inr (5, [.ref ha, .int (nI n)])), (ha, .inl (G.2.2.2, 4, .inr (.inr (.inr (.inr mf))))), (h0, .inr (0, [.ref c1, .ref c2, .ref c3, .int (nI qn2_19)])), (c1, .inl (G.2.1, 128, .inl pa2_15)), (c2, .inl (G.2.1, 128, .inl fp2_16)), (c3, .inl (G.2.1, 128, .inl qu2_17))] : va_W) ++ T) := hD
          refine lv_iinc (v := (nI (i + 1))) (lv' := [(4, .int (nI (i + 1))), (5, .int (nI i)), (0, .ref h0), (1, .int (nI k)), (2, .ref hp), (3, .int (pa0 k + (nI 1)))]) hx hb dX0_reachFrom_71 hl (k := 5) rfl (nI_iinc (by decide)) (by decide) rfl (fun ls hl => ?_)
          refine lv_goto (tgt := 11) hx hb dX0_reachFrom_74 (by decide) ?_
          exact L11_1 (i + 1) pa2_15 fp2_16 qu2_17 qv2_18 qn2_19 _ _ _ (by omega) ⟨(by omega), (by simp only [rfB]; rw [if_neg (by assumption)]; rw [← heq]; unfold toP; first | (rw [if_pos (by assumption)]; exact heq_21) | (rw [if_neg (by assumption)]; exact heq_21)), hn2_22, h20_23, h21_24, (hP.part [2, 3, 4, 5, 0, 1] rfl), (hD.part [2, 3, 4, 5, 0, 1] (by decide) rfl), hS, lv_sub hl [2, 3, 4, 5, 0] rfl⟩
      · skip
        have c_3 := (cEqNN (a := i) (b := k / 32) (by omega) (by omega)).mp c_3
        refine lv_goto (tgt := 71) hx hb dX0_reachFrom_29 (by decide) ?_
        refine lv_iinc (v := (nI (i + 1))) (lv' := [(4, .int (nI (i + 1))), (0, .ref h0), (1, .int (nI k)), (2, .ref hp), (3, .int (pa0 k + (nI 1)))]) hx hb dX0_reachFrom_71 hl (k := 4) rfl (nI_iinc (by decide)) (by decide) rfl (fun ls hl => ?_)
        refine lv_goto (tgt := 11) hx hb dX0_reachFrom_74 (by decide) ?_
        exact L11_1 (i + 1) pa2 fp2 qu2 qv2 qn2 _ _ _ (by omega) ⟨(by omega), (by simp only [rfB]; rw [if_pos (by assumption)]; exact heq), hn2, h20, h21, (hP.part [0, 1, 2, 3, 4, 5] rfl), (hD.part [0, 1, 2, 3, 4, 5] (by decide) rfl), hS, lv_sub hl [1, 2, 3, 4, 0] rfl⟩
  · skip
    exact L11_1 0 pa0 fp qu qv qn _ _ _ ⟨(by omega), rfl, hqn, hq0, hq1, (hP.part [0, 1, 2, 3, 4, 5] rfl), (hD.part [0, 1, 2, 3, 4, 5] (by decide) rfl), hS, lv_sub hl [2, 3, 4, 1, 0] rfl⟩

set_option maxHeartbeats 4000000 in
set_option maxRecDepth 100000 in
theorem c_measure (l : Launch) (G : gG) (h0 : Nat) (c1 : Nat) (c2 : Nat) (c3 : Nat) (pa0 : Nat → Int32) (fp : Nat → Int32) (qu : Nat → Int32) (qn : Nat) (hp : Nat) (ha : Nat) (n : Nat) (mf : Nat → Option Nat) (kd : Nat → Nat) (pa : Nat → Nat) (T : va_W) (st : Nat) (sz : Nat) (hn : n ≤ 4) (hmf : ∀ i, i < n → mf i = some (pa i)) (hkd : ∀ i, i < n → kd i < 5) (hT : pplT T n kd pa) (hst : st < 128) : Met l yX0_measure wsX0_measure ({ frames := 4, cells := 0, slots := 0, locals := 91 } : Room) (gM G [.ref h0, .ref hp, .int (nI st)] (([(h0, .inr (0, [.ref c1, .ref c2, .ref c3, .int (nI qn)])), (c1, .inl (G.2.1, 128, .inl pa0)), (c2, .inl (G.2.1, 128, .inl fp)), (c3, .inl (G.2.1, 128, .inl qu)), (hp, .inr (5, [.ref ha, .int (nI n)])), (ha, .inl (G.2.2.2, 4, .inr (.inr (.inr (.inr mf)))))] : va_W) ++ T) sz) (va_Qv (fun (u : (Nat → Int32) × (Nat → Int32) × (Nat → Int32) × (Nat → Nat) × Nat) => ((u.1, u.2.1, u.2.2.2.1, u.2.2.2.2) = mB kd n 128 0 (reachB st (nI 0) (-1) ((fun _ => (-1 : Int32)), (fun _ => (-1 : Int32)), (fun _ => 0), 0))) ∧ (u.2.2.2.2 ≤ 128) ∧ (∀ i, i < u.2.2.2.2 → u.2.2.1 i = nI (u.2.2.2.1 i)) ∧ (∀ i, i < u.2.2.2.2 → u.2.2.2.1 i < 128)) (fun u t => va_P G.1 vwCl (([(h0, .inr (0, [.ref c1, .ref c2, .ref c3, .int (nI u.2.2.2.2)])), (c1, .inl (G.2.1, 128, .inl u.1)), (c2, .inl (G.2.1, 128, .inl u.2.1)), (c3, .inl (G.2.1, 128, .inl u.2.2.1)), (hp, .inr (5, [.ref ha, .int (nI n)])), (ha, .inl (G.2.2.2, 4, .inr (.inr (.inr (.inr mf)))))] : va_W) ++ T) t.heap ∧ va_D (va_A (([(h0, .inr (0, [.ref c1, .ref c2, .ref c3, .int (nI qn)])), (c1, .inl (G.2.1, 128, .inl pa0)), (c2, .inl (G.2.1, 128, .inl fp)), (c3, .inl (G.2.1, 128, .inl qu)), (hp, .inr (5, [.ref ha, .int (nI n)])), (ha, .inl (G.2.2.2, 4, .inr (.inr (.inr (.inr mf)))))] : va_W) ++ T) sz) (([(h0, .inr (0, [.ref c1, .ref c2, .ref c3, .int (nI u.2.2.2.2)])), (c1, .inl (G.2.1, 128, .inl u.1)), (c2, .inl (G.2.1, 128, .inl u.2.1)), (c3, .inl (G.2.1, 128, .inl u.2.2.1)), (hp, .inr (5, [.ref ha, .int (nI n)])), (ha, .inl (G.2.2.2, 4, .inr (.inr (.inr (.inr mf)))))] : va_W) ++ T)) (va_A (([(h0, .inr (0, [.ref c1, .ref c2, .ref c3, .int (nI qn)])), (c1, .inl (G.2.1, 128, .inl pa0)), (c2, .inl (G.2.1, 128, .inl fp)), (c3, .inl (G.2.1, 128, .inl qu)), (hp, .inr (5, [.ref ha, .int (nI n)])), (ha, .inl (G.2.2.2, 4, .inr (.inr (.inr (.inr mf)))))] : va_W) ++ T) sz)) 0 0 (va_A (([(h0, .inr (0, [.ref c1, .ref c2, .ref c3, .int (nI qn)])), (c1, .inl (G.2.1, 128, .inl pa0)), (c2, .inl (G.2.1, 128, .inl fp)), (c3, .inl (G.2.1, 128, .inl qu)), (hp, .inr (5, [.ref ha, .int (nI n)])), (ha, .inl (G.2.2.2, 4, .inr (.inr (.inr (.inr mf)))))] : va_W) ++ T) sz) := by
  refine Met.ofW (cc := cX0_measure) (maxL := 4) (ret := none) (by decide) rfl ?_
  intro p e s m args below meth c s₁ B hml hv
  obtain ⟨rfl, hsz, hP, hK, hD0⟩ := hv
  have hx := B.exec
  have hb := B.bytes
  have hr := B.returns
  have hts := atoms_spec (ws := wsX0_measure) B.pre
  have hown : s.vm.findClass RX0 = some m.cls := findClass_of_methodNamed B.named
  have hlocks := B.notSynchronized
  subst hsz
  have hD := hD0.self (sz := s.heap.size)
  generalize hAe : va_A (([(h0, .inr (0, [.ref c1, .ref c2, .ref c3, .int (nI qn)])), (c1, .inl (G.2.1, 128, .inl pa0)), (c2, .inl (G.2.1, 128, .inl fp)), (c3, .inl (G.2.1, 128, .inl qu)), (hp, .inr (5, [.ref ha, .int (nI n)])), (ha, .inl (G.2.2.2, 4, .inr (.inr (.inr (.inr mf)))))] : va_W) ++ T) s.heap.size = A at hD ⊢
  have hA : ∀ q : Nat, s.heap.size ≤ q → A q := fun q h => by rw [← hAe]; exact Or.inr h
  have hS : va_S A s.heap s.heap [] := va_S.rf
  clear hAe hD0
  have hl := lv_entry ([.ref h0, .ref hp, .int (nI st)]) (n := 4) (Nat.le_of_ble_eq_true rfl)
  rw [lg_entry_eq]
  generalize (lg_sl ([.ref h0, .ref hp, .int (nI st)]) ++ List.replicate (4 - (lg_sl ([.ref h0, .ref hp, .int (nI st)])).length) Slot.unset).toArray = ls at hl ⊢
  have hl : lv_has ls 4 [(0, .ref h0), (1, .ref hp), (2, .int (nI st))] := hl
  refine lv_aload_n hx hb dX0_measure_0 rfl (lv_at hl 0 rfl) ?_
  refine va_get (D := G.1) (ci := 0) (v := .ref c1) (C := RX0) (T := TX0) (N := 4) hx hb hts (g_in wsX00 71 rfl) hown hK.1 hP 0 rfl rfl 0 (by decide) (hts _ (List.mem_of_getElem? (i := 1) rfl)) (fun _ h9 => h9) rfl dX0_measure_1 ?_
  refine lv_iconst (v := (-1)) hx hb dX0_measure_4 (by decide) ?_
  refine g_callvQ (S := Unit) (w1 := fun u => [(c1, .inl (G.2.1, 128, .inl (fun _ => (-1))))]) (wr := [(h0, .inr (0, [.ref c1, .ref c2, .ref c3, .int (nI qn)])), (c2, .inl (G.2.1, 128, .inl fp)), (c3, .inl (G.2.1, 128, .inl qu)), (hp, .inr (5, [.ref ha, .int (nI n)])), (ha, .inl (G.2.2.2, 4, .inr (.inr (.inr (.inr mf)))))]) (wc := [(c1, .inl (G.2.1, 128, .inl pa0))]) (T := T) hP hD hS hA [1] [0, 2, 3, 4, 5] rfl rfl (by decide) (by decide) (va_runS (As := [.ref c1, .int (-1)]) (rest := []) ⟨hx, hb, hml, hown, hts⟩ (c_fill l G c1 128 pa0 (-1) _ (by omega)) (va_cwS 2 hts gX0_measure_J7_fill_53178 rfl rfl rfl (by decide +kernel) ⟨Nat.le_of_ble_eq_true rfl, Nat.le_of_ble_eq_true rfl⟩) (gM.S hK (show va_P G.1 vwCl [(c1, .inl (G.2.1, 128, .inl pa0))] s.heap from (hP.sub [1] rfl)) (show va_D A [(c1, .inl (G.2.1, 128, .inl pa0))] from (hD.sub [1] (by decide) rfl))) rfl rfl hl.1 rfl (lv_room (Nat.le_of_ble_eq_true rfl)) dX0_measure_5 ⟨Nat.le_of_ble_eq_true rfl, Nat.le_of_ble_eq_true rfl⟩) (fun u H locs hq hP hD hS => ?_)
  have hP : va_P G.1 vwCl (([(h0, .inr (0, [.ref c1, .ref c2, .ref c3, .int (nI qn)])), (c2, .inl (G.2.1, 128, .inl fp)), (c3, .inl (G.2.1, 128, .inl qu)), (hp, .inr (5, [.ref ha, .int (nI n)])), (ha, .inl (G.2.2.2, 4, .inr (.inr (.inr (.inr mf))))), (c1, .inl (G.2.1, 128, .inl (fun _ => (-1))))] : va_W) ++ T) H := hP
  have hD : va_D A (([(h0, .inr (0, [.ref c1, .ref c2, .ref c3, .int (nI qn)])), (c2, .inl (G.2.1, 128, .inl fp)), (c3, .inl (G.2.1, 128, .inl qu)), (hp, .inr (5, [.ref ha, .int (nI n)])), (ha, .inl (G.2.2.2, 4, .inr (.inr (.inr (.inr mf))))), (c1, .inl (G.2.1, 128, .inl (fun _ => (-1))))] : va_W) ++ T) := hD
  refine lv_aload_n hx hb dX0_measure_8 rfl (lv_at hl 0 rfl) ?_
  refine va_get (D := G.1) (ci := 0) (v := .ref c2) (C := RX0) (T := TX0) (N := 4) hx hb hts (g_in wsX00 71 rfl) hown hK.1 hP 0 rfl rfl 1 (by decide) (hts _ (List.mem_of_getElem? (i := 2) rfl)) (fun _ h9 => h9) rfl dX0_measure_9 ?_
  refine lv_iconst (v := (-1)) hx hb dX0_measure_12 (by decide) ?_
  refine g_callvQ (S := Unit) (w1 := fun u => [(c2, .inl (G.2.1, 128, .inl (fun _ => (-1))))]) (wr := [(h0, .inr (0, [.ref c1, .ref c2, .ref c3, .int (nI qn)])), (c3, .inl (G.2.1, 128, .inl qu)), (hp, .inr (5, [.ref ha, .int (nI n)])), (ha, .inl (G.2.2.2, 4, .inr (.inr (.inr (.inr mf))))), (c1, .inl (G.2.1, 128, .inl (fun _ => (-1))))]) (wc := [(c2, .inl (G.2.1, 128, .inl fp))]) (T := T) hP hD hS hA [1] [0, 2, 3, 4, 5] rfl rfl (by decide) (by decide) (va_runS (As := [.ref c2, .int (-1)]) (rest := []) ⟨hx, hb, hml, hown, hts⟩ (c_fill l G c2 128 fp (-1) _ (by omega)) (va_cwS 2 hts gX0_measure_J7_fill_53178 rfl rfl rfl (by decide +kernel) ⟨Nat.le_of_ble_eq_true rfl, Nat.le_of_ble_eq_true rfl⟩) (gM.S hK (show va_P G.1 vwCl [(c2, .inl (G.2.1, 128, .inl fp))] H from (hP.sub [1] rfl)) (show va_D A [(c2, .inl (G.2.1, 128, .inl fp))] from (hD.sub [1] (by decide) rfl))) rfl rfl hl.1 rfl (lv_room (Nat.le_of_ble_eq_true rfl)) dX0_measure_13 ⟨Nat.le_of_ble_eq_true rfl, Nat.le_of_ble_eq_true rfl⟩) (fun u H locs hq hP hD hS => ?_)
  have hP : va_P G.1 vwCl (([(h0, .inr (0, [.ref c1, .ref c2, .ref c3, .int (nI qn)])), (c3, .inl (G.2.1, 128, .inl qu)), (hp, .inr (5, [.ref ha, .int (nI n)])), (ha, .inl (G.2.2.2, 4, .inr (.inr (.inr (.inr mf))))), (c1, .inl (G.2.1, 128, .inl (fun _ => (-1)))), (c2, .inl (G.2.1, 128, .inl (fun _ => (-1))))] : va_W) ++ T) H := hP
  have hD : va_D A (([(h0, .inr (0, [.ref c1, .ref c2, .ref c3, .int (nI qn)])), (c3, .inl (G.2.1, 128, .inl qu)), (hp, .inr (5, [.ref ha, .int (nI n)])), (ha, .inl (G.2.2.2, 4, .inr (.inr (.inr (.inr mf))))), (c1, .inl (G.2.1, 128, .inl (fun _ => (-1)))), (c2, .inl (G.2.1, 128, .inl (fun _ => (-1))))] : va_W) ++ T) := hD
  refine lv_aload_n hx hb dX0_measure_16 rfl (lv_at hl 0 rfl) ?_
  refine lv_iconst (v := (nI 0)) hx hb dX0_measure_17 (by decide) ?_
  refine va_put (D := G.1) (ci := 0) (v := .int (nI 0)) (ty := .int) (C := RX0) (T := TX0) (N := 4) hx hb hts (g_in wsX00 71 rfl) tyX0 tyX0_ok nmX0 hown hK.1 hP hD hS 0 rfl rfl 3 (by decide) (hts _ (List.mem_of_getElem? (i := 3) rfl)) (fun _ h9 => h9) rfl (tyX0_ok 3 (by decide)) rfl rfl (Nat.le_of_ble_eq_true rfl) dX0_measure_18 (fun H locs hP hD hS => ?_)
  have hP : va_P G.1 vwCl (([(h0, .inr (0, [.ref c1, .ref c2, .ref c3, .int (nI 0)])), (c3, .inl (G.2.1, 128, .inl qu)), (hp, .inr (5, [.ref ha, .int (nI n)])), (ha, .inl (G.2.2.2, 4, .inr (.inr (.inr (.inr mf))))), (c1, .inl (G.2.1, 128, .inl (fun _ => (-1)))), (c2, .inl (G.2.1, 128, .inl (fun _ => (-1))))] : va_W) ++ T) H := hP
  have hD : va_D A (([(h0, .inr (0, [.ref c1, .ref c2, .ref c3, .int (nI 0)])), (c3, .inl (G.2.1, 128, .inl qu)), (hp, .inr (5, [.ref ha, .int (nI n)])), (ha, .inl (G.2.2.2, 4, .inr (.inr (.inr (.inr mf))))), (c1, .inl (G.2.1, 128, .inl (fun _ => (-1)))), (c2, .inl (G.2.1, 128, .inl (fun _ => (-1))))] : va_W) ++ T) := hD
  refine lv_aload_n hx hb dX0_measure_21 rfl (lv_at hl 0 rfl) ?_
  refine lv_iload_n hx hb dX0_measure_22 rfl (lv_at hl 2 rfl) ?_
  refine lv_iconst (v := (nI 0)) hx hb dX0_measure_23 (by decide) ?_
  refine lv_iconst (v := (-1)) hx hb dX0_measure_24 (by decide) ?_
  refine g_callvQ (S := (Nat → Int32) × (Nat → Int32) × (Nat → Int32) × (Nat → Nat) × Nat) (w1 := fun u => [(h0, .inr (0, [.ref c1, .ref c2, .ref c3, .int (nI u.2.2.2.2)])), (c1, .inl (G.2.1, 128, .inl u.1)), (c2, .inl (G.2.1, 128, .inl u.2.1)), (c3, .inl (G.2.1, 128, .inl u.2.2.1))]) (wr := [(hp, .inr (5, [.ref ha, .int (nI n)])), (ha, .inl (G.2.2.2, 4, .inr (.inr (.inr (.inr mf)))))]) (wc := [(h0, .inr (0, [.ref c1, .ref c2, .ref c3, .int (nI 0)])), (c1, .inl (G.2.1, 128, .inl (fun _ => (-1)))), (c2, .inl (G.2.1, 128, .inl (fun _ => (-1)))), (c3, .inl (G.2.1, 128, .inl qu))]) (T := T) hP hD hS hA [0, 4, 5, 1] [2, 3] rfl rfl (by decide) (by decide) (va_runV (As := [.int (nI st), .int (nI 0), .int (-1)]) (rest := []) ⟨hx, hb, hml, hown, hts⟩ (c_reach l G h0 c1 c2 c3 (fun _ => (-1)) (fun _ => (-1)) qu 0 st (nI 0) (-1) (fun _ => 0) _ hst (by omega) (fun i h => absurd h (Nat.not_lt_zero i)) (fun i h => absurd h (Nat.not_lt_zero i))) (cwV 3 hts gX0_measure_X0_reach rfl rfl rfl (by decide +kernel) ⟨Nat.le_of_ble_eq_true rfl, Nat.le_of_ble_eq_true rfl⟩) (gM.V hK (show va_P G.1 vwCl [(h0, .inr (0, [.ref c1, .ref c2, .ref c3, .int (nI 0)])), (c1, .inl (G.2.1, 128, .inl (fun _ => (-1)))), (c2, .inl (G.2.1, 128, .inl (fun _ => (-1)))), (c3, .inl (G.2.1, 128, .inl qu))] H from (hP.sub [0, 4, 5, 1] rfl)) (show va_D A [(h0, .inr (0, [.ref c1, .ref c2, .ref c3, .int (nI 0)])), (c1, .inl (G.2.1, 128, .inl (fun _ => (-1)))), (c2, .inl (G.2.1, 128, .inl (fun _ => (-1)))), (c3, .inl (G.2.1, 128, .inl qu))] from (hD.sub [0, 4, 5, 1] (by decide) rfl)) (ci := 0) (q0 := 0) rfl rfl) rfl rfl hl.1 rfl (lv_room (Nat.le_of_ble_eq_true rfl)) dX0_measure_25 ⟨Nat.le_of_ble_eq_true rfl, Nat.le_of_ble_eq_true rfl⟩) (fun u H locs hq hP hD hS => ?_)
  obtain ⟨pa2_1, fp2_2, qu2_3, qv2_4, qn2_5⟩ := u
  obtain ⟨heq_7, hn2_8, h20_9, h21_10⟩ := hq
  have heq_7 : (pa2_1, fp2_2, qv2_4, qn2_5) = reachB st (nI 0) (-1) ((fun _ => (-1)), (fun _ => (-1)), (fun _ => 0), 0) := heq_7
  have hn2_8 : qn2_5 ≤ 128 := hn2_8
  have h20_9 : ∀ i, i < qn2_5 → qu2_3 i = nI (qv2_4 i) := h20_9
  have h21_10 : ∀ i, i < qn2_5 → qv2_4 i < 128 := h21_10
  have hP : va_P G.1 vwCl (([(hp, .inr (5, [.ref ha, .int (nI n)])), (ha, .inl (G.2.2.2, 4, .inr (.inr (.inr (.inr mf))))), (h0, .inr (0, [.ref c1, .ref c2, .ref c3, .int (nI qn2_5)])), (c1, .inl (G.2.1, 128, .inl pa2_1)), (c2, .inl (G.2.1, 128, .inl fp2_2)), (c3, .inl (G.2.1, 128, .inl qu2_3))] : va_W) ++ T) H := hP
  have hD : va_D A (([(hp, .inr (5, [.ref ha, .int (nI n)])), (ha, .inl (G.2.2.2, 4, .inr (.inr (.inr (.inr mf))))), (h0, .inr (0, [.ref c1, .ref c2, .ref c3, .int (nI qn2_5)])), (c1, .inl (G.2.1, 128, .inl pa2_1)), (c2, .inl (G.2.1, 128, .inl fp2_2)), (c3, .inl (G.2.1, 128, .inl qu2_3))] : va_W) ++ T) := hD
  refine lv_iconst (v := (nI 0)) hx hb dX0_measure_28 (by decide) ?_
  refine lv_istore_n (lv' := [(3, .int (nI 0)), (0, .ref h0), (1, .ref hp), (2, .int (nI st))]) hx hb dX0_measure_29 rfl hl (by decide) rfl (fun ls hl => ?_)
  refine g_cutM6 (α := Nat) (β := Nat → Int32) (γ := Nat → Int32) (δ := Nat → Int32) (ε := Nat → Nat) (ζ := Nat) 30 (fun i pa3 fp3 qu3 qv3 qn3 => []) (fun i pa3 fp3 qu3 qv3 qn3 H locs ls => (i ≤ 128) ∧ (mB kd n (128 - i) i (pa3, fp3, qv3, qn3) = mB kd n 128 0 (reachB st (nI 0) (-1) ((fun _ => (-1 : Int32)), (fun _ => (-1 : Int32)), (fun _ => 0), 0))) ∧ (qn3 ≤ 128) ∧ (∀ j, j < qn3 → qu3 j = nI (qv3 j)) ∧ (∀ j, j < qn3 → qv3 j < 128) ∧ va_P G.1 vwCl (([(h0, .inr (0, [.ref c1, .ref c2, .ref c3, .int (nI qn3)])), (c1, .inl (G.2.1, 128, .inl pa3)), (c2, .inl (G.2.1, 128, .inl fp3)), (c3, .inl (G.2.1, 128, .inl qu3)), (hp, .inr (5, [.ref ha, .int (nI n)])), (ha, .inl (G.2.2.2, 4, .inr (.inr (.inr (.inr mf)))))] : va_W) ++ T) H ∧ va_D A (([(h0, .inr (0, [.ref c1, .ref c2, .ref c3, .int (nI qn3)])), (c1, .inl (G.2.1, 128, .inl pa3)), (c2, .inl (G.2.1, 128, .inl fp3)), (c3, .inl (G.2.1, 128, .inl qu3)), (hp, .inr (5, [.ref ha, .int (nI n)])), (ha, .inl (G.2.2.2, 4, .inr (.inr (.inr (.inr mf)))))] : va_W) ++ T) ∧ va_S A s.heap H locs ∧ lv_has ls 4 [(0, .ref h0), (1, .ref hp), (2, .int (nI st)), (3, .int (nI i))]) (g_loopM6 (α := Nat) (β := Nat → Int32) (γ := Nat → Int32) (δ := Nat → Int32) (ε := Nat → Nat) (ζ := Nat) 30 (fun i pa3 fp3 qu3 qv3 qn3 => []) (fun i pa3 fp3 qu3 qv3 qn3 H locs ls => (i ≤ 128) ∧ (mB kd n (128 - i) i (pa3, fp3, qv3, qn3) = mB kd n 128 0 (reachB st (nI 0) (-1) ((fun _ => (-1 : Int32)), (fun _ => (-1 : Int32)), (fun _ => 0), 0))) ∧ (qn3 ≤ 128) ∧ (∀ j, j < qn3 → qu3 j = nI (qv3 j)) ∧ (∀ j, j < qn3 → qv3 j < 128) ∧ va_P G.1 vwCl (([(h0, .inr (0, [.ref c1, .ref c2, .ref c3, .int (nI qn3)])), (c1, .inl (G.2.1, 128, .inl pa3)), (c2, .inl (G.2.1, 128, .inl fp3)), (c3, .inl (G.2.1, 128, .inl qu3)), (hp, .inr (5, [.ref ha, .int (nI n)])), (ha, .inl (G.2.2.2, 4, .inr (.inr (.inr (.inr mf)))))] : va_W) ++ T) H ∧ va_D A (([(h0, .inr (0, [.ref c1, .ref c2, .ref c3, .int (nI qn3)])), (c1, .inl (G.2.1, 128, .inl pa3)), (c2, .inl (G.2.1, 128, .inl fp3)), (c3, .inl (G.2.1, 128, .inl qu3)), (hp, .inr (5, [.ref ha, .int (nI n)])), (ha, .inl (G.2.2.2, 4, .inr (.inr (.inr (.inr mf)))))] : va_W) ++ T) ∧ va_S A s.heap H locs ∧ lv_has ls 4 [(0, .ref h0), (1, .ref hp), (2, .int (nI st)), (3, .int (nI i))]) (fun i pa3 fp3 qu3 qv3 qn3 => 128 - i) ?_) (fun L30_11 => ?_)
  · intro i pa3 fp3 qu3 qv3 qn3 H locs ls hI L30_11
    obtain ⟨hi, hmb, hn3, h30, h31, hP, hD, hS, hl⟩ := hI
    refine lv_iload_n hx hb dX0_measure_30 rfl (lv_at hl 3 rfl) ?_
    refine lv_aload_n hx hb dX0_measure_31 rfl (lv_at hl 0 rfl) ?_
    refine va_get (D := G.1) (ci := 0) (v := .int (nI qn3)) (C := RX0) (T := TX0) (N := 4) hx hb hts (g_in wsX00 71 rfl) hown hK.1 hP 0 rfl rfl 3 (by decide) (hts _ (List.mem_of_getElem? (i := 3) rfl)) (fun _ h9 => h9) rfl dX0_measure_32 ?_
    refine lv_icmp_ge (tgt := 62) hx hb dX0_measure_35 (by decide) (fun c_12 => ?_) (fun c_12 => ?_)
    · skip
      have c_12 := (cLeNN (a := qn3) (b := i) (by omega) (by omega)).mp c_12
      have w9_0 : (pa3, fp3, qv3, qn3) = mB kd n 128 0 (reachB st (nI 0) (-1) ((fun _ => (-1 : Int32)), (fun _ => (-1 : Int32)), (fun _ => 0), 0)) := (by rw [← hmb]; exact (mB_end (b := (pa3, fp3, qv3, qn3)) (show ¬ i < qn3 ∨ 128 ≤ i by omega)).symm)
      have hP9 : va_P G.1 vwCl (([(h0, .inr (0, [.ref c1, .ref c2, .ref c3, .int (nI qn3)])), (c1, .inl (G.2.1, 128, .inl pa3)), (c2, .inl (G.2.1, 128, .inl fp3)), (c3, .inl (G.2.1, 128, .inl qu3)), (hp, .inr (5, [.ref ha, .int (nI n)])), (ha, .inl (G.2.2.2, 4, .inr (.inr (.inr (.inr mf)))))] : va_W) ++ T) H := (hP.part [0, 1, 2, 3, 4, 5] rfl)
      have hD9 : va_D A (([(h0, .inr (0, [.ref c1, .ref c2, .ref c3, .int (nI qn3)])), (c1, .inl (G.2.1, 128, .inl pa3)), (c2, .inl (G.2.1, 128, .inl fp3)), (c3, .inl (G.2.1, 128, .inl qu3)), (hp, .inr (5, [.ref ha, .int (nI n)])), (ha, .inl (G.2.2.2, 4, .inr (.inr (.inr (.inr mf)))))] : va_W) ++ T) := (hD.part [0, 1, 2, 3, 4, 5] (by decide) rfl)
      exact W.vret hx hb hr (fun t9 ht9 hW9 => ⟨⟨(pa3, fp3, qu3, qv3, qn3), rfl, ⟨w9_0, hn3, h30, h31⟩, by rw [ht9]; exact hP9, hD9⟩, hS.F ht9⟩) hS.2.2 dX0_measure_62
    · skip
      have c_12 := gNot (cLeNN (a := qn3) (b := i) (by omega) (by omega)) c_12
      refine lv_iload_n hx hb dX0_measure_38 rfl (lv_at hl 3 rfl) ?_
      refine lv_sipush (v := (nI 128)) hx hb dX0_measure_39 (by decide) ?_
      refine lv_icmp_ge (tgt := 62) hx hb dX0_measure_42 (by decide) (fun c_13 => ?_) (fun c_13 => ?_)
      · skip
        have c_13 := (cLeNN (a := 128) (b := i) (by omega) (by omega)).mp c_13
        have w9_0 : (pa3, fp3, qv3, qn3) = mB kd n 128 0 (reachB st (nI 0) (-1) ((fun _ => (-1 : Int32)), (fun _ => (-1 : Int32)), (fun _ => 0), 0)) := (by rw [← hmb]; exact (mB_end (b := (pa3, fp3, qv3, qn3)) (show ¬ i < qn3 ∨ 128 ≤ i by omega)).symm)
        have hP9 : va_P G.1 vwCl (([(h0, .inr (0, [.ref c1, .ref c2, .ref c3, .int (nI qn3)])), (c1, .inl (G.2.1, 128, .inl pa3)), (c2, .inl (G.2.1, 128, .inl fp3)), (c3, .inl (G.2.1, 128, .inl qu3)), (hp, .inr (5, [.ref ha, .int (nI n)])), (ha, .inl (G.2.2.2, 4, .inr (.inr (.inr (.inr mf)))))] : va_W) ++ T) H := (hP.part [0, 1, 2, 3, 4, 5] rfl)
        have hD9 : va_D A (([(h0, .inr (0, [.ref c1, .ref c2, .ref c3, .int (nI qn3)])), (c1, .inl (G.2.1, 128, .inl pa3)), (c2, .inl (G.2.1, 128, .inl fp3)), (c3, .inl (G.2.1, 128, .inl qu3)), (hp, .inr (5, [.ref ha, .int (nI n)])), (ha, .inl (G.2.2.2, 4, .inr (.inr (.inr (.inr mf)))))] : va_W) ++ T) := (hD.part [0, 1, 2, 3, 4, 5] (by decide) rfl)
        exact W.vret hx hb hr (fun t9 ht9 hW9 => ⟨⟨(pa3, fp3, qu3, qv3, qn3), rfl, ⟨w9_0, hn3, h30, h31⟩, by rw [ht9]; exact hP9, hD9⟩, hS.F ht9⟩) hS.2.2 dX0_measure_62
      · skip
        have c_13 := gNot (cLeNN (a := 128) (b := i) (by omega) (by omega)) c_13
        have hqv := h31 i (by omega)
        refine lv_aload_n hx hb dX0_measure_45 rfl (lv_at hl 0 rfl) ?_
        refine lv_aload_n hx hb dX0_measure_46 rfl (lv_at hl 0 rfl) ?_
        refine va_get (D := G.1) (ci := 0) (v := .ref c3) (C := RX0) (T := TX0) (N := 4) hx hb hts (g_in wsX00 71 rfl) hown hK.1 hP 0 rfl rfl 2 (by decide) (hts _ (List.mem_of_getElem? (i := 4) rfl)) (fun _ h9 => h9) rfl dX0_measure_47 ?_
        refine lv_iload_n hx hb dX0_measure_50 rfl (lv_at hl 3 rfl) ?_
        refine g_iald hx hb hK hP 3 rfl (by omega) (by decide) dX0_measure_51 ?_
        refine g_top (y := (nI (qv3 i))) (h30 i (by omega)) ?_
        refine lv_aload_n hx hb dX0_measure_52 rfl (lv_at hl 1 rfl) ?_
        refine g_callvP (S := (Nat → Int32) × (Nat → Int32) × (Nat → Int32) × (Nat → Nat) × Nat) (w1 := fun u => [(h0, .inr (0, [.ref c1, .ref c2, .ref c3, .int (nI u.2.2.2.2)])), (c1, .inl (G.2.1, 128, .inl u.1)), (c2, .inl (G.2.1, 128, .inl u.2.1)), (c3, .inl (G.2.1, 128, .inl u.2.2.1)), (hp, .inr (5, [.ref ha, .int (nI n)])), (ha, .inl (G.2.2.2, 4, .inr (.inr (.inr (.inr mf)))))]) (wr := []) (wc := [(h0, .inr (0, [.ref c1, .ref c2, .ref c3, .int (nI qn3)])), (c1, .inl (G.2.1, 128, .inl pa3)), (c2, .inl (G.2.1, 128, .inl fp3)), (c3, .inl (G.2.1, 128, .inl qu3)), (hp, .inr (5, [.ref ha, .int (nI n)])), (ha, .inl (G.2.2.2, 4, .inr (.inr (.inr (.inr mf)))))]) (T := T) (T1 := fun u => T) hP hD hS hA [0, 1, 2, 3, 4, 5] [] rfl rfl (by decide) (by decide) (va_runV (As := [.int (nI (qv3 i)), .ref hp]) (rest := []) ⟨hx, hb, hml, hown, hts⟩ (c_reachFrom l G h0 c1 c2 c3 pa3 fp3 qu3 qn3 hp ha n mf kd pa T (qv3 i) qv3 _ hn hmf hkd hT hn3 h30 h31 hqv) (cwV 2 hts gX0_measure_X0_reachFrom rfl rfl rfl (by decide +kernel) ⟨Nat.le_of_ble_eq_true rfl, Nat.le_of_ble_eq_true rfl⟩) (gM.V hK (show va_P G.1 vwCl (([(h0, .inr (0, [.ref c1, .ref c2, .ref c3, .int (nI qn3)])), (c1, .inl (G.2.1, 128, .inl pa3)), (c2, .inl (G.2.1, 128, .inl fp3)), (c3, .inl (G.2.1, 128, .inl qu3)), (hp, .inr (5, [.ref ha, .int (nI n)])), (ha, .inl (G.2.2.2, 4, .inr (.inr (.inr (.inr mf)))))] : va_W) ++ T) H from (hP.part [0, 1, 2, 3, 4, 5] rfl)) (show va_D A (([(h0, .inr (0, [.ref c1, .ref c2, .ref c3, .int (nI qn3)])), (c1, .inl (G.2.1, 128, .inl pa3)), (c2, .inl (G.2.1, 128, .inl fp3)), (c3, .inl (G.2.1, 128, .inl qu3)), (hp, .inr (5, [.ref ha, .int (nI n)])), (ha, .inl (G.2.2.2, 4, .inr (.inr (.inr (.inr mf)))))] : va_W) ++ T) from (hD.part [0, 1, 2, 3, 4, 5] (by decide) rfl)) (ci := 0) (q0 := 0) rfl rfl) rfl rfl hl.1 rfl (lv_room (Nat.le_of_ble_eq_true rfl)) dX0_measure_53 ⟨Nat.le_of_ble_eq_true rfl, Nat.le_of_ble_eq_true rfl⟩) (fun u H locs hq hP hD hS => ?_)
        obtain ⟨pa2_14, fp2_15, qu2_16, qv2_17, qn2_18⟩ := u
        obtain ⟨heq_20, hn2_21, h20_22, h21_23⟩ := hq
        have heq_20 : (pa2_14, fp2_15, qv2_17, qn2_18) = rfB kd (qv3 i) (pa3 (qv3 i) + nI 1) n (pa3, fp3, qv3, qn3) := heq_20
        have hn2_21 : qn2_18 ≤ 128 := hn2_21
        have h20_22 : ∀ i, i < qn2_18 → qu2_16 i = nI (qv2_17 i) := h20_22
        have h21_23 : ∀ i, i < qn2_18 → qv2_17 i < 128 := h21_23
        have hP : va_P G.1 vwCl (([(h0, .inr (0, [.ref c1, .ref c2, .ref c3, .int (nI qn2_18)])), (c1, .inl (G.2.1, 128, .inl pa2_14)), (c2, .inl (G.2.1, 128, .inl fp2_15)), (c3, .inl (G.2.1, 128, .inl qu2_16)), (hp, .inr (5, [.ref ha, .int (nI n)])), (ha, .inl (G.2.2.2, 4, .inr (.inr (.inr (.inr mf)))))] : va_W) ++ T) H := hP
        have hD : va_D A (([(h0, .inr (0, [.ref c1, .ref c2, .ref c3, .int (nI qn2_18)])), (c1, .inl (G.2.1, 128, .inl pa2_14)), (c2, .inl (G.2.1, 128, .inl fp2_15)), (c3, .inl (G.2.1, 128, .inl qu2_16)), (hp, .inr (5, [.ref ha, .int (nI n)])), (ha, .inl (G.2.2.2, 4, .inr (.inr (.inr (.inr mf)))))] : va_W) ++ T) := hD
        refine lv_iinc (v := (nI (i + 1))) (lv' := [(3, .int (nI (i + 1))), (0, .ref h0), (1, .ref hp), (2, .int (nI st))]) hx hb dX0_measure_56 hl (k := 3) rfl (nI_iinc (by decide)) (by decide) rfl (fun ls hl => ?_)
        refine lv_goto (tgt := 30) hx hb dX0_measure_59 (by decide) ?_
        exact L30_11 (i + 1) pa2_14 fp2_15 qu2_16 qv2_17 qn2_18 _ _ _ (by omega) ⟨(by omega), (by rw [heq_20]; exact (mB_go (b := (pa3, fp3, qv3, qn3)) (by omega) (show i < qn3 by omega)).symm.trans hmb), hn2_21, h20_22, h21_23, (hP.part [0, 1, 2, 3, 4, 5] rfl), (hD.part [0, 1, 2, 3, 4, 5] (by decide) rfl), hS, lv_sub hl [1, 2, 3, 0] rfl⟩
  · skip
    exact L30_11 0 pa2_1 fp2_2 qu2_3 qv2_4 qn2_5 _ _ _ ⟨(by omega), (by rw [← heq_7]), hn2_8, h20_9, h21_10, (hP.part [2, 3, 4, 5, 0, 1] rfl), (hD.part [2, 3, 4, 5, 0, 1] (by decide) rfl), hS, lv_sub hl [1, 2, 3, 0] rfl⟩
