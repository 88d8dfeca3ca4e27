/-! words for ways: w k ways to the place k -/
def sN (w : Nat → Nat) : Nat → Nat
  | 0 => 0
  | n + 1 => sN w n + w n
def hoB (w : Nat → Nat) : Nat → Int32
  | 0 => nI 0
  | n + 1 => if w n ≤ 0 then hoB w n else hoB w n ||| (nI 1 <<< (nI (n / 32) &&& 31))
def ptN (so : Int32) (w : Nat → Nat) : Nat → Nat → Nat
  | 0, _ => 0
  | n + 1, v => ptN so w n v + (if v = saw so n then w n else 0)
def mxN (so : Int32) (w : Nat → Nat) : Nat → Nat
  | 0 => 0
  | n + 1 => max (mxN so w n) (ptN so w (n + 1) (saw so n))
def telN (w : Nat → Nat) : Nat → Nat
  | 0 => 0
  | 1 => 0
  | n + 2 => if mxN (nI (n + 1)) w 128 < mxN (nI (telN w (n + 1))) w 128 then n + 1 else telN w (n + 1)
theorem telN_lt (w : Nat → Nat) : ∀ n : Nat, telN w (n + 1) ≤ n
  | 0 => Nat.le_refl 0
  | n + 1 => by have h := telN_lt w n; simp only [telN]; split <;> omega
theorem ptN_le (so : Int32) (w : Nat → Nat) (v : Nat) : ∀ n : Nat, ptN so w n v ≤ sN w n
  | 0 => Nat.le_refl 0
  | n + 1 => by have h := ptN_le so w v n; simp only [ptN, sN]; split <;> omega
theorem mxN_le (so : Int32) (w : Nat → Nat) : ∀ n : Nat, mxN so w n ≤ sN w n
  | 0 => Nat.le_refl 0
  | n + 1 => by
    have h := mxN_le so w n
    have h2 := ptN_le so w (saw so n) (n + 1)
    have h3 : sN w n ≤ sN w (n + 1) := Nat.le_add_right _ _
    simp only [mxN]; omega
theorem sN_mono (w : Nat → Nat) {n m : Nat} (h : n ≤ m) : sN w n ≤ sN w m := by
  induction m with
  | zero => rw [show n = 0 by omega]; exact Nat.le_refl _
  | succ m ih =>
    by_cases e : n = m + 1
    · rw [e]; exact Nat.le_refl _
    · exact Nat.le_trans (ih (by omega)) (Nat.le_add_right _ _)
theorem sN_at (w : Nat → Nat) {k m : Nat} (h : k < m) : w k ≤ sN w m := Nat.le_trans (Nat.le_add_left _ _) (sN_mono w (show k + 1 ≤ m by omega))
theorem max_I {a b : Nat} (ha : a < 2 ^ 31) (hb : b < 2 ^ 31) : (if nI a < nI b then nI b else nI a) = nI (max a b) := by
  by_cases h : a < b
  · rw [if_pos ((cLtNN ha hb).mpr h), Nat.max_eq_right (by omega)]
  · rw [if_neg (fun z => h ((cLtNN ha hb).mp z)), Nat.max_eq_left (by omega)]

set_option maxHeartbeats 4000000 in
set_option maxRecDepth 100000 in
theorem c_keepFitting (l : Launch) (G : gG) (h0 : Nat) (w1 : Nat) (w2 : Nat) (w3 : Nat) (wt : Nat → Int32) (wb : Nat → Int32) (wg : Nat → Int32) (lk : Nat) (a1 : Nat) (a2 : Nat) (a3 : Nat) (z : Nat) (lp : Nat → Int32) (so : Nat → Int32) (vs : Nat → Int32) (q : Int32) (w : Nat → Nat) (sz : Nat) (hz : z ≤ 8) (hw : ∀ k, k < 128 → wt k = nI (w k)) (hbd : sN w 128 < 2 ^ 31) : Met l yX10_keepFitting wsX10_keepFitting ({ frames := 3, cells := 0, slots := 0, locals := 64 } : Room) (gM G [.ref h0, .ref lk, .int q] [(h0, .inr (10, [.ref w1, .ref w2, .ref w3])), (w1, .inl (G.2.1, 128, .inl wt)), (w2, .inl (G.2.1, 128, .inl wb)), (w3, .inl (G.2.1, 8, .inl wg)), (lk, .inr (3, [.ref a1, .ref a2, .ref a3, .int (nI z)])), (a1, .inl (G.2.1, 8, .inl lp)), (a2, .inl (G.2.1, 8, .inl so)), (a3, .inl (G.2.1, 8, .inl vs))] sz) (va_Qv (fun (u : Unit) => True) (fun u t => va_P G.1 vwCl [(h0, .inr (10, [.ref w1, .ref w2, .ref w3])), (w1, .inl (G.2.1, 128, .inl (fun k => nI (if fitL lp so vs z q k then w k else 0)))), (w2, .inl (G.2.1, 128, .inl wb)), (w3, .inl (G.2.1, 8, .inl wg)), (lk, .inr (3, [.ref a1, .ref a2, .ref a3, .int (nI z)])), (a1, .inl (G.2.1, 8, .inl lp)), (a2, .inl (G.2.1, 8, .inl so)), (a3, .inl (G.2.1, 8, .inl vs))] t.heap ∧ va_D (va_A [(h0, .inr (10, [.ref w1, .ref w2, .ref w3])), (w1, .inl (G.2.1, 128, .inl wt)), (w2, .inl (G.2.1, 128, .inl wb)), (w3, .inl (G.2.1, 8, .inl wg)), (lk, .inr (3, [.ref a1, .ref a2, .ref a3, .int (nI z)])), (a1, .inl (G.2.1, 8, .inl lp)), (a2, .inl (G.2.1, 8, .inl so)), (a3, .inl (G.2.1, 8, .inl vs))] sz) [(h0, .inr (10, [.ref w1, .ref w2, .ref w3])), (w1, .inl (G.2.1, 128, .inl (fun k => nI (if fitL lp so vs z q k then w k else 0)))), (w2, .inl (G.2.1, 128, .inl wb)), (w3, .inl (G.2.1, 8, .inl wg)), (lk, .inr (3, [.ref a1, .ref a2, .ref a3, .int (nI z)])), (a1, .inl (G.2.1, 8, .inl lp)), (a2, .inl (G.2.1, 8, .inl so)), (a3, .inl (G.2.1, 8, .inl vs))]) (va_A [(h0, .inr (10, [.ref w1, .ref w2, .ref w3])), (w1, .inl (G.2.1, 128, .inl wt)), (w2, .inl (G.2.1, 128, .inl wb)), (w3, .inl (G.2.1, 8, .inl wg)), (lk, .inr (3, [.ref a1, .ref a2, .ref a3, .int (nI z)])), (a1, .inl (G.2.1, 8, .inl lp)), (a2, .inl (G.2.1, 8, .inl so)), (a3, .inl (G.2.1, 8, .inl vs))] sz)) 0 0 (va_A [(h0, .inr (10, [.ref w1, .ref w2, .ref w3])), (w1, .inl (G.2.1, 128, .inl wt)), (w2, .inl (G.2.1, 128, .inl wb)), (w3, .inl (G.2.1, 8, .inl wg)), (lk, .inr (3, [.ref a1, .ref a2, .ref a3, .int (nI z)])), (a1, .inl (G.2.1, 8, .inl lp)), (a2, .inl (G.2.1, 8, .inl so)), (a3, .inl (G.2.1, 8, .inl vs))] sz) := by
  refine Met.ofW (cc := cX10_keepFitting) (maxL := 4) (ret := none) (by decide) rfl ?_
  intro p e s m args below meth c s₁ B hml hv
  obtain ⟨rfl, hsz, hP, hK, hD0⟩ := hv
  have hx := B.exec
  have hb := B.bytes
  have hr := B.returns
  have hts := atoms_spec (ws := wsX10_keepFitting) B.pre
  have hown : s.vm.findClass RX10 = some m.cls := findClass_of_methodNamed B.named
  have hlocks := B.notSynchronized
  subst hsz
  have hD := hD0.self (sz := s.heap.size)
  generalize hAe : va_A [(h0, .inr (10, [.ref w1, .ref w2, .ref w3])), (w1, .inl (G.2.1, 128, .inl wt)), (w2, .inl (G.2.1, 128, .inl wb)), (w3, .inl (G.2.1, 8, .inl wg)), (lk, .inr (3, [.ref a1, .ref a2, .ref a3, .int (nI z)])), (a1, .inl (G.2.1, 8, .inl lp)), (a2, .inl (G.2.1, 8, .inl so)), (a3, .inl (G.2.1, 8, .inl vs))] s.heap.size = A at hD ⊢
  have hA : ∀ q : Nat, s.heap.size ≤ q → A q := fun q h => by rw [← hAe]; exact Or.inr h
  have hS : va_S A s.heap s.heap [] := va_S.rf
  clear hAe hD0
  have hl := lv_entry ([.ref h0, .ref lk, .int q]) (n := 4) (Nat.le_of_ble_eq_true rfl)
  rw [lg_entry_eq]
  generalize (lg_sl ([.ref h0, .ref lk, .int q]) ++ List.replicate (4 - (lg_sl ([.ref h0, .ref lk, .int q])).length) Slot.unset).toArray = ls at hl ⊢
  have hl : lv_has ls 4 [(0, .ref h0), (1, .ref lk), (2, .int q)] := hl
  refine lv_iconst (v := (nI 0)) hx hb dX10_keepFitting_0 (by decide) ?_
  refine lv_istore_n (lv' := [(3, .int (nI 0)), (0, .ref h0), (1, .ref lk), (2, .int q)]) hx hb dX10_keepFitting_1 rfl hl (by decide) rfl (fun ls hl => ?_)
  refine g_cutM2 (α := Nat) (β := Nat → Int32) 2 (fun k wt2 => []) (fun k wt2 H locs ls => (k ≤ 128) ∧ (∀ j, j < k → wt2 j = nI (if fitL lp so vs z q j then w j else 0)) ∧ (∀ j, k ≤ j → j < 128 → wt2 j = nI (w j)) ∧ va_P G.1 vwCl [(h0, .inr (10, [.ref w1, .ref w2, .ref w3])), (w1, .inl (G.2.1, 128, .inl wt2)), (w2, .inl (G.2.1, 128, .inl wb)), (w3, .inl (G.2.1, 8, .inl wg)), (lk, .inr (3, [.ref a1, .ref a2, .ref a3, .int (nI z)])), (a1, .inl (G.2.1, 8, .inl lp)), (a2, .inl (G.2.1, 8, .inl so)), (a3, .inl (G.2.1, 8, .inl vs))] H ∧ va_D A [(h0, .inr (10, [.ref w1, .ref w2, .ref w3])), (w1, .inl (G.2.1, 128, .inl wt2)), (w2, .inl (G.2.1, 128, .inl wb)), (w3, .inl (G.2.1, 8, .inl wg)), (lk, .inr (3, [.ref a1, .ref a2, .ref a3, .int (nI z)])), (a1, .inl (G.2.1, 8, .inl lp)), (a2, .inl (G.2.1, 8, .inl so)), (a3, .inl (G.2.1, 8, .inl vs))] ∧ va_S A s.heap H locs ∧ lv_has ls 4 [(0, .ref h0), (1, .ref lk), (2, .int q), (3, .int (nI k))]) (g_loopM2 (α := Nat) (β := Nat → Int32) 2 (fun k wt2 => []) (fun k wt2 H locs ls => (k ≤ 128) ∧ (∀ j, j < k → wt2 j = nI (if fitL lp so vs z q j then w j else 0)) ∧ (∀ j, k ≤ j → j < 128 → wt2 j = nI (w j)) ∧ va_P G.1 vwCl [(h0, .inr (10, [.ref w1, .ref w2, .ref w3])), (w1, .inl (G.2.1, 128, .inl wt2)), (w2, .inl (G.2.1, 128, .inl wb)), (w3, .inl (G.2.1, 8, .inl wg)), (lk, .inr (3, [.ref a1, .ref a2, .ref a3, .int (nI z)])), (a1, .inl (G.2.1, 8, .inl lp)), (a2, .inl (G.2.1, 8, .inl so)), (a3, .inl (G.2.1, 8, .inl vs))] H ∧ va_D A [(h0, .inr (10, [.ref w1, .ref w2, .ref w3])), (w1, .inl (G.2.1, 128, .inl wt2)), (w2, .inl (G.2.1, 128, .inl wb)), (w3, .inl (G.2.1, 8, .inl wg)), (lk, .inr (3, [.ref a1, .ref a2, .ref a3, .int (nI z)])), (a1, .inl (G.2.1, 8, .inl lp)), (a2, .inl (G.2.1, 8, .inl so)), (a3, .inl (G.2.1, 8, .inl vs))] ∧ va_S A s.heap H locs ∧ lv_has ls 4 [(0, .ref h0), (1, .ref lk), (2, .int q), (3, .int (nI k))]) (fun k wt2 => 128 - k) ?_) (fun L2_1 => ?_)
  · intro k wt2 H locs ls hI L2_1
    obtain ⟨hk, hd, hrr, hP, hD, hS, hl⟩ := hI
    refine lv_iload_n hx hb dX10_keepFitting_2 rfl (lv_at hl 3 rfl) ?_
    refine lv_sipush (v := (nI 128)) hx hb dX10_keepFitting_3 (by decide) ?_
    refine lv_icmp_ge (tgt := 40) hx hb dX10_keepFitting_6 (by decide) (fun c_2 => ?_) (fun c_2 => ?_)
    · skip
      have c_2 := (cLeNN (a := 128) (b := k) (by omega) (by omega)).mp c_2
      obtain rfl : k = 128 := by omega
      have hP := g_arr hP 1 rfl (show ∀ k, k < 128 → wt2 k = (fun k => nI (if fitL lp so vs z q k then w k else 0)) k from hd)
      have hD := hD.set (p := 1) (a := w1) (e := .inl (G.2.1, 128, .inl (fun k => nI (if fitL lp so vs z q k then w k else 0)))) rfl
      have hP : va_P G.1 vwCl [(h0, .inr (10, [.ref w1, .ref w2, .ref w3])), (w1, .inl (G.2.1, 128, .inl (fun k => nI (if fitL lp so vs z q k then w k else 0)))), (w2, .inl (G.2.1, 128, .inl wb)), (w3, .inl (G.2.1, 8, .inl wg)), (lk, .inr (3, [.ref a1, .ref a2, .ref a3, .int (nI z)])), (a1, .inl (G.2.1, 8, .inl lp)), (a2, .inl (G.2.1, 8, .inl so)), (a3, .inl (G.2.1, 8, .inl vs))] H := hP
      have hD : va_D A [(h0, .inr (10, [.ref w1, .ref w2, .ref w3])), (w1, .inl (G.2.1, 128, .inl (fun k => nI (if fitL lp so vs z q k then w k else 0)))), (w2, .inl (G.2.1, 128, .inl wb)), (w3, .inl (G.2.1, 8, .inl wg)), (lk, .inr (3, [.ref a1, .ref a2, .ref a3, .int (nI z)])), (a1, .inl (G.2.1, 8, .inl lp)), (a2, .inl (G.2.1, 8, .inl so)), (a3, .inl (G.2.1, 8, .inl vs))] := hD
      have hP9 : va_P G.1 vwCl [(h0, .inr (10, [.ref w1, .ref w2, .ref w3])), (w1, .inl (G.2.1, 128, .inl (fun k => nI (if fitL lp so vs z q k then w k else 0)))), (w2, .inl (G.2.1, 128, .inl wb)), (w3, .inl (G.2.1, 8, .inl wg)), (lk, .inr (3, [.ref a1, .ref a2, .ref a3, .int (nI z)])), (a1, .inl (G.2.1, 8, .inl lp)), (a2, .inl (G.2.1, 8, .inl so)), (a3, .inl (G.2.1, 8, .inl vs))] H := (hP.sub [0, 1, 2, 3, 4, 5, 6, 7] rfl)
      have hD9 : va_D A [(h0, .inr (10, [.ref w1, .ref w2, .ref w3])), (w1, .inl (G.2.1, 128, .inl (fun k => nI (if fitL lp so vs z q k then w k else 0)))), (w2, .inl (G.2.1, 128, .inl wb)), (w3, .inl (G.2.1, 8, .inl wg)), (lk, .inr (3, [.ref a1, .ref a2, .ref a3, .int (nI z)])), (a1, .inl (G.2.1, 8, .inl lp)), (a2, .inl (G.2.1, 8, .inl so)), (a3, .inl (G.2.1, 8, .inl vs))] := (hD.sub [0, 1, 2, 3, 4, 5, 6, 7] (by decide) rfl)
      exact W.vret hx hb hr (fun t9 ht9 hW9 => ⟨⟨(), rfl, trivial, by rw [ht9]; exact hP9, hD9⟩, hS.F ht9⟩) hS.2.2 dX10_keepFitting_40
    · skip
      have c_2 := gNot (cLeNN (a := 128) (b := k) (by omega) (by omega)) c_2
      have hbk := sN_at w (k := k) (m := 128) (by omega)
      refine lv_aload_n hx hb dX10_keepFitting_9 rfl (lv_at hl 0 rfl) ?_
      refine va_get (D := G.1) (ci := 10) (v := .ref w1) (C := RX10) (T := TX10) (N := 3) hx hb hts (g_in wsX100 19 rfl) hown hK.1 hP 0 rfl rfl 0 (by decide) (hts _ (List.mem_of_getElem? (i := 1) rfl)) (fun _ h9 => h9) rfl dX10_keepFitting_10 ?_
      refine lv_iload_n hx hb dX10_keepFitting_13 rfl (lv_at hl 3 rfl) ?_
      refine g_iald hx hb hK hP 1 rfl (by omega) (by decide) dX10_keepFitting_14 ?_
      refine g_top (y := (nI (w k))) (hrr k (Nat.le_refl k) (by omega)) ?_
      refine lv_if_le (tgt := 34) hx hb dX10_keepFitting_15 (by decide) (fun c_3 => ?_) (fun c_3 => ?_)
      · skip
        have c_3 := (cLeNN (a := w k) (b := 0) (by omega) (by omega)).mp c_3
        refine lv_iinc (v := (nI (k + 1))) (lv' := [(3, .int (nI (k + 1))), (0, .ref h0), (1, .ref lk), (2, .int q)]) hx hb dX10_keepFitting_34 hl (k := 3) rfl (nI_iinc (by decide)) (by decide) rfl (fun ls hl => ?_)
        refine lv_goto (tgt := 2) hx hb dX10_keepFitting_37 (by decide) ?_
        exact L2_1 (k + 1) wt2 _ _ _ (by omega) ⟨(by omega), (by first | exact up_all hd (by rw [if_neg (by assumption)]) | exact ex_all hd (by rw [hrr k (Nat.le_refl k) (by omega)]; first | rw [if_pos (by assumption)] | (rw [show w k = 0 by omega]; split <;> rfl))), fun j h1 h2 => by first | exact hrr j (by omega) h2 | (rw [upd_n (by omega)]; exact hrr j (by omega) h2), (hP.sub [0, 1, 2, 3, 4, 5, 6, 7] rfl), (hD.sub [0, 1, 2, 3, 4, 5, 6, 7] (by decide) rfl), hS, lv_sub hl [1, 2, 3, 0] rfl⟩
      · skip
        have c_3 := gNot (cLeNN (a := w k) (b := 0) (by omega) (by omega)) c_3
        refine lv_aload_n hx hb dX10_keepFitting_18 rfl (lv_at hl 1 rfl) ?_
        refine lv_iload_n hx hb dX10_keepFitting_19 rfl (lv_at hl 2 rfl) ?_
        refine lv_iload_n hx hb dX10_keepFitting_20 rfl (lv_at hl 3 rfl) ?_
        refine g_callSi (va_runVN (As := [.int q, .int (nI k)]) (rest := []) ⟨hx, hb, hml, hown, hts⟩ (c_fit l G lk a1 a2 a3 z lp so vs q k (by omega) (by omega)) ⟨va_cnB 2 hts gX10_keepFitting_X3_fit_n55 rfl rfl rfl (hK.nw 54 rfl) (hts _ (List.mem_of_getElem? (i := 3) rfl)) (by decide +kernel) ⟨Nat.le_of_ble_eq_true rfl, Nat.le_of_ble_eq_true rfl⟩, hts _ (List.mem_of_getElem? (i := 2) rfl), hts _ (List.mem_of_getElem? (i := 4) rfl)⟩ (gR.V hK (show va_P G.1 vwCl [(lk, .inr (3, [.ref a1, .ref a2, .ref a3, .int (nI z)])), (a1, .inl (G.2.1, 8, .inl lp)), (a2, .inl (G.2.1, 8, .inl so)), (a3, .inl (G.2.1, 8, .inl vs))] H from (hP.sub [4, 5, 6, 7] rfl)) hP (ci := 3) (q0 := 4) rfl rfl) rfl rfl hl.1 rfl (lv_room (Nat.le_of_ble_eq_true rfl)) dX10_keepFitting_21 ⟨Nat.le_of_ble_eq_true rfl, Nat.le_of_ble_eq_true rfl⟩) (fun r hr0 => ?_)
        subst hr0
        refine lv_if_ne (tgt := 34) hx hb dX10_keepFitting_24 (by decide) (fun c_4 => ?_) (fun c_4 => ?_)
        · skip
          have c_4 := bI_nz.mp c_4
          refine lv_iinc (v := (nI (k + 1))) (lv' := [(3, .int (nI (k + 1))), (0, .ref h0), (1, .ref lk), (2, .int q)]) hx hb dX10_keepFitting_34 hl (k := 3) rfl (nI_iinc (by decide)) (by decide) rfl (fun ls hl => ?_)
          refine lv_goto (tgt := 2) hx hb dX10_keepFitting_37 (by decide) ?_
          exact L2_1 (k + 1) wt2 _ _ _ (by omega) ⟨(by omega), (by first | exact up_all hd (by rw [if_neg (by assumption)]) | exact ex_all hd (by rw [hrr k (Nat.le_refl k) (by omega)]; first | rw [if_pos (by assumption)] | (rw [show w k = 0 by omega]; split <;> rfl))), fun j h1 h2 => by first | exact hrr j (by omega) h2 | (rw [upd_n (by omega)]; exact hrr j (by omega) h2), (hP.sub [0, 1, 2, 3, 4, 5, 6, 7] rfl), (hD.sub [0, 1, 2, 3, 4, 5, 6, 7] (by decide) rfl), hS, lv_sub hl [1, 2, 3, 0] rfl⟩
        · skip
          have c_4 := bI_z.mp c_4
          refine lv_aload_n hx hb dX10_keepFitting_27 rfl (lv_at hl 0 rfl) ?_
          refine va_get (D := G.1) (ci := 10) (v := .ref w1) (C := RX10) (T := TX10) (N := 3) hx hb hts (g_in wsX100 19 rfl) hown hK.1 hP 0 rfl rfl 0 (by decide) (hts _ (List.mem_of_getElem? (i := 1) rfl)) (fun _ h9 => h9) rfl dX10_keepFitting_28 ?_
          refine lv_iload_n hx hb dX10_keepFitting_31 rfl (lv_at hl 3 rfl) ?_
          refine lv_iconst (v := (nI 0)) hx hb dX10_keepFitting_32 (by decide) ?_
          refine g_iast hx hb hK hP hD hS 1 rfl (by omega) (by decide) dX10_keepFitting_33 (fun H locs hP hD hS => ?_)
          have hP : va_P G.1 vwCl [(h0, .inr (10, [.ref w1, .ref w2, .ref w3])), (w1, .inl (G.2.1, 128, .inl (upd wt2 k (nI 0)))), (w2, .inl (G.2.1, 128, .inl wb)), (w3, .inl (G.2.1, 8, .inl wg)), (lk, .inr (3, [.ref a1, .ref a2, .ref a3, .int (nI z)])), (a1, .inl (G.2.1, 8, .inl lp)), (a2, .inl (G.2.1, 8, .inl so)), (a3, .inl (G.2.1, 8, .inl vs))] H := hP
          have hD : va_D A [(h0, .inr (10, [.ref w1, .ref w2, .ref w3])), (w1, .inl (G.2.1, 128, .inl (upd wt2 k (nI 0)))), (w2, .inl (G.2.1, 128, .inl wb)), (w3, .inl (G.2.1, 8, .inl wg)), (lk, .inr (3, [.ref a1, .ref a2, .ref a3, .int (nI z)])), (a1, .inl (G.2.1, 8, .inl lp)), (a2, .inl (G.2.1, 8, .inl so)), (a3, .inl (G.2.1, 8, .inl vs))] := hD
          refine lv_iinc (v := (nI (k + 1))) (lv' := [(3, .int (nI (k + 1))), (0, .ref h0), (1, .ref lk), (2, .int q)]) hx hb dX10_keepFitting_34 hl (k := 3) rfl (nI_iinc (by decide)) (by decide) rfl (fun ls hl => ?_)
          refine lv_goto (tgt := 2) hx hb dX10_keepFitting_37 (by decide) ?_
          exact L2_1 (k + 1) (upd wt2 k (nI 0)) _ _ _ (by omega) ⟨(by omega), (by first | exact up_all hd (by rw [if_neg (by assumption)]) | exact ex_all hd (by rw [hrr k (Nat.le_refl k) (by omega)]; first | rw [if_pos (by assumption)] | (rw [show w k = 0 by omega]; split <;> rfl))), fun j h1 h2 => by first | exact hrr j (by omega) h2 | (rw [upd_n (by omega)]; exact hrr j (by omega) h2), (hP.sub [0, 1, 2, 3, 4, 5, 6, 7] rfl), (hD.sub [0, 1, 2, 3, 4, 5, 6, 7] (by decide) rfl), hS, lv_sub hl [1, 2, 3, 0] rfl⟩
  · skip
    exact L2_1 0 wt _ _ _ ⟨(by omega), fun j h => absurd h (Nat.not_lt_zero j), fun j _ h => hw j h, (hP.sub [0, 1, 2, 3, 4, 5, 6, 7] rfl), (hD.sub [0, 1, 2, 3, 4, 5, 6, 7] (by decide) rfl), hS, lv_sub hl [1, 2, 3, 0] rfl⟩

set_option maxHeartbeats 4000000 in
set_option maxRecDepth 100000 in
theorem c_total (l : Launch) (G : gG) (h0 : Nat) (w1 : Nat) (w2 : Nat) (w3 : Nat) (wt : Nat → Int32) (wb : Nat → Int32) (wg : Nat → Int32) (w : Nat → Nat) (hw : ∀ k, k < 128 → wt k = nI (w k)) : Met l yX10_total wsX10_total ({ frames := 0, cells := 0, slots := 0, locals := 0 } : Room) (gR G [.ref h0] [(h0, .inr (10, [.ref w1, .ref w2, .ref w3])), (w1, .inl (G.2.1, 128, .inl wt)), (w2, .inl (G.2.1, 128, .inl wb)), (w3, .inl (G.2.1, 8, .inl wg))]) (vp_Si (fun r : Int32 => r = (nI (sN w 128)))) 0 0 (fun _ => False) := by
  refine Met.ofW (cc := cX10_total) (maxL := 3) (ret := (some .int)) (by decide) rfl ?_
  intro p e s m args below meth c s₁ B hml hv
  obtain ⟨rfl, hP, hK⟩ := hv
  have hx := B.exec
  have hb := B.bytes
  have hr := B.returns
  have hts := atoms_spec (ws := wsX10_total) B.pre
  have hown : s.vm.findClass RX10 = some m.cls := findClass_of_methodNamed B.named
  have hlocks := B.notSynchronized
  have hl := lv_entry ([.ref h0]) (n := 3) (Nat.le_of_ble_eq_true rfl)
  rw [lg_entry_eq]
  generalize (lg_sl ([.ref h0]) ++ List.replicate (3 - (lg_sl ([.ref h0])).length) Slot.unset).toArray = ls at hl ⊢
  have hl : lv_has ls 3 [(0, .ref h0)] := hl
  refine lv_iconst (v := (nI 0)) hx hb dX10_total_0 (by decide) ?_
  refine lv_istore_n (lv' := [(1, .int (nI 0)), (0, .ref h0)]) hx hb dX10_total_1 rfl hl (by decide) rfl (fun ls hl => ?_)
  refine lv_iconst (v := (nI 0)) hx hb dX10_total_2 (by decide) ?_
  refine lv_istore_n (lv' := [(2, .int (nI 0)), (1, .int (nI 0)), (0, .ref h0)]) hx hb dX10_total_3 rfl hl (by decide) rfl (fun ls hl => ?_)
  refine g_cutR1 (α := Nat) 4 (fun k => []) (fun k ls => (k ≤ 128) ∧ lv_has ls 3 [(0, .ref h0), (1, .int (nI (sN w k))), (2, .int (nI k))]) (g_loopR1 (α := Nat) 4 (fun k => []) (fun k ls => (k ≤ 128) ∧ lv_has ls 3 [(0, .ref h0), (1, .int (nI (sN w k))), (2, .int (nI k))]) (fun k => 128 - k) ?_) (fun L4_1 => ?_)
  · intro k ls hI L4_1
    obtain ⟨hk, hl⟩ := hI
    refine lv_iload_n hx hb dX10_total_4 rfl (lv_at hl 2 rfl) ?_
    refine lv_sipush (v := (nI 128)) hx hb dX10_total_5 (by decide) ?_
    refine lv_icmp_ge (tgt := 26) hx hb dX10_total_8 (by decide) (fun c_2 => ?_) (fun c_2 => ?_)
    · skip
      have c_2 := (cLeNN (a := 128) (b := k) (by omega) (by omega)).mp c_2
      obtain rfl : k = 128 := by omega
      refine lv_iload_n hx hb dX10_total_26 rfl (lv_at hl 1 rfl) ?_
      exact W.iret hx hb hr (fun t9 ht9 _ => ⟨(nI (sN w 128)), rfl, rfl, ht9⟩) (fun _ h => absurd h List.not_mem_nil) dX10_total_27
    · skip
      have c_2 := gNot (cLeNN (a := 128) (b := k) (by omega) (by omega)) c_2
      refine lv_iload_n hx hb dX10_total_11 rfl (lv_at hl 1 rfl) ?_
      refine lv_aload_n hx hb dX10_total_12 rfl (lv_at hl 0 rfl) ?_
      refine va_get (D := G.1) (ci := 10) (v := .ref w1) (C := RX10) (T := TX10) (N := 3) hx hb hts (g_in wsX100 2 rfl) hown hK.1 hP 0 rfl rfl 0 (by decide) (hts _ (List.mem_of_getElem? (i := 1) rfl)) (fun _ h9 => h9) rfl dX10_total_13 ?_
      refine lv_iload_n hx hb dX10_total_16 rfl (lv_at hl 2 rfl) ?_
      refine g_iald hx hb hK hP 1 rfl (by omega) (by decide) dX10_total_17 ?_
      refine g_top (y := (nI (w k))) (hw k (by omega)) ?_
      refine lv_iadd hx hb dX10_total_18 ?_
      refine g_top (y := (nI ((sN w k) + (w k)))) (nI_add _ _) ?_
      refine lv_istore_n (lv' := [(1, .int (nI ((sN w k) + (w k)))), (0, .ref h0), (2, .int (nI k))]) hx hb dX10_total_19 rfl hl (by decide) rfl (fun ls hl => ?_)
      refine lv_iinc (v := (nI (k + 1))) (lv' := [(2, .int (nI (k + 1))), (1, .int (nI ((sN w k) + (w k)))), (0, .ref h0)]) hx hb dX10_total_20 hl (k := 2) rfl (nI_iinc (by decide)) (by decide) rfl (fun ls hl => ?_)
      refine lv_goto (tgt := 4) hx hb dX10_total_23 (by decide) ?_
      exact L4_1 (k + 1) _ (by omega) ⟨(by omega), lv_sub hl [2, 1, 0] rfl⟩
  · skip
    exact L4_1 0 _ ⟨(by omega), lv_sub hl [2, 1, 0] rfl⟩

set_option maxHeartbeats 4000000 in
set_option maxRecDepth 100000 in
theorem c_holders (l : Launch) (G : gG) (h0 : Nat) (w1 : Nat) (w2 : Nat) (w3 : Nat) (wt : Nat → Int32) (wb : Nat → Int32) (wg : Nat → Int32) (w : Nat → Nat) (hw : ∀ k, k < 128 → wt k = nI (w k)) (hbd : sN w 128 < 2 ^ 31) : Met l yX10_holders wsX10_holders ({ frames := 1, cells := 0, slots := 0, locals := 20 } : Room) (gR G [.ref h0] [(h0, .inr (10, [.ref w1, .ref w2, .ref w3])), (w1, .inl (G.2.1, 128, .inl wt)), (w2, .inl (G.2.1, 128, .inl wb)), (w3, .inl (G.2.1, 8, .inl wg))]) (vp_Si (fun r : Int32 => r = (hoB w 128))) 0 0 (fun _ => False) := by
  refine Met.ofW (cc := cX10_holders) (maxL := 3) (ret := (some .int)) (by decide) rfl ?_
  intro p e s m args below meth c s₁ B hml hv
  obtain ⟨rfl, hP, hK⟩ := hv
  have hx := B.exec
  have hb := B.bytes
  have hr := B.returns
  have hts := atoms_spec (ws := wsX10_holders) B.pre
  have hown : s.vm.findClass RX10 = some m.cls := findClass_of_methodNamed B.named
  have hlocks := B.notSynchronized
  have hl := lv_entry ([.ref h0]) (n := 3) (Nat.le_of_ble_eq_true rfl)
  rw [lg_entry_eq]
  generalize (lg_sl ([.ref h0]) ++ List.replicate (3 - (lg_sl ([.ref h0])).length) Slot.unset).toArray = ls at hl ⊢
  have hl : lv_has ls 3 [(0, .ref h0)] := hl
  refine lv_iconst (v := (nI 0)) hx hb dX10_holders_0 (by decide) ?_
  refine lv_istore_n (lv' := [(1, .int (nI 0)), (0, .ref h0)]) hx hb dX10_holders_1 rfl hl (by decide) rfl (fun ls hl => ?_)
  refine lv_iconst (v := (nI 0)) hx hb dX10_holders_2 (by decide) ?_
  refine lv_istore_n (lv' := [(2, .int (nI 0)), (1, .int (nI 0)), (0, .ref h0)]) hx hb dX10_holders_3 rfl hl (by decide) rfl (fun ls hl => ?_)
  refine g_cutR2 (α := Nat) (β := Int32) 4 (fun k x => []) (fun k x ls => (k ≤ 128) ∧ (x = hoB w k) ∧ lv_has ls 3 [(0, .ref h0), (1, .int x), (2, .int (nI k))]) (g_loopR2 (α := Nat) (β := Int32) 4 (fun k x => []) (fun k x ls => (k ≤ 128) ∧ (x = hoB w k) ∧ lv_has ls 3 [(0, .ref h0), (1, .int x), (2, .int (nI k))]) (fun k x => 128 - k) ?_) (fun L4_1 => ?_)
  · intro k x ls hI L4_1
    obtain ⟨hk, hx2, hl⟩ := hI
    refine lv_iload_n hx hb dX10_holders_4 rfl (lv_at hl 2 rfl) ?_
    refine lv_sipush (v := (nI 128)) hx hb dX10_holders_5 (by decide) ?_
    refine lv_icmp_ge (tgt := 35) hx hb dX10_holders_8 (by decide) (fun c_2 => ?_) (fun c_2 => ?_)
    · skip
      have c_2 := (cLeNN (a := 128) (b := k) (by omega) (by omega)).mp c_2
      obtain rfl : k = 128 := by omega
      refine lv_iload_n hx hb dX10_holders_35 rfl (lv_at hl 1 rfl) ?_
      exact W.iret hx hb hr (fun t9 ht9 _ => ⟨x, rfl, hx2, ht9⟩) (fun _ h => absurd h List.not_mem_nil) dX10_holders_36
    · skip
      have c_2 := gNot (cLeNN (a := 128) (b := k) (by omega) (by omega)) c_2
      have hbk := sN_at w (k := k) (m := 128) (by omega)
      refine lv_aload_n hx hb dX10_holders_11 rfl (lv_at hl 0 rfl) ?_
      refine va_get (D := G.1) (ci := 10) (v := .ref w1) (C := RX10) (T := TX10) (N := 3) hx hb hts (g_in wsX100 5 rfl) hown hK.1 hP 0 rfl rfl 0 (by decide) (hts _ (List.mem_of_getElem? (i := 1) rfl)) (fun _ h9 => h9) rfl dX10_holders_12 ?_
      refine lv_iload_n hx hb dX10_holders_15 rfl (lv_at hl 2 rfl) ?_
      refine g_iald hx hb hK hP 1 rfl (by omega) (by decide) dX10_holders_16 ?_
      refine g_top (y := (nI (w k))) (hw k (by omega)) ?_
      refine lv_if_le (tgt := 29) hx hb dX10_holders_17 (by decide) (fun c_3 => ?_) (fun c_3 => ?_)
      · skip
        have c_3 := (cLeNN (a := w k) (b := 0) (by omega) (by omega)).mp c_3
        refine lv_iinc (v := (nI (k + 1))) (lv' := [(2, .int (nI (k + 1))), (0, .ref h0), (1, .int x)]) hx hb dX10_holders_29 hl (k := 2) rfl (nI_iinc (by decide)) (by decide) rfl (fun ls hl => ?_)
        refine lv_goto (tgt := 4) hx hb dX10_holders_32 (by decide) ?_
        exact L4_1 (k + 1) x _ (by omega) ⟨(by omega), (by rw [hx2]; simp only [hoB]; first | rw [if_pos (by assumption)] | rw [if_neg (by assumption)]), lv_sub hl [1, 2, 0] rfl⟩
      · skip
        have c_3 := gNot (cLeNN (a := w k) (b := 0) (by omega) (by omega)) c_3
        refine lv_iload_n hx hb dX10_holders_20 rfl (lv_at hl 1 rfl) ?_
        refine lv_iconst (v := (nI 1)) hx hb dX10_holders_21 (by decide) ?_
        refine lv_iload_n hx hb dX10_holders_22 rfl (lv_at hl 2 rfl) ?_
        refine g_callSi (va_runSN (As := [.int (nI k)]) (rest := [.int (nI 1), .int x]) ⟨hx, hb, hml, hown, hts⟩ (c_holderAt l G k (by omega)) ⟨va_cnB 1 hts gX10_holders_X11_holderAt_n41 rfl rfl rfl (hK.nw 56 rfl) (hts _ (List.mem_of_getElem? (i := 3) rfl)) (by decide +kernel) ⟨Nat.le_of_ble_eq_true rfl, Nat.le_of_ble_eq_true rfl⟩, hts _ (List.mem_of_getElem? (i := 2) rfl), trivial⟩ (gR.S hK (show va_P G.1 vwCl [] s.heap from g_nil)) rfl rfl hl.1 rfl (lv_room (Nat.le_of_ble_eq_true rfl)) dX10_holders_23 ⟨Nat.le_of_ble_eq_true rfl, Nat.le_of_ble_eq_true rfl⟩) (fun r hr0 => ?_)
        subst hr0
        refine lv_ishl hx hb dX10_holders_26 ?_
        refine lv_ior hx hb dX10_holders_27 ?_
        refine lv_istore_n (lv' := [(1, .int (x ||| ((nI 1) <<< ((nI (k / 32)) &&& 31)))), (0, .ref h0), (2, .int (nI k))]) hx hb dX10_holders_28 rfl hl (by decide) rfl (fun ls hl => ?_)
        refine lv_iinc (v := (nI (k + 1))) (lv' := [(2, .int (nI (k + 1))), (1, .int (x ||| ((nI 1) <<< ((nI (k / 32)) &&& 31)))), (0, .ref h0)]) hx hb dX10_holders_29 hl (k := 2) rfl (nI_iinc (by decide)) (by decide) rfl (fun ls hl => ?_)
        refine lv_goto (tgt := 4) hx hb dX10_holders_32 (by decide) ?_
        exact L4_1 (k + 1) (x ||| ((nI 1) <<< ((nI (k / 32)) &&& 31))) _ (by omega) ⟨(by omega), (by rw [hx2]; simp only [hoB]; first | rw [if_pos (by assumption)] | rw [if_neg (by assumption)]), lv_sub hl [2, 1, 0] rfl⟩
  · skip
    exact L4_1 0 (nI 0) _ ⟨(by omega), rfl, lv_sub hl [2, 1, 0] rfl⟩

set_option maxHeartbeats 4000000 in
set_option maxRecDepth 100000 in
theorem c_mostLeft (l : Launch) (G : gG) (h0 : Nat) (w1 : Nat) (w2 : Nat) (w3 : Nat) (wt : Nat → Int32) (wb : Nat → Int32) (wg : Nat → Int32) (so : Int32) (w : Nat → Nat) (sz : Nat) (hw : ∀ k, k < 128 → wt k = nI (w k)) (hbd : sN w 128 < 2 ^ 31) : Met l yX10_mostLeftBy wsX10_mostLeftBy ({ frames := 2, cells := 0, slots := 0, locals := 41 } : Room) (gM G [.ref h0, .int so] [(h0, .inr (10, [.ref w1, .ref w2, .ref w3])), (w1, .inl (G.2.1, 128, .inl wt)), (w2, .inl (G.2.1, 128, .inl wb)), (w3, .inl (G.2.1, 8, .inl wg))] sz) (va_Qi (fun (r : Int32) (u : (Nat → Int32)) => r = (nI (mxN so w 128))) (fun u t => va_P G.1 vwCl [(h0, .inr (10, [.ref w1, .ref w2, .ref w3])), (w1, .inl (G.2.1, 128, .inl wt)), (w2, .inl (G.2.1, 128, .inl wb)), (w3, .inl (G.2.1, 8, .inl u))] t.heap ∧ va_D (va_A [(h0, .inr (10, [.ref w1, .ref w2, .ref w3])), (w1, .inl (G.2.1, 128, .inl wt)), (w2, .inl (G.2.1, 128, .inl wb)), (w3, .inl (G.2.1, 8, .inl wg))] sz) [(h0, .inr (10, [.ref w1, .ref w2, .ref w3])), (w1, .inl (G.2.1, 128, .inl wt)), (w2, .inl (G.2.1, 128, .inl wb)), (w3, .inl (G.2.1, 8, .inl u))]) (va_A [(h0, .inr (10, [.ref w1, .ref w2, .ref w3])), (w1, .inl (G.2.1, 128, .inl wt)), (w2, .inl (G.2.1, 128, .inl wb)), (w3, .inl (G.2.1, 8, .inl wg))] sz)) 0 0 (va_A [(h0, .inr (10, [.ref w1, .ref w2, .ref w3])), (w1, .inl (G.2.1, 128, .inl wt)), (w2, .inl (G.2.1, 128, .inl wb)), (w3, .inl (G.2.1, 8, .inl wg))] sz) := by
  refine Met.ofW (cc := cX10_mostLeftBy) (maxL := 5) (ret := (some .int)) (by decide) rfl ?_
  intro p e s m args below meth c s₁ B hml hv
  obtain ⟨rfl, hsz, hP, hK, hD0⟩ := hv
  have hx := B.exec
  have hb := B.bytes
  have hr := B.returns
  have hts := atoms_spec (ws := wsX10_mostLeftBy) B.pre
  have hown : s.vm.findClass RX10 = some m.cls := findClass_of_methodNamed B.named
  have hlocks := B.notSynchronized
  subst hsz
  have hD := hD0.self (sz := s.heap.size)
  generalize hAe : va_A [(h0, .inr (10, [.ref w1, .ref w2, .ref w3])), (w1, .inl (G.2.1, 128, .inl wt)), (w2, .inl (G.2.1, 128, .inl wb)), (w3, .inl (G.2.1, 8, .inl wg))] s.heap.size = A at hD ⊢
  have hA : ∀ q : Nat, s.heap.size ≤ q → A q := fun q h => by rw [← hAe]; exact Or.inr h
  have hS : va_S A s.heap s.heap [] := va_S.rf
  clear hAe hD0
  have hl := lv_entry ([.ref h0, .int so]) (n := 5) (Nat.le_of_ble_eq_true rfl)
  rw [lg_entry_eq]
  generalize (lg_sl ([.ref h0, .int so]) ++ List.replicate (5 - (lg_sl ([.ref h0, .int so])).length) Slot.unset).toArray = ls at hl ⊢
  have hl : lv_has ls 5 [(0, .ref h0), (1, .int so)] := hl
  refine lv_aload_n hx hb dX10_mostLeftBy_0 rfl (lv_at hl 0 rfl) ?_
  refine va_get (D := G.1) (ci := 10) (v := .ref w3) (C := RX10) (T := TX10) (N := 3) hx hb hts (g_in wsX100 20 rfl) hown hK.1 hP 0 rfl rfl 2 (by decide) (hts _ (List.mem_of_getElem? (i := 1) rfl)) (fun _ h9 => h9) rfl dX10_mostLeftBy_1 ?_
  refine lv_iconst (v := (nI 0)) hx hb dX10_mostLeftBy_4 (by decide) ?_
  refine g_callv (S := Unit) (w1 := fun u => [(w3, .inl (G.2.1, 8, .inl (fun _ => (nI 0))))]) (wr := [(h0, .inr (10, [.ref w1, .ref w2, .ref w3])), (w1, .inl (G.2.1, 128, .inl wt)), (w2, .inl (G.2.1, 128, .inl wb))]) (wc := [(w3, .inl (G.2.1, 8, .inl wg))]) hP hD hS hA [3] [0, 1, 2] rfl rfl (by decide) (by decide) (va_runS (As := [.ref w3, .int (nI 0)]) (rest := []) ⟨hx, hb, hml, hown, hts⟩ (c_fill l G w3 8 wg (nI 0) _ (by omega)) (va_cwS 2 hts gX10_mostLeftBy_J7_fill_53178 rfl rfl rfl (by decide +kernel) ⟨Nat.le_of_ble_eq_true rfl, Nat.le_of_ble_eq_true rfl⟩) (gM.S hK (show va_P G.1 vwCl [(w3, .inl (G.2.1, 8, .inl wg))] s.heap from (hP.sub [3] rfl)) (show va_D A [(w3, .inl (G.2.1, 8, .inl wg))] from (hD.sub [3] (by decide) rfl))) rfl rfl hl.1 rfl (lv_room (Nat.le_of_ble_eq_true rfl)) dX10_mostLeftBy_5 ⟨Nat.le_of_ble_eq_true rfl, Nat.le_of_ble_eq_true rfl⟩) (fun u H locs hq hP hD hS => ?_)
  have hP : va_P G.1 vwCl [(h0, .inr (10, [.ref w1, .ref w2, .ref w3])), (w1, .inl (G.2.1, 128, .inl wt)), (w2, .inl (G.2.1, 128, .inl wb)), (w3, .inl (G.2.1, 8, .inl (fun _ => (nI 0))))] H := hP
  have hD : va_D A [(h0, .inr (10, [.ref w1, .ref w2, .ref w3])), (w1, .inl (G.2.1, 128, .inl wt)), (w2, .inl (G.2.1, 128, .inl wb)), (w3, .inl (G.2.1, 8, .inl (fun _ => (nI 0))))] := hD
  refine lv_iconst (v := (nI 0)) hx hb dX10_mostLeftBy_8 (by decide) ?_
  refine lv_istore_n (lv' := [(2, .int (nI 0)), (0, .ref h0), (1, .int so)]) hx hb dX10_mostLeftBy_9 rfl hl (by decide) rfl (fun ls hl => ?_)
  refine lv_iconst (v := (nI 0)) hx hb dX10_mostLeftBy_10 (by decide) ?_
  refine lv_istore_n (lv' := [(3, .int (nI 0)), (2, .int (nI 0)), (0, .ref h0), (1, .int so)]) hx hb dX10_mostLeftBy_11 rfl hl (by decide) rfl (fun ls hl => ?_)
  refine g_cutM2 (α := Nat) (β := Nat → Int32) 12 (fun k wg2 => []) (fun k wg2 H locs ls => (k ≤ 128) ∧ (∀ v, v < 8 → wg2 v = nI (ptN so w k v)) ∧ va_P G.1 vwCl [(h0, .inr (10, [.ref w1, .ref w2, .ref w3])), (w1, .inl (G.2.1, 128, .inl wt)), (w2, .inl (G.2.1, 128, .inl wb)), (w3, .inl (G.2.1, 8, .inl wg2))] H ∧ va_D A [(h0, .inr (10, [.ref w1, .ref w2, .ref w3])), (w1, .inl (G.2.1, 128, .inl wt)), (w2, .inl (G.2.1, 128, .inl wb)), (w3, .inl (G.2.1, 8, .inl wg2))] ∧ va_S A s.heap H locs ∧ lv_has ls 5 [(0, .ref h0), (1, .int so), (2, .int (nI (mxN so w k))), (3, .int (nI k))]) (g_loopM2 (α := Nat) (β := Nat → Int32) 12 (fun k wg2 => []) (fun k wg2 H locs ls => (k ≤ 128) ∧ (∀ v, v < 8 → wg2 v = nI (ptN so w k v)) ∧ va_P G.1 vwCl [(h0, .inr (10, [.ref w1, .ref w2, .ref w3])), (w1, .inl (G.2.1, 128, .inl wt)), (w2, .inl (G.2.1, 128, .inl wb)), (w3, .inl (G.2.1, 8, .inl wg2))] H ∧ va_D A [(h0, .inr (10, [.ref w1, .ref w2, .ref w3])), (w1, .inl (G.2.1, 128, .inl wt)), (w2, .inl (G.2.1, 128, .inl wb)), (w3, .inl (G.2.1, 8, .inl wg2))] ∧ va_S A s.heap H locs ∧ lv_has ls 5 [(0, .ref h0), (1, .int so), (2, .int (nI (mxN so w k))), (3, .int (nI k))]) (fun k wg2 => 128 - k) ?_) (fun L12_1 => ?_)
  · intro k wg2 H locs ls hI L12_1
    obtain ⟨hk, hg, hP, hD, hS, hl⟩ := hI
    refine lv_iload_n hx hb dX10_mostLeftBy_12 rfl (lv_at hl 3 rfl) ?_
    refine lv_sipush (v := (nI 128)) hx hb dX10_mostLeftBy_13 (by decide) ?_
    refine lv_icmp_ge (tgt := 75) hx hb dX10_mostLeftBy_16 (by decide) (fun c_2 => ?_) (fun c_2 => ?_)
    · skip
      have c_2 := (cLeNN (a := 128) (b := k) (by omega) (by omega)).mp c_2
      obtain rfl : k = 128 := by omega
      refine lv_iload_n hx hb dX10_mostLeftBy_75 rfl (lv_at hl 2 rfl) ?_
      have hP9 : va_P G.1 vwCl [(h0, .inr (10, [.ref w1, .ref w2, .ref w3])), (w1, .inl (G.2.1, 128, .inl wt)), (w2, .inl (G.2.1, 128, .inl wb)), (w3, .inl (G.2.1, 8, .inl wg2))] H := (hP.sub [0, 1, 2, 3] rfl)
      have hD9 : va_D A [(h0, .inr (10, [.ref w1, .ref w2, .ref w3])), (w1, .inl (G.2.1, 128, .inl wt)), (w2, .inl (G.2.1, 128, .inl wb)), (w3, .inl (G.2.1, 8, .inl wg2))] := (hD.sub [0, 1, 2, 3] (by decide) rfl)
      exact W.iret hx hb hr (fun t9 ht9 hW9 => ⟨⟨(nI (mxN so w 128)), (wg2), rfl, rfl, by rw [ht9]; exact hP9, hD9⟩, hS.F ht9⟩) hS.2.2 dX10_mostLeftBy_76
    · skip
      have c_2 := gNot (cLeNN (a := 128) (b := k) (by omega) (by omega)) c_2
      have hsl := saw_lt (so := so) (k := k) (by omega)
      have hm1 := mxN_le so w k
      have hm2 := ptN_le so w (saw so k) (k + 1)
      have hm3 := sN_mono w (show k + 1 ≤ 128 by omega)
      have hm4 := sN_mono w (show k ≤ 128 by omega)
      refine lv_iload_n hx hb dX10_mostLeftBy_19 rfl (lv_at hl 3 rfl) ?_
      refine lv_iload_n hx hb dX10_mostLeftBy_20 rfl (lv_at hl 1 rfl) ?_
      refine g_callSi (va_runSN (As := [.int (nI k), .int so]) (rest := []) ⟨hx, hb, hml, hown, hts⟩ (c_seenAt l G k so (by omega)) ⟨va_cnB 2 hts gX10_mostLeftBy_X11_seenAt_n68 rfl rfl rfl (hK.nw 63 rfl) (hts _ (List.mem_of_getElem? (i := 12) rfl)) (by decide +kernel) ⟨Nat.le_of_ble_eq_true rfl, Nat.le_of_ble_eq_true rfl⟩, hts _ (List.mem_of_getElem? (i := 11) rfl), trivial⟩ (gR.S hK (show va_P G.1 vwCl [] H from g_nil)) rfl rfl hl.1 rfl (lv_room (Nat.le_of_ble_eq_true rfl)) dX10_mostLeftBy_21 ⟨Nat.le_of_ble_eq_true rfl, Nat.le_of_ble_eq_true rfl⟩) (fun r hr0 => ?_)
      subst hr0
      refine lv_istore (lv' := [(4, .int (nI (saw so k))), (0, .ref h0), (1, .int so), (2, .int (nI (mxN so w k))), (3, .int (nI k))]) hx hb dX10_mostLeftBy_24 hl (by decide) rfl (fun ls hl => ?_)
      refine lv_iload hx hb dX10_mostLeftBy_26 (lv_at hl 0 rfl) ?_
      refine lv_if_lt (tgt := 69) hx hb dX10_mostLeftBy_28 (by decide) (fun c_3 => ?_) (fun c_3 => ?_)
      · skip
        have c_3 := (cLtNN (a := saw so k) (b := 0) (by omega) (by omega)).mp c_3
        exact absurd c_3 (by omega)
      · skip
        have c_3 := gNot (cLtNN (a := saw so k) (b := 0) (by omega) (by omega)) c_3
        refine lv_iload hx hb dX10_mostLeftBy_31 (lv_at hl 0 rfl) ?_
        refine lv_bipush (v := (nI 8)) hx hb dX10_mostLeftBy_33 (by decide) ?_
        refine lv_icmp_lt (tgt := 41) hx hb dX10_mostLeftBy_35 (by decide) (fun c_4 => ?_) (fun c_4 => ?_)
        · skip
          have c_4 := (cLtNN (a := saw so k) (b := 8) (by omega) (by omega)).mp c_4
          refine lv_aload_n hx hb dX10_mostLeftBy_41 rfl (lv_at hl 1 rfl) ?_
          refine va_get (D := G.1) (ci := 10) (v := .ref w3) (C := RX10) (T := TX10) (N := 3) hx hb hts (g_in wsX100 20 rfl) hown hK.1 hP 0 rfl rfl 2 (by decide) (hts _ (List.mem_of_getElem? (i := 1) rfl)) (fun _ h9 => h9) rfl dX10_mostLeftBy_42 ?_
          refine lv_iload hx hb dX10_mostLeftBy_45 (lv_at hl 0 rfl) ?_
          refine lv_dup2_11 hx hb dX10_mostLeftBy_47 rfl rfl ?_
          refine g_iald hx hb hK hP 3 rfl (by omega) (by decide) dX10_mostLeftBy_48 ?_
          refine g_top (y := (nI (ptN so w k (saw so k)))) (hg _ hsl) ?_
          refine lv_aload_n hx hb dX10_mostLeftBy_49 rfl (lv_at hl 1 rfl) ?_
          refine va_get (D := G.1) (ci := 10) (v := .ref w1) (C := RX10) (T := TX10) (N := 3) hx hb hts (g_in wsX100 20 rfl) hown hK.1 hP 0 rfl rfl 0 (by decide) (hts _ (List.mem_of_getElem? (i := 2) rfl)) (fun _ h9 => h9) rfl dX10_mostLeftBy_50 ?_
          refine lv_iload_n hx hb dX10_mostLeftBy_53 rfl (lv_at hl 4 rfl) ?_
          refine g_iald hx hb hK hP 1 rfl (by omega) (by decide) dX10_mostLeftBy_54 ?_
          refine g_top (y := (nI (w k))) (hw k (by omega)) ?_
          refine lv_iadd hx hb dX10_mostLeftBy_55 ?_
          refine g_top (y := (nI ((ptN so w k (saw so k)) + (w k)))) (nI_add _ _) ?_
          refine g_iast hx hb hK hP hD hS 3 rfl (by omega) (by decide) dX10_mostLeftBy_56 (fun H locs hP hD hS => ?_)
          have hP : va_P G.1 vwCl [(h0, .inr (10, [.ref w1, .ref w2, .ref w3])), (w1, .inl (G.2.1, 128, .inl wt)), (w2, .inl (G.2.1, 128, .inl wb)), (w3, .inl (G.2.1, 8, .inl (upd wg2 (saw so k) (nI ((ptN so w k (saw so k)) + (w k))))))] H := hP
          have hD : va_D A [(h0, .inr (10, [.ref w1, .ref w2, .ref w3])), (w1, .inl (G.2.1, 128, .inl wt)), (w2, .inl (G.2.1, 128, .inl wb)), (w3, .inl (G.2.1, 8, .inl (upd wg2 (saw so k) (nI ((ptN so w k (saw so k)) + (w k))))))] := hD
          refine lv_iload_n hx hb dX10_mostLeftBy_57 rfl (lv_at hl 3 rfl) ?_
          refine lv_aload_n hx hb dX10_mostLeftBy_58 rfl (lv_at hl 1 rfl) ?_
          refine va_get (D := G.1) (ci := 10) (v := .ref w3) (C := RX10) (T := TX10) (N := 3) hx hb hts (g_in wsX100 20 rfl) hown hK.1 hP 0 rfl rfl 2 (by decide) (hts _ (List.mem_of_getElem? (i := 1) rfl)) (fun _ h9 => h9) rfl dX10_mostLeftBy_59 ?_
          refine lv_iload hx hb dX10_mostLeftBy_62 (lv_at hl 0 rfl) ?_
          refine g_iald hx hb hK hP 3 rfl (by omega) (by decide) dX10_mostLeftBy_64 ?_
          refine g_top (y := (nI (ptN so w (k + 1) (saw so k)))) (upd_s.trans (by simp only [ptN, if_true])) ?_
          refine va_mmax hx hb (hml.trans hl.1.symm) hown (hts _ (List.mem_of_getElem? (i := 3) rfl)) (hts _ (List.mem_of_getElem? (i := 4) rfl)) (hts _ (List.mem_of_getElem? (i := 5) rfl)) (hts _ (List.mem_of_getElem? (i := 6) rfl)) (Nat.le_of_ble_eq_true rfl) (Nat.le_of_ble_eq_true rfl) (Nat.le_of_ble_eq_true rfl) (Nat.le_of_ble_eq_true rfl) dX10_mostLeftBy_65 ?_
          refine g_top (y := (nI (mxN so w (k + 1)))) (max_I (by omega) (by omega)) ?_
          refine lv_istore_n (lv' := [(2, .int (nI (mxN so w (k + 1)))), (4, .int (nI (saw so k))), (0, .ref h0), (1, .int so), (3, .int (nI k))]) hx hb dX10_mostLeftBy_68 rfl hl (by decide) rfl (fun ls hl => ?_)
          refine lv_iinc (v := (nI (k + 1))) (lv' := [(3, .int (nI (k + 1))), (2, .int (nI (mxN so w (k + 1)))), (4, .int (nI (saw so k))), (0, .ref h0), (1, .int so)]) hx hb dX10_mostLeftBy_69 hl (k := 4) rfl (nI_iinc (by decide)) (by decide) rfl (fun ls hl => ?_)
          refine lv_goto (tgt := 12) hx hb dX10_mostLeftBy_72 (by decide) ?_
          exact L12_1 (k + 1) (upd wg2 (saw so k) (nI ((ptN so w k (saw so k)) + (w k)))) _ _ _ (by omega) ⟨(by omega), (by intro v hv; simp only [ptN]; by_cases e : v = saw so k; (subst e; rw [upd_s, if_pos rfl]); (rw [upd_n e, if_neg e, hg v hv, Nat.add_zero])), (hP.sub [0, 1, 2, 3] rfl), (hD.sub [0, 1, 2, 3] (by decide) rfl), hS, lv_sub hl [3, 4, 1, 0] rfl⟩
        · skip
          have c_4 := gNot (cLtNN (a := saw so k) (b := 8) (by omega) (by omega)) c_4
          exact absurd c_4 (by omega)
  · skip
    exact L12_1 0 (fun _ => (nI 0)) _ _ _ ⟨(by omega), fun v hv => rfl, (hP.sub [0, 1, 2, 3] rfl), (hD.sub [0, 1, 2, 3] (by decide) rfl), hS, lv_sub hl [2, 3, 1, 0] rfl⟩

set_option maxHeartbeats 4000000 in
set_option maxRecDepth 100000 in
theorem c_telling (l : Launch) (G : gG) (h0 : Nat) (w1 : Nat) (w2 : Nat) (w3 : Nat) (wt : Nat → Int32) (wb : Nat → Int32) (wg : Nat → Int32) (w : Nat → Nat) (sz : Nat) (hw : ∀ k, k < 128 → wt k = nI (w k)) (hbd : sN w 128 < 2 ^ 31) : Met l yX10_tellingSort wsX10_tellingSort ({ frames := 3, cells := 0, slots := 0, locals := 65 } : Room) (gM G [.ref h0] [(h0, .inr (10, [.ref w1, .ref w2, .ref w3])), (w1, .inl (G.2.1, 128, .inl wt)), (w2, .inl (G.2.1, 128, .inl wb)), (w3, .inl (G.2.1, 8, .inl wg))] sz) (va_Qi (fun (r : Int32) (u : (Nat → Int32)) => r = if sN w 128 = 0 then -1 else nI (telN w 3)) (fun u t => va_P G.1 vwCl [(h0, .inr (10, [.ref w1, .ref w2, .ref w3])), (w1, .inl (G.2.1, 128, .inl wt)), (w2, .inl (G.2.1, 128, .inl wb)), (w3, .inl (G.2.1, 8, .inl u))] t.heap ∧ va_D (va_A [(h0, .inr (10, [.ref w1, .ref w2, .ref w3])), (w1, .inl (G.2.1, 128, .inl wt)), (w2, .inl (G.2.1, 128, .inl wb)), (w3, .inl (G.2.1, 8, .inl wg))] sz) [(h0, .inr (10, [.ref w1, .ref w2, .ref w3])), (w1, .inl (G.2.1, 128, .inl wt)), (w2, .inl (G.2.1, 128, .inl wb)), (w3, .inl (G.2.1, 8, .inl u))]) (va_A [(h0, .inr (10, [.ref w1, .ref w2, .ref w3])), (w1, .inl (G.2.1, 128, .inl wt)), (w2, .inl (G.2.1, 128, .inl wb)), (w3, .inl (G.2.1, 8, .inl wg))] sz)) 0 0 (va_A [(h0, .inr (10, [.ref w1, .ref w2, .ref w3])), (w1, .inl (G.2.1, 128, .inl wt)), (w2, .inl (G.2.1, 128, .inl wb)), (w3, .inl (G.2.1, 8, .inl wg))] sz) := by
  refine Met.ofW (cc := cX10_tellingSort) (maxL := 3) (ret := (some .int)) (by decide) rfl ?_
  intro p e s m args below meth c s₁ B hml hv
  obtain ⟨rfl, hsz, hP, hK, hD0⟩ := hv
  have hx := B.exec
  have hb := B.bytes
  have hr := B.returns
  have hts := atoms_spec (ws := wsX10_tellingSort) B.pre
  have hown : s.vm.findClass RX10 = some m.cls := findClass_of_methodNamed B.named
  have hlocks := B.notSynchronized
  subst hsz
  have hD := hD0.self (sz := s.heap.size)
  generalize hAe : va_A [(h0, .inr (10, [.ref w1, .ref w2, .ref w3])), (w1, .inl (G.2.1, 128, .inl wt)), (w2, .inl (G.2.1, 128, .inl wb)), (w3, .inl (G.2.1, 8, .inl wg))] s.heap.size = A at hD ⊢
  have hA : ∀ q : Nat, s.heap.size ≤ q → A q := fun q h => by rw [← hAe]; exact Or.inr h
  have hS : va_S A s.heap s.heap [] := va_S.rf
  clear hAe hD0
  have hl := lv_entry ([.ref h0]) (n := 3) (Nat.le_of_ble_eq_true rfl)
  rw [lg_entry_eq]
  generalize (lg_sl ([.ref h0]) ++ List.replicate (3 - (lg_sl ([.ref h0])).length) Slot.unset).toArray = ls at hl ⊢
  have hl : lv_has ls 3 [(0, .ref h0)] := hl
  refine lv_aload_n hx hb dX10_tellingSort_0 rfl (lv_at hl 0 rfl) ?_
  refine g_callSi (va_runV (As := []) (rest := []) ⟨hx, hb, hml, hown, hts⟩ (c_total l G h0 w1 w2 w3 wt wb wg w hw) (cwV 0 hts gX10_tellingSort_X10_total rfl rfl rfl (by decide +kernel) ⟨Nat.le_of_ble_eq_true rfl, Nat.le_of_ble_eq_true rfl⟩) (gR.V hK (show va_P G.1 vwCl [(h0, .inr (10, [.ref w1, .ref w2, .ref w3])), (w1, .inl (G.2.1, 128, .inl wt)), (w2, .inl (G.2.1, 128, .inl wb)), (w3, .inl (G.2.1, 8, .inl wg))] s.heap from (hP.sub [0, 1, 2, 3] rfl)) hP (ci := 10) (q0 := 0) rfl rfl) rfl rfl hl.1 rfl (lv_room (Nat.le_of_ble_eq_true rfl)) dX10_tellingSort_1 ⟨Nat.le_of_ble_eq_true rfl, Nat.le_of_ble_eq_true rfl⟩) (fun r hr0 => ?_)
  subst hr0
  refine lv_if_ne (tgt := 9) hx hb dX10_tellingSort_4 (by decide) (fun c_1 => ?_) (fun c_1 => ?_)
  · skip
    have c_1 := gNot (cEqNN (a := sN w 128) (b := 0) (by omega) (by omega)) c_1
    refine lv_iconst (v := (nI 0)) hx hb dX10_tellingSort_9 (by decide) ?_
    refine lv_istore_n (lv' := [(1, .int (nI 0)), (0, .ref h0)]) hx hb dX10_tellingSort_10 rfl hl (by decide) rfl (fun ls hl => ?_)
    refine lv_iconst (v := (nI 1)) hx hb dX10_tellingSort_11 (by decide) ?_
    refine lv_istore_n (lv' := [(2, .int (nI 1)), (1, .int (nI 0)), (0, .ref h0)]) hx hb dX10_tellingSort_12 rfl hl (by decide) rfl (fun ls hl => ?_)
    refine g_cutM2 (α := Nat) (β := Nat → Int32) 13 (fun so wg2 => []) (fun so wg2 H locs ls => (1 ≤ so ∧ so ≤ 3) ∧ va_P G.1 vwCl [(h0, .inr (10, [.ref w1, .ref w2, .ref w3])), (w1, .inl (G.2.1, 128, .inl wt)), (w2, .inl (G.2.1, 128, .inl wb)), (w3, .inl (G.2.1, 8, .inl wg2))] H ∧ va_D A [(h0, .inr (10, [.ref w1, .ref w2, .ref w3])), (w1, .inl (G.2.1, 128, .inl wt)), (w2, .inl (G.2.1, 128, .inl wb)), (w3, .inl (G.2.1, 8, .inl wg2))] ∧ va_S A s.heap H locs ∧ lv_has ls 3 [(0, .ref h0), (1, .int (nI (telN w so))), (2, .int (nI so))]) (g_loopM2 (α := Nat) (β := Nat → Int32) 13 (fun so wg2 => []) (fun so wg2 H locs ls => (1 ≤ so ∧ so ≤ 3) ∧ va_P G.1 vwCl [(h0, .inr (10, [.ref w1, .ref w2, .ref w3])), (w1, .inl (G.2.1, 128, .inl wt)), (w2, .inl (G.2.1, 128, .inl wb)), (w3, .inl (G.2.1, 8, .inl wg2))] H ∧ va_D A [(h0, .inr (10, [.ref w1, .ref w2, .ref w3])), (w1, .inl (G.2.1, 128, .inl wt)), (w2, .inl (G.2.1, 128, .inl wb)), (w3, .inl (G.2.1, 8, .inl wg2))] ∧ va_S A s.heap H locs ∧ lv_has ls 3 [(0, .ref h0), (1, .int (nI (telN w so))), (2, .int (nI so))]) (fun so wg2 => 3 - so) ?_) (fun L13_2 => ?_)
    · intro so wg2 H locs ls hI L13_2
      obtain ⟨hs, hP, hD, hS, hl⟩ := hI
      refine lv_iload_n hx hb dX10_tellingSort_13 rfl (lv_at hl 2 rfl) ?_
      refine lv_iconst (v := (nI 3)) hx hb dX10_tellingSort_14 (by decide) ?_
      refine lv_icmp_ge (tgt := 39) hx hb dX10_tellingSort_15 (by decide) (fun c_3 => ?_) (fun c_3 => ?_)
      · skip
        have c_3 := (cLeNN (a := 3) (b := so) (by omega) (by omega)).mp c_3
        obtain rfl : so = 3 := by omega
        refine lv_iload_n hx hb dX10_tellingSort_39 rfl (lv_at hl 1 rfl) ?_
        have w9_r : (nI (telN w 3)) = if sN w 128 = 0 then -1 else nI (telN w 3) := (by first | rw [if_pos (by omega)] | rw [if_neg (by omega)])
        have hP9 : va_P G.1 vwCl [(h0, .inr (10, [.ref w1, .ref w2, .ref w3])), (w1, .inl (G.2.1, 128, .inl wt)), (w2, .inl (G.2.1, 128, .inl wb)), (w3, .inl (G.2.1, 8, .inl wg2))] H := (hP.sub [0, 1, 2, 3] rfl)
        have hD9 : va_D A [(h0, .inr (10, [.ref w1, .ref w2, .ref w3])), (w1, .inl (G.2.1, 128, .inl wt)), (w2, .inl (G.2.1, 128, .inl wb)), (w3, .inl (G.2.1, 8, .inl wg2))] := (hD.sub [0, 1, 2, 3] (by decide) rfl)
        exact W.iret hx hb hr (fun t9 ht9 hW9 => ⟨⟨(nI (telN w 3)), (wg2), rfl, w9_r, by rw [ht9]; exact hP9, hD9⟩, hS.F ht9⟩) hS.2.2 dX10_tellingSort_40
      · skip
        have c_3 := gNot (cLeNN (a := 3) (b := so) (by omega) (by omega)) c_3
        obtain ⟨s1, rfl⟩ : ∃ k, so = k + 1 := ⟨so - 1, by omega⟩
        have ht1 := telN_lt w s1
        refine lv_aload_n hx hb dX10_tellingSort_18 rfl (lv_at hl 0 rfl) ?_
        refine lv_iload_n hx hb dX10_tellingSort_19 rfl (lv_at hl 2 rfl) ?_
        refine g_calli (S := (Nat → Int32)) (w1 := fun u => [(h0, .inr (10, [.ref w1, .ref w2, .ref w3])), (w1, .inl (G.2.1, 128, .inl wt)), (w2, .inl (G.2.1, 128, .inl wb)), (w3, .inl (G.2.1, 8, .inl u))]) (wr := []) (wc := [(h0, .inr (10, [.ref w1, .ref w2, .ref w3])), (w1, .inl (G.2.1, 128, .inl wt)), (w2, .inl (G.2.1, 128, .inl wb)), (w3, .inl (G.2.1, 8, .inl wg2))]) hP hD hS hA [0, 1, 2, 3] [] rfl rfl (by decide) (by decide) (va_runV (As := [.int (nI (s1 + 1))]) (rest := []) ⟨hx, hb, hml, hown, hts⟩ (c_mostLeft l G h0 w1 w2 w3 wt wb wg2 (nI (s1 + 1)) w _ hw hbd) (cwV 1 hts gX10_tellingSort_X10_mostLeftBy rfl rfl rfl (by decide +kernel) ⟨Nat.le_of_ble_eq_true rfl, Nat.le_of_ble_eq_true rfl⟩) (gM.V hK (show va_P G.1 vwCl [(h0, .inr (10, [.ref w1, .ref w2, .ref w3])), (w1, .inl (G.2.1, 128, .inl wt)), (w2, .inl (G.2.1, 128, .inl wb)), (w3, .inl (G.2.1, 8, .inl wg2))] H from (hP.sub [0, 1, 2, 3] rfl)) (show va_D A [(h0, .inr (10, [.ref w1, .ref w2, .ref w3])), (w1, .inl (G.2.1, 128, .inl wt)), (w2, .inl (G.2.1, 128, .inl wb)), (w3, .inl (G.2.1, 8, .inl wg2))] from (hD.sub [0, 1, 2, 3] (by decide) rfl)) (ci := 10) (q0 := 0) rfl rfl) rfl rfl hl.1 rfl (lv_room (Nat.le_of_ble_eq_true rfl)) dX10_tellingSort_20 ⟨Nat.le_of_ble_eq_true rfl, Nat.le_of_ble_eq_true rfl⟩) (fun r wg2_4 H locs hq hP hD hS => ?_)
        subst hq
        have hP : va_P G.1 vwCl [(h0, .inr (10, [.ref w1, .ref w2, .ref w3])), (w1, .inl (G.2.1, 128, .inl wt)), (w2, .inl (G.2.1, 128, .inl wb)), (w3, .inl (G.2.1, 8, .inl wg2_4))] H := hP
        have hD : va_D A [(h0, .inr (10, [.ref w1, .ref w2, .ref w3])), (w1, .inl (G.2.1, 128, .inl wt)), (w2, .inl (G.2.1, 128, .inl wb)), (w3, .inl (G.2.1, 8, .inl wg2_4))] := hD
        refine lv_aload_n hx hb dX10_tellingSort_23 rfl (lv_at hl 0 rfl) ?_
        refine lv_iload_n hx hb dX10_tellingSort_24 rfl (lv_at hl 1 rfl) ?_
        refine g_calli (S := (Nat → Int32)) (w1 := fun u => [(h0, .inr (10, [.ref w1, .ref w2, .ref w3])), (w1, .inl (G.2.1, 128, .inl wt)), (w2, .inl (G.2.1, 128, .inl wb)), (w3, .inl (G.2.1, 8, .inl u))]) (wr := []) (wc := [(h0, .inr (10, [.ref w1, .ref w2, .ref w3])), (w1, .inl (G.2.1, 128, .inl wt)), (w2, .inl (G.2.1, 128, .inl wb)), (w3, .inl (G.2.1, 8, .inl wg2_4))]) hP hD hS hA [0, 1, 2, 3] [] rfl rfl (by decide) (by decide) (va_runV (As := [.int (nI (telN w (s1 + 1)))]) (rest := [.int (nI (mxN (nI (s1 + 1)) w 128))]) ⟨hx, hb, hml, hown, hts⟩ (c_mostLeft l G h0 w1 w2 w3 wt wb wg2_4 (nI (telN w (s1 + 1))) w _ hw hbd) (cwV 1 hts gX10_tellingSort_X10_mostLeftBy rfl rfl rfl (by decide +kernel) ⟨Nat.le_of_ble_eq_true rfl, Nat.le_of_ble_eq_true rfl⟩) (gM.V hK (show va_P G.1 vwCl [(h0, .inr (10, [.ref w1, .ref w2, .ref w3])), (w1, .inl (G.2.1, 128, .inl wt)), (w2, .inl (G.2.1, 128, .inl wb)), (w3, .inl (G.2.1, 8, .inl wg2_4))] H from (hP.sub [0, 1, 2, 3] rfl)) (show va_D A [(h0, .inr (10, [.ref w1, .ref w2, .ref w3])), (w1, .inl (G.2.1, 128, .inl wt)), (w2, .inl (G.2.1, 128, .inl wb)), (w3, .inl (G.2.1, 8, .inl wg2_4))] from (hD.sub [0, 1, 2, 3] (by decide) rfl)) (ci := 10) (q0 := 0) rfl rfl) rfl rfl hl.1 rfl (lv_room (Nat.le_of_ble_eq_true rfl)) dX10_tellingSort_25 ⟨Nat.le_of_ble_eq_true rfl, Nat.le_of_ble_eq_true rfl⟩) (fun r wg2_6 H locs hq hP hD hS => ?_)
        subst hq
        have hP : va_P G.1 vwCl [(h0, .inr (10, [.ref w1, .ref w2, .ref w3])), (w1, .inl (G.2.1, 128, .inl wt)), (w2, .inl (G.2.1, 128, .inl wb)), (w3, .inl (G.2.1, 8, .inl wg2_6))] H := hP
        have hD : va_D A [(h0, .inr (10, [.ref w1, .ref w2, .ref w3])), (w1, .inl (G.2.1, 128, .inl wt)), (w2, .inl (G.2.1, 128, .inl wb)), (w3, .inl (G.2.1, 8, .inl wg2_6))] := hD
        have hm1 := mxN_le (nI (s1 + 1)) w 128
        have hm2 := mxN_le (nI (telN w (s1 + 1))) w 128
        have hm1 := mxN_le (nI (s1 + 1)) w 128
        have hm2 := mxN_le (nI (telN w (s1 + 1))) w 128
        refine lv_icmp_ge (tgt := 33) hx hb dX10_tellingSort_28 (by decide) (fun c_8 => ?_) (fun c_8 => ?_)
        · skip
          have c_8 := (cLeNN (a := mxN (nI (telN w (s1 + 1))) w 128) (b := mxN (nI (s1 + 1)) w 128) (by omega) (by omega)).mp c_8
          have hl : lv_has ls 3 [(0, .ref h0), (1, .int (nI (telN w (s1 + 1 + 1)))), (2, .int (nI (s1 + 1)))] := g_loc hl (congrArg (fun v9 : Int32 => ([(0, .ref h0), (1, .int v9), (2, .int (nI (s1 + 1)))] : List (Nat × Value))) (show (nI (telN w (s1 + 1))) = (nI (telN w (s1 + 1 + 1))) from by simp only [telN]; first | rw [if_pos (by omega)] | rw [if_neg (by omega)]))
          refine lv_iinc (v := (nI ((s1 + 1) + 1))) (lv' := [(2, .int (nI ((s1 + 1) + 1))), (0, .ref h0), (1, .int (nI (telN w (s1 + 1 + 1))))]) hx hb dX10_tellingSort_33 hl (k := 2) rfl (nI_iinc (by decide)) (by decide) rfl (fun ls hl => ?_)
          refine lv_goto (tgt := 13) hx hb dX10_tellingSort_36 (by decide) ?_
          exact L13_2 ((s1 + 1) + 1) wg2_6 _ _ _ (by omega) ⟨(by omega), (hP.sub [0, 1, 2, 3] rfl), (hD.sub [0, 1, 2, 3] (by decide) rfl), hS, lv_sub hl [1, 2, 0] rfl⟩
        · skip
          have c_8 := gNot (cLeNN (a := mxN (nI (telN w (s1 + 1))) w 128) (b := mxN (nI (s1 + 1)) w 128) (by omega) (by omega)) c_8
          refine lv_iload_n hx hb dX10_tellingSort_31 rfl (lv_at hl 2 rfl) ?_
          refine lv_istore_n (lv' := [(1, .int (nI (s1 + 1))), (0, .ref h0), (2, .int (nI (s1 + 1)))]) hx hb dX10_tellingSort_32 rfl hl (by decide) rfl (fun ls hl => ?_)
          have hl : lv_has ls 3 [(1, .int (nI (telN w (s1 + 1 + 1)))), (0, .ref h0), (2, .int (nI (s1 + 1)))] := g_loc hl (congrArg (fun v9 : Int32 => ([(1, .int v9), (0, .ref h0), (2, .int (nI (s1 + 1)))] : List (Nat × Value))) (show (nI (s1 + 1)) = (nI (telN w (s1 + 1 + 1))) from by simp only [telN]; first | rw [if_pos (by omega)] | rw [if_neg (by omega)]))
          refine lv_iinc (v := (nI ((s1 + 1) + 1))) (lv' := [(2, .int (nI ((s1 + 1) + 1))), (1, .int (nI (telN w (s1 + 1 + 1)))), (0, .ref h0)]) hx hb dX10_tellingSort_33 hl (k := 2) rfl (nI_iinc (by decide)) (by decide) rfl (fun ls hl => ?_)
          refine lv_goto (tgt := 13) hx hb dX10_tellingSort_36 (by decide) ?_
          exact L13_2 ((s1 + 1) + 1) wg2_6 _ _ _ (by omega) ⟨(by omega), (hP.sub [0, 1, 2, 3] rfl), (hD.sub [0, 1, 2, 3] (by decide) rfl), hS, lv_sub hl [2, 1, 0] rfl⟩
    · skip
      exact L13_2 1 wg _ _ _ ⟨(by omega), (hP.sub [0, 1, 2, 3] rfl), (hD.sub [0, 1, 2, 3] (by decide) rfl), hS, lv_sub hl [2, 1, 0] rfl⟩
  · skip
    have c_1 := (cEqNN (a := sN w 128) (b := 0) (by omega) (by omega)).mp c_1
    refine lv_iconst (v := (-1)) hx hb dX10_tellingSort_7 (by decide) ?_
    have w9_r : (-1) = if sN w 128 = 0 then -1 else nI (telN w 3) := (by first | rw [if_pos (by omega)] | rw [if_neg (by omega)])
    have hP9 : va_P G.1 vwCl [(h0, .inr (10, [.ref w1, .ref w2, .ref w3])), (w1, .inl (G.2.1, 128, .inl wt)), (w2, .inl (G.2.1, 128, .inl wb)), (w3, .inl (G.2.1, 8, .inl wg))] s.heap := (hP.sub [0, 1, 2, 3] rfl)
    have hD9 : va_D A [(h0, .inr (10, [.ref w1, .ref w2, .ref w3])), (w1, .inl (G.2.1, 128, .inl wt)), (w2, .inl (G.2.1, 128, .inl wb)), (w3, .inl (G.2.1, 8, .inl wg))] := (hD.sub [0, 1, 2, 3] (by decide) rfl)
    exact W.iret hx hb hr (fun t9 ht9 hW9 => ⟨⟨(-1), (wg), rfl, w9_r, by rw [ht9]; exact hP9, hD9⟩, hS.F ht9⟩) hS.2.2 dX10_tellingSort_8
