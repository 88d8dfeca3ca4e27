/-! words for the reference: rows of four -/
theorem lcLt (x y : Int64) : lg_cmp x y < 0 ↔ x.toInt < y.toInt := (lg_cmp_lt x y).trans Int64.lt_iff_toInt_lt
theorem lcGe (x y : Int64) : 0 ≤ lg_cmp x y ↔ y.toInt ≤ x.toInt := (lg_cmp_ge x y).trans Int64.le_iff_toInt_le
theorem lcGt (x y : Int64) : 0 < lg_cmp x y ↔ y.toInt < x.toInt := (lg_cmp_gt x y).trans Int64.lt_iff_toInt_lt
theorem lcLe (x y : Int64) : lg_cmp x y ≤ 0 ↔ x.toInt ≤ y.toInt := (lg_cmp_le x y).trans Int64.le_iff_toInt_le
theorem inE {x : Int32} {a b : Int64} {A B : Int} (ha : a.toInt = A) (hb : b.toInt = B) : (a.toInt ≤ x.toInt64.toInt ∧ x.toInt64.toInt ≤ b.toInt) ↔ (A ≤ x.toInt ∧ x.toInt ≤ B) := by rw [Int32.toInt_toInt64, ha, hb]
def rowsF (kI me fl pd : Nat → Int32) : Nat → Int32 := fun q => if q % 4 = 0 then kI (q / 4) else if q % 4 = 1 then me (q / 4) else if q % 4 = 2 then fl (q / 4) else pd (q / 4)
theorem rowsF_0 {kI me fl pd : Nat → Int32} {p : Nat} : rowsF kI me fl pd (4 * p) = kI p := by unfold rowsF; rw [if_pos (by omega)]; congr 1; omega
theorem rowsF_1 {kI me fl pd : Nat → Int32} {p : Nat} : rowsF kI me fl pd (4 * p + 1) = me p := by unfold rowsF; rw [if_neg (by omega), if_pos (by omega)]; congr 1; omega
theorem rowsF_2 {kI me fl pd : Nat → Int32} {p : Nat} : rowsF kI me fl pd (4 * p + 2) = fl p := by unfold rowsF; rw [if_neg (by omega), if_neg (by omega), if_pos (by omega)]; congr 1; omega
theorem rowsF_3 {kI me fl pd : Nat → Int32} {p : Nat} : rowsF kI me fl pd (4 * p + 3) = pd p := by unfold rowsF; rw [if_neg (by omega), if_neg (by omega), if_neg (by omega)]; congr 1; omega
theorem rowsU_0 {kI me fl pd : Nat → Int32} {p : Nat} {x : Int32} (k : Nat) : upd (rowsF kI me fl pd) (4 * p) x k = rowsF (upd kI p x) me fl pd k := by
  by_cases e : k = 4 * p
  · subst e; rw [upd_s, rowsF_0, upd_s]
  · rw [upd_n e]; unfold rowsF; split
    · rw [upd_n (by omega)]
    · rfl
theorem rowsU_1 {kI me fl pd : Nat → Int32} {p : Nat} {x : Int32} (k : Nat) : upd (rowsF kI me fl pd) (4 * p + 1) x k = rowsF kI (upd me p x) fl pd k := by
  by_cases e : k = 4 * p + 1
  · subst e; rw [upd_s, rowsF_1, upd_s]
  · rw [upd_n e]; unfold rowsF; split
    · rfl
    · split
      · rw [upd_n (by omega)]
      · rfl
theorem rowsU_2 {kI me fl pd : Nat → Int32} {p : Nat} {x : Int32} (k : Nat) : upd (rowsF kI me fl pd) (4 * p + 2) x k = rowsF kI me (upd fl p x) pd k := by
  by_cases e : k = 4 * p + 2
  · subst e; rw [upd_s, rowsF_2, upd_s]
  · rw [upd_n e]; unfold rowsF; split
    · rfl
    · split
      · rfl
      · split
        · rw [upd_n (by omega)]
        · rfl
theorem rowsU_3 {kI me fl pd : Nat → Int32} {p : Nat} {x : Int32} (k : Nat) : upd (rowsF kI me fl pd) (4 * p + 3) x k = rowsF kI me fl (upd pd p x) k := by
  by_cases e : k = 4 * p + 3
  · subst e; rw [upd_s, rowsF_3, upd_s]
  · rw [upd_n e]; unfold rowsF; split
    · rfl
    · split
      · rfl
      · split
        · rfl
        · rw [upd_n (by omega)]
def kBy (x : Int32) : Int32 := if x = nI 112 then nI 0 else if x = nI 99 then nI 1 else if x = nI 115 then nI 2 else if x = nI 119 then nI 3 else if x = nI 100 then nI 4 else -1

set_option maxHeartbeats 4000000 in
set_option maxRecDepth 100000 in
theorem m_in (l : Launch) (G : gG) (x : Int64) (y : Int64) (v : Int64)  : Met l yX12_in wsX12_in ({ frames := 0, cells := 0, slots := 0, locals := 0 } : Room) (gR G [.long x, .long y, .long v] []) (vp_Si (fun r : Int32 => r = (bI (y.toInt ≤ x.toInt ∧ x.toInt ≤ v.toInt)))) 0 0 (fun _ => False) := by
  refine Met.ofW (cc := cX12_in) (maxL := 6) (ret := (some .boolean)) (by decide) rfl ?_
  intro p e s m args below meth c s₁ B hml hv
  obtain ⟨rfl, hP, hK⟩ := hv
  have hx := B.exec
  have hb := B.bytes
  have hr := B.returns
  have hts := atoms_spec (ws := wsX12_in) B.pre
  have hown : s.vm.findClass RX12 = some m.cls := findClass_of_methodNamed B.named
  have hlocks := B.notSynchronized
  have hl := lv_entry ([.long x, .long y, .long v]) (n := 6) (Nat.le_of_ble_eq_true rfl)
  rw [lg_entry_eq]
  generalize (lg_sl ([.long x, .long y, .long v]) ++ List.replicate (6 - (lg_sl ([.long x, .long y, .long v])).length) Slot.unset).toArray = ls at hl ⊢
  have hl : lv_has ls 6 [(0, .long x), (2, .long y), (4, .long v)] := hl
  refine lv_lload_n hx hb dX12_in_0 rfl (lv_at hl 0 rfl) ?_
  refine lv_lload_n hx hb dX12_in_1 rfl (lv_at hl 1 rfl) ?_
  refine W.lcmp hx hb dX12_in_2 ?_
  refine lv_if_lt (tgt := 17) hx hb dX12_in_3 (by decide) (fun c_1 => ?_) (fun c_1 => ?_)
  · skip
    have c_1 := (lcLt _ _).mp c_1
    refine lv_iconst (v := (nI 0)) hx hb dX12_in_17 (by decide) ?_
    have w9_r : (nI 0) = (bI (y.toInt ≤ x.toInt ∧ x.toInt ≤ v.toInt)) := (by first | exact bI_t ⟨by omega, by omega⟩ | exact bI_f (by omega))
    exact W.zret (ty := .boolean) hx hb hr (by decide) (fun t9 ht9 _ => ⟨(nI 0), rfl, w9_r, ht9⟩) (fun _ h => absurd h List.not_mem_nil) dX12_in_18
  · skip
    have c_1 := gNot (lcLt _ _) c_1
    refine lv_lload_n hx hb dX12_in_6 rfl (lv_at hl 0 rfl) ?_
    refine lv_lload hx hb dX12_in_7 (lv_at hl 2 rfl) ?_
    refine W.lcmp hx hb dX12_in_9 ?_
    refine lv_if_gt (tgt := 17) hx hb dX12_in_10 (by decide) (fun c_2 => ?_) (fun c_2 => ?_)
    · skip
      have c_2 := (lcGt _ _).mp c_2
      refine lv_iconst (v := (nI 0)) hx hb dX12_in_17 (by decide) ?_
      have w9_r : (nI 0) = (bI (y.toInt ≤ x.toInt ∧ x.toInt ≤ v.toInt)) := (by first | exact bI_t ⟨by omega, by omega⟩ | exact bI_f (by omega))
      exact W.zret (ty := .boolean) hx hb hr (by decide) (fun t9 ht9 _ => ⟨(nI 0), rfl, w9_r, ht9⟩) (fun _ h => absurd h List.not_mem_nil) dX12_in_18
    · skip
      have c_2 := gNot (lcGt _ _) c_2
      refine lv_iconst (v := (nI 1)) hx hb dX12_in_13 (by decide) ?_
      refine lv_goto (tgt := 18) hx hb dX12_in_14 (by decide) ?_
      have w9_r : (nI 1) = (bI (y.toInt ≤ x.toInt ∧ x.toInt ≤ v.toInt)) := (by first | exact bI_t ⟨by omega, by omega⟩ | exact bI_f (by omega))
      exact W.zret (ty := .boolean) hx hb hr (by decide) (fun t9 ht9 _ => ⟨(nI 1), rfl, w9_r, ht9⟩) (fun _ h => absurd h List.not_mem_nil) dX12_in_18

set_option maxHeartbeats 4000000 in
set_option maxRecDepth 100000 in
theorem m_copy (l : Launch) (G : gG) (a1 : Nat) (a2 : Nat) (k : Nat) (f : Nat → Int32) (g : Nat → Int32) (sz : Nat) (hk : k < 2 ^ 31) : Met l yX12_copy wsX12_copy ({ frames := 0, cells := 0, slots := 0, locals := 0 } : Room) (gM G [.ref a1, .ref a2] [(a1, .inl (G.2.1, k, .inl f)), (a2, .inl (G.2.1, k, .inl g))] sz) (va_Qv (fun (u : Unit) => True) (fun u t => va_P G.1 vwCl [(a1, .inl (G.2.1, k, .inl f)), (a2, .inl (G.2.1, k, .inl f))] t.heap ∧ va_D (va_A [(a1, .inl (G.2.1, k, .inl f)), (a2, .inl (G.2.1, k, .inl g))] sz) [(a1, .inl (G.2.1, k, .inl f)), (a2, .inl (G.2.1, k, .inl f))]) (va_A [(a1, .inl (G.2.1, k, .inl f)), (a2, .inl (G.2.1, k, .inl g))] sz)) 0 0 (va_A [(a1, .inl (G.2.1, k, .inl f)), (a2, .inl (G.2.1, k, .inl g))] sz) := by
  refine Met.ofW (cc := cX12_copy) (maxL := 3) (ret := none) (by decide) rfl ?_
  intro p e s m args below meth c s₁ B hml hv
  obtain ⟨rfl, hsz, hP, hK, hD0⟩ := hv
  have hx := B.exec
  have hb := B.bytes
  have hr := B.returns
  have hts := atoms_spec (ws := wsX12_copy) B.pre
  have hown : s.vm.findClass RX12 = some m.cls := findClass_of_methodNamed B.named
  have hlocks := B.notSynchronized
  subst hsz
  have hD := hD0.self (sz := s.heap.size)
  generalize hAe : va_A [(a1, .inl (G.2.1, k, .inl f)), (a2, .inl (G.2.1, k, .inl g))] s.heap.size = A at hD ⊢
  have hA : ∀ q : Nat, s.heap.size ≤ q → A q := fun q h => by rw [← hAe]; exact Or.inr h
  have hS : va_S A s.heap s.heap [] := va_S.rf
  clear hAe hD0
  have hl := lv_entry ([.ref a1, .ref a2]) (n := 3) (Nat.le_of_ble_eq_true rfl)
  rw [lg_entry_eq]
  generalize (lg_sl ([.ref a1, .ref a2]) ++ List.replicate (3 - (lg_sl ([.ref a1, .ref a2])).length) Slot.unset).toArray = ls at hl ⊢
  have hl : lv_has ls 3 [(0, .ref a1), (1, .ref a2)] := hl
  refine lv_iconst (v := (nI 0)) hx hb dX12_copy_0 (by decide) ?_
  refine lv_istore_n (lv' := [(2, .int (nI 0)), (0, .ref a1), (1, .ref a2)]) hx hb dX12_copy_1 rfl hl (by decide) rfl (fun ls hl => ?_)
  refine g_cutM2 (α := Nat) (β := Nat → Int32) 2 (fun i g2 => []) (fun i g2 H locs ls => (i ≤ k) ∧ (∀ j, j < i → g2 j = f j) ∧ va_P G.1 vwCl [(a1, .inl (G.2.1, k, .inl f)), (a2, .inl (G.2.1, k, .inl g2))] H ∧ va_D A [(a1, .inl (G.2.1, k, .inl f)), (a2, .inl (G.2.1, k, .inl g2))] ∧ va_S A s.heap H locs ∧ lv_has ls 3 [(0, .ref a1), (1, .ref a2), (2, .int (nI i))]) (g_loopM2 (α := Nat) (β := Nat → Int32) 2 (fun i g2 => []) (fun i g2 H locs ls => (i ≤ k) ∧ (∀ j, j < i → g2 j = f j) ∧ va_P G.1 vwCl [(a1, .inl (G.2.1, k, .inl f)), (a2, .inl (G.2.1, k, .inl g2))] H ∧ va_D A [(a1, .inl (G.2.1, k, .inl f)), (a2, .inl (G.2.1, k, .inl g2))] ∧ va_S A s.heap H locs ∧ lv_has ls 3 [(0, .ref a1), (1, .ref a2), (2, .int (nI i))]) (fun i g2 => k - i) ?_) (fun L2_1 => ?_)
  · intro i g2 H locs ls hI L2_1
    obtain ⟨hi, hg, hP, hD, hS, hl⟩ := hI
    refine lv_iload_n hx hb dX12_copy_2 rfl (lv_at hl 2 rfl) ?_
    refine lv_aload_n hx hb dX12_copy_3 rfl (lv_at hl 0 rfl) ?_
    refine va_alen hx hb hK.1 hP 0 0 rfl rfl (v := (nI k)) rfl dX12_copy_4 ?_
    refine lv_icmp_ge (tgt := 20) hx hb dX12_copy_5 (by decide) (fun c_2 => ?_) (fun c_2 => ?_)
    · skip
      have c_2 := (cLeNN (a := k) (b := i) (by omega) (by omega)).mp c_2
      have hP := g_arr hP 1 rfl (show ∀ k9, k9 < k → g2 k9 = f k9 from fun j hj => hg j (by omega))
      have hD := hD.set (p := 1) (a := a2) (e := .inl (G.2.1, k, .inl f)) rfl
      have hP : va_P G.1 vwCl [(a1, .inl (G.2.1, k, .inl f)), (a2, .inl (G.2.1, k, .inl f))] H := hP
      have hD : va_D A [(a1, .inl (G.2.1, k, .inl f)), (a2, .inl (G.2.1, k, .inl f))] := hD
      have hP9 : va_P G.1 vwCl [(a1, .inl (G.2.1, k, .inl f)), (a2, .inl (G.2.1, k, .inl f))] H := (hP.sub [0, 1] rfl)
      have hD9 : va_D A [(a1, .inl (G.2.1, k, .inl f)), (a2, .inl (G.2.1, k, .inl f))] := (hD.sub [0, 1] (by decide) rfl)
      exact W.vret hx hb hr (fun t9 ht9 hW9 => ⟨⟨(), rfl, trivial, by rw [ht9]; exact hP9, hD9⟩, hS.F ht9⟩) hS.2.2 dX12_copy_20
    · skip
      have c_2 := gNot (cLeNN (a := k) (b := i) (by omega) (by omega)) c_2
      refine lv_aload_n hx hb dX12_copy_8 rfl (lv_at hl 1 rfl) ?_
      refine lv_iload_n hx hb dX12_copy_9 rfl (lv_at hl 2 rfl) ?_
      refine lv_aload_n hx hb dX12_copy_10 rfl (lv_at hl 0 rfl) ?_
      refine lv_iload_n hx hb dX12_copy_11 rfl (lv_at hl 2 rfl) ?_
      refine g_iald hx hb hK hP 0 rfl (by omega) (by omega) dX12_copy_12 ?_
      refine g_iast hx hb hK hP hD hS 1 rfl (by omega) (by omega) dX12_copy_13 (fun H locs hP hD hS => ?_)
      have hP : va_P G.1 vwCl [(a1, .inl (G.2.1, k, .inl f)), (a2, .inl (G.2.1, k, .inl (upd g2 i (f i))))] H := hP
      have hD : va_D A [(a1, .inl (G.2.1, k, .inl f)), (a2, .inl (G.2.1, k, .inl (upd g2 i (f i))))] := hD
      refine lv_iinc (v := (nI (i + 1))) (lv' := [(2, .int (nI (i + 1))), (0, .ref a1), (1, .ref a2)]) hx hb dX12_copy_14 hl (k := 2) rfl (nI_iinc (by decide)) (by decide) rfl (fun ls hl => ?_)
      refine lv_goto (tgt := 2) hx hb dX12_copy_17 (by decide) ?_
      exact L2_1 (i + 1) (upd g2 i (f i)) _ _ _ (by omega) ⟨(by omega), up_all hg rfl, (hP.sub [0, 1] rfl), (hD.sub [0, 1] (by decide) rfl), hS, lv_sub hl [1, 2, 0] rfl⟩
  · skip
    exact L2_1 0 g _ _ _ ⟨(by omega), up_0, (hP.sub [0, 1] rfl), (hD.sub [0, 1] (by decide) rfl), hS, lv_sub hl [1, 2, 0] rfl⟩

set_option maxHeartbeats 4000000 in
set_option maxRecDepth 100000 in
theorem m_kindBy (l : Launch) (G : gG) (x : Int32)  : Met l yX12_kindBy wsX12_kindBy ({ frames := 0, cells := 0, slots := 0, locals := 0 } : Room) (gR G [.int x] []) (vp_Si (fun r : Int32 => r = (kBy x))) 0 0 (fun _ => False) := by
  refine Met.ofW (cc := cX12_kindBy) (maxL := 1) (ret := (some .int)) (by decide) rfl ?_
  intro p e s m args below meth c s₁ B hml hv
  obtain ⟨rfl, hP, hK⟩ := hv
  have hx := B.exec
  have hb := B.bytes
  have hr := B.returns
  have hts := atoms_spec (ws := wsX12_kindBy) B.pre
  have hown : s.vm.findClass RX12 = some m.cls := findClass_of_methodNamed B.named
  have hlocks := B.notSynchronized
  have hl := lv_entry ([.int x]) (n := 1) (Nat.le_of_ble_eq_true rfl)
  rw [lg_entry_eq]
  generalize (lg_sl ([.int x]) ++ List.replicate (1 - (lg_sl ([.int x])).length) Slot.unset).toArray = ls at hl ⊢
  have hl : lv_has ls 1 [(0, .int x)] := hl
  refine lv_iload_n hx hb dX12_kindBy_0 rfl (lv_at hl 0 rfl) ?_
  refine lv_bipush (v := (nI 112)) hx hb dX12_kindBy_1 (by decide) ?_
  refine lv_icmp_ne (tgt := 10) hx hb dX12_kindBy_3 (by decide) (fun c_1 => ?_) (fun c_1 => ?_)
  · skip
    refine lv_iload_n hx hb dX12_kindBy_10 rfl (lv_at hl 0 rfl) ?_
    refine lv_bipush (v := (nI 99)) hx hb dX12_kindBy_11 (by decide) ?_
    refine lv_icmp_ne (tgt := 20) hx hb dX12_kindBy_13 (by decide) (fun c_2 => ?_) (fun c_2 => ?_)
    · skip
      refine lv_iload_n hx hb dX12_kindBy_20 rfl (lv_at hl 0 rfl) ?_
      refine lv_bipush (v := (nI 115)) hx hb dX12_kindBy_21 (by decide) ?_
      refine lv_icmp_ne (tgt := 30) hx hb dX12_kindBy_23 (by decide) (fun c_3 => ?_) (fun c_3 => ?_)
      · skip
        refine lv_iload_n hx hb dX12_kindBy_30 rfl (lv_at hl 0 rfl) ?_
        refine lv_bipush (v := (nI 119)) hx hb dX12_kindBy_31 (by decide) ?_
        refine lv_icmp_ne (tgt := 40) hx hb dX12_kindBy_33 (by decide) (fun c_4 => ?_) (fun c_4 => ?_)
        · skip
          refine lv_iload_n hx hb dX12_kindBy_40 rfl (lv_at hl 0 rfl) ?_
          refine lv_bipush (v := (nI 100)) hx hb dX12_kindBy_41 (by decide) ?_
          refine lv_icmp_ne (tgt := 50) hx hb dX12_kindBy_43 (by decide) (fun c_5 => ?_) (fun c_5 => ?_)
          · skip
            refine lv_iconst (v := (-1)) hx hb dX12_kindBy_50 (by decide) ?_
            have w9_r : (-1) = (kBy x) := (by unfold kBy; first | rw [if_pos (by assumption)] | rw [if_neg (by assumption), if_pos (by assumption)] | rw [if_neg (by assumption), if_neg (by assumption), if_pos (by assumption)] | rw [if_neg (by assumption), if_neg (by assumption), if_neg (by assumption), if_pos (by assumption)] | rw [if_neg (by assumption), if_neg (by assumption), if_neg (by assumption), if_neg (by assumption), if_pos (by assumption)] | rw [if_neg (by assumption), if_neg (by assumption), if_neg (by assumption), if_neg (by assumption), if_neg (by assumption)])
            exact W.iret hx hb hr (fun t9 ht9 _ => ⟨(-1), rfl, w9_r, ht9⟩) (fun _ h => absurd h List.not_mem_nil) dX12_kindBy_51
          · skip
            refine lv_iconst (v := (nI 4)) hx hb dX12_kindBy_46 (by decide) ?_
            refine lv_goto (tgt := 51) hx hb dX12_kindBy_47 (by decide) ?_
            have w9_r : (nI 4) = (kBy x) := (by unfold kBy; first | rw [if_pos (by assumption)] | rw [if_neg (by assumption), if_pos (by assumption)] | rw [if_neg (by assumption), if_neg (by assumption), if_pos (by assumption)] | rw [if_neg (by assumption), if_neg (by assumption), if_neg (by assumption), if_pos (by assumption)] | rw [if_neg (by assumption), if_neg (by assumption), if_neg (by assumption), if_neg (by assumption), if_pos (by assumption)] | rw [if_neg (by assumption), if_neg (by assumption), if_neg (by assumption), if_neg (by assumption), if_neg (by assumption)])
            exact W.iret hx hb hr (fun t9 ht9 _ => ⟨(nI 4), rfl, w9_r, ht9⟩) (fun _ h => absurd h List.not_mem_nil) dX12_kindBy_51
        · skip
          refine lv_iconst (v := (nI 3)) hx hb dX12_kindBy_36 (by decide) ?_
          refine lv_goto (tgt := 51) hx hb dX12_kindBy_37 (by decide) ?_
          have w9_r : (nI 3) = (kBy x) := (by unfold kBy; first | rw [if_pos (by assumption)] | rw [if_neg (by assumption), if_pos (by assumption)] | rw [if_neg (by assumption), if_neg (by assumption), if_pos (by assumption)] | rw [if_neg (by assumption), if_neg (by assumption), if_neg (by assumption), if_pos (by assumption)] | rw [if_neg (by assumption), if_neg (by assumption), if_neg (by assumption), if_neg (by assumption), if_pos (by assumption)] | rw [if_neg (by assumption), if_neg (by assumption), if_neg (by assumption), if_neg (by assumption), if_neg (by assumption)])
          exact W.iret hx hb hr (fun t9 ht9 _ => ⟨(nI 3), rfl, w9_r, ht9⟩) (fun _ h => absurd h List.not_mem_nil) dX12_kindBy_51
      · skip
        refine lv_iconst (v := (nI 2)) hx hb dX12_kindBy_26 (by decide) ?_
        refine lv_goto (tgt := 51) hx hb dX12_kindBy_27 (by decide) ?_
        have w9_r : (nI 2) = (kBy x) := (by unfold kBy; first | rw [if_pos (by assumption)] | rw [if_neg (by assumption), if_pos (by assumption)] | rw [if_neg (by assumption), if_neg (by assumption), if_pos (by assumption)] | rw [if_neg (by assumption), if_neg (by assumption), if_neg (by assumption), if_pos (by assumption)] | rw [if_neg (by assumption), if_neg (by assumption), if_neg (by assumption), if_neg (by assumption), if_pos (by assumption)] | rw [if_neg (by assumption), if_neg (by assumption), if_neg (by assumption), if_neg (by assumption), if_neg (by assumption)])
        exact W.iret hx hb hr (fun t9 ht9 _ => ⟨(nI 2), rfl, w9_r, ht9⟩) (fun _ h => absurd h List.not_mem_nil) dX12_kindBy_51
    · skip
      refine lv_iconst (v := (nI 1)) hx hb dX12_kindBy_16 (by decide) ?_
      refine lv_goto (tgt := 51) hx hb dX12_kindBy_17 (by decide) ?_
      have w9_r : (nI 1) = (kBy x) := (by unfold kBy; first | rw [if_pos (by assumption)] | rw [if_neg (by assumption), if_pos (by assumption)] | rw [if_neg (by assumption), if_neg (by assumption), if_pos (by assumption)] | rw [if_neg (by assumption), if_neg (by assumption), if_neg (by assumption), if_pos (by assumption)] | rw [if_neg (by assumption), if_neg (by assumption), if_neg (by assumption), if_neg (by assumption), if_pos (by assumption)] | rw [if_neg (by assumption), if_neg (by assumption), if_neg (by assumption), if_neg (by assumption), if_neg (by assumption)])
      exact W.iret hx hb hr (fun t9 ht9 _ => ⟨(nI 1), rfl, w9_r, ht9⟩) (fun _ h => absurd h List.not_mem_nil) dX12_kindBy_51
  · skip
    refine lv_iconst (v := (nI 0)) hx hb dX12_kindBy_6 (by decide) ?_
    refine lv_goto (tgt := 51) hx hb dX12_kindBy_7 (by decide) ?_
    have w9_r : (nI 0) = (kBy x) := (by unfold kBy; first | rw [if_pos (by assumption)] | rw [if_neg (by assumption), if_pos (by assumption)] | rw [if_neg (by assumption), if_neg (by assumption), if_pos (by assumption)] | rw [if_neg (by assumption), if_neg (by assumption), if_neg (by assumption), if_pos (by assumption)] | rw [if_neg (by assumption), if_neg (by assumption), if_neg (by assumption), if_neg (by assumption), if_pos (by assumption)] | rw [if_neg (by assumption), if_neg (by assumption), if_neg (by assumption), if_neg (by assumption), if_neg (by assumption)])
    exact W.iret hx hb hr (fun t9 ht9 _ => ⟨(nI 0), rfl, w9_r, ht9⟩) (fun _ h => absurd h List.not_mem_nil) dX12_kindBy_51

set_option maxHeartbeats 4000000 in
set_option maxRecDepth 100000 in
theorem m_lacks (l : Launch) (G : gG) (bd : Nat → Nat) (ln : Nat) (rM : Int32) (rK : Int32) (sT : Int32) (n : Nat) (h : Nat) (mk : Nat) (ps : Int32) (rr : Int32) (sH : Int32) (sM : Int32) (sP : Int32) (z : Nat) (sd : Int32) (kR : Int32) (kH : Int32) (kM : Int32) (kP : Int32) (kz : Nat) (hs : Int64) (hn : n ≤ 4) : Met l yX12_lacks wsX12_lacks ({ frames := 0, cells := 0, slots := 0, locals := 0 } : Room) (gR G [.ref (bd 0)] [(bd 0, .inr (12, [.ref (bd 1), .int (nI ln), .ref (bd 2), .int rM, .int rK, .int sT, .int (nI n), .int (nI h), .int (nI mk), .int ps, .int rr, .ref (bd 3), .ref (bd 4), .int sH, .int sM, .int sP, .ref (bd 5), .ref (bd 6), .ref (bd 7), .int (nI z), .ref (bd 8), .ref (bd 9), .ref (bd 10), .ref (bd 11), .int sd, .int kR, .int kH, .int kM, .int kP, .int (nI kz), .ref (bd 12), .ref (bd 13), .long hs]))]) (vp_Si (fun r : Int32 => r = (bI (n = 0)))) 0 0 (fun _ => False) := by
  refine Met.ofW (cc := cX12_lacks) (maxL := 1) (ret := (some .boolean)) (by decide) rfl ?_
  intro p e s m args below meth c s₁ B hml hv
  obtain ⟨rfl, hP, hK⟩ := hv
  have hx := B.exec
  have hb := B.bytes
  have hr := B.returns
  have hts := atoms_spec (ws := wsX12_lacks) B.pre
  have hown : s.vm.findClass RX12 = some m.cls := findClass_of_methodNamed B.named
  have hlocks := B.notSynchronized
  have hl := lv_entry ([.ref (bd 0)]) (n := 1) (Nat.le_of_ble_eq_true rfl)
  rw [lg_entry_eq]
  generalize (lg_sl ([.ref (bd 0)]) ++ List.replicate (1 - (lg_sl ([.ref (bd 0)])).length) Slot.unset).toArray = ls at hl ⊢
  have hl : lv_has ls 1 [(0, .ref (bd 0))] := hl
  refine lv_aload_n hx hb dX12_lacks_0 rfl (lv_at hl 0 rfl) ?_
  refine va_get (D := G.1) (ci := 12) (v := .int (nI n)) (C := RX12) (T := TX12) (N := 33) hx hb hts (g_in wsX120 2 rfl) hown hK.1 hP 0 rfl rfl 6 (by decide) (hts _ (List.mem_of_getElem? (i := 1) rfl)) (fun _ h9 => h9) rfl dX12_lacks_1 ?_
  refine lv_if_ne (tgt := 11) hx hb dX12_lacks_4 (by decide) (fun c_1 => ?_) (fun c_1 => ?_)
  · skip
    have c_1 := gNot (cEqNN (a := n) (b := 0) (by omega) (by omega)) c_1
    refine lv_iconst (v := (nI 0)) hx hb dX12_lacks_11 (by decide) ?_
    have w9_r : (nI 0) = (bI (n = 0)) := (by first | exact bI_t (by omega) | exact bI_f (by omega))
    exact W.zret (ty := .boolean) hx hb hr (by decide) (fun t9 ht9 _ => ⟨(nI 0), rfl, w9_r, ht9⟩) (fun _ h => absurd h List.not_mem_nil) dX12_lacks_12
  · skip
    have c_1 := (cEqNN (a := n) (b := 0) (by omega) (by omega)).mp c_1
    refine lv_iconst (v := (nI 1)) hx hb dX12_lacks_7 (by decide) ?_
    refine lv_goto (tgt := 12) hx hb dX12_lacks_8 (by decide) ?_
    have w9_r : (nI 1) = (bI (n = 0)) := (by first | exact bI_t (by omega) | exact bI_f (by omega))
    exact W.zret (ty := .boolean) hx hb hr (by decide) (fun t9 ht9 _ => ⟨(nI 1), rfl, w9_r, ht9⟩) (fun _ h => absurd h List.not_mem_nil) dX12_lacks_12

set_option maxHeartbeats 4000000 in
set_option maxRecDepth 100000 in
theorem m_doneBy (l : Launch) (G : gG) (bd : Nat → Nat) (ln : Nat) (rM : Int32) (rK : Int32) (sT : Int32) (n : Nat) (h : Nat) (mk : Nat) (ps : Int32) (rr : Int32) (sH : Int32) (sM : Int32) (sP : Int32) (z : Nat) (sd : Int32) (kR : Int32) (kH : Int32) (kM : Int32) (kP : Int32) (kz : Nat) (hs : Int64) (kI : Nat → Int32) (me : Nat → Int32) (fl : Nat → Int32) (pd : Nat → Int32) (kd : Nat → Nat) (j : Nat) (mm : Nat) (hn : n ≤ 4) (hkI : ∀ i, i < n → kI i = nI (kd i)) (hkd : ∀ i, i < n → kd i < 5) (hj : j < n) (hm : mm < 32) : Met l yX12_doneBy wsX12_doneBy ({ frames := 0, cells := 0, slots := 0, locals := 0 } : Room) (gR G [.ref (bd 0), .int (nI j), .int (nI mm)] [(bd 0, .inr (12, [.ref (bd 1), .int (nI ln), .ref (bd 2), .int rM, .int rK, .int sT, .int (nI n), .int (nI h), .int (nI mk), .int ps, .int rr, .ref (bd 3), .ref (bd 4), .int sH, .int sM, .int sP, .ref (bd 5), .ref (bd 6), .ref (bd 7), .int (nI z), .ref (bd 8), .ref (bd 9), .ref (bd 10), .ref (bd 11), .int sd, .int kR, .int kH, .int kM, .int kP, .int (nI kz), .ref (bd 12), .ref (bd 13), .long hs])), (bd 3, .inl (G.2.1, 16, .inl (rowsF kI me fl pd)))]) (vp_Si (fun r : Int32 => r = (nI (touch (kd j) j mm)))) 0 0 (fun _ => False) := by
  refine Met.ofW (cc := cX12_doneBy) (maxL := 6) (ret := (some .int)) (by decide) rfl ?_
  intro p e s m args below meth c s₁ B hml hv
  obtain ⟨rfl, hP, hK⟩ := hv
  have hx := B.exec
  have hb := B.bytes
  have hr := B.returns
  have hts := atoms_spec (ws := wsX12_doneBy) B.pre
  have hown : s.vm.findClass RX12 = some m.cls := findClass_of_methodNamed B.named
  have hlocks := B.notSynchronized
  have hl := lv_entry ([.ref (bd 0), .int (nI j), .int (nI mm)]) (n := 6) (Nat.le_of_ble_eq_true rfl)
  rw [lg_entry_eq]
  generalize (lg_sl ([.ref (bd 0), .int (nI j), .int (nI mm)]) ++ List.replicate (6 - (lg_sl ([.ref (bd 0), .int (nI j), .int (nI mm)])).length) Slot.unset).toArray = ls at hl ⊢
  have hl : lv_has ls 6 [(0, .ref (bd 0)), (1, .int (nI j)), (2, .int (nI mm))] := hl
  refine lv_iload_n hx hb dX12_doneBy_0 rfl (lv_at hl 2 rfl) ?_
  refine lv_bipush (v := (nI 8)) hx hb dX12_doneBy_1 (by decide) ?_
  refine lv_idiv hx hb dX12_doneBy_3 (by decide) ?_
  refine g_top (y := (nI (mm / 8))) (pk_div (by omega) (by omega) (by omega)) ?_
  refine lv_istore_n (lv' := [(3, .int (nI (mm / 8))), (0, .ref (bd 0)), (1, .int (nI j)), (2, .int (nI mm))]) hx hb dX12_doneBy_4 rfl hl (by decide) rfl (fun ls hl => ?_)
  refine lv_iload_n hx hb dX12_doneBy_5 rfl (lv_at hl 3 rfl) ?_
  refine lv_bipush (v := (nI 8)) hx hb dX12_doneBy_6 (by decide) ?_
  refine lv_irem hx hb dX12_doneBy_8 (by decide) ?_
  refine g_top (y := (nI (mm % 8))) (pk_rem (by omega) (by omega) (by omega)) ?_
  refine lv_istore (lv' := [(4, .int (nI (mm % 8))), (3, .int (nI (mm / 8))), (0, .ref (bd 0)), (1, .int (nI j)), (2, .int (nI mm))]) hx hb dX12_doneBy_9 hl (by decide) rfl (fun ls hl => ?_)
  refine lv_aload_n hx hb dX12_doneBy_11 rfl (lv_at hl 2 rfl) ?_
  refine va_get (D := G.1) (ci := 12) (v := .ref (bd 3)) (C := RX12) (T := TX12) (N := 33) hx hb hts (g_in wsX120 2 rfl) hown hK.1 hP 0 rfl rfl 11 (by decide) (hts _ (List.mem_of_getElem? (i := 1) rfl)) (fun _ h9 => h9) rfl dX12_doneBy_12 ?_
  refine lv_iconst (v := (nI 4)) hx hb dX12_doneBy_15 (by decide) ?_
  refine lv_iload_n hx hb dX12_doneBy_16 rfl (lv_at hl 3 rfl) ?_
  refine lv_imul hx hb dX12_doneBy_17 ?_
  refine g_top (y := (nI (4 * j))) (pk_mul _ _) ?_
  refine g_iald hx hb hK hP 1 rfl (by omega) (by decide) dX12_doneBy_18 ?_
  refine g_top (y := (nI (kd j))) (rowsF_0.trans (hkI j hj)) ?_
  refine lv_istore (lv' := [(5, .int (nI (kd j))), (4, .int (nI (mm % 8))), (3, .int (nI (mm / 8))), (0, .ref (bd 0)), (1, .int (nI j)), (2, .int (nI mm))]) hx hb dX12_doneBy_19 hl (by decide) rfl (fun ls hl => ?_)
  have hk5 := hkd j hj
  refine lv_iload hx hb dX12_doneBy_21 (lv_at hl 0 rfl) ?_
  refine lv_iconst (v := (nI 1)) hx hb dX12_doneBy_23 (by decide) ?_
  refine lv_icmp_eq (tgt := 33) hx hb dX12_doneBy_24 (by decide) (fun c_1 => ?_) (fun c_1 => ?_)
  · skip
    have c_1 := (cEqNN (a := kd j) (b := 1) (by omega) (by omega)).mp c_1
    refine lv_iload_n hx hb dX12_doneBy_33 rfl (lv_at hl 2 rfl) ?_
    refine lv_iconst (v := (nI 1)) hx hb dX12_doneBy_34 (by decide) ?_
    refine lv_iadd hx hb dX12_doneBy_35 ?_
    refine g_top (y := (nI ((mm / 8) + 1))) (nI_add _ _) ?_
    refine lv_iconst (v := (nI 4)) hx hb dX12_doneBy_36 (by decide) ?_
    refine lv_irem hx hb dX12_doneBy_37 (by decide) ?_
    refine g_top (y := (nI (((mm / 8) + 1) % 4))) (pk_rem (by omega) (by omega) (by omega)) ?_
    refine lv_goto (tgt := 42) hx hb dX12_doneBy_38 (by decide) ?_
    refine lv_istore_n (lv' := [(3, .int (nI (((mm / 8) + 1) % 4))), (5, .int (nI (kd j))), (4, .int (nI (mm % 8))), (0, .ref (bd 0)), (1, .int (nI j)), (2, .int (nI mm))]) hx hb dX12_doneBy_42 rfl hl (by decide) rfl (fun ls hl => ?_)
    refine lv_iload hx hb dX12_doneBy_43 (lv_at hl 1 rfl) ?_
    refine lv_iconst (v := (nI 2)) hx hb dX12_doneBy_45 (by decide) ?_
    refine lv_icmp_ne (tgt := 63) hx hb dX12_doneBy_46 (by decide) (fun c_2 => ?_) (fun c_2 => ?_)
    · skip
      have c_2 := gNot (cEqNN (a := kd j) (b := 2) (by omega) (by omega)) c_2
      refine lv_iload hx hb dX12_doneBy_63 (lv_at hl 1 rfl) ?_
      refine lv_iconst (v := (nI 3)) hx hb dX12_doneBy_65 (by decide) ?_
      refine lv_icmp_ne (tgt := 73) hx hb dX12_doneBy_66 (by decide) (fun c_3 => ?_) (fun c_3 => ?_)
      · skip
        have c_3 := gNot (cEqNN (a := kd j) (b := 3) (by omega) (by omega)) c_3
        refine lv_iload hx hb dX12_doneBy_73 (lv_at hl 1 rfl) ?_
        refine lv_iconst (v := (nI 4)) hx hb dX12_doneBy_75 (by decide) ?_
        refine lv_icmp_ne (tgt := 87) hx hb dX12_doneBy_76 (by decide) (fun c_4 => ?_) (fun c_4 => ?_)
        · skip
          have c_4 := gNot (cEqNN (a := kd j) (b := 4) (by omega) (by omega)) c_4
          refine lv_iload hx hb dX12_doneBy_87 (lv_at hl 2 rfl) ?_
          refine lv_istore (lv' := [(4, .int (nI (mm % 8))), (3, .int (nI (((mm / 8) + 1) % 4))), (5, .int (nI (kd j))), (0, .ref (bd 0)), (1, .int (nI j)), (2, .int (nI mm))]) hx hb dX12_doneBy_89 hl (by decide) rfl (fun ls hl => ?_)
          refine lv_bipush (v := (nI 8)) hx hb dX12_doneBy_91 (by decide) ?_
          refine lv_iload_n hx hb dX12_doneBy_93 rfl (lv_at hl 1 rfl) ?_
          refine lv_imul hx hb dX12_doneBy_94 ?_
          refine g_top (y := (nI (8 * (((mm / 8) + 1) % 4)))) (pk_mul _ _) ?_
          refine lv_iload hx hb dX12_doneBy_95 (lv_at hl 0 rfl) ?_
          refine lv_iadd hx hb dX12_doneBy_97 ?_
          refine g_top (y := (nI ((8 * (((mm / 8) + 1) % 4)) + (mm % 8)))) (nI_add _ _) ?_
          have w9_r : (nI ((8 * (((mm / 8) + 1) % 4)) + (mm % 8))) = (nI (touch (kd j) j mm)) := (congrArg nI (by unfold touch; (repeat' split); all_goals omega))
          exact W.iret hx hb hr (fun t9 ht9 _ => ⟨(nI ((8 * (((mm / 8) + 1) % 4)) + (mm % 8))), rfl, w9_r, ht9⟩) (fun _ h => absurd h List.not_mem_nil) dX12_doneBy_98
        · skip
          have c_4 := (cEqNN (a := kd j) (b := 4) (by omega) (by omega)).mp c_4
          refine lv_bipush (v := (nI 7)) hx hb dX12_doneBy_79 (by decide) ?_
          refine lv_iload hx hb dX12_doneBy_81 (lv_at hl 2 rfl) ?_
          refine lv_isub hx hb dX12_doneBy_83 ?_
          refine g_top (y := (nI (7 - (mm % 8)))) (pk_sub (by omega)) ?_
          refine lv_goto (tgt := 89) hx hb dX12_doneBy_84 (by decide) ?_
          refine lv_istore (lv' := [(4, .int (nI (7 - (mm % 8)))), (3, .int (nI (((mm / 8) + 1) % 4))), (5, .int (nI (kd j))), (0, .ref (bd 0)), (1, .int (nI j)), (2, .int (nI mm))]) hx hb dX12_doneBy_89 hl (by decide) rfl (fun ls hl => ?_)
          refine lv_bipush (v := (nI 8)) hx hb dX12_doneBy_91 (by decide) ?_
          refine lv_iload_n hx hb dX12_doneBy_93 rfl (lv_at hl 1 rfl) ?_
          refine lv_imul hx hb dX12_doneBy_94 ?_
          refine g_top (y := (nI (8 * (((mm / 8) + 1) % 4)))) (pk_mul _ _) ?_
          refine lv_iload hx hb dX12_doneBy_95 (lv_at hl 0 rfl) ?_
          refine lv_iadd hx hb dX12_doneBy_97 ?_
          refine g_top (y := (nI ((8 * (((mm / 8) + 1) % 4)) + (7 - (mm % 8))))) (nI_add _ _) ?_
          have w9_r : (nI ((8 * (((mm / 8) + 1) % 4)) + (7 - (mm % 8)))) = (nI (touch (kd j) j mm)) := (congrArg nI (by unfold touch; (repeat' split); all_goals omega))
          exact W.iret hx hb hr (fun t9 ht9 _ => ⟨(nI ((8 * (((mm / 8) + 1) % 4)) + (7 - (mm % 8)))), rfl, w9_r, ht9⟩) (fun _ h => absurd h List.not_mem_nil) dX12_doneBy_98
      · skip
        have c_3 := (cEqNN (a := kd j) (b := 3) (by omega) (by omega)).mp c_3
        refine lv_iconst (v := (nI 0)) hx hb dX12_doneBy_69 (by decide) ?_
        refine lv_goto (tgt := 89) hx hb dX12_doneBy_70 (by decide) ?_
        refine lv_istore (lv' := [(4, .int (nI 0)), (3, .int (nI (((mm / 8) + 1) % 4))), (5, .int (nI (kd j))), (0, .ref (bd 0)), (1, .int (nI j)), (2, .int (nI mm))]) hx hb dX12_doneBy_89 hl (by decide) rfl (fun ls hl => ?_)
        refine lv_bipush (v := (nI 8)) hx hb dX12_doneBy_91 (by decide) ?_
        refine lv_iload_n hx hb dX12_doneBy_93 rfl (lv_at hl 1 rfl) ?_
        refine lv_imul hx hb dX12_doneBy_94 ?_
        refine g_top (y := (nI (8 * (((mm / 8) + 1) % 4)))) (pk_mul _ _) ?_
        refine lv_iload hx hb dX12_doneBy_95 (lv_at hl 0 rfl) ?_
        refine lv_iadd hx hb dX12_doneBy_97 ?_
        refine g_top (y := (nI ((8 * (((mm / 8) + 1) % 4)) + 0))) (nI_add _ _) ?_
        have w9_r : (nI ((8 * (((mm / 8) + 1) % 4)) + 0)) = (nI (touch (kd j) j mm)) := (congrArg nI (by unfold touch; (repeat' split); all_goals omega))
        exact W.iret hx hb hr (fun t9 ht9 _ => ⟨(nI ((8 * (((mm / 8) + 1) % 4)) + 0)), rfl, w9_r, ht9⟩) (fun _ h => absurd h List.not_mem_nil) dX12_doneBy_98
    · skip
      have c_2 := (cEqNN (a := kd j) (b := 2) (by omega) (by omega)).mp c_2
      refine lv_iconst (v := (nI 3)) hx hb dX12_doneBy_49 (by decide) ?_
      refine lv_iload hx hb dX12_doneBy_50 (lv_at hl 2 rfl) ?_
      refine lv_imul hx hb dX12_doneBy_52 ?_
      refine g_top (y := (nI (3 * (mm % 8)))) (pk_mul _ _) ?_
      refine lv_iload_n hx hb dX12_doneBy_53 rfl (lv_at hl 4 rfl) ?_
      refine lv_iadd hx hb dX12_doneBy_54 ?_
      refine g_top (y := (nI ((3 * (mm % 8)) + j))) (nI_add _ _) ?_
      refine lv_iconst (v := (nI 1)) hx hb dX12_doneBy_55 (by decide) ?_
      refine lv_iadd hx hb dX12_doneBy_56 ?_
      refine g_top (y := (nI (((3 * (mm % 8)) + j) + 1))) (nI_add _ _) ?_
      refine lv_bipush (v := (nI 8)) hx hb dX12_doneBy_57 (by decide) ?_
      refine lv_irem hx hb dX12_doneBy_59 (by decide) ?_
      refine g_top (y := (nI ((((3 * (mm % 8)) + j) + 1) % 8))) (pk_rem (by omega) (by omega) (by omega)) ?_
      refine lv_goto (tgt := 89) hx hb dX12_doneBy_60 (by decide) ?_
      refine lv_istore (lv' := [(4, .int (nI ((((3 * (mm % 8)) + j) + 1) % 8))), (3, .int (nI (((mm / 8) + 1) % 4))), (5, .int (nI (kd j))), (0, .ref (bd 0)), (1, .int (nI j)), (2, .int (nI mm))]) hx hb dX12_doneBy_89 hl (by decide) rfl (fun ls hl => ?_)
      refine lv_bipush (v := (nI 8)) hx hb dX12_doneBy_91 (by decide) ?_
      refine lv_iload_n hx hb dX12_doneBy_93 rfl (lv_at hl 1 rfl) ?_
      refine lv_imul hx hb dX12_doneBy_94 ?_
      refine g_top (y := (nI (8 * (((mm / 8) + 1) % 4)))) (pk_mul _ _) ?_
      refine lv_iload hx hb dX12_doneBy_95 (lv_at hl 0 rfl) ?_
      refine lv_iadd hx hb dX12_doneBy_97 ?_
      refine g_top (y := (nI ((8 * (((mm / 8) + 1) % 4)) + ((((3 * (mm % 8)) + j) + 1) % 8)))) (nI_add _ _) ?_
      have w9_r : (nI ((8 * (((mm / 8) + 1) % 4)) + ((((3 * (mm % 8)) + j) + 1) % 8))) = (nI (touch (kd j) j mm)) := (congrArg nI (by unfold touch; (repeat' split); all_goals omega))
      exact W.iret hx hb hr (fun t9 ht9 _ => ⟨(nI ((8 * (((mm / 8) + 1) % 4)) + ((((3 * (mm % 8)) + j) + 1) % 8))), rfl, w9_r, ht9⟩) (fun _ h => absurd h List.not_mem_nil) dX12_doneBy_98
  · skip
    have c_1 := gNot (cEqNN (a := kd j) (b := 1) (by omega) (by omega)) c_1
    refine lv_iload hx hb dX12_doneBy_27 (lv_at hl 0 rfl) ?_
    refine lv_iconst (v := (nI 4)) hx hb dX12_doneBy_29 (by decide) ?_
    refine lv_icmp_ne (tgt := 41) hx hb dX12_doneBy_30 (by decide) (fun c_5 => ?_) (fun c_5 => ?_)
    · skip
      have c_5 := gNot (cEqNN (a := kd j) (b := 4) (by omega) (by omega)) c_5
      refine lv_iload_n hx hb dX12_doneBy_41 rfl (lv_at hl 2 rfl) ?_
      refine lv_istore_n (lv' := [(3, .int (nI (mm / 8))), (5, .int (nI (kd j))), (4, .int (nI (mm % 8))), (0, .ref (bd 0)), (1, .int (nI j)), (2, .int (nI mm))]) hx hb dX12_doneBy_42 rfl hl (by decide) rfl (fun ls hl => ?_)
      refine lv_iload hx hb dX12_doneBy_43 (lv_at hl 1 rfl) ?_
      refine lv_iconst (v := (nI 2)) hx hb dX12_doneBy_45 (by decide) ?_
      refine lv_icmp_ne (tgt := 63) hx hb dX12_doneBy_46 (by decide) (fun c_6 => ?_) (fun c_6 => ?_)
      · skip
        have c_6 := gNot (cEqNN (a := kd j) (b := 2) (by omega) (by omega)) c_6
        refine lv_iload hx hb dX12_doneBy_63 (lv_at hl 1 rfl) ?_
        refine lv_iconst (v := (nI 3)) hx hb dX12_doneBy_65 (by decide) ?_
        refine lv_icmp_ne (tgt := 73) hx hb dX12_doneBy_66 (by decide) (fun c_7 => ?_) (fun c_7 => ?_)
        · skip
          have c_7 := gNot (cEqNN (a := kd j) (b := 3) (by omega) (by omega)) c_7
          refine lv_iload hx hb dX12_doneBy_73 (lv_at hl 1 rfl) ?_
          refine lv_iconst (v := (nI 4)) hx hb dX12_doneBy_75 (by decide) ?_
          refine lv_icmp_ne (tgt := 87) hx hb dX12_doneBy_76 (by decide) (fun c_8 => ?_) (fun c_8 => ?_)
          · skip
            have c_8 := gNot (cEqNN (a := kd j) (b := 4) (by omega) (by omega)) c_8
            refine lv_iload hx hb dX12_doneBy_87 (lv_at hl 2 rfl) ?_
            refine lv_istore (lv' := [(4, .int (nI (mm % 8))), (3, .int (nI (mm / 8))), (5, .int (nI (kd j))), (0, .ref (bd 0)), (1, .int (nI j)), (2, .int (nI mm))]) hx hb dX12_doneBy_89 hl (by decide) rfl (fun ls hl => ?_)
            refine lv_bipush (v := (nI 8)) hx hb dX12_doneBy_91 (by decide) ?_
            refine lv_iload_n hx hb dX12_doneBy_93 rfl (lv_at hl 1 rfl) ?_
            refine lv_imul hx hb dX12_doneBy_94 ?_
            refine g_top (y := (nI (8 * (mm / 8)))) (pk_mul _ _) ?_
            refine lv_iload hx hb dX12_doneBy_95 (lv_at hl 0 rfl) ?_
            refine lv_iadd hx hb dX12_doneBy_97 ?_
            refine g_top (y := (nI ((8 * (mm / 8)) + (mm % 8)))) (nI_add _ _) ?_
            have w9_r : (nI ((8 * (mm / 8)) + (mm % 8))) = (nI (touch (kd j) j mm)) := (congrArg nI (by unfold touch; (repeat' split); all_goals omega))
            exact W.iret hx hb hr (fun t9 ht9 _ => ⟨(nI ((8 * (mm / 8)) + (mm % 8))), rfl, w9_r, ht9⟩) (fun _ h => absurd h List.not_mem_nil) dX12_doneBy_98
          · skip
            have c_8 := (cEqNN (a := kd j) (b := 4) (by omega) (by omega)).mp c_8
            refine lv_bipush (v := (nI 7)) hx hb dX12_doneBy_79 (by decide) ?_
            refine lv_iload hx hb dX12_doneBy_81 (lv_at hl 2 rfl) ?_
            refine lv_isub hx hb dX12_doneBy_83 ?_
            refine g_top (y := (nI (7 - (mm % 8)))) (pk_sub (by omega)) ?_
            refine lv_goto (tgt := 89) hx hb dX12_doneBy_84 (by decide) ?_
            refine lv_istore (lv' := [(4, .int (nI (7 - (mm % 8)))), (3, .int (nI (mm / 8))), (5, .int (nI (kd j))), (0, .ref (bd 0)), (1, .int (nI j)), (2, .int (nI mm))]) hx hb dX12_doneBy_89 hl (by decide) rfl (fun ls hl => ?_)
            refine lv_bipush (v := (nI 8)) hx hb dX12_doneBy_91 (by decide) ?_
            refine lv_iload_n hx hb dX12_doneBy_93 rfl (lv_at hl 1 rfl) ?_
            refine lv_imul hx hb dX12_doneBy_94 ?_
            refine g_top (y := (nI (8 * (mm / 8)))) (pk_mul _ _) ?_
            refine lv_iload hx hb dX12_doneBy_95 (lv_at hl 0 rfl) ?_
            refine lv_iadd hx hb dX12_doneBy_97 ?_
            refine g_top (y := (nI ((8 * (mm / 8)) + (7 - (mm % 8))))) (nI_add _ _) ?_
            have w9_r : (nI ((8 * (mm / 8)) + (7 - (mm % 8)))) = (nI (touch (kd j) j mm)) := (congrArg nI (by unfold touch; (repeat' split); all_goals omega))
            exact W.iret hx hb hr (fun t9 ht9 _ => ⟨(nI ((8 * (mm / 8)) + (7 - (mm % 8)))), rfl, w9_r, ht9⟩) (fun _ h => absurd h List.not_mem_nil) dX12_doneBy_98
        · skip
          have c_7 := (cEqNN (a := kd j) (b := 3) (by omega) (by omega)).mp c_7
          refine lv_iconst (v := (nI 0)) hx hb dX12_doneBy_69 (by decide) ?_
          refine lv_goto (tgt := 89) hx hb dX12_doneBy_70 (by decide) ?_
          refine lv_istore (lv' := [(4, .int (nI 0)), (3, .int (nI (mm / 8))), (5, .int (nI (kd j))), (0, .ref (bd 0)), (1, .int (nI j)), (2, .int (nI mm))]) hx hb dX12_doneBy_89 hl (by decide) rfl (fun ls hl => ?_)
          refine lv_bipush (v := (nI 8)) hx hb dX12_doneBy_91 (by decide) ?_
          refine lv_iload_n hx hb dX12_doneBy_93 rfl (lv_at hl 1 rfl) ?_
          refine lv_imul hx hb dX12_doneBy_94 ?_
          refine g_top (y := (nI (8 * (mm / 8)))) (pk_mul _ _) ?_
          refine lv_iload hx hb dX12_doneBy_95 (lv_at hl 0 rfl) ?_
          refine lv_iadd hx hb dX12_doneBy_97 ?_
          refine g_top (y := (nI ((8 * (mm / 8)) + 0))) (nI_add _ _) ?_
          have w9_r : (nI ((8 * (mm / 8)) + 0)) = (nI (touch (kd j) j mm)) := (congrArg nI (by unfold touch; (repeat' split); all_goals omega))
          exact W.iret hx hb hr (fun t9 ht9 _ => ⟨(nI ((8 * (mm / 8)) + 0)), rfl, w9_r, ht9⟩) (fun _ h => absurd h List.not_mem_nil) dX12_doneBy_98
      · skip
        have c_6 := (cEqNN (a := kd j) (b := 2) (by omega) (by omega)).mp c_6
        refine lv_iconst (v := (nI 3)) hx hb dX12_doneBy_49 (by decide) ?_
        refine lv_iload hx hb dX12_doneBy_50 (lv_at hl 2 rfl) ?_
        refine lv_imul hx hb dX12_doneBy_52 ?_
        refine g_top (y := (nI (3 * (mm % 8)))) (pk_mul _ _) ?_
        refine lv_iload_n hx hb dX12_doneBy_53 rfl (lv_at hl 4 rfl) ?_
        refine lv_iadd hx hb dX12_doneBy_54 ?_
        refine g_top (y := (nI ((3 * (mm % 8)) + j))) (nI_add _ _) ?_
        refine lv_iconst (v := (nI 1)) hx hb dX12_doneBy_55 (by decide) ?_
        refine lv_iadd hx hb dX12_doneBy_56 ?_
        refine g_top (y := (nI (((3 * (mm % 8)) + j) + 1))) (nI_add _ _) ?_
        refine lv_bipush (v := (nI 8)) hx hb dX12_doneBy_57 (by decide) ?_
        refine lv_irem hx hb dX12_doneBy_59 (by decide) ?_
        refine g_top (y := (nI ((((3 * (mm % 8)) + j) + 1) % 8))) (pk_rem (by omega) (by omega) (by omega)) ?_
        refine lv_goto (tgt := 89) hx hb dX12_doneBy_60 (by decide) ?_
        refine lv_istore (lv' := [(4, .int (nI ((((3 * (mm % 8)) + j) + 1) % 8))), (3, .int (nI (mm / 8))), (5, .int (nI (kd j))), (0, .ref (bd 0)), (1, .int (nI j)), (2, .int (nI mm))]) hx hb dX12_doneBy_89 hl (by decide) rfl (fun ls hl => ?_)
        refine lv_bipush (v := (nI 8)) hx hb dX12_doneBy_91 (by decide) ?_
        refine lv_iload_n hx hb dX12_doneBy_93 rfl (lv_at hl 1 rfl) ?_
        refine lv_imul hx hb dX12_doneBy_94 ?_
        refine g_top (y := (nI (8 * (mm / 8)))) (pk_mul _ _) ?_
        refine lv_iload hx hb dX12_doneBy_95 (lv_at hl 0 rfl) ?_
        refine lv_iadd hx hb dX12_doneBy_97 ?_
        refine g_top (y := (nI ((8 * (mm / 8)) + ((((3 * (mm % 8)) + j) + 1) % 8)))) (nI_add _ _) ?_
        have w9_r : (nI ((8 * (mm / 8)) + ((((3 * (mm % 8)) + j) + 1) % 8))) = (nI (touch (kd j) j mm)) := (congrArg nI (by unfold touch; (repeat' split); all_goals omega))
        exact W.iret hx hb hr (fun t9 ht9 _ => ⟨(nI ((8 * (mm / 8)) + ((((3 * (mm % 8)) + j) + 1) % 8))), rfl, w9_r, ht9⟩) (fun _ h => absurd h List.not_mem_nil) dX12_doneBy_98
    · skip
      have c_5 := (cEqNN (a := kd j) (b := 4) (by omega) (by omega)).mp c_5
      refine lv_iload_n hx hb dX12_doneBy_33 rfl (lv_at hl 2 rfl) ?_
      refine lv_iconst (v := (nI 1)) hx hb dX12_doneBy_34 (by decide) ?_
      refine lv_iadd hx hb dX12_doneBy_35 ?_
      refine g_top (y := (nI ((mm / 8) + 1))) (nI_add _ _) ?_
      refine lv_iconst (v := (nI 4)) hx hb dX12_doneBy_36 (by decide) ?_
      refine lv_irem hx hb dX12_doneBy_37 (by decide) ?_
      refine g_top (y := (nI (((mm / 8) + 1) % 4))) (pk_rem (by omega) (by omega) (by omega)) ?_
      refine lv_goto (tgt := 42) hx hb dX12_doneBy_38 (by decide) ?_
      refine lv_istore_n (lv' := [(3, .int (nI (((mm / 8) + 1) % 4))), (5, .int (nI (kd j))), (4, .int (nI (mm % 8))), (0, .ref (bd 0)), (1, .int (nI j)), (2, .int (nI mm))]) hx hb dX12_doneBy_42 rfl hl (by decide) rfl (fun ls hl => ?_)
      refine lv_iload hx hb dX12_doneBy_43 (lv_at hl 1 rfl) ?_
      refine lv_iconst (v := (nI 2)) hx hb dX12_doneBy_45 (by decide) ?_
      refine lv_icmp_ne (tgt := 63) hx hb dX12_doneBy_46 (by decide) (fun c_9 => ?_) (fun c_9 => ?_)
      · skip
        have c_9 := gNot (cEqNN (a := kd j) (b := 2) (by omega) (by omega)) c_9
        refine lv_iload hx hb dX12_doneBy_63 (lv_at hl 1 rfl) ?_
        refine lv_iconst (v := (nI 3)) hx hb dX12_doneBy_65 (by decide) ?_
        refine lv_icmp_ne (tgt := 73) hx hb dX12_doneBy_66 (by decide) (fun c_10 => ?_) (fun c_10 => ?_)
        · skip
          have c_10 := gNot (cEqNN (a := kd j) (b := 3) (by omega) (by omega)) c_10
          refine lv_iload hx hb dX12_doneBy_73 (lv_at hl 1 rfl) ?_
          refine lv_iconst (v := (nI 4)) hx hb dX12_doneBy_75 (by decide) ?_
          refine lv_icmp_ne (tgt := 87) hx hb dX12_doneBy_76 (by decide) (fun c_11 => ?_) (fun c_11 => ?_)
          · skip
            have c_11 := gNot (cEqNN (a := kd j) (b := 4) (by omega) (by omega)) c_11
            refine lv_iload hx hb dX12_doneBy_87 (lv_at hl 2 rfl) ?_
            refine lv_istore (lv' := [(4, .int (nI (mm % 8))), (3, .int (nI (((mm / 8) + 1) % 4))), (5, .int (nI (kd j))), (0, .ref (bd 0)), (1, .int (nI j)), (2, .int (nI mm))]) hx hb dX12_doneBy_89 hl (by decide) rfl (fun ls hl => ?_)
            refine lv_bipush (v := (nI 8)) hx hb dX12_doneBy_91 (by decide) ?_
            refine lv_iload_n hx hb dX12_doneBy_93 rfl (lv_at hl 1 rfl) ?_
            refine lv_imul hx hb dX12_doneBy_94 ?_
            refine g_top (y := (nI (8 * (((mm / 8) + 1) % 4)))) (pk_mul _ _) ?_
            refine lv_iload hx hb dX12_doneBy_95 (lv_at hl 0 rfl) ?_
            refine lv_iadd hx hb dX12_doneBy_97 ?_
            refine g_top (y := (nI ((8 * (((mm / 8) + 1) % 4)) + (mm % 8)))) (nI_add _ _) ?_
            have w9_r : (nI ((8 * (((mm / 8) + 1) % 4)) + (mm % 8))) = (nI (touch (kd j) j mm)) := (congrArg nI (by unfold touch; (repeat' split); all_goals omega))
            exact W.iret hx hb hr (fun t9 ht9 _ => ⟨(nI ((8 * (((mm / 8) + 1) % 4)) + (mm % 8))), rfl, w9_r, ht9⟩) (fun _ h => absurd h List.not_mem_nil) dX12_doneBy_98
          · skip
            have c_11 := (cEqNN (a := kd j) (b := 4) (by omega) (by omega)).mp c_11
            refine lv_bipush (v := (nI 7)) hx hb dX12_doneBy_79 (by decide) ?_
            refine lv_iload hx hb dX12_doneBy_81 (lv_at hl 2 rfl) ?_
            refine lv_isub hx hb dX12_doneBy_83 ?_
            refine g_top (y := (nI (7 - (mm % 8)))) (pk_sub (by omega)) ?_
            refine lv_goto (tgt := 89) hx hb dX12_doneBy_84 (by decide) ?_
            refine lv_istore (lv' := [(4, .int (nI (7 - (mm % 8)))), (3, .int (nI (((mm / 8) + 1) % 4))), (5, .int (nI (kd j))), (0, .ref (bd 0)), (1, .int (nI j)), (2, .int (nI mm))]) hx hb dX12_doneBy_89 hl (by decide) rfl (fun ls hl => ?_)
            refine lv_bipush (v := (nI 8)) hx hb dX12_doneBy_91 (by decide) ?_
            refine lv_iload_n hx hb dX12_doneBy_93 rfl (lv_at hl 1 rfl) ?_
            refine lv_imul hx hb dX12_doneBy_94 ?_
            refine g_top (y := (nI (8 * (((mm / 8) + 1) % 4)))) (pk_mul _ _) ?_
            refine lv_iload hx hb dX12_doneBy_95 (lv_at hl 0 rfl) ?_
            refine lv_iadd hx hb dX12_doneBy_97 ?_
            refine g_top (y := (nI ((8 * (((mm / 8) + 1) % 4)) + (7 - (mm % 8))))) (nI_add _ _) ?_
            have w9_r : (nI ((8 * (((mm / 8) + 1) % 4)) + (7 - (mm % 8)))) = (nI (touch (kd j) j mm)) := (congrArg nI (by unfold touch; (repeat' split); all_goals omega))
            exact W.iret hx hb hr (fun t9 ht9 _ => ⟨(nI ((8 * (((mm / 8) + 1) % 4)) + (7 - (mm % 8)))), rfl, w9_r, ht9⟩) (fun _ h => absurd h List.not_mem_nil) dX12_doneBy_98
        · skip
          have c_10 := (cEqNN (a := kd j) (b := 3) (by omega) (by omega)).mp c_10
          refine lv_iconst (v := (nI 0)) hx hb dX12_doneBy_69 (by decide) ?_
          refine lv_goto (tgt := 89) hx hb dX12_doneBy_70 (by decide) ?_
          refine lv_istore (lv' := [(4, .int (nI 0)), (3, .int (nI (((mm / 8) + 1) % 4))), (5, .int (nI (kd j))), (0, .ref (bd 0)), (1, .int (nI j)), (2, .int (nI mm))]) hx hb dX12_doneBy_89 hl (by decide) rfl (fun ls hl => ?_)
          refine lv_bipush (v := (nI 8)) hx hb dX12_doneBy_91 (by decide) ?_
          refine lv_iload_n hx hb dX12_doneBy_93 rfl (lv_at hl 1 rfl) ?_
          refine lv_imul hx hb dX12_doneBy_94 ?_
          refine g_top (y := (nI (8 * (((mm / 8) + 1) % 4)))) (pk_mul _ _) ?_
          refine lv_iload hx hb dX12_doneBy_95 (lv_at hl 0 rfl) ?_
          refine lv_iadd hx hb dX12_doneBy_97 ?_
          refine g_top (y := (nI ((8 * (((mm / 8) + 1) % 4)) + 0))) (nI_add _ _) ?_
          have w9_r : (nI ((8 * (((mm / 8) + 1) % 4)) + 0)) = (nI (touch (kd j) j mm)) := (congrArg nI (by unfold touch; (repeat' split); all_goals omega))
          exact W.iret hx hb hr (fun t9 ht9 _ => ⟨(nI ((8 * (((mm / 8) + 1) % 4)) + 0)), rfl, w9_r, ht9⟩) (fun _ h => absurd h List.not_mem_nil) dX12_doneBy_98
      · skip
        have c_9 := (cEqNN (a := kd j) (b := 2) (by omega) (by omega)).mp c_9
        refine lv_iconst (v := (nI 3)) hx hb dX12_doneBy_49 (by decide) ?_
        refine lv_iload hx hb dX12_doneBy_50 (lv_at hl 2 rfl) ?_
        refine lv_imul hx hb dX12_doneBy_52 ?_
        refine g_top (y := (nI (3 * (mm % 8)))) (pk_mul _ _) ?_
        refine lv_iload_n hx hb dX12_doneBy_53 rfl (lv_at hl 4 rfl) ?_
        refine lv_iadd hx hb dX12_doneBy_54 ?_
        refine g_top (y := (nI ((3 * (mm % 8)) + j))) (nI_add _ _) ?_
        refine lv_iconst (v := (nI 1)) hx hb dX12_doneBy_55 (by decide) ?_
        refine lv_iadd hx hb dX12_doneBy_56 ?_
        refine g_top (y := (nI (((3 * (mm % 8)) + j) + 1))) (nI_add _ _) ?_
        refine lv_bipush (v := (nI 8)) hx hb dX12_doneBy_57 (by decide) ?_
        refine lv_irem hx hb dX12_doneBy_59 (by decide) ?_
        refine g_top (y := (nI ((((3 * (mm % 8)) + j) + 1) % 8))) (pk_rem (by omega) (by omega) (by omega)) ?_
        refine lv_goto (tgt := 89) hx hb dX12_doneBy_60 (by decide) ?_
        refine lv_istore (lv' := [(4, .int (nI ((((3 * (mm % 8)) + j) + 1) % 8))), (3, .int (nI (((mm / 8) + 1) % 4))), (5, .int (nI (kd j))), (0, .ref (bd 0)), (1, .int (nI j)), (2, .int (nI mm))]) hx hb dX12_doneBy_89 hl (by decide) rfl (fun ls hl => ?_)
        refine lv_bipush (v := (nI 8)) hx hb dX12_doneBy_91 (by decide) ?_
        refine lv_iload_n hx hb dX12_doneBy_93 rfl (lv_at hl 1 rfl) ?_
        refine lv_imul hx hb dX12_doneBy_94 ?_
        refine g_top (y := (nI (8 * (((mm / 8) + 1) % 4)))) (pk_mul _ _) ?_
        refine lv_iload hx hb dX12_doneBy_95 (lv_at hl 0 rfl) ?_
        refine lv_iadd hx hb dX12_doneBy_97 ?_
        refine g_top (y := (nI ((8 * (((mm / 8) + 1) % 4)) + ((((3 * (mm % 8)) + j) + 1) % 8)))) (nI_add _ _) ?_
        have w9_r : (nI ((8 * (((mm / 8) + 1) % 4)) + ((((3 * (mm % 8)) + j) + 1) % 8))) = (nI (touch (kd j) j mm)) := (congrArg nI (by unfold touch; (repeat' split); all_goals omega))
        exact W.iret hx hb hr (fun t9 ht9 _ => ⟨(nI ((8 * (((mm / 8) + 1) % 4)) + ((((3 * (mm % 8)) + j) + 1) % 8))), rfl, w9_r, ht9⟩) (fun _ h => absurd h List.not_mem_nil) dX12_doneBy_98

set_option maxHeartbeats 4000000 in
set_option maxRecDepth 100000 in
theorem m_isWrong (l : Launch) (G : gG) (bd : Nat → Nat) (ln : Nat) (rM : Int32) (rK : Int32) (sT : Int32) (n : Nat) (h : Nat) (mk : Nat) (ps : Int32) (rr : Int32) (sH : Int32) (sM : Int32) (sP : Int32) (z : Nat) (sd : Int32) (kR : Int32) (kH : Int32) (kM : Int32) (kP : Int32) (kz : Nat) (hs : Int64) (kI : Nat → Int32) (me : Nat → Int32) (fl : Nat → Int32) (pd : Nat → Int32) (j : Nat) (hj : j < 4) (hh : h < 4) (hmk : mk < 32) : Met l yX12_isWrong wsX12_isWrong ({ frames := 0, cells := 0, slots := 0, locals := 0 } : Room) (gR G [.ref (bd 0), .int (nI j)] [(bd 0, .inr (12, [.ref (bd 1), .int (nI ln), .ref (bd 2), .int rM, .int rK, .int sT, .int (nI n), .int (nI h), .int (nI mk), .int ps, .int rr, .ref (bd 3), .ref (bd 4), .int sH, .int sM, .int sP, .ref (bd 5), .ref (bd 6), .ref (bd 7), .int (nI z), .ref (bd 8), .ref (bd 9), .ref (bd 10), .ref (bd 11), .int sd, .int kR, .int kH, .int kM, .int kP, .int (nI kz), .ref (bd 12), .ref (bd 13), .long hs])), (bd 3, .inl (G.2.1, 16, .inl (rowsF kI me fl pd)))]) (vp_Si (fun r : Int32 => r = (bI (wrS (nI h) (nI mk) me j)))) 0 0 (fun _ => False) := by
  refine Met.ofW (cc := cX12_isWrong) (maxL := 2) (ret := (some .boolean)) (by decide) rfl ?_
  intro p e s m args below meth c s₁ B hml hv
  obtain ⟨rfl, hP, hK⟩ := hv
  have hx := B.exec
  have hb := B.bytes
  have hr := B.returns
  have hts := atoms_spec (ws := wsX12_isWrong) B.pre
  have hown : s.vm.findClass RX12 = some m.cls := findClass_of_methodNamed B.named
  have hlocks := B.notSynchronized
  have hl := lv_entry ([.ref (bd 0), .int (nI j)]) (n := 2) (Nat.le_of_ble_eq_true rfl)
  rw [lg_entry_eq]
  generalize (lg_sl ([.ref (bd 0), .int (nI j)]) ++ List.replicate (2 - (lg_sl ([.ref (bd 0), .int (nI j)])).length) Slot.unset).toArray = ls at hl ⊢
  have hl : lv_has ls 2 [(0, .ref (bd 0)), (1, .int (nI j))] := hl
  refine lv_iload_n hx hb dX12_isWrong_0 rfl (lv_at hl 1 rfl) ?_
  refine lv_aload_n hx hb dX12_isWrong_1 rfl (lv_at hl 0 rfl) ?_
  refine va_get (D := G.1) (ci := 12) (v := .int (nI h)) (C := RX12) (T := TX12) (N := 33) hx hb hts (g_in wsX120 4 rfl) hown hK.1 hP 0 rfl rfl 7 (by decide) (hts _ (List.mem_of_getElem? (i := 1) rfl)) (fun _ h9 => h9) rfl dX12_isWrong_2 ?_
  refine lv_icmp_eq (tgt := 43) hx hb dX12_isWrong_5 (by decide) (fun c_1 => ?_) (fun c_1 => ?_)
  · skip
    have c_1 := (cEqNN (a := j) (b := h) (by omega) (by omega)).mp c_1
    refine lv_iconst (v := (nI 0)) hx hb dX12_isWrong_43 (by decide) ?_
    have w9_r : (nI 0) = (bI (wrS (nI h) (nI mk) me j)) := (by first | exact bI_t ⟨by assumption, nI_neg1 (by omega), fun z9 => (by assumption : ¬ j = h) ((nI_eq (by omega) (by omega)).mp z9).symm, by assumption⟩ | exact bI_f (fun z9 => absurd (by assumption) z9.1) | exact bI_f (fun z9 => z9.2.2.1 (congrArg nI (by omega))) | exact bI_f (fun z9 => absurd (by assumption) z9.2.2.2))
    exact W.zret (ty := .boolean) hx hb hr (by decide) (fun t9 ht9 _ => ⟨(nI 0), rfl, w9_r, ht9⟩) (fun _ h => absurd h List.not_mem_nil) dX12_isWrong_44
  · skip
    have c_1 := gNot (cEqNN (a := j) (b := h) (by omega) (by omega)) c_1
    refine lv_aload_n hx hb dX12_isWrong_8 rfl (lv_at hl 0 rfl) ?_
    refine va_get (D := G.1) (ci := 12) (v := .ref (bd 3)) (C := RX12) (T := TX12) (N := 33) hx hb hts (g_in wsX120 4 rfl) hown hK.1 hP 0 rfl rfl 11 (by decide) (hts _ (List.mem_of_getElem? (i := 2) rfl)) (fun _ h9 => h9) rfl dX12_isWrong_9 ?_
    refine lv_iconst (v := (nI 4)) hx hb dX12_isWrong_12 (by decide) ?_
    refine lv_iload_n hx hb dX12_isWrong_13 rfl (lv_at hl 1 rfl) ?_
    refine lv_imul hx hb dX12_isWrong_14 ?_
    refine g_top (y := (nI (4 * j))) (pk_mul _ _) ?_
    refine lv_iconst (v := (nI 1)) hx hb dX12_isWrong_15 (by decide) ?_
    refine lv_iadd hx hb dX12_isWrong_16 ?_
    refine g_top (y := (nI ((4 * j) + 1))) (nI_add _ _) ?_
    refine g_iald hx hb hK hP 1 rfl (by omega) (by decide) dX12_isWrong_17 ?_
    refine g_top (y := (me j)) rowsF_1 ?_
    refine lv_iconst (v := (-1)) hx hb dX12_isWrong_18 (by decide) ?_
    refine lv_icmp_eq (tgt := 43) hx hb dX12_isWrong_19 (by decide) (fun c_2 => ?_) (fun c_2 => ?_)
    · skip
      refine lv_iconst (v := (nI 0)) hx hb dX12_isWrong_43 (by decide) ?_
      have w9_r : (nI 0) = (bI (wrS (nI h) (nI mk) me j)) := (by first | exact bI_t ⟨by assumption, nI_neg1 (by omega), fun z9 => (by assumption : ¬ j = h) ((nI_eq (by omega) (by omega)).mp z9).symm, by assumption⟩ | exact bI_f (fun z9 => absurd (by assumption) z9.1) | exact bI_f (fun z9 => z9.2.2.1 (congrArg nI (by omega))) | exact bI_f (fun z9 => absurd (by assumption) z9.2.2.2))
      exact W.zret (ty := .boolean) hx hb hr (by decide) (fun t9 ht9 _ => ⟨(nI 0), rfl, w9_r, ht9⟩) (fun _ h => absurd h List.not_mem_nil) dX12_isWrong_44
    · skip
      refine lv_aload_n hx hb dX12_isWrong_22 rfl (lv_at hl 0 rfl) ?_
      refine va_get (D := G.1) (ci := 12) (v := .ref (bd 3)) (C := RX12) (T := TX12) (N := 33) hx hb hts (g_in wsX120 4 rfl) hown hK.1 hP 0 rfl rfl 11 (by decide) (hts _ (List.mem_of_getElem? (i := 2) rfl)) (fun _ h9 => h9) rfl dX12_isWrong_23 ?_
      refine lv_iconst (v := (nI 4)) hx hb dX12_isWrong_26 (by decide) ?_
      refine lv_iload_n hx hb dX12_isWrong_27 rfl (lv_at hl 1 rfl) ?_
      refine lv_imul hx hb dX12_isWrong_28 ?_
      refine g_top (y := (nI (4 * j))) (pk_mul _ _) ?_
      refine lv_iconst (v := (nI 1)) hx hb dX12_isWrong_29 (by decide) ?_
      refine lv_iadd hx hb dX12_isWrong_30 ?_
      refine g_top (y := (nI ((4 * j) + 1))) (nI_add _ _) ?_
      refine g_iald hx hb hK hP 1 rfl (by omega) (by decide) dX12_isWrong_31 ?_
      refine g_top (y := (me j)) rowsF_1 ?_
      refine lv_aload_n hx hb dX12_isWrong_32 rfl (lv_at hl 0 rfl) ?_
      refine va_get (D := G.1) (ci := 12) (v := .int (nI mk)) (C := RX12) (T := TX12) (N := 33) hx hb hts (g_in wsX120 4 rfl) hown hK.1 hP 0 rfl rfl 8 (by decide) (hts _ (List.mem_of_getElem? (i := 3) rfl)) (fun _ h9 => h9) rfl dX12_isWrong_33 ?_
      refine lv_icmp_eq (tgt := 43) hx hb dX12_isWrong_36 (by decide) (fun c_3 => ?_) (fun c_3 => ?_)
      · skip
        refine lv_iconst (v := (nI 0)) hx hb dX12_isWrong_43 (by decide) ?_
        have w9_r : (nI 0) = (bI (wrS (nI h) (nI mk) me j)) := (by first | exact bI_t ⟨by assumption, nI_neg1 (by omega), fun z9 => (by assumption : ¬ j = h) ((nI_eq (by omega) (by omega)).mp z9).symm, by assumption⟩ | exact bI_f (fun z9 => absurd (by assumption) z9.1) | exact bI_f (fun z9 => z9.2.2.1 (congrArg nI (by omega))) | exact bI_f (fun z9 => absurd (by assumption) z9.2.2.2))
        exact W.zret (ty := .boolean) hx hb hr (by decide) (fun t9 ht9 _ => ⟨(nI 0), rfl, w9_r, ht9⟩) (fun _ h => absurd h List.not_mem_nil) dX12_isWrong_44
      · skip
        refine lv_iconst (v := (nI 1)) hx hb dX12_isWrong_39 (by decide) ?_
        refine lv_goto (tgt := 44) hx hb dX12_isWrong_40 (by decide) ?_
        have w9_r : (nI 1) = (bI (wrS (nI h) (nI mk) me j)) := (by first | exact bI_t ⟨by assumption, nI_neg1 (by omega), fun z9 => (by assumption : ¬ j = h) ((nI_eq (by omega) (by omega)).mp z9).symm, by assumption⟩ | exact bI_f (fun z9 => absurd (by assumption) z9.1) | exact bI_f (fun z9 => z9.2.2.1 (congrArg nI (by omega))) | exact bI_f (fun z9 => absurd (by assumption) z9.2.2.2))
        exact W.zret (ty := .boolean) hx hb hr (by decide) (fun t9 ht9 _ => ⟨(nI 1), rfl, w9_r, ht9⟩) (fun _ h => absurd h List.not_mem_nil) dX12_isWrong_44

set_option maxHeartbeats 4000000 in
set_option maxRecDepth 100000 in
theorem m_wrongMany (l : Launch) (G : gG) (bd : Nat → Nat) (ln : Nat) (rM : Int32) (rK : Int32) (sT : Int32) (n : Nat) (h : Nat) (mk : Nat) (ps : Int32) (rr : Int32) (sH : Int32) (sM : Int32) (sP : Int32) (z : Nat) (sd : Int32) (kR : Int32) (kH : Int32) (kM : Int32) (kP : Int32) (kz : Nat) (hs : Int64) (kI : Nat → Int32) (me : Nat → Int32) (fl : Nat → Int32) (pd : Nat → Int32) (hn : n ≤ 4) (hh : h < 4) (hmk : mk < 32) : Met l yX12_wrongMany wsX12_wrongMany ({ frames := 1, cells := 0, slots := 0, locals := 21 } : Room) (gR G [.ref (bd 0)] [(bd 0, .inr (12, [.ref (bd 1), .int (nI ln), .ref (bd 2), .int rM, .int rK, .int sT, .int (nI n), .int (nI h), .int (nI mk), .int ps, .int rr, .ref (bd 3), .ref (bd 4), .int sH, .int sM, .int sP, .ref (bd 5), .ref (bd 6), .ref (bd 7), .int (nI z), .ref (bd 8), .ref (bd 9), .ref (bd 10), .ref (bd 11), .int sd, .int kR, .int kH, .int kM, .int kP, .int (nI kz), .ref (bd 12), .ref (bd 13), .long hs])), (bd 3, .inl (G.2.1, 16, .inl (rowsF kI me fl pd)))]) (vp_Si (fun r : Int32 => r = (nI (cnt (fun k => decide (wrS (nI h) (nI mk) me k)) n)))) 0 0 (fun _ => False) := by
  refine Met.ofW (cc := cX12_wrongMany) (maxL := 3) (ret := (some .int)) (by decide) rfl ?_
  intro p e s m args below meth c s₁ B hml hv
  obtain ⟨rfl, hP, hK⟩ := hv
  have hx := B.exec
  have hb := B.bytes
  have hr := B.returns
  have hts := atoms_spec (ws := wsX12_wrongMany) B.pre
  have hown : s.vm.findClass RX12 = some m.cls := findClass_of_methodNamed B.named
  have hlocks := B.notSynchronized
  have hl := lv_entry ([.ref (bd 0)]) (n := 3) (Nat.le_of_ble_eq_true rfl)
  rw [lg_entry_eq]
  generalize (lg_sl ([.ref (bd 0)]) ++ List.replicate (3 - (lg_sl ([.ref (bd 0)])).length) Slot.unset).toArray = ls at hl ⊢
  have hl : lv_has ls 3 [(0, .ref (bd 0))] := hl
  refine lv_iconst (v := (nI 0)) hx hb dX12_wrongMany_0 (by decide) ?_
  refine lv_istore_n (lv' := [(1, .int (nI 0)), (0, .ref (bd 0))]) hx hb dX12_wrongMany_1 rfl hl (by decide) rfl (fun ls hl => ?_)
  refine lv_iconst (v := (nI 0)) hx hb dX12_wrongMany_2 (by decide) ?_
  refine lv_istore_n (lv' := [(2, .int (nI 0)), (1, .int (nI 0)), (0, .ref (bd 0))]) hx hb dX12_wrongMany_3 rfl hl (by decide) rfl (fun ls hl => ?_)
  refine g_cutR2 (α := Nat) (β := Nat) 4 (fun i w => []) (fun i w ls => (i ≤ n) ∧ (w = cnt (fun k => decide (wrS (nI h) (nI mk) me k)) i) ∧ lv_has ls 3 [(0, .ref (bd 0)), (1, .int (nI w)), (2, .int (nI i))]) (g_loopR2 (α := Nat) (β := Nat) 4 (fun i w => []) (fun i w ls => (i ≤ n) ∧ (w = cnt (fun k => decide (wrS (nI h) (nI mk) me k)) i) ∧ lv_has ls 3 [(0, .ref (bd 0)), (1, .int (nI w)), (2, .int (nI i))]) (fun i w => n - i) ?_) (fun L4_1 => ?_)
  · intro i w ls hI L4_1
    obtain ⟨hi, hw, hl⟩ := hI
    refine lv_iload_n hx hb dX12_wrongMany_4 rfl (lv_at hl 2 rfl) ?_
    refine lv_aload_n hx hb dX12_wrongMany_5 rfl (lv_at hl 0 rfl) ?_
    refine va_get (D := G.1) (ci := 12) (v := .int (nI n)) (C := RX12) (T := TX12) (N := 33) hx hb hts (g_in wsX120 10 rfl) hown hK.1 hP 0 rfl rfl 6 (by decide) (hts _ (List.mem_of_getElem? (i := 1) rfl)) (fun _ h9 => h9) rfl dX12_wrongMany_6 ?_
    refine lv_icmp_ge (tgt := 34) hx hb dX12_wrongMany_9 (by decide) (fun c_2 => ?_) (fun c_2 => ?_)
    · skip
      have c_2 := (cLeNN (a := n) (b := i) (by omega) (by omega)).mp c_2
      refine lv_iload_n hx hb dX12_wrongMany_34 rfl (lv_at hl 1 rfl) ?_
      have w9_r : (nI w) = (nI (cnt (fun k => decide (wrS (nI h) (nI mk) me k)) n)) := (by rw [hw, show i = n by omega])
      exact W.iret hx hb hr (fun t9 ht9 _ => ⟨(nI w), rfl, w9_r, ht9⟩) (fun _ h => absurd h List.not_mem_nil) dX12_wrongMany_35
    · skip
      have c_2 := gNot (cLeNN (a := n) (b := i) (by omega) (by omega)) c_2
      refine lv_iload_n hx hb dX12_wrongMany_12 rfl (lv_at hl 1 rfl) ?_
      refine lv_aload_n hx hb dX12_wrongMany_13 rfl (lv_at hl 0 rfl) ?_
      refine lv_iload_n hx hb dX12_wrongMany_14 rfl (lv_at hl 2 rfl) ?_
      refine g_callSi (va_runV (As := [.int (nI i)]) (rest := [.int (nI w)]) ⟨hx, hb, hml, hown, hts⟩ (m_isWrong l G bd ln rM rK sT n h mk ps rr sH sM sP z sd kR kH kM kP kz hs kI me fl pd i (by omega) (by omega) (by omega)) (cwV 1 hts gX12_wrongMany_X12_isWrong rfl rfl rfl (by decide +kernel) ⟨Nat.le_of_ble_eq_true rfl, Nat.le_of_ble_eq_true rfl⟩) (gR.V hK (show va_P G.1 vwCl [(bd 0, .inr (12, [.ref (bd 1), .int (nI ln), .ref (bd 2), .int rM, .int rK, .int sT, .int (nI n), .int (nI h), .int (nI mk), .int ps, .int rr, .ref (bd 3), .ref (bd 4), .int sH, .int sM, .int sP, .ref (bd 5), .ref (bd 6), .ref (bd 7), .int (nI z), .ref (bd 8), .ref (bd 9), .ref (bd 10), .ref (bd 11), .int sd, .int kR, .int kH, .int kM, .int kP, .int (nI kz), .ref (bd 12), .ref (bd 13), .long hs])), (bd 3, .inl (G.2.1, 16, .inl (rowsF kI me fl pd)))] s.heap from (hP.sub [0, 1] rfl)) hP (ci := 12) (q0 := 0) rfl rfl) rfl rfl hl.1 rfl (lv_room (Nat.le_of_ble_eq_true rfl)) dX12_wrongMany_15 ⟨Nat.le_of_ble_eq_true rfl, Nat.le_of_ble_eq_true rfl⟩) (fun r hr0 => ?_)
      subst hr0
      refine lv_if_eq (tgt := 25) hx hb dX12_wrongMany_18 (by decide) (fun c_3 => ?_) (fun c_3 => ?_)
      · skip
        have c_3 := bI_z.mp c_3
        refine lv_iconst (v := (nI 0)) hx hb dX12_wrongMany_25 (by decide) ?_
        refine lv_iadd hx hb dX12_wrongMany_26 ?_
        refine g_top (y := (nI (w + 0))) (nI_add _ _) ?_
        refine lv_istore_n (lv' := [(1, .int (nI (w + 0))), (0, .ref (bd 0)), (2, .int (nI i))]) hx hb dX12_wrongMany_27 rfl hl (by decide) rfl (fun ls hl => ?_)
        refine lv_iinc (v := (nI (i + 1))) (lv' := [(2, .int (nI (i + 1))), (1, .int (nI (w + 0))), (0, .ref (bd 0))]) hx hb dX12_wrongMany_28 hl (k := 2) rfl (nI_iinc (by decide)) (by decide) rfl (fun ls hl => ?_)
        refine lv_goto (tgt := 4) hx hb dX12_wrongMany_31 (by decide) ?_
        exact L4_1 (i + 1) (w + 0) _ (by omega) ⟨(by omega), (by rw [hw]; first | exact (cntD_t (by assumption)).symm | exact (cntD_f (by assumption)).symm), lv_sub hl [2, 1, 0] rfl⟩
      · skip
        have c_3 := bI_nz.mp c_3
        refine lv_iconst (v := (nI 1)) hx hb dX12_wrongMany_21 (by decide) ?_
        refine lv_goto (tgt := 26) hx hb dX12_wrongMany_22 (by decide) ?_
        refine lv_iadd hx hb dX12_wrongMany_26 ?_
        refine g_top (y := (nI (w + 1))) (nI_add _ _) ?_
        refine lv_istore_n (lv' := [(1, .int (nI (w + 1))), (0, .ref (bd 0)), (2, .int (nI i))]) hx hb dX12_wrongMany_27 rfl hl (by decide) rfl (fun ls hl => ?_)
        refine lv_iinc (v := (nI (i + 1))) (lv' := [(2, .int (nI (i + 1))), (1, .int (nI (w + 1))), (0, .ref (bd 0))]) hx hb dX12_wrongMany_28 hl (k := 2) rfl (nI_iinc (by decide)) (by decide) rfl (fun ls hl => ?_)
        refine lv_goto (tgt := 4) hx hb dX12_wrongMany_31 (by decide) ?_
        exact L4_1 (i + 1) (w + 1) _ (by omega) ⟨(by omega), (by rw [hw]; first | exact (cntD_t (by assumption)).symm | exact (cntD_f (by assumption)).symm), lv_sub hl [2, 1, 0] rfl⟩
  · skip
    exact L4_1 0 0 _ ⟨(by omega), rfl, lv_sub hl [2, 1, 0] rfl⟩

set_option maxHeartbeats 4000000 in
set_option maxRecDepth 100000 in
theorem m_goesTo (l : Launch) (G : gG) (bd : Nat → Nat) (ln : Nat) (rM : Int32) (rK : Int32) (sT : Int32) (n : Nat) (h : Nat) (mk : Nat) (ps : Int32) (rr : Int32) (sH : Int32) (sM : Int32) (sP : Int32) (z : Nat) (sd : Int32) (kR : Int32) (kH : Int32) (kM : Int32) (kP : Int32) (kz : Nat) (hs : Int64) (kI : Nat → Int32) (me : Nat → Int32) (fl : Nat → Int32) (pd : Nat → Int32) (kd : Nat → Nat) (j : Nat) (sz : Nat) (hn : n ≤ 4) (hkI : ∀ i, i < n → kI i = nI (kd i)) (hkd : ∀ i, i < n → kd i < 5) (hj : j < n) (hh : h < 4) (hmk : mk < 32) : Met l yX12_goesTo wsX12_goesTo ({ frames := 1, cells := 0, slots := 0, locals := 25 } : Room) (gM G [.ref (bd 0), .int (nI j)] [(bd 0, .inr (12, [.ref (bd 1), .int (nI ln), .ref (bd 2), .int rM, .int rK, .int sT, .int (nI n), .int (nI h), .int (nI mk), .int ps, .int rr, .ref (bd 3), .ref (bd 4), .int sH, .int sM, .int sP, .ref (bd 5), .ref (bd 6), .ref (bd 7), .int (nI z), .ref (bd 8), .ref (bd 9), .ref (bd 10), .ref (bd 11), .int sd, .int kR, .int kH, .int kM, .int kP, .int (nI kz), .ref (bd 12), .ref (bd 13), .long hs])), (bd 3, .inl (G.2.1, 16, .inl (rowsF kI me fl pd)))] sz) (va_Qv (fun (u : Unit) => True) (fun u t => va_P G.1 vwCl [(bd 0, .inr (12, [.ref (bd 1), .int (nI ln), .ref (bd 2), .int rM, .int rK, .int sT, .int (nI n), .int (nI j), .int (nI (touch (kd j) j mk)), .int (ps + nI 1), .int rr, .ref (bd 3), .ref (bd 4), .int sH, .int sM, .int sP, .ref (bd 5), .ref (bd 6), .ref (bd 7), .int (nI z), .ref (bd 8), .ref (bd 9), .ref (bd 10), .ref (bd 11), .int sd, .int kR, .int kH, .int kM, .int kP, .int (nI kz), .ref (bd 12), .ref (bd 13), .long hs])), (bd 3, .inl (G.2.1, 16, .inl (rowsF kI (upd me h (nI mk)) (upd fl j (nI 0)) pd)))] t.heap ∧ va_D (va_A [(bd 0, .inr (12, [.ref (bd 1), .int (nI ln), .ref (bd 2), .int rM, .int rK, .int sT, .int (nI n), .int (nI h), .int (nI mk), .int ps, .int rr, .ref (bd 3), .ref (bd 4), .int sH, .int sM, .int sP, .ref (bd 5), .ref (bd 6), .ref (bd 7), .int (nI z), .ref (bd 8), .ref (bd 9), .ref (bd 10), .ref (bd 11), .int sd, .int kR, .int kH, .int kM, .int kP, .int (nI kz), .ref (bd 12), .ref (bd 13), .long hs])), (bd 3, .inl (G.2.1, 16, .inl (rowsF kI me fl pd)))] sz) [(bd 0, .inr (12, [.ref (bd 1), .int (nI ln), .ref (bd 2), .int rM, .int rK, .int sT, .int (nI n), .int (nI j), .int (nI (touch (kd j) j mk)), .int (ps + nI 1), .int rr, .ref (bd 3), .ref (bd 4), .int sH, .int sM, .int sP, .ref (bd 5), .ref (bd 6), .ref (bd 7), .int (nI z), .ref (bd 8), .ref (bd 9), .ref (bd 10), .ref (bd 11), .int sd, .int kR, .int kH, .int kM, .int kP, .int (nI kz), .ref (bd 12), .ref (bd 13), .long hs])), (bd 3, .inl (G.2.1, 16, .inl (rowsF kI (upd me h (nI mk)) (upd fl j (nI 0)) pd)))]) (va_A [(bd 0, .inr (12, [.ref (bd 1), .int (nI ln), .ref (bd 2), .int rM, .int rK, .int sT, .int (nI n), .int (nI h), .int (nI mk), .int ps, .int rr, .ref (bd 3), .ref (bd 4), .int sH, .int sM, .int sP, .ref (bd 5), .ref (bd 6), .ref (bd 7), .int (nI z), .ref (bd 8), .ref (bd 9), .ref (bd 10), .ref (bd 11), .int sd, .int kR, .int kH, .int kM, .int kP, .int (nI kz), .ref (bd 12), .ref (bd 13), .long hs])), (bd 3, .inl (G.2.1, 16, .inl (rowsF kI me fl pd)))] sz)) 0 0 (va_A [(bd 0, .inr (12, [.ref (bd 1), .int (nI ln), .ref (bd 2), .int rM, .int rK, .int sT, .int (nI n), .int (nI h), .int (nI mk), .int ps, .int rr, .ref (bd 3), .ref (bd 4), .int sH, .int sM, .int sP, .ref (bd 5), .ref (bd 6), .ref (bd 7), .int (nI z), .ref (bd 8), .ref (bd 9), .ref (bd 10), .ref (bd 11), .int sd, .int kR, .int kH, .int kM, .int kP, .int (nI kz), .ref (bd 12), .ref (bd 13), .long hs])), (bd 3, .inl (G.2.1, 16, .inl (rowsF kI me fl pd)))] sz) := by
  refine Met.ofW (cc := cX12_goesTo) (maxL := 2) (ret := none) (by decide) rfl ?_
  intro p e s m args below meth c s₁ B hml hv
  obtain ⟨rfl, hsz, hP, hK, hD0⟩ := hv
  have hx := B.exec
  have hb := B.bytes
  have hr := B.returns
  have hts := atoms_spec (ws := wsX12_goesTo) B.pre
  have hown : s.vm.findClass RX12 = some m.cls := findClass_of_methodNamed B.named
  have hlocks := B.notSynchronized
  subst hsz
  have hD := hD0.self (sz := s.heap.size)
  generalize hAe : va_A [(bd 0, .inr (12, [.ref (bd 1), .int (nI ln), .ref (bd 2), .int rM, .int rK, .int sT, .int (nI n), .int (nI h), .int (nI mk), .int ps, .int rr, .ref (bd 3), .ref (bd 4), .int sH, .int sM, .int sP, .ref (bd 5), .ref (bd 6), .ref (bd 7), .int (nI z), .ref (bd 8), .ref (bd 9), .ref (bd 10), .ref (bd 11), .int sd, .int kR, .int kH, .int kM, .int kP, .int (nI kz), .ref (bd 12), .ref (bd 13), .long hs])), (bd 3, .inl (G.2.1, 16, .inl (rowsF kI me fl pd)))] s.heap.size = A at hD ⊢
  have hA : ∀ q : Nat, s.heap.size ≤ q → A q := fun q h => by rw [← hAe]; exact Or.inr h
  have hS : va_S A s.heap s.heap [] := va_S.rf
  clear hAe hD0
  have hl := lv_entry ([.ref (bd 0), .int (nI j)]) (n := 2) (Nat.le_of_ble_eq_true rfl)
  rw [lg_entry_eq]
  generalize (lg_sl ([.ref (bd 0), .int (nI j)]) ++ List.replicate (2 - (lg_sl ([.ref (bd 0), .int (nI j)])).length) Slot.unset).toArray = ls at hl ⊢
  have hl : lv_has ls 2 [(0, .ref (bd 0)), (1, .int (nI j))] := hl
  refine lv_aload_n hx hb dX12_goesTo_0 rfl (lv_at hl 0 rfl) ?_
  refine va_get (D := G.1) (ci := 12) (v := .ref (bd 3)) (C := RX12) (T := TX12) (N := 33) hx hb hts (g_in wsX120 10 rfl) hown hK.1 hP 0 rfl rfl 11 (by decide) (hts _ (List.mem_of_getElem? (i := 1) rfl)) (fun _ h9 => h9) rfl dX12_goesTo_1 ?_
  refine lv_iconst (v := (nI 4)) hx hb dX12_goesTo_4 (by decide) ?_
  refine lv_aload_n hx hb dX12_goesTo_5 rfl (lv_at hl 0 rfl) ?_
  refine va_get (D := G.1) (ci := 12) (v := .int (nI h)) (C := RX12) (T := TX12) (N := 33) hx hb hts (g_in wsX120 10 rfl) hown hK.1 hP 0 rfl rfl 7 (by decide) (hts _ (List.mem_of_getElem? (i := 2) rfl)) (fun _ h9 => h9) rfl dX12_goesTo_6 ?_
  refine lv_imul hx hb dX12_goesTo_9 ?_
  refine g_top (y := (nI (4 * h))) (pk_mul _ _) ?_
  refine lv_iconst (v := (nI 1)) hx hb dX12_goesTo_10 (by decide) ?_
  refine lv_iadd hx hb dX12_goesTo_11 ?_
  refine g_top (y := (nI ((4 * h) + 1))) (nI_add _ _) ?_
  refine lv_aload_n hx hb dX12_goesTo_12 rfl (lv_at hl 0 rfl) ?_
  refine va_get (D := G.1) (ci := 12) (v := .int (nI mk)) (C := RX12) (T := TX12) (N := 33) hx hb hts (g_in wsX120 10 rfl) hown hK.1 hP 0 rfl rfl 8 (by decide) (hts _ (List.mem_of_getElem? (i := 3) rfl)) (fun _ h9 => h9) rfl dX12_goesTo_13 ?_
  refine g_iast hx hb hK hP hD hS 1 rfl (by omega) (by decide) dX12_goesTo_16 (fun H locs hP hD hS => ?_)
  have hP : va_P G.1 vwCl [(bd 0, .inr (12, [.ref (bd 1), .int (nI ln), .ref (bd 2), .int rM, .int rK, .int sT, .int (nI n), .int (nI h), .int (nI mk), .int ps, .int rr, .ref (bd 3), .ref (bd 4), .int sH, .int sM, .int sP, .ref (bd 5), .ref (bd 6), .ref (bd 7), .int (nI z), .ref (bd 8), .ref (bd 9), .ref (bd 10), .ref (bd 11), .int sd, .int kR, .int kH, .int kM, .int kP, .int (nI kz), .ref (bd 12), .ref (bd 13), .long hs])), (bd 3, .inl (G.2.1, 16, .inl (upd (rowsF kI me fl pd) ((4 * h) + 1) (nI mk))))] H := hP
  have hD : va_D A [(bd 0, .inr (12, [.ref (bd 1), .int (nI ln), .ref (bd 2), .int rM, .int rK, .int sT, .int (nI n), .int (nI h), .int (nI mk), .int ps, .int rr, .ref (bd 3), .ref (bd 4), .int sH, .int sM, .int sP, .ref (bd 5), .ref (bd 6), .ref (bd 7), .int (nI z), .ref (bd 8), .ref (bd 9), .ref (bd 10), .ref (bd 11), .int sd, .int kR, .int kH, .int kM, .int kP, .int (nI kz), .ref (bd 12), .ref (bd 13), .long hs])), (bd 3, .inl (G.2.1, 16, .inl (upd (rowsF kI me fl pd) ((4 * h) + 1) (nI mk))))] := hD
  have hP := g_arr hP 1 rfl (show ∀ k9, k9 < 16 → (upd (rowsF kI me fl pd) ((4 * h) + 1) (nI mk)) k9 = (rowsF kI (upd me h (nI mk)) fl pd) k9 from fun k9 _ => rowsU_1 k9)
  have hD := hD.set (p := 1) (a := bd 3) (e := .inl (G.2.1, 16, .inl (rowsF kI (upd me h (nI mk)) fl pd))) rfl
  have hP : va_P G.1 vwCl [(bd 0, .inr (12, [.ref (bd 1), .int (nI ln), .ref (bd 2), .int rM, .int rK, .int sT, .int (nI n), .int (nI h), .int (nI mk), .int ps, .int rr, .ref (bd 3), .ref (bd 4), .int sH, .int sM, .int sP, .ref (bd 5), .ref (bd 6), .ref (bd 7), .int (nI z), .ref (bd 8), .ref (bd 9), .ref (bd 10), .ref (bd 11), .int sd, .int kR, .int kH, .int kM, .int kP, .int (nI kz), .ref (bd 12), .ref (bd 13), .long hs])), (bd 3, .inl (G.2.1, 16, .inl (rowsF kI (upd me h (nI mk)) fl pd)))] H := hP
  have hD : va_D A [(bd 0, .inr (12, [.ref (bd 1), .int (nI ln), .ref (bd 2), .int rM, .int rK, .int sT, .int (nI n), .int (nI h), .int (nI mk), .int ps, .int rr, .ref (bd 3), .ref (bd 4), .int sH, .int sM, .int sP, .ref (bd 5), .ref (bd 6), .ref (bd 7), .int (nI z), .ref (bd 8), .ref (bd 9), .ref (bd 10), .ref (bd 11), .int sd, .int kR, .int kH, .int kM, .int kP, .int (nI kz), .ref (bd 12), .ref (bd 13), .long hs])), (bd 3, .inl (G.2.1, 16, .inl (rowsF kI (upd me h (nI mk)) fl pd)))] := hD
  refine lv_aload_n hx hb dX12_goesTo_17 rfl (lv_at hl 0 rfl) ?_
  refine lv_aload_n hx hb dX12_goesTo_18 rfl (lv_at hl 0 rfl) ?_
  refine lv_iload_n hx hb dX12_goesTo_19 rfl (lv_at hl 1 rfl) ?_
  refine lv_aload_n hx hb dX12_goesTo_20 rfl (lv_at hl 0 rfl) ?_
  refine va_get (D := G.1) (ci := 12) (v := .int (nI mk)) (C := RX12) (T := TX12) (N := 33) hx hb hts (g_in wsX120 10 rfl) hown hK.1 hP 0 rfl rfl 8 (by decide) (hts _ (List.mem_of_getElem? (i := 3) rfl)) (fun _ h9 => h9) rfl dX12_goesTo_21 ?_
  refine g_callSi (va_runV (As := [.int (nI j), .int (nI mk)]) (rest := [.ref (bd 0)]) ⟨hx, hb, hml, hown, hts⟩ (m_doneBy l G bd ln rM rK sT n h mk ps rr sH sM sP z sd kR kH kM kP kz hs kI (upd me h (nI mk)) fl pd kd j mk (by omega) (by omega) hkd (by omega) (by omega)) (cwV 2 hts gX12_goesTo_X12_doneBy rfl rfl rfl (by decide +kernel) ⟨Nat.le_of_ble_eq_true rfl, Nat.le_of_ble_eq_true rfl⟩) (gR.V hK (show va_P G.1 vwCl [(bd 0, .inr (12, [.ref (bd 1), .int (nI ln), .ref (bd 2), .int rM, .int rK, .int sT, .int (nI n), .int (nI h), .int (nI mk), .int ps, .int rr, .ref (bd 3), .ref (bd 4), .int sH, .int sM, .int sP, .ref (bd 5), .ref (bd 6), .ref (bd 7), .int (nI z), .ref (bd 8), .ref (bd 9), .ref (bd 10), .ref (bd 11), .int sd, .int kR, .int kH, .int kM, .int kP, .int (nI kz), .ref (bd 12), .ref (bd 13), .long hs])), (bd 3, .inl (G.2.1, 16, .inl (rowsF kI (upd me h (nI mk)) fl pd)))] H from (hP.sub [0, 1] rfl)) hP (ci := 12) (q0 := 0) rfl rfl) rfl rfl hl.1 rfl (lv_room (Nat.le_of_ble_eq_true rfl)) dX12_goesTo_24 ⟨Nat.le_of_ble_eq_true rfl, Nat.le_of_ble_eq_true rfl⟩) (fun r hr0 => ?_)
  subst hr0
  refine va_put (D := G.1) (ci := 12) (v := .int (nI (touch (kd j) j mk))) (ty := .int) (C := RX12) (T := TX12) (N := 33) hx hb hts (g_in wsX120 10 rfl) tyX12 tyX12_ok nmX12 hown hK.1 hP hD hS 0 rfl rfl 8 (by decide) (hts _ (List.mem_of_getElem? (i := 3) rfl)) (fun _ h9 => h9) rfl (tyX12_ok 8 (by decide)) rfl rfl (Nat.le_of_ble_eq_true rfl) dX12_goesTo_27 (fun H locs hP hD hS => ?_)
  have hP : va_P G.1 vwCl [(bd 0, .inr (12, [.ref (bd 1), .int (nI ln), .ref (bd 2), .int rM, .int rK, .int sT, .int (nI n), .int (nI h), .int (nI (touch (kd j) j mk)), .int ps, .int rr, .ref (bd 3), .ref (bd 4), .int sH, .int sM, .int sP, .ref (bd 5), .ref (bd 6), .ref (bd 7), .int (nI z), .ref (bd 8), .ref (bd 9), .ref (bd 10), .ref (bd 11), .int sd, .int kR, .int kH, .int kM, .int kP, .int (nI kz), .ref (bd 12), .ref (bd 13), .long hs])), (bd 3, .inl (G.2.1, 16, .inl (rowsF kI (upd me h (nI mk)) fl pd)))] H := hP
  have hD : va_D A [(bd 0, .inr (12, [.ref (bd 1), .int (nI ln), .ref (bd 2), .int rM, .int rK, .int sT, .int (nI n), .int (nI h), .int (nI (touch (kd j) j mk)), .int ps, .int rr, .ref (bd 3), .ref (bd 4), .int sH, .int sM, .int sP, .ref (bd 5), .ref (bd 6), .ref (bd 7), .int (nI z), .ref (bd 8), .ref (bd 9), .ref (bd 10), .ref (bd 11), .int sd, .int kR, .int kH, .int kM, .int kP, .int (nI kz), .ref (bd 12), .ref (bd 13), .long hs])), (bd 3, .inl (G.2.1, 16, .inl (rowsF kI (upd me h (nI mk)) fl pd)))] := hD
  refine lv_aload_n hx hb dX12_goesTo_30 rfl (lv_at hl 0 rfl) ?_
  refine lv_iload_n hx hb dX12_goesTo_31 rfl (lv_at hl 1 rfl) ?_
  refine va_put (D := G.1) (ci := 12) (v := .int (nI j)) (ty := .int) (C := RX12) (T := TX12) (N := 33) hx hb hts (g_in wsX120 10 rfl) tyX12 tyX12_ok nmX12 hown hK.1 hP hD hS 0 rfl rfl 7 (by decide) (hts _ (List.mem_of_getElem? (i := 2) rfl)) (fun _ h9 => h9) rfl (tyX12_ok 7 (by decide)) rfl rfl (Nat.le_of_ble_eq_true rfl) dX12_goesTo_32 (fun H locs hP hD hS => ?_)
  have hP : va_P G.1 vwCl [(bd 0, .inr (12, [.ref (bd 1), .int (nI ln), .ref (bd 2), .int rM, .int rK, .int sT, .int (nI n), .int (nI j), .int (nI (touch (kd j) j mk)), .int ps, .int rr, .ref (bd 3), .ref (bd 4), .int sH, .int sM, .int sP, .ref (bd 5), .ref (bd 6), .ref (bd 7), .int (nI z), .ref (bd 8), .ref (bd 9), .ref (bd 10), .ref (bd 11), .int sd, .int kR, .int kH, .int kM, .int kP, .int (nI kz), .ref (bd 12), .ref (bd 13), .long hs])), (bd 3, .inl (G.2.1, 16, .inl (rowsF kI (upd me h (nI mk)) fl pd)))] H := hP
  have hD : va_D A [(bd 0, .inr (12, [.ref (bd 1), .int (nI ln), .ref (bd 2), .int rM, .int rK, .int sT, .int (nI n), .int (nI j), .int (nI (touch (kd j) j mk)), .int ps, .int rr, .ref (bd 3), .ref (bd 4), .int sH, .int sM, .int sP, .ref (bd 5), .ref (bd 6), .ref (bd 7), .int (nI z), .ref (bd 8), .ref (bd 9), .ref (bd 10), .ref (bd 11), .int sd, .int kR, .int kH, .int kM, .int kP, .int (nI kz), .ref (bd 12), .ref (bd 13), .long hs])), (bd 3, .inl (G.2.1, 16, .inl (rowsF kI (upd me h (nI mk)) fl pd)))] := hD
  refine lv_aload_n hx hb dX12_goesTo_35 rfl (lv_at hl 0 rfl) ?_
  refine va_get (D := G.1) (ci := 12) (v := .ref (bd 3)) (C := RX12) (T := TX12) (N := 33) hx hb hts (g_in wsX120 10 rfl) hown hK.1 hP 0 rfl rfl 11 (by decide) (hts _ (List.mem_of_getElem? (i := 1) rfl)) (fun _ h9 => h9) rfl dX12_goesTo_36 ?_
  refine lv_iconst (v := (nI 4)) hx hb dX12_goesTo_39 (by decide) ?_
  refine lv_iload_n hx hb dX12_goesTo_40 rfl (lv_at hl 1 rfl) ?_
  refine lv_imul hx hb dX12_goesTo_41 ?_
  refine g_top (y := (nI (4 * j))) (pk_mul _ _) ?_
  refine lv_iconst (v := (nI 2)) hx hb dX12_goesTo_42 (by decide) ?_
  refine lv_iadd hx hb dX12_goesTo_43 ?_
  refine g_top (y := (nI ((4 * j) + 2))) (nI_add _ _) ?_
  refine lv_iconst (v := (nI 0)) hx hb dX12_goesTo_44 (by decide) ?_
  refine g_iast hx hb hK hP hD hS 1 rfl (by omega) (by decide) dX12_goesTo_45 (fun H locs hP hD hS => ?_)
  have hP : va_P G.1 vwCl [(bd 0, .inr (12, [.ref (bd 1), .int (nI ln), .ref (bd 2), .int rM, .int rK, .int sT, .int (nI n), .int (nI j), .int (nI (touch (kd j) j mk)), .int ps, .int rr, .ref (bd 3), .ref (bd 4), .int sH, .int sM, .int sP, .ref (bd 5), .ref (bd 6), .ref (bd 7), .int (nI z), .ref (bd 8), .ref (bd 9), .ref (bd 10), .ref (bd 11), .int sd, .int kR, .int kH, .int kM, .int kP, .int (nI kz), .ref (bd 12), .ref (bd 13), .long hs])), (bd 3, .inl (G.2.1, 16, .inl (upd (rowsF kI (upd me h (nI mk)) fl pd) ((4 * j) + 2) (nI 0))))] H := hP
  have hD : va_D A [(bd 0, .inr (12, [.ref (bd 1), .int (nI ln), .ref (bd 2), .int rM, .int rK, .int sT, .int (nI n), .int (nI j), .int (nI (touch (kd j) j mk)), .int ps, .int rr, .ref (bd 3), .ref (bd 4), .int sH, .int sM, .int sP, .ref (bd 5), .ref (bd 6), .ref (bd 7), .int (nI z), .ref (bd 8), .ref (bd 9), .ref (bd 10), .ref (bd 11), .int sd, .int kR, .int kH, .int kM, .int kP, .int (nI kz), .ref (bd 12), .ref (bd 13), .long hs])), (bd 3, .inl (G.2.1, 16, .inl (upd (rowsF kI (upd me h (nI mk)) fl pd) ((4 * j) + 2) (nI 0))))] := hD
  have hP := g_arr hP 1 rfl (show ∀ k9, k9 < 16 → (upd (rowsF kI (upd me h (nI mk)) fl pd) ((4 * j) + 2) (nI 0)) k9 = (rowsF kI (upd me h (nI mk)) (upd fl j (nI 0)) pd) k9 from fun k9 _ => rowsU_2 k9)
  have hD := hD.set (p := 1) (a := bd 3) (e := .inl (G.2.1, 16, .inl (rowsF kI (upd me h (nI mk)) (upd fl j (nI 0)) pd))) rfl
  have hP : va_P G.1 vwCl [(bd 0, .inr (12, [.ref (bd 1), .int (nI ln), .ref (bd 2), .int rM, .int rK, .int sT, .int (nI n), .int (nI j), .int (nI (touch (kd j) j mk)), .int ps, .int rr, .ref (bd 3), .ref (bd 4), .int sH, .int sM, .int sP, .ref (bd 5), .ref (bd 6), .ref (bd 7), .int (nI z), .ref (bd 8), .ref (bd 9), .ref (bd 10), .ref (bd 11), .int sd, .int kR, .int kH, .int kM, .int kP, .int (nI kz), .ref (bd 12), .ref (bd 13), .long hs])), (bd 3, .inl (G.2.1, 16, .inl (rowsF kI (upd me h (nI mk)) (upd fl j (nI 0)) pd)))] H := hP
  have hD : va_D A [(bd 0, .inr (12, [.ref (bd 1), .int (nI ln), .ref (bd 2), .int rM, .int rK, .int sT, .int (nI n), .int (nI j), .int (nI (touch (kd j) j mk)), .int ps, .int rr, .ref (bd 3), .ref (bd 4), .int sH, .int sM, .int sP, .ref (bd 5), .ref (bd 6), .ref (bd 7), .int (nI z), .ref (bd 8), .ref (bd 9), .ref (bd 10), .ref (bd 11), .int sd, .int kR, .int kH, .int kM, .int kP, .int (nI kz), .ref (bd 12), .ref (bd 13), .long hs])), (bd 3, .inl (G.2.1, 16, .inl (rowsF kI (upd me h (nI mk)) (upd fl j (nI 0)) pd)))] := hD
  refine lv_aload_n hx hb dX12_goesTo_46 rfl (lv_at hl 0 rfl) ?_
  refine lv_dup hx hb dX12_goesTo_47 rfl ?_
  refine va_get (D := G.1) (ci := 12) (v := .int ps) (C := RX12) (T := TX12) (N := 33) hx hb hts (g_in wsX120 10 rfl) hown hK.1 hP 0 rfl rfl 9 (by decide) (hts _ (List.mem_of_getElem? (i := 4) rfl)) (fun _ h9 => h9) rfl dX12_goesTo_48 ?_
  refine lv_iconst (v := (nI 1)) hx hb dX12_goesTo_51 (by decide) ?_
  refine lv_iadd hx hb dX12_goesTo_52 ?_
  refine va_put (D := G.1) (ci := 12) (v := .int (ps + (nI 1))) (ty := .int) (C := RX12) (T := TX12) (N := 33) hx hb hts (g_in wsX120 10 rfl) tyX12 tyX12_ok nmX12 hown hK.1 hP hD hS 0 rfl rfl 9 (by decide) (hts _ (List.mem_of_getElem? (i := 4) rfl)) (fun _ h9 => h9) rfl (tyX12_ok 9 (by decide)) rfl rfl (Nat.le_of_ble_eq_true rfl) dX12_goesTo_53 (fun H locs hP hD hS => ?_)
  have hP : va_P G.1 vwCl [(bd 0, .inr (12, [.ref (bd 1), .int (nI ln), .ref (bd 2), .int rM, .int rK, .int sT, .int (nI n), .int (nI j), .int (nI (touch (kd j) j mk)), .int (ps + (nI 1)), .int rr, .ref (bd 3), .ref (bd 4), .int sH, .int sM, .int sP, .ref (bd 5), .ref (bd 6), .ref (bd 7), .int (nI z), .ref (bd 8), .ref (bd 9), .ref (bd 10), .ref (bd 11), .int sd, .int kR, .int kH, .int kM, .int kP, .int (nI kz), .ref (bd 12), .ref (bd 13), .long hs])), (bd 3, .inl (G.2.1, 16, .inl (rowsF kI (upd me h (nI mk)) (upd fl j (nI 0)) pd)))] H := hP
  have hD : va_D A [(bd 0, .inr (12, [.ref (bd 1), .int (nI ln), .ref (bd 2), .int rM, .int rK, .int sT, .int (nI n), .int (nI j), .int (nI (touch (kd j) j mk)), .int (ps + (nI 1)), .int rr, .ref (bd 3), .ref (bd 4), .int sH, .int sM, .int sP, .ref (bd 5), .ref (bd 6), .ref (bd 7), .int (nI z), .ref (bd 8), .ref (bd 9), .ref (bd 10), .ref (bd 11), .int sd, .int kR, .int kH, .int kM, .int kP, .int (nI kz), .ref (bd 12), .ref (bd 13), .long hs])), (bd 3, .inl (G.2.1, 16, .inl (rowsF kI (upd me h (nI mk)) (upd fl j (nI 0)) pd)))] := hD
  have hP9 : va_P G.1 vwCl [(bd 0, .inr (12, [.ref (bd 1), .int (nI ln), .ref (bd 2), .int rM, .int rK, .int sT, .int (nI n), .int (nI j), .int (nI (touch (kd j) j mk)), .int (ps + nI 1), .int rr, .ref (bd 3), .ref (bd 4), .int sH, .int sM, .int sP, .ref (bd 5), .ref (bd 6), .ref (bd 7), .int (nI z), .ref (bd 8), .ref (bd 9), .ref (bd 10), .ref (bd 11), .int sd, .int kR, .int kH, .int kM, .int kP, .int (nI kz), .ref (bd 12), .ref (bd 13), .long hs])), (bd 3, .inl (G.2.1, 16, .inl (rowsF kI (upd me h (nI mk)) (upd fl j (nI 0)) pd)))] H := (hP.sub [0, 1] rfl)
  have hD9 : va_D A [(bd 0, .inr (12, [.ref (bd 1), .int (nI ln), .ref (bd 2), .int rM, .int rK, .int sT, .int (nI n), .int (nI j), .int (nI (touch (kd j) j mk)), .int (ps + nI 1), .int rr, .ref (bd 3), .ref (bd 4), .int sH, .int sM, .int sP, .ref (bd 5), .ref (bd 6), .ref (bd 7), .int (nI z), .ref (bd 8), .ref (bd 9), .ref (bd 10), .ref (bd 11), .int sd, .int kR, .int kH, .int kM, .int kP, .int (nI kz), .ref (bd 12), .ref (bd 13), .long hs])), (bd 3, .inl (G.2.1, 16, .inl (rowsF kI (upd me h (nI mk)) (upd fl j (nI 0)) pd)))] := (hD.sub [0, 1] (by decide) rfl)
  exact W.vret hx hb hr (fun t9 ht9 hW9 => ⟨⟨(), rfl, trivial, by rw [ht9]; exact hP9, hD9⟩, hS.F ht9⟩) hS.2.2 dX12_goesTo_56
