/-! words for a page: its letters lg, how many (ln) -/
def pAt (lg : Nat → Int32) (ln k : Nat) : Int32 := if k < ln then lg k else nI 0
abbrev isKL (x : Int32) : Prop := x = nI 112 ∨ x = nI 99 ∨ x = nI 115 ∨ x = nI 119 ∨ x = nI 100
def leadF (lg : Nat → Int32) (ln : Nat) : Nat → Nat → Nat
  | 0, t => t
  | f + 1, t => if isKL (pAt lg ln t) then leadF lg ln f (t + 1) else t
def lead (lg : Nat → Int32) (ln : Nat) : Nat := leadF lg ln 4 0
theorem leadF_le (lg : Nat → Int32) (ln : Nat) : ∀ f t : Nat, leadF lg ln f t ≤ f + t
  | 0, t => by simp [leadF]
  | f + 1, t => by
    have h := leadF_le lg ln f (t + 1)
    simp only [leadF]; split <;> omega
theorem lead_le (lg : Nat → Int32) (ln : Nat) : lead lg ln ≤ 4 := leadF_le lg ln 4 0
theorem leadF_go {lg : Nat → Int32} {ln t : Nat} (ht : t < 4) (h : isKL (pAt lg ln t)) : leadF lg ln (4 - t) t = leadF lg ln (4 - (t + 1)) (t + 1) := by
  obtain ⟨f, hf⟩ : ∃ f, 4 - t = f + 1 := ⟨4 - (t + 1), by omega⟩
  rw [hf, show 4 - (t + 1) = f by omega]; simp [leadF, h]
theorem leadF_no {lg : Nat → Int32} {ln t : Nat} (ht : t < 4) (h : ¬ isKL (pAt lg ln t)) : leadF lg ln (4 - t) t = t := by
  obtain ⟨f, hf⟩ : ∃ f, 4 - t = f + 1 := ⟨4 - (t + 1), by omega⟩
  rw [hf]; simp only [leadF]; rw [if_neg h]
abbrev fitT (lg : Nat → Int32) (ln k t : Nat) : Prop := (k - t = 0 ∧ 2 ≤ t ∧ pAt lg ln k = nI 59) ∨ (k - t = 1 ∧ 48 ≤ (pAt lg ln k).toInt ∧ (pAt lg ln k).toInt < 52) ∨ (k - t = 2 ∧ 48 ≤ (pAt lg ln k).toInt ∧ (pAt lg ln k).toInt < 56)
def faultG (lg : Nat → Int32) (ln t : Nat) : Nat → Nat → Nat
  | 0, _ => ln
  | f + 1, k => if fitT lg ln k t then faultG lg ln t f (k + 1) else k
def faultP (lg : Nat → Int32) (ln : Nat) : Nat := faultG lg ln (lead lg ln) (ln - lead lg ln) (lead lg ln)
theorem faultG_go {lg : Nat → Int32} {ln t k : Nat} (hk : k < ln) (h : fitT lg ln k t) : faultG lg ln t (ln - k) k = faultG lg ln t (ln - (k + 1)) (k + 1) := by
  obtain ⟨f, hf⟩ : ∃ f, ln - k = f + 1 := ⟨ln - (k + 1), by omega⟩
  rw [hf, show ln - (k + 1) = f by omega]; simp only [faultG]; rw [if_pos h]
theorem faultG_no {lg : Nat → Int32} {ln t k : Nat} (hk : k < ln) (h : ¬ fitT lg ln k t) : faultG lg ln t (ln - k) k = k := by
  obtain ⟨f, hf⟩ : ∃ f, ln - k = f + 1 := ⟨ln - (k + 1), by omega⟩
  rw [hf]; simp only [faultG]; rw [if_neg h]
theorem faultG_end {lg : Nat → Int32} {ln t k : Nat} (hk : ln ≤ k) : faultG lg ln t (ln - k) k = ln := by
  rw [show ln - k = 0 by omega]; rfl
theorem faultG_le (lg : Nat → Int32) (ln t : Nat) : ∀ f k : Nat, f + k ≤ ln ∨ f = 0 → faultG lg ln t f k ≤ ln
  | 0, k, _ => Nat.le_refl _
  | f + 1, k, h => by
    simp only [faultG]; split
    · exact faultG_le lg ln t f (k + 1) (by omega)
    · omega
theorem faultP_le (lg : Nat → Int32) (ln : Nat) : faultP lg ln ≤ ln := faultG_le lg ln _ _ _ (by omega)

set_option maxHeartbeats 4000000 in
set_option maxRecDepth 100000 in
theorem c_isKindLetter (l : Launch) (G : gG) (x : Int32)  : Met l yX5_isKindLetter wsX5_isKindLetter ({ frames := 0, cells := 0, slots := 0, locals := 0 } : Room) (gR G [.int x] []) (vp_Si (fun r : Int32 => r = (bI (isKL x)))) 0 0 (fun _ => False) := by
  refine Met.ofW (cc := cX5_isKindLetter) (maxL := 1) (ret := (some .boolean)) (by decide) rfl ?_
  intro p e s m args below meth c s₁ B hml hv
  obtain ⟨rfl, hP, hK⟩ := hv
  have hx := B.exec
  have hb := B.bytes
  have hr := B.returns
  have hts := atoms_spec (ws := wsX5_isKindLetter) B.pre
  have hown : s.vm.findClass RX5 = some m.cls := findClass_of_methodNamed B.named
  have hlocks := B.notSynchronized
  have hl := lv_entry ([.int x]) (n := 1) (Nat.le_of_ble_eq_true rfl)
  rw [lg_entry_eq]
  generalize (lg_sl ([.int x]) ++ List.replicate (1 - (lg_sl ([.int x])).length) Slot.unset).toArray = ls at hl ⊢
  have hl : lv_has ls 1 [(0, .int x)] := hl
  refine lv_iload_n hx hb dX5_isKindLetter_0 rfl (lv_at hl 0 rfl) ?_
  refine lv_bipush (v := (nI 112)) hx hb dX5_isKindLetter_1 (by decide) ?_
  refine lv_icmp_eq (tgt := 30) hx hb dX5_isKindLetter_3 (by decide) (fun c_1 => ?_) (fun c_1 => ?_)
  · skip
    refine lv_iconst (v := (nI 1)) hx hb dX5_isKindLetter_30 (by decide) ?_
    refine lv_goto (tgt := 35) hx hb dX5_isKindLetter_31 (by decide) ?_
    have w9_r : (nI 1) = (bI (isKL x)) := (by first | exact bI_t (by first | exact Or.inl (by assumption) | exact Or.inr (Or.inl (by assumption)) | exact Or.inr (Or.inr (Or.inl (by assumption))) | exact Or.inr (Or.inr (Or.inr (Or.inl (by assumption)))) | exact Or.inr (Or.inr (Or.inr (Or.inr (by assumption))))) | exact bI_f (by rintro (h | h | h | h | h) <;> contradiction))
    exact W.zret (ty := .boolean) hx hb hr (by decide) (fun t9 ht9 _ => ⟨(nI 1), rfl, w9_r, ht9⟩) (fun _ h => absurd h List.not_mem_nil) dX5_isKindLetter_35
  · skip
    refine lv_iload_n hx hb dX5_isKindLetter_6 rfl (lv_at hl 0 rfl) ?_
    refine lv_bipush (v := (nI 99)) hx hb dX5_isKindLetter_7 (by decide) ?_
    refine lv_icmp_eq (tgt := 30) hx hb dX5_isKindLetter_9 (by decide) (fun c_2 => ?_) (fun c_2 => ?_)
    · skip
      refine lv_iconst (v := (nI 1)) hx hb dX5_isKindLetter_30 (by decide) ?_
      refine lv_goto (tgt := 35) hx hb dX5_isKindLetter_31 (by decide) ?_
      have w9_r : (nI 1) = (bI (isKL x)) := (by first | exact bI_t (by first | exact Or.inl (by assumption) | exact Or.inr (Or.inl (by assumption)) | exact Or.inr (Or.inr (Or.inl (by assumption))) | exact Or.inr (Or.inr (Or.inr (Or.inl (by assumption)))) | exact Or.inr (Or.inr (Or.inr (Or.inr (by assumption))))) | exact bI_f (by rintro (h | h | h | h | h) <;> contradiction))
      exact W.zret (ty := .boolean) hx hb hr (by decide) (fun t9 ht9 _ => ⟨(nI 1), rfl, w9_r, ht9⟩) (fun _ h => absurd h List.not_mem_nil) dX5_isKindLetter_35
    · skip
      refine lv_iload_n hx hb dX5_isKindLetter_12 rfl (lv_at hl 0 rfl) ?_
      refine lv_bipush (v := (nI 115)) hx hb dX5_isKindLetter_13 (by decide) ?_
      refine lv_icmp_eq (tgt := 30) hx hb dX5_isKindLetter_15 (by decide) (fun c_3 => ?_) (fun c_3 => ?_)
      · skip
        refine lv_iconst (v := (nI 1)) hx hb dX5_isKindLetter_30 (by decide) ?_
        refine lv_goto (tgt := 35) hx hb dX5_isKindLetter_31 (by decide) ?_
        have w9_r : (nI 1) = (bI (isKL x)) := (by first | exact bI_t (by first | exact Or.inl (by assumption) | exact Or.inr (Or.inl (by assumption)) | exact Or.inr (Or.inr (Or.inl (by assumption))) | exact Or.inr (Or.inr (Or.inr (Or.inl (by assumption)))) | exact Or.inr (Or.inr (Or.inr (Or.inr (by assumption))))) | exact bI_f (by rintro (h | h | h | h | h) <;> contradiction))
        exact W.zret (ty := .boolean) hx hb hr (by decide) (fun t9 ht9 _ => ⟨(nI 1), rfl, w9_r, ht9⟩) (fun _ h => absurd h List.not_mem_nil) dX5_isKindLetter_35
      · skip
        refine lv_iload_n hx hb dX5_isKindLetter_18 rfl (lv_at hl 0 rfl) ?_
        refine lv_bipush (v := (nI 119)) hx hb dX5_isKindLetter_19 (by decide) ?_
        refine lv_icmp_eq (tgt := 30) hx hb dX5_isKindLetter_21 (by decide) (fun c_4 => ?_) (fun c_4 => ?_)
        · skip
          refine lv_iconst (v := (nI 1)) hx hb dX5_isKindLetter_30 (by decide) ?_
          refine lv_goto (tgt := 35) hx hb dX5_isKindLetter_31 (by decide) ?_
          have w9_r : (nI 1) = (bI (isKL x)) := (by first | exact bI_t (by first | exact Or.inl (by assumption) | exact Or.inr (Or.inl (by assumption)) | exact Or.inr (Or.inr (Or.inl (by assumption))) | exact Or.inr (Or.inr (Or.inr (Or.inl (by assumption)))) | exact Or.inr (Or.inr (Or.inr (Or.inr (by assumption))))) | exact bI_f (by rintro (h | h | h | h | h) <;> contradiction))
          exact W.zret (ty := .boolean) hx hb hr (by decide) (fun t9 ht9 _ => ⟨(nI 1), rfl, w9_r, ht9⟩) (fun _ h => absurd h List.not_mem_nil) dX5_isKindLetter_35
        · skip
          refine lv_iload_n hx hb dX5_isKindLetter_24 rfl (lv_at hl 0 rfl) ?_
          refine lv_bipush (v := (nI 100)) hx hb dX5_isKindLetter_25 (by decide) ?_
          refine lv_icmp_ne (tgt := 34) hx hb dX5_isKindLetter_27 (by decide) (fun c_5 => ?_) (fun c_5 => ?_)
          · skip
            refine lv_iconst (v := (nI 0)) hx hb dX5_isKindLetter_34 (by decide) ?_
            have w9_r : (nI 0) = (bI (isKL x)) := (by first | exact bI_t (by first | exact Or.inl (by assumption) | exact Or.inr (Or.inl (by assumption)) | exact Or.inr (Or.inr (Or.inl (by assumption))) | exact Or.inr (Or.inr (Or.inr (Or.inl (by assumption)))) | exact Or.inr (Or.inr (Or.inr (Or.inr (by assumption))))) | exact bI_f (by rintro (h | h | h | h | h) <;> contradiction))
            exact W.zret (ty := .boolean) hx hb hr (by decide) (fun t9 ht9 _ => ⟨(nI 0), rfl, w9_r, ht9⟩) (fun _ h => absurd h List.not_mem_nil) dX5_isKindLetter_35
          · skip
            refine lv_iconst (v := (nI 1)) hx hb dX5_isKindLetter_30 (by decide) ?_
            refine lv_goto (tgt := 35) hx hb dX5_isKindLetter_31 (by decide) ?_
            have w9_r : (nI 1) = (bI (isKL x)) := (by first | exact bI_t (by first | exact Or.inl (by assumption) | exact Or.inr (Or.inl (by assumption)) | exact Or.inr (Or.inr (Or.inl (by assumption))) | exact Or.inr (Or.inr (Or.inr (Or.inl (by assumption)))) | exact Or.inr (Or.inr (Or.inr (Or.inr (by assumption))))) | exact bI_f (by rintro (h | h | h | h | h) <;> contradiction))
            exact W.zret (ty := .boolean) hx hb hr (by decide) (fun t9 ht9 _ => ⟨(nI 1), rfl, w9_r, ht9⟩) (fun _ h => absurd h List.not_mem_nil) dX5_isKindLetter_35

set_option maxHeartbeats 4000000 in
set_option maxRecDepth 100000 in
theorem c_Page_add (l : Launch) (G : gG) (h0 : Nat) (al : Nat) (ln : Nat) (lg : Nat → Int32) (x : Int32) (sz : Nat) (hln : ln ≤ 10) : Met l yX4_add wsX4_add ({ frames := 0, cells := 0, slots := 0, locals := 0 } : Room) (gM G [.ref h0, .int x] [(h0, .inr (4, [.ref al, .int (nI ln)])), (al, .inl (G.2.1, 10, .inl lg))] sz) (va_Qi (fun (r : Int32) (u : Nat × (Nat → Int32)) => r = (bI (ln < 10)) ∧ (ln < 10 → u.1 = ln + 1 ∧ u.2 = upd lg ln x) ∧ (¬ ln < 10 → u.1 = ln ∧ u.2 = lg)) (fun u t => va_P G.1 vwCl [(h0, .inr (4, [.ref al, .int (nI u.1)])), (al, .inl (G.2.1, 10, .inl u.2))] t.heap ∧ va_D (va_A [(h0, .inr (4, [.ref al, .int (nI ln)])), (al, .inl (G.2.1, 10, .inl lg))] sz) [(h0, .inr (4, [.ref al, .int (nI u.1)])), (al, .inl (G.2.1, 10, .inl u.2))]) (va_A [(h0, .inr (4, [.ref al, .int (nI ln)])), (al, .inl (G.2.1, 10, .inl lg))] sz)) 0 0 (va_A [(h0, .inr (4, [.ref al, .int (nI ln)])), (al, .inl (G.2.1, 10, .inl lg))] sz) := by
  refine Met.ofW (cc := cX4_add) (maxL := 2) (ret := (some .boolean)) (by decide) rfl ?_
  intro p e s m args below meth c s₁ B hml hv
  obtain ⟨rfl, hsz, hP, hK, hD0⟩ := hv
  have hx := B.exec
  have hb := B.bytes
  have hr := B.returns
  have hts := atoms_spec (ws := wsX4_add) B.pre
  have hown : s.vm.findClass RX4 = some m.cls := findClass_of_methodNamed B.named
  have hlocks := B.notSynchronized
  subst hsz
  have hD := hD0.self (sz := s.heap.size)
  generalize hAe : va_A [(h0, .inr (4, [.ref al, .int (nI ln)])), (al, .inl (G.2.1, 10, .inl lg))] s.heap.size = A at hD ⊢
  have hA : ∀ q : Nat, s.heap.size ≤ q → A q := fun q h => by rw [← hAe]; exact Or.inr h
  have hS : va_S A s.heap s.heap [] := va_S.rf
  clear hAe hD0
  have hl := lv_entry ([.ref h0, .int x]) (n := 2) (Nat.le_of_ble_eq_true rfl)
  rw [lg_entry_eq]
  generalize (lg_sl ([.ref h0, .int x]) ++ List.replicate (2 - (lg_sl ([.ref h0, .int x])).length) Slot.unset).toArray = ls at hl ⊢
  have hl : lv_has ls 2 [(0, .ref h0), (1, .int x)] := hl
  refine lv_aload_n hx hb dX4_add_0 rfl (lv_at hl 0 rfl) ?_
  refine va_get (D := G.1) (ci := 4) (v := .int (nI ln)) (C := RX4) (T := TX4) (N := 2) hx hb hts (g_in wsX40 3 rfl) hown hK.1 hP 0 rfl rfl 1 (by decide) (hts _ (List.mem_of_getElem? (i := 1) rfl)) (fun _ h9 => h9) rfl dX4_add_1 ?_
  refine lv_bipush (v := (nI 10)) hx hb dX4_add_4 (by decide) ?_
  refine lv_icmp_lt (tgt := 11) hx hb dX4_add_6 (by decide) (fun c_1 => ?_) (fun c_1 => ?_)
  · skip
    have c_1 := (cLtNN (a := ln) (b := 10) (by omega) (by omega)).mp c_1
    refine lv_aload_n hx hb dX4_add_11 rfl (lv_at hl 0 rfl) ?_
    refine va_get (D := G.1) (ci := 4) (v := .ref al) (C := RX4) (T := TX4) (N := 2) hx hb hts (g_in wsX40 3 rfl) hown hK.1 hP 0 rfl rfl 0 (by decide) (hts _ (List.mem_of_getElem? (i := 2) rfl)) (fun _ h9 => h9) rfl dX4_add_12 ?_
    refine lv_aload_n hx hb dX4_add_15 rfl (lv_at hl 0 rfl) ?_
    refine va_get (D := G.1) (ci := 4) (v := .int (nI ln)) (C := RX4) (T := TX4) (N := 2) hx hb hts (g_in wsX40 3 rfl) hown hK.1 hP 0 rfl rfl 1 (by decide) (hts _ (List.mem_of_getElem? (i := 1) rfl)) (fun _ h9 => h9) rfl dX4_add_16 ?_
    refine lv_iload_n hx hb dX4_add_19 rfl (lv_at hl 1 rfl) ?_
    refine g_iast hx hb hK hP hD hS 1 rfl (by omega) (by decide) dX4_add_20 (fun H locs hP hD hS => ?_)
    have hP : va_P G.1 vwCl [(h0, .inr (4, [.ref al, .int (nI ln)])), (al, .inl (G.2.1, 10, .inl (upd lg ln x)))] H := hP
    have hD : va_D A [(h0, .inr (4, [.ref al, .int (nI ln)])), (al, .inl (G.2.1, 10, .inl (upd lg ln x)))] := hD
    refine lv_aload_n hx hb dX4_add_21 rfl (lv_at hl 0 rfl) ?_
    refine lv_dup hx hb dX4_add_22 rfl ?_
    refine va_get (D := G.1) (ci := 4) (v := .int (nI ln)) (C := RX4) (T := TX4) (N := 2) hx hb hts (g_in wsX40 3 rfl) hown hK.1 hP 0 rfl rfl 1 (by decide) (hts _ (List.mem_of_getElem? (i := 1) rfl)) (fun _ h9 => h9) rfl dX4_add_23 ?_
    refine lv_iconst (v := (nI 1)) hx hb dX4_add_26 (by decide) ?_
    refine lv_iadd hx hb dX4_add_27 ?_
    refine g_top (y := (nI (ln + 1))) (nI_add _ _) ?_
    refine va_put (D := G.1) (ci := 4) (v := .int (nI (ln + 1))) (ty := .int) (C := RX4) (T := TX4) (N := 2) hx hb hts (g_in wsX40 3 rfl) tyX4 tyX4_ok nmX4 hown hK.1 hP hD hS 0 rfl rfl 1 (by decide) (hts _ (List.mem_of_getElem? (i := 1) rfl)) (fun _ h9 => h9) rfl (tyX4_ok 1 (by decide)) rfl rfl (Nat.le_of_ble_eq_true rfl) dX4_add_28 (fun H locs hP hD hS => ?_)
    have hP : va_P G.1 vwCl [(h0, .inr (4, [.ref al, .int (nI (ln + 1))])), (al, .inl (G.2.1, 10, .inl (upd lg ln x)))] H := hP
    have hD : va_D A [(h0, .inr (4, [.ref al, .int (nI (ln + 1))])), (al, .inl (G.2.1, 10, .inl (upd lg ln x)))] := hD
    refine lv_iconst (v := (nI 1)) hx hb dX4_add_31 (by decide) ?_
    have w9_r : (nI 1) = (bI (ln < 10)) := (by first | exact bI_t (by omega) | exact bI_f (by omega))
    have w9_0 : ln < 10 → (ln + 1) = ln + 1 ∧ (upd lg ln x) = upd lg ln x := (fun h => by first | exact ⟨rfl, rfl⟩ | omega)
    have w9_1 : ¬ ln < 10 → (ln + 1) = ln ∧ (upd lg ln x) = lg := (fun h => by first | exact ⟨rfl, rfl⟩ | omega)
    have hP9 : va_P G.1 vwCl [(h0, .inr (4, [.ref al, .int (nI (ln + 1))])), (al, .inl (G.2.1, 10, .inl (upd lg ln x)))] H := (hP.sub [0, 1] rfl)
    have hD9 : va_D A [(h0, .inr (4, [.ref al, .int (nI (ln + 1))])), (al, .inl (G.2.1, 10, .inl (upd lg ln x)))] := (hD.sub [0, 1] (by decide) rfl)
    exact W.zret (ty := .boolean) hx hb hr (by decide) (fun t9 ht9 hW9 => ⟨⟨(nI 1), (ln + 1, upd lg ln x), rfl, ⟨w9_r, w9_0, w9_1⟩, by rw [ht9]; exact hP9, hD9⟩, hS.F ht9⟩) hS.2.2 dX4_add_32
  · skip
    have c_1 := gNot (cLtNN (a := ln) (b := 10) (by omega) (by omega)) c_1
    refine lv_iconst (v := (nI 0)) hx hb dX4_add_9 (by decide) ?_
    have w9_r : (nI 0) = (bI (ln < 10)) := (by first | exact bI_t (by omega) | exact bI_f (by omega))
    have w9_0 : ln < 10 → ln = ln + 1 ∧ lg = upd lg ln x := (fun h => by first | exact ⟨rfl, rfl⟩ | omega)
    have w9_1 : ¬ ln < 10 → ln = ln ∧ lg = lg := (fun h => by first | exact ⟨rfl, rfl⟩ | omega)
    have hP9 : va_P G.1 vwCl [(h0, .inr (4, [.ref al, .int (nI ln)])), (al, .inl (G.2.1, 10, .inl lg))] s.heap := (hP.sub [0, 1] rfl)
    have hD9 : va_D A [(h0, .inr (4, [.ref al, .int (nI ln)])), (al, .inl (G.2.1, 10, .inl lg))] := (hD.sub [0, 1] (by decide) rfl)
    exact W.zret (ty := .boolean) hx hb hr (by decide) (fun t9 ht9 hW9 => ⟨⟨(nI 0), (ln, lg), rfl, ⟨w9_r, w9_0, w9_1⟩, by rw [ht9]; exact hP9, hD9⟩, hS.F ht9⟩) hS.2.2 dX4_add_10

set_option maxHeartbeats 4000000 in
set_option maxRecDepth 100000 in
theorem c_Page_clear (l : Launch) (G : gG) (h0 : Nat) (al : Nat) (ln : Nat) (lg : Nat → Int32) (sz : Nat)  : Met l yX4_clear wsX4_clear ({ frames := 0, cells := 0, slots := 0, locals := 0 } : Room) (gM G [.ref h0] [(h0, .inr (4, [.ref al, .int (nI ln)])), (al, .inl (G.2.1, 10, .inl lg))] sz) (va_Qv (fun (u : Unit) => True) (fun u t => va_P G.1 vwCl [(h0, .inr (4, [.ref al, .int (nI 0)])), (al, .inl (G.2.1, 10, .inl lg))] t.heap ∧ va_D (va_A [(h0, .inr (4, [.ref al, .int (nI ln)])), (al, .inl (G.2.1, 10, .inl lg))] sz) [(h0, .inr (4, [.ref al, .int (nI 0)])), (al, .inl (G.2.1, 10, .inl lg))]) (va_A [(h0, .inr (4, [.ref al, .int (nI ln)])), (al, .inl (G.2.1, 10, .inl lg))] sz)) 0 0 (va_A [(h0, .inr (4, [.ref al, .int (nI ln)])), (al, .inl (G.2.1, 10, .inl lg))] sz) := by
  refine Met.ofW (cc := cX4_clear) (maxL := 1) (ret := none) (by decide) rfl ?_
  intro p e s m args below meth c s₁ B hml hv
  obtain ⟨rfl, hsz, hP, hK, hD0⟩ := hv
  have hx := B.exec
  have hb := B.bytes
  have hr := B.returns
  have hts := atoms_spec (ws := wsX4_clear) B.pre
  have hown : s.vm.findClass RX4 = some m.cls := findClass_of_methodNamed B.named
  have hlocks := B.notSynchronized
  subst hsz
  have hD := hD0.self (sz := s.heap.size)
  generalize hAe : va_A [(h0, .inr (4, [.ref al, .int (nI ln)])), (al, .inl (G.2.1, 10, .inl lg))] s.heap.size = A at hD ⊢
  have hA : ∀ q : Nat, s.heap.size ≤ q → A q := fun q h => by rw [← hAe]; exact Or.inr h
  have hS : va_S A s.heap s.heap [] := va_S.rf
  clear hAe hD0
  have hl := lv_entry ([.ref h0]) (n := 1) (Nat.le_of_ble_eq_true rfl)
  rw [lg_entry_eq]
  generalize (lg_sl ([.ref h0]) ++ List.replicate (1 - (lg_sl ([.ref h0])).length) Slot.unset).toArray = ls at hl ⊢
  have hl : lv_has ls 1 [(0, .ref h0)] := hl
  refine lv_aload_n hx hb dX4_clear_0 rfl (lv_at hl 0 rfl) ?_
  refine lv_iconst (v := (nI 0)) hx hb dX4_clear_1 (by decide) ?_
  refine va_put (D := G.1) (ci := 4) (v := .int (nI 0)) (ty := .int) (C := RX4) (T := TX4) (N := 2) hx hb hts (g_in wsX40 2 rfl) tyX4 tyX4_ok nmX4 hown hK.1 hP hD hS 0 rfl rfl 1 (by decide) (hts _ (List.mem_of_getElem? (i := 1) rfl)) (fun _ h9 => h9) rfl (tyX4_ok 1 (by decide)) rfl rfl (Nat.le_of_ble_eq_true rfl) dX4_clear_2 (fun H locs hP hD hS => ?_)
  have hP : va_P G.1 vwCl [(h0, .inr (4, [.ref al, .int (nI 0)])), (al, .inl (G.2.1, 10, .inl lg))] H := hP
  have hD : va_D A [(h0, .inr (4, [.ref al, .int (nI 0)])), (al, .inl (G.2.1, 10, .inl lg))] := hD
  have hP9 : va_P G.1 vwCl [(h0, .inr (4, [.ref al, .int (nI 0)])), (al, .inl (G.2.1, 10, .inl lg))] H := (hP.sub [0, 1] rfl)
  have hD9 : va_D A [(h0, .inr (4, [.ref al, .int (nI 0)])), (al, .inl (G.2.1, 10, .inl lg))] := (hD.sub [0, 1] (by decide) rfl)
  exact W.vret hx hb hr (fun t9 ht9 hW9 => ⟨⟨(), rfl, trivial, by rw [ht9]; exact hP9, hD9⟩, hS.F ht9⟩) hS.2.2 dX4_clear_5

set_option maxHeartbeats 4000000 in
set_option maxRecDepth 100000 in
theorem c_Page_at (l : Launch) (G : gG) (h0 : Nat) (al : Nat) (ln : Nat) (lg : Nat → Int32) (k : Nat) (hln : ln ≤ 10) (hk : k < 2 ^ 31) : Met l yX4_at wsX4_at ({ frames := 0, cells := 0, slots := 0, locals := 0 } : Room) (gR G [.ref h0, .int (nI k)] [(h0, .inr (4, [.ref al, .int (nI ln)])), (al, .inl (G.2.1, 10, .inl lg))]) (vp_Si (fun r : Int32 => r = (pAt lg ln k))) 0 0 (fun _ => False) := by
  refine Met.ofW (cc := cX4_at) (maxL := 2) (ret := (some .int)) (by decide) rfl ?_
  intro p e s m args below meth c s₁ B hml hv
  obtain ⟨rfl, hP, hK⟩ := hv
  have hx := B.exec
  have hb := B.bytes
  have hr := B.returns
  have hts := atoms_spec (ws := wsX4_at) B.pre
  have hown : s.vm.findClass RX4 = some m.cls := findClass_of_methodNamed B.named
  have hlocks := B.notSynchronized
  have hl := lv_entry ([.ref h0, .int (nI k)]) (n := 2) (Nat.le_of_ble_eq_true rfl)
  rw [lg_entry_eq]
  generalize (lg_sl ([.ref h0, .int (nI k)]) ++ List.replicate (2 - (lg_sl ([.ref h0, .int (nI k)])).length) Slot.unset).toArray = ls at hl ⊢
  have hl : lv_has ls 2 [(0, .ref h0), (1, .int (nI k))] := hl
  refine lv_iload_n hx hb dX4_at_0 rfl (lv_at hl 1 rfl) ?_
  refine lv_if_lt (tgt := 27) hx hb dX4_at_1 (by decide) (fun c_1 => ?_) (fun c_1 => ?_)
  · skip
    have c_1 := (cLtNN (a := k) (b := 0) (by omega) (by omega)).mp c_1
    exact absurd c_1 (by omega)
  · skip
    have c_1 := gNot (cLtNN (a := k) (b := 0) (by omega) (by omega)) c_1
    refine lv_iload_n hx hb dX4_at_4 rfl (lv_at hl 1 rfl) ?_
    refine lv_aload_n hx hb dX4_at_5 rfl (lv_at hl 0 rfl) ?_
    refine va_get (D := G.1) (ci := 4) (v := .int (nI ln)) (C := RX4) (T := TX4) (N := 2) hx hb hts (g_in wsX40 3 rfl) hown hK.1 hP 0 rfl rfl 1 (by decide) (hts _ (List.mem_of_getElem? (i := 1) rfl)) (fun _ h9 => h9) rfl dX4_at_6 ?_
    refine lv_icmp_ge (tgt := 27) hx hb dX4_at_9 (by decide) (fun c_2 => ?_) (fun c_2 => ?_)
    · skip
      have c_2 := (cLeNN (a := ln) (b := k) (by omega) (by omega)).mp c_2
      refine lv_iconst (v := (nI 0)) hx hb dX4_at_27 (by decide) ?_
      have w9_r : (nI 0) = (pAt lg ln k) := (by unfold pAt; first | rw [if_pos (by omega)] | rw [if_neg (by omega)])
      exact W.iret hx hb hr (fun t9 ht9 _ => ⟨(nI 0), rfl, w9_r, ht9⟩) (fun _ h => absurd h List.not_mem_nil) dX4_at_28
    · skip
      have c_2 := gNot (cLeNN (a := ln) (b := k) (by omega) (by omega)) c_2
      refine lv_iload_n hx hb dX4_at_12 rfl (lv_at hl 1 rfl) ?_
      refine lv_bipush (v := (nI 10)) hx hb dX4_at_13 (by decide) ?_
      refine lv_icmp_ge (tgt := 27) hx hb dX4_at_15 (by decide) (fun c_3 => ?_) (fun c_3 => ?_)
      · skip
        have c_3 := (cLeNN (a := 10) (b := k) (by omega) (by omega)).mp c_3
        exact absurd c_3 (by omega)
      · skip
        have c_3 := gNot (cLeNN (a := 10) (b := k) (by omega) (by omega)) c_3
        refine lv_aload_n hx hb dX4_at_18 rfl (lv_at hl 0 rfl) ?_
        refine va_get (D := G.1) (ci := 4) (v := .ref al) (C := RX4) (T := TX4) (N := 2) hx hb hts (g_in wsX40 3 rfl) hown hK.1 hP 0 rfl rfl 0 (by decide) (hts _ (List.mem_of_getElem? (i := 2) rfl)) (fun _ h9 => h9) rfl dX4_at_19 ?_
        refine lv_iload_n hx hb dX4_at_22 rfl (lv_at hl 1 rfl) ?_
        refine g_iald hx hb hK hP 1 rfl (by omega) (by decide) dX4_at_23 ?_
        refine lv_goto (tgt := 28) hx hb dX4_at_24 (by decide) ?_
        have w9_r : (lg k) = (pAt lg ln k) := (by unfold pAt; first | rw [if_pos (by omega)] | rw [if_neg (by omega)])
        exact W.iret hx hb hr (fun t9 ht9 _ => ⟨(lg k), rfl, w9_r, ht9⟩) (fun _ h => absurd h List.not_mem_nil) dX4_at_28

set_option maxHeartbeats 4000000 in
set_option maxRecDepth 100000 in
theorem c_leading (l : Launch) (G : gG) (h0 : Nat) (al : Nat) (ln : Nat) (lg : Nat → Int32) (hln : ln ≤ 10) : Met l yX4_leadingPeople wsX4_leadingPeople ({ frames := 1, cells := 0, slots := 0, locals := 21 } : Room) (gR G [.ref h0] [(h0, .inr (4, [.ref al, .int (nI ln)])), (al, .inl (G.2.1, 10, .inl lg))]) (vp_Si (fun r : Int32 => r = (nI (lead lg ln)))) 0 0 (fun _ => False) := by
  refine Met.ofW (cc := cX4_leadingPeople) (maxL := 2) (ret := (some .int)) (by decide) rfl ?_
  intro p e s m args below meth c s₁ B hml hv
  obtain ⟨rfl, hP, hK⟩ := hv
  have hx := B.exec
  have hb := B.bytes
  have hr := B.returns
  have hts := atoms_spec (ws := wsX4_leadingPeople) B.pre
  have hown : s.vm.findClass RX4 = some m.cls := findClass_of_methodNamed B.named
  have hlocks := B.notSynchronized
  have hl := lv_entry ([.ref h0]) (n := 2) (Nat.le_of_ble_eq_true rfl)
  rw [lg_entry_eq]
  generalize (lg_sl ([.ref h0]) ++ List.replicate (2 - (lg_sl ([.ref h0])).length) Slot.unset).toArray = ls at hl ⊢
  have hl : lv_has ls 2 [(0, .ref h0)] := hl
  refine lv_iconst (v := (nI 0)) hx hb dX4_leadingPeople_0 (by decide) ?_
  refine lv_istore_n (lv' := [(1, .int (nI 0)), (0, .ref h0)]) hx hb dX4_leadingPeople_1 rfl hl (by decide) rfl (fun ls hl => ?_)
  refine g_cutR1 (α := Nat) 2 (fun t => []) (fun t ls => (t ≤ 4) ∧ (leadF lg ln (4 - t) t = leadF lg ln 4 0) ∧ lv_has ls 2 [(0, .ref h0), (1, .int (nI t))]) (g_loopR1 (α := Nat) 2 (fun t => []) (fun t ls => (t ≤ 4) ∧ (leadF lg ln (4 - t) t = leadF lg ln 4 0) ∧ lv_has ls 2 [(0, .ref h0), (1, .int (nI t))]) (fun t => 4 - t) ?_) (fun L2_1 => ?_)
  · intro t ls hI L2_1
    obtain ⟨ht, he, hl⟩ := hI
    refine lv_iload_n hx hb dX4_leadingPeople_2 rfl (lv_at hl 1 rfl) ?_
    refine lv_iconst (v := (nI 4)) hx hb dX4_leadingPeople_3 (by decide) ?_
    refine lv_icmp_ge (tgt := 24) hx hb dX4_leadingPeople_4 (by decide) (fun c_2 => ?_) (fun c_2 => ?_)
    · skip
      have c_2 := (cLeNN (a := 4) (b := t) (by omega) (by omega)).mp c_2
      refine lv_iload_n hx hb dX4_leadingPeople_24 rfl (lv_at hl 1 rfl) ?_
      have w9_r : (nI t) = (nI (lead lg ln)) := (by unfold lead; rw [← he]; first | rw [leadF_no (by omega) (by assumption)] | rw [show 4 - t = 0 by omega]; simp only [leadF])
      exact W.iret hx hb hr (fun t9 ht9 _ => ⟨(nI t), rfl, w9_r, ht9⟩) (fun _ h => absurd h List.not_mem_nil) dX4_leadingPeople_25
    · skip
      have c_2 := gNot (cLeNN (a := 4) (b := t) (by omega) (by omega)) c_2
      refine lv_aload_n hx hb dX4_leadingPeople_7 rfl (lv_at hl 0 rfl) ?_
      refine lv_iload_n hx hb dX4_leadingPeople_8 rfl (lv_at hl 1 rfl) ?_
      refine g_callSi (va_runV (As := [.int (nI t)]) (rest := []) ⟨hx, hb, hml, hown, hts⟩ (c_Page_at l G h0 al ln lg t (by omega) (by omega)) (cwV 1 hts gX4_leadingPeople_X4_at rfl rfl rfl (by decide +kernel) ⟨Nat.le_of_ble_eq_true rfl, Nat.le_of_ble_eq_true rfl⟩) (gR.V hK (show va_P G.1 vwCl [(h0, .inr (4, [.ref al, .int (nI ln)])), (al, .inl (G.2.1, 10, .inl lg))] s.heap from (hP.sub [0, 1] rfl)) hP (ci := 4) (q0 := 0) rfl rfl) rfl rfl hl.1 rfl (lv_room (Nat.le_of_ble_eq_true rfl)) dX4_leadingPeople_9 ⟨Nat.le_of_ble_eq_true rfl, Nat.le_of_ble_eq_true rfl⟩) (fun r hr0 => ?_)
      subst hr0
      refine g_callSi (va_runSN (As := [.int (pAt lg ln t)]) (rest := []) ⟨hx, hb, hml, hown, hts⟩ (c_isKindLetter l G (pAt lg ln t) ) ⟨va_cnB 1 hts gX4_leadingPeople_X5_isKindLetter_n23 rfl rfl rfl (hK.nw 17 rfl) (hts _ (List.mem_of_getElem? (i := 9) rfl)) (by decide +kernel) ⟨Nat.le_of_ble_eq_true rfl, Nat.le_of_ble_eq_true rfl⟩, hts _ (List.mem_of_getElem? (i := 8) rfl), trivial⟩ (gR.S hK (show va_P G.1 vwCl [] s.heap from g_nil)) rfl rfl hl.1 rfl (lv_room (Nat.le_of_ble_eq_true rfl)) dX4_leadingPeople_12 ⟨Nat.le_of_ble_eq_true rfl, Nat.le_of_ble_eq_true rfl⟩) (fun r hr0 => ?_)
      subst hr0
      refine lv_if_eq (tgt := 24) hx hb dX4_leadingPeople_15 (by decide) (fun c_3 => ?_) (fun c_3 => ?_)
      · skip
        have c_3 := bI_z.mp c_3
        refine lv_iload_n hx hb dX4_leadingPeople_24 rfl (lv_at hl 1 rfl) ?_
        have w9_r : (nI t) = (nI (lead lg ln)) := (by unfold lead; rw [← he]; first | rw [leadF_no (by omega) (by assumption)] | rw [show 4 - t = 0 by omega]; simp only [leadF])
        exact W.iret hx hb hr (fun t9 ht9 _ => ⟨(nI t), rfl, w9_r, ht9⟩) (fun _ h => absurd h List.not_mem_nil) dX4_leadingPeople_25
      · skip
        have c_3 := bI_nz.mp c_3
        refine lv_iinc (v := (nI (t + 1))) (lv' := [(1, .int (nI (t + 1))), (0, .ref h0)]) hx hb dX4_leadingPeople_18 hl (k := 1) rfl (nI_iinc (by decide)) (by decide) rfl (fun ls hl => ?_)
        refine lv_goto (tgt := 2) hx hb dX4_leadingPeople_21 (by decide) ?_
        exact L2_1 (t + 1) _ (by omega) ⟨(by omega), (by rw [← he]; exact (leadF_go (by omega) (by assumption)).symm), lv_sub hl [1, 0] rfl⟩
  · skip
    exact L2_1 0 _ ⟨(by omega), rfl, lv_sub hl [1, 0] rfl⟩

set_option maxHeartbeats 4000000 in
set_option maxRecDepth 100000 in
theorem c_fits (l : Launch) (G : gG) (h0 : Nat) (al : Nat) (ln : Nat) (lg : Nat → Int32) (k : Nat) (t : Nat) (hln : ln ≤ 10) (hk : k ≤ 10) (ht : t ≤ k) : Met l yX4_fitsInTail wsX4_fitsInTail ({ frames := 1, cells := 0, slots := 0, locals := 21 } : Room) (gR G [.ref h0, .int (nI k), .int (nI t)] [(h0, .inr (4, [.ref al, .int (nI ln)])), (al, .inl (G.2.1, 10, .inl lg))]) (vp_Si (fun r : Int32 => r = (bI (fitT lg ln k t)))) 0 0 (fun _ => False) := by
  refine Met.ofW (cc := cX4_fitsInTail) (maxL := 4) (ret := (some .boolean)) (by decide) rfl ?_
  intro p e s m args below meth c s₁ B hml hv
  obtain ⟨rfl, hP, hK⟩ := hv
  have hx := B.exec
  have hb := B.bytes
  have hr := B.returns
  have hts := atoms_spec (ws := wsX4_fitsInTail) B.pre
  have hown : s.vm.findClass RX4 = some m.cls := findClass_of_methodNamed B.named
  have hlocks := B.notSynchronized
  have hl := lv_entry ([.ref h0, .int (nI k), .int (nI t)]) (n := 4) (Nat.le_of_ble_eq_true rfl)
  rw [lg_entry_eq]
  generalize (lg_sl ([.ref h0, .int (nI k), .int (nI t)]) ++ List.replicate (4 - (lg_sl ([.ref h0, .int (nI k), .int (nI t)])).length) Slot.unset).toArray = ls at hl ⊢
  have hl : lv_has ls 4 [(0, .ref h0), (1, .int (nI k)), (2, .int (nI t))] := hl
  refine lv_aload_n hx hb dX4_fitsInTail_0 rfl (lv_at hl 0 rfl) ?_
  refine lv_iload_n hx hb dX4_fitsInTail_1 rfl (lv_at hl 1 rfl) ?_
  refine g_callSi (va_runV (As := [.int (nI k)]) (rest := []) ⟨hx, hb, hml, hown, hts⟩ (c_Page_at l G h0 al ln lg k (by omega) (by omega)) (cwV 1 hts gX4_fitsInTail_X4_at rfl rfl rfl (by decide +kernel) ⟨Nat.le_of_ble_eq_true rfl, Nat.le_of_ble_eq_true rfl⟩) (gR.V hK (show va_P G.1 vwCl [(h0, .inr (4, [.ref al, .int (nI ln)])), (al, .inl (G.2.1, 10, .inl lg))] s.heap from (hP.sub [0, 1] rfl)) hP (ci := 4) (q0 := 0) rfl rfl) rfl rfl hl.1 rfl (lv_room (Nat.le_of_ble_eq_true rfl)) dX4_fitsInTail_2 ⟨Nat.le_of_ble_eq_true rfl, Nat.le_of_ble_eq_true rfl⟩) (fun r hr0 => ?_)
  subst hr0
  refine lv_istore_n (lv' := [(3, .int (pAt lg ln k)), (0, .ref h0), (1, .int (nI k)), (2, .int (nI t))]) hx hb dX4_fitsInTail_5 rfl hl (by decide) rfl (fun ls hl => ?_)
  refine lv_iload_n hx hb dX4_fitsInTail_6 rfl (lv_at hl 2 rfl) ?_
  refine lv_iload_n hx hb dX4_fitsInTail_7 rfl (lv_at hl 3 rfl) ?_
  refine lv_isub hx hb dX4_fitsInTail_8 ?_
  refine g_top (y := (nI (k - t))) (pk_sub (by omega)) ?_
  by_cases k_1 : k - t = 0
  · skip
    refine lv_tableIn (off := 27) (tgt := 36) hx hb dX4_fitsInTail_9 (by rw [k_1]; decide) (by rw [k_1]; decide) (by rw [k_1]; rfl) (by decide) ?_
    refine lv_iload_n hx hb dX4_fitsInTail_36 rfl (lv_at hl 3 rfl) ?_
    refine lv_iconst (v := (nI 2)) hx hb dX4_fitsInTail_37 (by decide) ?_
    refine lv_icmp_lt (tgt := 51) hx hb dX4_fitsInTail_38 (by decide) (fun c_2 => ?_) (fun c_2 => ?_)
    · skip
      have c_2 := (cLtNN (a := t) (b := 2) (by omega) (by omega)).mp c_2
      refine lv_iconst (v := (nI 0)) hx hb dX4_fitsInTail_51 (by decide) ?_
      have w9_r : (nI 0) = (bI (fitT lg ln k t)) := (by first | exact bI_t (by first | exact Or.inl ⟨by omega, by omega, by assumption⟩ | exact Or.inr (Or.inl ⟨by omega, by omega, by omega⟩) | exact Or.inr (Or.inr ⟨by omega, by omega, by omega⟩)) | exact bI_f (by rintro (⟨h1, h2, h3⟩ | ⟨h1, h2, h3⟩ | ⟨h1, h2, h3⟩) <;> first | omega | contradiction))
      exact W.zret (ty := .boolean) hx hb hr (by decide) (fun t9 ht9 _ => ⟨(nI 0), rfl, w9_r, ht9⟩) (fun _ h => absurd h List.not_mem_nil) dX4_fitsInTail_52
    · skip
      have c_2 := gNot (cLtNN (a := t) (b := 2) (by omega) (by omega)) c_2
      refine lv_iload_n hx hb dX4_fitsInTail_41 rfl (lv_at hl 0 rfl) ?_
      refine lv_bipush (v := (nI 59)) hx hb dX4_fitsInTail_42 (by decide) ?_
      refine lv_icmp_ne (tgt := 51) hx hb dX4_fitsInTail_44 (by decide) (fun c_3 => ?_) (fun c_3 => ?_)
      · skip
        refine lv_iconst (v := (nI 0)) hx hb dX4_fitsInTail_51 (by decide) ?_
        have w9_r : (nI 0) = (bI (fitT lg ln k t)) := (by first | exact bI_t (by first | exact Or.inl ⟨by omega, by omega, by assumption⟩ | exact Or.inr (Or.inl ⟨by omega, by omega, by omega⟩) | exact Or.inr (Or.inr ⟨by omega, by omega, by omega⟩)) | exact bI_f (by rintro (⟨h1, h2, h3⟩ | ⟨h1, h2, h3⟩ | ⟨h1, h2, h3⟩) <;> first | omega | contradiction))
        exact W.zret (ty := .boolean) hx hb hr (by decide) (fun t9 ht9 _ => ⟨(nI 0), rfl, w9_r, ht9⟩) (fun _ h => absurd h List.not_mem_nil) dX4_fitsInTail_52
      · skip
        refine lv_iconst (v := (nI 1)) hx hb dX4_fitsInTail_47 (by decide) ?_
        refine lv_goto (tgt := 52) hx hb dX4_fitsInTail_48 (by decide) ?_
        have w9_r : (nI 1) = (bI (fitT lg ln k t)) := (by first | exact bI_t (by first | exact Or.inl ⟨by omega, by omega, by assumption⟩ | exact Or.inr (Or.inl ⟨by omega, by omega, by omega⟩) | exact Or.inr (Or.inr ⟨by omega, by omega, by omega⟩)) | exact bI_f (by rintro (⟨h1, h2, h3⟩ | ⟨h1, h2, h3⟩ | ⟨h1, h2, h3⟩) <;> first | omega | contradiction))
        exact W.zret (ty := .boolean) hx hb hr (by decide) (fun t9 ht9 _ => ⟨(nI 1), rfl, w9_r, ht9⟩) (fun _ h => absurd h List.not_mem_nil) dX4_fitsInTail_52
  by_cases k_4 : k - t = 1
  · skip
    refine lv_tableIn (off := 44) (tgt := 53) hx hb dX4_fitsInTail_9 (by rw [k_4]; decide) (by rw [k_4]; decide) (by rw [k_4]; rfl) (by decide) ?_
    refine lv_iload_n hx hb dX4_fitsInTail_53 rfl (lv_at hl 0 rfl) ?_
    refine lv_bipush (v := (nI 48)) hx hb dX4_fitsInTail_54 (by decide) ?_
    refine lv_icmp_lt (tgt := 69) hx hb dX4_fitsInTail_56 (by decide) (fun c_5 => ?_) (fun c_5 => ?_)
    · skip
      have c_5 := (cLtIN (b := 48) (by omega)).mp c_5
      refine lv_iconst (v := (nI 0)) hx hb dX4_fitsInTail_69 (by decide) ?_
      have w9_r : (nI 0) = (bI (fitT lg ln k t)) := (by first | exact bI_t (by first | exact Or.inl ⟨by omega, by omega, by assumption⟩ | exact Or.inr (Or.inl ⟨by omega, by omega, by omega⟩) | exact Or.inr (Or.inr ⟨by omega, by omega, by omega⟩)) | exact bI_f (by rintro (⟨h1, h2, h3⟩ | ⟨h1, h2, h3⟩ | ⟨h1, h2, h3⟩) <;> first | omega | contradiction))
      exact W.zret (ty := .boolean) hx hb hr (by decide) (fun t9 ht9 _ => ⟨(nI 0), rfl, w9_r, ht9⟩) (fun _ h => absurd h List.not_mem_nil) dX4_fitsInTail_70
    · skip
      have c_5 := gNot (cLtIN (b := 48) (by omega)) c_5
      refine lv_iload_n hx hb dX4_fitsInTail_59 rfl (lv_at hl 0 rfl) ?_
      refine lv_bipush (v := (nI 52)) hx hb dX4_fitsInTail_60 (by decide) ?_
      refine lv_icmp_ge (tgt := 69) hx hb dX4_fitsInTail_62 (by decide) (fun c_6 => ?_) (fun c_6 => ?_)
      · skip
        have c_6 := (cLeNI (b := 52) (by omega)).mp c_6
        refine lv_iconst (v := (nI 0)) hx hb dX4_fitsInTail_69 (by decide) ?_
        have w9_r : (nI 0) = (bI (fitT lg ln k t)) := (by first | exact bI_t (by first | exact Or.inl ⟨by omega, by omega, by assumption⟩ | exact Or.inr (Or.inl ⟨by omega, by omega, by omega⟩) | exact Or.inr (Or.inr ⟨by omega, by omega, by omega⟩)) | exact bI_f (by rintro (⟨h1, h2, h3⟩ | ⟨h1, h2, h3⟩ | ⟨h1, h2, h3⟩) <;> first | omega | contradiction))
        exact W.zret (ty := .boolean) hx hb hr (by decide) (fun t9 ht9 _ => ⟨(nI 0), rfl, w9_r, ht9⟩) (fun _ h => absurd h List.not_mem_nil) dX4_fitsInTail_70
      · skip
        have c_6 := gNot (cLeNI (b := 52) (by omega)) c_6
        refine lv_iconst (v := (nI 1)) hx hb dX4_fitsInTail_65 (by decide) ?_
        refine lv_goto (tgt := 70) hx hb dX4_fitsInTail_66 (by decide) ?_
        have w9_r : (nI 1) = (bI (fitT lg ln k t)) := (by first | exact bI_t (by first | exact Or.inl ⟨by omega, by omega, by assumption⟩ | exact Or.inr (Or.inl ⟨by omega, by omega, by omega⟩) | exact Or.inr (Or.inr ⟨by omega, by omega, by omega⟩)) | exact bI_f (by rintro (⟨h1, h2, h3⟩ | ⟨h1, h2, h3⟩ | ⟨h1, h2, h3⟩) <;> first | omega | contradiction))
        exact W.zret (ty := .boolean) hx hb hr (by decide) (fun t9 ht9 _ => ⟨(nI 1), rfl, w9_r, ht9⟩) (fun _ h => absurd h List.not_mem_nil) dX4_fitsInTail_70
  by_cases k_7 : k - t = 2
  · skip
    refine lv_tableIn (off := 62) (tgt := 71) hx hb dX4_fitsInTail_9 (by rw [k_7]; decide) (by rw [k_7]; decide) (by rw [k_7]; rfl) (by decide) ?_
    refine lv_iload_n hx hb dX4_fitsInTail_71 rfl (lv_at hl 0 rfl) ?_
    refine lv_bipush (v := (nI 48)) hx hb dX4_fitsInTail_72 (by decide) ?_
    refine lv_icmp_lt (tgt := 87) hx hb dX4_fitsInTail_74 (by decide) (fun c_8 => ?_) (fun c_8 => ?_)
    · skip
      have c_8 := (cLtIN (b := 48) (by omega)).mp c_8
      refine lv_iconst (v := (nI 0)) hx hb dX4_fitsInTail_87 (by decide) ?_
      have w9_r : (nI 0) = (bI (fitT lg ln k t)) := (by first | exact bI_t (by first | exact Or.inl ⟨by omega, by omega, by assumption⟩ | exact Or.inr (Or.inl ⟨by omega, by omega, by omega⟩) | exact Or.inr (Or.inr ⟨by omega, by omega, by omega⟩)) | exact bI_f (by rintro (⟨h1, h2, h3⟩ | ⟨h1, h2, h3⟩ | ⟨h1, h2, h3⟩) <;> first | omega | contradiction))
      exact W.zret (ty := .boolean) hx hb hr (by decide) (fun t9 ht9 _ => ⟨(nI 0), rfl, w9_r, ht9⟩) (fun _ h => absurd h List.not_mem_nil) dX4_fitsInTail_88
    · skip
      have c_8 := gNot (cLtIN (b := 48) (by omega)) c_8
      refine lv_iload_n hx hb dX4_fitsInTail_77 rfl (lv_at hl 0 rfl) ?_
      refine lv_bipush (v := (nI 56)) hx hb dX4_fitsInTail_78 (by decide) ?_
      refine lv_icmp_ge (tgt := 87) hx hb dX4_fitsInTail_80 (by decide) (fun c_9 => ?_) (fun c_9 => ?_)
      · skip
        have c_9 := (cLeNI (b := 56) (by omega)).mp c_9
        refine lv_iconst (v := (nI 0)) hx hb dX4_fitsInTail_87 (by decide) ?_
        have w9_r : (nI 0) = (bI (fitT lg ln k t)) := (by first | exact bI_t (by first | exact Or.inl ⟨by omega, by omega, by assumption⟩ | exact Or.inr (Or.inl ⟨by omega, by omega, by omega⟩) | exact Or.inr (Or.inr ⟨by omega, by omega, by omega⟩)) | exact bI_f (by rintro (⟨h1, h2, h3⟩ | ⟨h1, h2, h3⟩ | ⟨h1, h2, h3⟩) <;> first | omega | contradiction))
        exact W.zret (ty := .boolean) hx hb hr (by decide) (fun t9 ht9 _ => ⟨(nI 0), rfl, w9_r, ht9⟩) (fun _ h => absurd h List.not_mem_nil) dX4_fitsInTail_88
      · skip
        have c_9 := gNot (cLeNI (b := 56) (by omega)) c_9
        refine lv_iconst (v := (nI 1)) hx hb dX4_fitsInTail_83 (by decide) ?_
        refine lv_goto (tgt := 88) hx hb dX4_fitsInTail_84 (by decide) ?_
        have w9_r : (nI 1) = (bI (fitT lg ln k t)) := (by first | exact bI_t (by first | exact Or.inl ⟨by omega, by omega, by assumption⟩ | exact Or.inr (Or.inl ⟨by omega, by omega, by omega⟩) | exact Or.inr (Or.inr ⟨by omega, by omega, by omega⟩)) | exact bI_f (by rintro (⟨h1, h2, h3⟩ | ⟨h1, h2, h3⟩ | ⟨h1, h2, h3⟩) <;> first | omega | contradiction))
        exact W.zret (ty := .boolean) hx hb hr (by decide) (fun t9 ht9 _ => ⟨(nI 1), rfl, w9_r, ht9⟩) (fun _ h => absurd h List.not_mem_nil) dX4_fitsInTail_88
  refine lv_tableOut (tgt := 89) hx hb dX4_fitsInTail_9 (Or.inr (by rw [nT (by omega)]; omega)) (by decide) ?_
  refine lv_iconst (v := (nI 0)) hx hb dX4_fitsInTail_89 (by decide) ?_
  have w9_r : (nI 0) = (bI (fitT lg ln k t)) := (by first | exact bI_t (by first | exact Or.inl ⟨by omega, by omega, by assumption⟩ | exact Or.inr (Or.inl ⟨by omega, by omega, by omega⟩) | exact Or.inr (Or.inr ⟨by omega, by omega, by omega⟩)) | exact bI_f (by rintro (⟨h1, h2, h3⟩ | ⟨h1, h2, h3⟩ | ⟨h1, h2, h3⟩) <;> first | omega | contradiction))
  exact W.zret (ty := .boolean) hx hb hr (by decide) (fun t9 ht9 _ => ⟨(nI 0), rfl, w9_r, ht9⟩) (fun _ h => absurd h List.not_mem_nil) dX4_fitsInTail_90

set_option maxHeartbeats 4000000 in
set_option maxRecDepth 100000 in
theorem c_faultPlace (l : Launch) (G : gG) (h0 : Nat) (al : Nat) (ln : Nat) (lg : Nat → Int32) (hln : ln ≤ 10) : Met l yX4_faultPlace wsX4_faultPlace ({ frames := 2, cells := 0, slots := 0, locals := 44 } : Room) (gR G [.ref h0] [(h0, .inr (4, [.ref al, .int (nI ln)])), (al, .inl (G.2.1, 10, .inl lg))]) (vp_Si (fun r : Int32 => r = (nI (faultP lg ln)))) 0 0 (fun _ => False) := by
  refine Met.ofW (cc := cX4_faultPlace) (maxL := 3) (ret := (some .int)) (by decide) rfl ?_
  intro p e s m args below meth c s₁ B hml hv
  obtain ⟨rfl, hP, hK⟩ := hv
  have hx := B.exec
  have hb := B.bytes
  have hr := B.returns
  have hts := atoms_spec (ws := wsX4_faultPlace) B.pre
  have hown : s.vm.findClass RX4 = some m.cls := findClass_of_methodNamed B.named
  have hlocks := B.notSynchronized
  have hl := lv_entry ([.ref h0]) (n := 3) (Nat.le_of_ble_eq_true rfl)
  rw [lg_entry_eq]
  generalize (lg_sl ([.ref h0]) ++ List.replicate (3 - (lg_sl ([.ref h0])).length) Slot.unset).toArray = ls at hl ⊢
  have hl : lv_has ls 3 [(0, .ref h0)] := hl
  refine lv_aload_n hx hb dX4_faultPlace_0 rfl (lv_at hl 0 rfl) ?_
  refine g_callSi (va_runV (As := []) (rest := []) ⟨hx, hb, hml, hown, hts⟩ (c_leading l G h0 al ln lg (by omega)) (cwV 0 hts gX4_faultPlace_X4_leadingPeople rfl rfl rfl (by decide +kernel) ⟨Nat.le_of_ble_eq_true rfl, Nat.le_of_ble_eq_true rfl⟩) (gR.V hK (show va_P G.1 vwCl [(h0, .inr (4, [.ref al, .int (nI ln)])), (al, .inl (G.2.1, 10, .inl lg))] s.heap from (hP.sub [0, 1] rfl)) hP (ci := 4) (q0 := 0) rfl rfl) rfl rfl hl.1 rfl (lv_room (Nat.le_of_ble_eq_true rfl)) dX4_faultPlace_1 ⟨Nat.le_of_ble_eq_true rfl, Nat.le_of_ble_eq_true rfl⟩) (fun r hr0 => ?_)
  subst hr0
  have hle := lead_le lg ln
  have hle := lead_le lg ln
  refine lv_istore_n (lv' := [(1, .int (nI (lead lg ln))), (0, .ref h0)]) hx hb dX4_faultPlace_4 rfl hl (by decide) rfl (fun ls hl => ?_)
  refine lv_iload_n hx hb dX4_faultPlace_5 rfl (lv_at hl 0 rfl) ?_
  refine lv_istore_n (lv' := [(2, .int (nI (lead lg ln))), (1, .int (nI (lead lg ln))), (0, .ref h0)]) hx hb dX4_faultPlace_6 rfl hl (by decide) rfl (fun ls hl => ?_)
  refine g_cutR1 (α := Nat) 7 (fun k => []) (fun k ls => (k ≤ 10) ∧ (lead lg ln ≤ k) ∧ (faultG lg ln (lead lg ln) (ln - k) k = faultP lg ln) ∧ lv_has ls 3 [(0, .ref h0), (1, .int (nI (lead lg ln))), (2, .int (nI k))]) (g_loopR1 (α := Nat) 7 (fun k => []) (fun k ls => (k ≤ 10) ∧ (lead lg ln ≤ k) ∧ (faultG lg ln (lead lg ln) (ln - k) k = faultP lg ln) ∧ lv_has ls 3 [(0, .ref h0), (1, .int (nI (lead lg ln))), (2, .int (nI k))]) (fun k => 10 - k) ?_) (fun L7_1 => ?_)
  · intro k ls hI L7_1
    obtain ⟨hk, htk, he, hl⟩ := hI
    refine lv_iload_n hx hb dX4_faultPlace_7 rfl (lv_at hl 2 rfl) ?_
    refine lv_aload_n hx hb dX4_faultPlace_8 rfl (lv_at hl 0 rfl) ?_
    refine va_get (D := G.1) (ci := 4) (v := .int (nI ln)) (C := RX4) (T := TX4) (N := 2) hx hb hts (g_in wsX40 19 rfl) hown hK.1 hP 0 rfl rfl 1 (by decide) (hts _ (List.mem_of_getElem? (i := 1) rfl)) (fun _ h9 => h9) rfl dX4_faultPlace_9 ?_
    refine lv_icmp_ge (tgt := 32) hx hb dX4_faultPlace_12 (by decide) (fun c_2 => ?_) (fun c_2 => ?_)
    · skip
      have c_2 := (cLeNN (a := ln) (b := k) (by omega) (by omega)).mp c_2
      refine lv_aload_n hx hb dX4_faultPlace_32 rfl (lv_at hl 0 rfl) ?_
      refine va_get (D := G.1) (ci := 4) (v := .int (nI ln)) (C := RX4) (T := TX4) (N := 2) hx hb hts (g_in wsX40 19 rfl) hown hK.1 hP 0 rfl rfl 1 (by decide) (hts _ (List.mem_of_getElem? (i := 1) rfl)) (fun _ h9 => h9) rfl dX4_faultPlace_33 ?_
      have w9_r : (nI ln) = (nI (faultP lg ln)) := (by rw [← he]; first | rw [faultG_no (by omega) (by assumption)] | rw [faultG_end (by omega)])
      exact W.iret hx hb hr (fun t9 ht9 _ => ⟨(nI ln), rfl, w9_r, ht9⟩) (fun _ h => absurd h List.not_mem_nil) dX4_faultPlace_36
    · skip
      have c_2 := gNot (cLeNN (a := ln) (b := k) (by omega) (by omega)) c_2
      refine lv_aload_n hx hb dX4_faultPlace_15 rfl (lv_at hl 0 rfl) ?_
      refine lv_iload_n hx hb dX4_faultPlace_16 rfl (lv_at hl 2 rfl) ?_
      refine lv_iload_n hx hb dX4_faultPlace_17 rfl (lv_at hl 1 rfl) ?_
      refine g_callSi (va_runV (As := [.int (nI k), .int (nI (lead lg ln))]) (rest := []) ⟨hx, hb, hml, hown, hts⟩ (c_fits l G h0 al ln lg k (lead lg ln) (by omega) (by omega) (by omega)) (cwV 2 hts gX4_faultPlace_X4_fitsInTail rfl rfl rfl (by decide +kernel) ⟨Nat.le_of_ble_eq_true rfl, Nat.le_of_ble_eq_true rfl⟩) (gR.V hK (show va_P G.1 vwCl [(h0, .inr (4, [.ref al, .int (nI ln)])), (al, .inl (G.2.1, 10, .inl lg))] s.heap from (hP.sub [0, 1] rfl)) hP (ci := 4) (q0 := 0) rfl rfl) rfl rfl hl.1 rfl (lv_room (Nat.le_of_ble_eq_true rfl)) dX4_faultPlace_18 ⟨Nat.le_of_ble_eq_true rfl, Nat.le_of_ble_eq_true rfl⟩) (fun r hr0 => ?_)
      subst hr0
      refine lv_if_ne (tgt := 26) hx hb dX4_faultPlace_21 (by decide) (fun c_3 => ?_) (fun c_3 => ?_)
      · skip
        have c_3 := bI_nz.mp c_3
        refine lv_iinc (v := (nI (k + 1))) (lv' := [(2, .int (nI (k + 1))), (0, .ref h0), (1, .int (nI (lead lg ln)))]) hx hb dX4_faultPlace_26 hl (k := 2) rfl (nI_iinc (by decide)) (by decide) rfl (fun ls hl => ?_)
        refine lv_goto (tgt := 7) hx hb dX4_faultPlace_29 (by decide) ?_
        exact L7_1 (k + 1) _ (by omega) ⟨(by omega), (by omega), (by rw [← he]; exact (faultG_go (by omega) (by assumption)).symm), lv_sub hl [1, 2, 0] rfl⟩
      · skip
        have c_3 := bI_z.mp c_3
        refine lv_iload_n hx hb dX4_faultPlace_24 rfl (lv_at hl 2 rfl) ?_
        have w9_r : (nI k) = (nI (faultP lg ln)) := (by rw [← he]; first | rw [faultG_no (by omega) (by assumption)] | rw [faultG_end (by omega)])
        exact W.iret hx hb hr (fun t9 ht9 _ => ⟨(nI k), rfl, w9_r, ht9⟩) (fun _ h => absurd h List.not_mem_nil) dX4_faultPlace_25
  · skip
    exact L7_1 (lead lg ln) _ ⟨(by omega), Nat.le_refl _, rfl, lv_sub hl [2, 1, 0] rfl⟩

set_option maxHeartbeats 4000000 in
set_option maxRecDepth 100000 in
theorem c_isRing (l : Launch) (G : gG) (h0 : Nat) (al : Nat) (ln : Nat) (lg : Nat → Int32) (hln : ln ≤ 10) : Met l yX4_isRing wsX4_isRing ({ frames := 3, cells := 0, slots := 0, locals := 66 } : Room) (gR G [.ref h0] [(h0, .inr (4, [.ref al, .int (nI ln)])), (al, .inl (G.2.1, 10, .inl lg))]) (vp_Si (fun r : Int32 => r = (bI (ln = lead lg ln + 3 ∧ faultP lg ln = ln)))) 0 0 (fun _ => False) := by
  refine Met.ofW (cc := cX4_isRing) (maxL := 1) (ret := (some .boolean)) (by decide) rfl ?_
  intro p e s m args below meth c s₁ B hml hv
  obtain ⟨rfl, hP, hK⟩ := hv
  have hx := B.exec
  have hb := B.bytes
  have hr := B.returns
  have hts := atoms_spec (ws := wsX4_isRing) B.pre
  have hown : s.vm.findClass RX4 = some m.cls := findClass_of_methodNamed B.named
  have hlocks := B.notSynchronized
  have hl := lv_entry ([.ref h0]) (n := 1) (Nat.le_of_ble_eq_true rfl)
  rw [lg_entry_eq]
  generalize (lg_sl ([.ref h0]) ++ List.replicate (1 - (lg_sl ([.ref h0])).length) Slot.unset).toArray = ls at hl ⊢
  have hl : lv_has ls 1 [(0, .ref h0)] := hl
  refine lv_aload_n hx hb dX4_isRing_0 rfl (lv_at hl 0 rfl) ?_
  refine va_get (D := G.1) (ci := 4) (v := .int (nI ln)) (C := RX4) (T := TX4) (N := 2) hx hb hts (g_in wsX40 23 rfl) hown hK.1 hP 0 rfl rfl 1 (by decide) (hts _ (List.mem_of_getElem? (i := 1) rfl)) (fun _ h9 => h9) rfl dX4_isRing_1 ?_
  refine lv_aload_n hx hb dX4_isRing_4 rfl (lv_at hl 0 rfl) ?_
  refine g_callSi (va_runV (As := []) (rest := [.int (nI ln)]) ⟨hx, hb, hml, hown, hts⟩ (c_leading l G h0 al ln lg (by omega)) (cwV 0 hts gX4_isRing_X4_leadingPeople rfl rfl rfl (by decide +kernel) ⟨Nat.le_of_ble_eq_true rfl, Nat.le_of_ble_eq_true rfl⟩) (gR.V hK (show va_P G.1 vwCl [(h0, .inr (4, [.ref al, .int (nI ln)])), (al, .inl (G.2.1, 10, .inl lg))] s.heap from (hP.sub [0, 1] rfl)) hP (ci := 4) (q0 := 0) rfl rfl) rfl rfl hl.1 rfl (lv_room (Nat.le_of_ble_eq_true rfl)) dX4_isRing_5 ⟨Nat.le_of_ble_eq_true rfl, Nat.le_of_ble_eq_true rfl⟩) (fun r hr0 => ?_)
  subst hr0
  have hle := lead_le lg ln
  have hle := lead_le lg ln
  refine lv_iconst (v := (nI 3)) hx hb dX4_isRing_8 (by decide) ?_
  refine lv_iadd hx hb dX4_isRing_9 ?_
  refine g_top (y := (nI ((lead lg ln) + 3))) (nI_add _ _) ?_
  refine lv_icmp_ne (tgt := 28) hx hb dX4_isRing_10 (by decide) (fun c_1 => ?_) (fun c_1 => ?_)
  · skip
    have c_1 := gNot (cEqNN (a := ln) (b := (lead lg ln) + 3) (by omega) (by omega)) c_1
    refine lv_iconst (v := (nI 0)) hx hb dX4_isRing_28 (by decide) ?_
    have w9_r : (nI 0) = (bI (ln = lead lg ln + 3 ∧ faultP lg ln = ln)) := (by first | exact bI_t ⟨by omega, by omega⟩ | exact bI_f (by omega))
    exact W.zret (ty := .boolean) hx hb hr (by decide) (fun t9 ht9 _ => ⟨(nI 0), rfl, w9_r, ht9⟩) (fun _ h => absurd h List.not_mem_nil) dX4_isRing_29
  · skip
    have c_1 := (cEqNN (a := ln) (b := (lead lg ln) + 3) (by omega) (by omega)).mp c_1
    refine lv_aload_n hx hb dX4_isRing_13 rfl (lv_at hl 0 rfl) ?_
    refine g_callSi (va_runV (As := []) (rest := []) ⟨hx, hb, hml, hown, hts⟩ (c_faultPlace l G h0 al ln lg (by omega)) (cwV 0 hts gX4_isRing_X4_faultPlace rfl rfl rfl (by decide +kernel) ⟨Nat.le_of_ble_eq_true rfl, Nat.le_of_ble_eq_true rfl⟩) (gR.V hK (show va_P G.1 vwCl [(h0, .inr (4, [.ref al, .int (nI ln)])), (al, .inl (G.2.1, 10, .inl lg))] s.heap from (hP.sub [0, 1] rfl)) hP (ci := 4) (q0 := 0) rfl rfl) rfl rfl hl.1 rfl (lv_room (Nat.le_of_ble_eq_true rfl)) dX4_isRing_14 ⟨Nat.le_of_ble_eq_true rfl, Nat.le_of_ble_eq_true rfl⟩) (fun r hr0 => ?_)
    subst hr0
    have hfe := faultP_le lg ln
    have hfe := faultP_le lg ln
    refine lv_aload_n hx hb dX4_isRing_17 rfl (lv_at hl 0 rfl) ?_
    refine va_get (D := G.1) (ci := 4) (v := .int (nI ln)) (C := RX4) (T := TX4) (N := 2) hx hb hts (g_in wsX40 23 rfl) hown hK.1 hP 0 rfl rfl 1 (by decide) (hts _ (List.mem_of_getElem? (i := 1) rfl)) (fun _ h9 => h9) rfl dX4_isRing_18 ?_
    refine lv_icmp_ne (tgt := 28) hx hb dX4_isRing_21 (by decide) (fun c_2 => ?_) (fun c_2 => ?_)
    · skip
      have c_2 := gNot (cEqNN (a := faultP lg ln) (b := ln) (by omega) (by omega)) c_2
      refine lv_iconst (v := (nI 0)) hx hb dX4_isRing_28 (by decide) ?_
      have w9_r : (nI 0) = (bI (ln = lead lg ln + 3 ∧ faultP lg ln = ln)) := (by first | exact bI_t ⟨by omega, by omega⟩ | exact bI_f (by omega))
      exact W.zret (ty := .boolean) hx hb hr (by decide) (fun t9 ht9 _ => ⟨(nI 0), rfl, w9_r, ht9⟩) (fun _ h => absurd h List.not_mem_nil) dX4_isRing_29
    · skip
      have c_2 := (cEqNN (a := faultP lg ln) (b := ln) (by omega) (by omega)).mp c_2
      refine lv_iconst (v := (nI 1)) hx hb dX4_isRing_24 (by decide) ?_
      refine lv_goto (tgt := 29) hx hb dX4_isRing_25 (by decide) ?_
      have w9_r : (nI 1) = (bI (ln = lead lg ln + 3 ∧ faultP lg ln = ln)) := (by first | exact bI_t ⟨by omega, by omega⟩ | exact bI_f (by omega))
      exact W.zret (ty := .boolean) hx hb hr (by decide) (fun t9 ht9 _ => ⟨(nI 1), rfl, w9_r, ht9⟩) (fun _ h => absurd h List.not_mem_nil) dX4_isRing_29
