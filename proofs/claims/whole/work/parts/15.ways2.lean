/-! one more pass: to the place that each of n people makes of it -/
def toP (kd : Nat → Nat) (i k : Nat) : Nat := 32 * i + touch (kd i) i (k % 32)
theorem toP_lt {kd : Nat → Nat} {i k : Nat} (hi : i < 4) : toP kd i k < 128 := by
  have h := touch_lt (k := kd i) (i := i) (m := k % 32) (by omega)
  unfold toP; omega
def accP (kd : Nat → Nat) (w : Nat → Nat) (k : Nat) : Nat → (Nat → Nat) → (Nat → Nat)
  | 0, a => a
  | i + 1, a => if i = k / 32 then accP kd w k i a else fun j => if j = toP kd i k then accP kd w k i a j + w k else accP kd w k i a j
def accK (kd : Nat → Nat) (n : Nat) (w : Nat → Nat) : Nat → (Nat → Nat)
  | 0 => fun _ => 0
  | k + 1 => if w k = 0 then accK kd n w k else accP kd w k n (accK kd n w k)
def wStep (kd : Nat → Nat) (n : Nat) (w : Nat → Nat) : Nat → Nat := accK kd n w 128
def wAt (kd : Nat → Nat) (n : Nat) (lp so vs : Nat → Int32) (z st : Nat) : Nat → (Nat → Nat)
  | 0 => fun k => if fitL lp so vs z (nI 0) k then (if k = st then 1 else 0) else 0
  | y + 1 => fun k => if fitL lp so vs z (nI (y + 1)) k then wStep kd n (wAt kd n lp so vs z st y) k else 0
theorem sN_add (a : Nat → Nat) (t x : Nat) : ∀ m : Nat, sN (fun j => if j = t then a j + x else a j) m ≤ sN a m + (if t < m then x else 0)
  | 0 => by simp [sN]
  | m + 1 => by
    have h := sN_add a t x m
    simp only [sN]
    by_cases e : m = t
    · subst e; rw [if_pos rfl, if_pos (by omega)]; rw [if_neg (by omega)] at h; omega
    · rw [if_neg e]
      by_cases e2 : t < m
      · rw [if_pos e2] at h; rw [if_pos (by omega)]; omega
      · rw [if_neg e2] at h; rw [if_neg (by omega)]; omega
theorem accP_sum (kd w : Nat → Nat) (k : Nat) (a : Nat → Nat) : ∀ i : Nat, sN (accP kd w k i a) 128 ≤ sN a 128 + i * w k
  | 0 => by simp [accP]
  | i + 1 => by
    have h := accP_sum kd w k a i
    have e : (i + 1) * w k = i * w k + w k := Nat.succ_mul i (w k)
    simp only [accP]
    by_cases e1 : i = k / 32
    · rw [if_pos e1]; omega
    · rw [if_neg e1]
      have h2 := sN_add (accP kd w k i a) (toP kd i k) (w k) 128
      have h3 : (if toP kd i k < 128 then w k else 0) ≤ w k := by split <;> omega
      omega
theorem accK_sum (kd : Nat → Nat) (n : Nat) (w : Nat → Nat) : ∀ k : Nat, sN (accK kd n w k) 128 ≤ n * sN w k
  | 0 => by
    have h : ∀ m : Nat, sN (fun _ => 0) m = 0 := fun m => by induction m with | zero => rfl | succ m ih => simp only [sN, ih]
    simp only [accK]; rw [h]; exact Nat.zero_le _
  | k + 1 => by
    have h := accK_sum kd n w k
    have e : n * sN w (k + 1) = n * sN w k + n * w k := Nat.mul_add n (sN w k) (w k)
    simp only [accK]
    by_cases e1 : w k = 0
    · rw [if_pos e1]; omega
    · rw [if_neg e1]
      have h2 := accP_sum kd w k (accK kd n w k) n
      omega
theorem wStep_sum {kd : Nat → Nat} {n : Nat} {w : Nat → Nat} (hn : n ≤ 4) : sN (wStep kd n w) 128 ≤ 4 * sN w 128 := Nat.le_trans (accK_sum kd n w 128) (Nat.mul_le_mul_right _ hn)
theorem sN_mask (P : Nat → Prop) [DecidablePred P] (f : Nat → Nat) : ∀ m : Nat, sN (fun k => if P k then f k else 0) m ≤ sN f m
  | 0 => Nat.le_refl 0
  | m + 1 => by have h := sN_mask P f m; simp only [sN]; split <;> omega
theorem sN_one (t m : Nat) : sN (fun k => if k = t then 1 else 0) m ≤ 1 := by
    have h := sN_add (fun _ => 0) t 1 m
    have h0 : ∀ m : Nat, sN (fun _ => 0) m = 0 := fun m => by induction m with | zero => rfl | succ m ih => simp only [sN, ih]
    rw [h0] at h
    have e : (fun j => if j = t then (fun _ => 0) j + 1 else (fun _ => 0) j) = fun k : Nat => if k = t then 1 else 0 := by funext k; simp
    rw [e] at h
    have h3 : (if t < m then 1 else 0) ≤ 1 := by split <;> omega
    omega
theorem wAt_sum {kd : Nat → Nat} {n : Nat} {lp so vs : Nat → Int32} {z st : Nat} (hn : n ≤ 4) : ∀ y : Nat, sN (wAt kd n lp so vs z st y) 128 ≤ 4 ^ y
  | 0 => Nat.le_trans (sN_mask (fun k => fitL lp so vs z (nI 0) k) (fun k => if k = st then 1 else 0) 128) (sN_one st 128)
  | y + 1 => by
    have h := wAt_sum (kd := kd) (lp := lp) (so := so) (vs := vs) (z := z) (st := st) hn y
    have h2 := sN_mask (fun k => fitL lp so vs z (nI (y + 1)) k) (wStep kd n (wAt kd n lp so vs z st y)) 128
    have h3 := wStep_sum (kd := kd) (w := wAt kd n lp so vs z st y) hn
    have h4 : 4 ^ (y + 1) = 4 ^ y * 4 := Nat.pow_succ 4 y
    simp only [wAt]; omega
theorem pow4_8 {y : Nat} (h : y ≤ 8) : 4 ^ y ≤ 65536 := Nat.le_trans (Nat.pow_le_pow_right (by decide) h) (by decide)
theorem wAt_b {kd : Nat → Nat} {n : Nat} {lp so vs : Nat → Int32} {z st y : Nat} (hn : n ≤ 4) (hy : y ≤ 8) : sN (wAt kd n lp so vs z st y) 128 < 2 ^ 31 := by
  have h1 := wAt_sum (kd := kd) (lp := lp) (so := so) (vs := vs) (z := z) (st := st) hn y
  have h2 := pow4_8 hy
  omega
theorem wStep_b {kd : Nat → Nat} {n : Nat} {lp so vs : Nat → Int32} {z st y : Nat} (hn : n ≤ 4) (hy : y ≤ 8) : sN (wStep kd n (wAt kd n lp so vs z st y)) 128 < 2 ^ 31 := by
  have h1 := wAt_sum (kd := kd) (lp := lp) (so := so) (vs := vs) (z := z) (st := st) hn y
  have h3 := wStep_sum (kd := kd) (w := wAt kd n lp so vs z st y) hn
  have h2 := pow4_8 hy
  omega

set_option maxHeartbeats 4000000 in
set_option maxRecDepth 100000 in
theorem c_passOn (l : Launch) (G : gG) (h0 : Nat) (w1 : Nat) (w2 : Nat) (w3 : Nat) (wt : Nat → Int32) (wb : Nat → Int32) (wg : Nat → Int32) (hp : Nat) (ha : Nat) (n : Nat) (mf : Nat → Option Nat) (kd : Nat → Nat) (pa : Nat → Nat) (T : va_W) (w : Nat → Nat) (sz : Nat) (hn : n ≤ 4) (hmf : ∀ i, i < n → mf i = some (pa i)) (hkd : ∀ i, i < n → kd i < 5) (hT : pplT T n kd pa) (hw : ∀ k, k < 128 → wt k = nI (w k)) (hbd : sN w 128 < 2 ^ 31) : Met l yX10_passOn wsX10_passOn ({ frames := 3, cells := 0, slots := 0, locals := 66 } : Room) (gM G [.ref h0, .ref hp] (([(h0, .inr (10, [.ref w1, .ref w2, .ref w3])), (w1, .inl (G.2.1, 128, .inl wt)), (w2, .inl (G.2.1, 128, .inl wb)), (w3, .inl (G.2.1, 8, .inl wg)), (hp, .inr (5, [.ref ha, .int (nI n)])), (ha, .inl (G.2.2.2, 4, .inr (.inr (.inr (.inr mf)))))] : va_W) ++ T) sz) (va_Qv (fun (u : Unit) => True) (fun u t => va_P G.1 vwCl (([(h0, .inr (10, [.ref w1, .ref w2, .ref w3])), (w1, .inl (G.2.1, 128, .inl (fun j => nI (wStep kd n w j)))), (w2, .inl (G.2.1, 128, .inl (fun j => nI (w j)))), (w3, .inl (G.2.1, 8, .inl wg)), (hp, .inr (5, [.ref ha, .int (nI n)])), (ha, .inl (G.2.2.2, 4, .inr (.inr (.inr (.inr mf)))))] : va_W) ++ T) t.heap ∧ va_D (va_A (([(h0, .inr (10, [.ref w1, .ref w2, .ref w3])), (w1, .inl (G.2.1, 128, .inl wt)), (w2, .inl (G.2.1, 128, .inl wb)), (w3, .inl (G.2.1, 8, .inl wg)), (hp, .inr (5, [.ref ha, .int (nI n)])), (ha, .inl (G.2.2.2, 4, .inr (.inr (.inr (.inr mf)))))] : va_W) ++ T) sz) (([(h0, .inr (10, [.ref w1, .ref w2, .ref w3])), (w1, .inl (G.2.1, 128, .inl (fun j => nI (wStep kd n w j)))), (w2, .inl (G.2.1, 128, .inl (fun j => nI (w j)))), (w3, .inl (G.2.1, 8, .inl wg)), (hp, .inr (5, [.ref ha, .int (nI n)])), (ha, .inl (G.2.2.2, 4, .inr (.inr (.inr (.inr mf)))))] : va_W) ++ T)) (va_A (([(h0, .inr (10, [.ref w1, .ref w2, .ref w3])), (w1, .inl (G.2.1, 128, .inl wt)), (w2, .inl (G.2.1, 128, .inl wb)), (w3, .inl (G.2.1, 8, .inl wg)), (hp, .inr (5, [.ref ha, .int (nI n)])), (ha, .inl (G.2.2.2, 4, .inr (.inr (.inr (.inr mf)))))] : va_W) ++ T) sz)) 0 0 (va_A (([(h0, .inr (10, [.ref w1, .ref w2, .ref w3])), (w1, .inl (G.2.1, 128, .inl wt)), (w2, .inl (G.2.1, 128, .inl wb)), (w3, .inl (G.2.1, 8, .inl wg)), (hp, .inr (5, [.ref ha, .int (nI n)])), (ha, .inl (G.2.2.2, 4, .inr (.inr (.inr (.inr mf)))))] : va_W) ++ T) sz) := by
  refine Met.ofW (cc := cX10_passOn) (maxL := 5) (ret := none) (by decide) rfl ?_
  intro p e s m args below meth c s₁ B hml hv
  obtain ⟨rfl, hsz, hP, hK, hD0⟩ := hv
  have hx := B.exec
  have hb := B.bytes
  have hr := B.returns
  have hts := atoms_spec (ws := wsX10_passOn) B.pre
  have hown : s.vm.findClass RX10 = some m.cls := findClass_of_methodNamed B.named
  have hlocks := B.notSynchronized
  subst hsz
  have hD := hD0.self (sz := s.heap.size)
  generalize hAe : va_A (([(h0, .inr (10, [.ref w1, .ref w2, .ref w3])), (w1, .inl (G.2.1, 128, .inl wt)), (w2, .inl (G.2.1, 128, .inl wb)), (w3, .inl (G.2.1, 8, .inl wg)), (hp, .inr (5, [.ref ha, .int (nI n)])), (ha, .inl (G.2.2.2, 4, .inr (.inr (.inr (.inr mf)))))] : va_W) ++ T) s.heap.size = A at hD ⊢
  have hA : ∀ q : Nat, s.heap.size ≤ q → A q := fun q h => by rw [← hAe]; exact Or.inr h
  have hS : va_S A s.heap s.heap [] := va_S.rf
  clear hAe hD0
  have hl := lv_entry ([.ref h0, .ref hp]) (n := 5) (Nat.le_of_ble_eq_true rfl)
  rw [lg_entry_eq]
  generalize (lg_sl ([.ref h0, .ref hp]) ++ List.replicate (5 - (lg_sl ([.ref h0, .ref hp])).length) Slot.unset).toArray = ls at hl ⊢
  have hl : lv_has ls 5 [(0, .ref h0), (1, .ref hp)] := hl
  refine lv_iconst (v := (nI 0)) hx hb dX10_passOn_0 (by decide) ?_
  refine lv_istore_n (lv' := [(2, .int (nI 0)), (0, .ref h0), (1, .ref hp)]) hx hb dX10_passOn_1 rfl hl (by decide) rfl (fun ls hl => ?_)
  refine g_cutM3 (α := Nat) (β := Nat → Int32) (γ := Nat → Int32) 2 (fun k wt2 wb2 => []) (fun k wt2 wb2 H locs ls => (k ≤ 128) ∧ (∀ j, j < k → wb2 j = nI (w j)) ∧ (∀ j, j < k → wt2 j = nI 0) ∧ (∀ j, k ≤ j → j < 128 → wt2 j = nI (w j)) ∧ va_P G.1 vwCl (([(h0, .inr (10, [.ref w1, .ref w2, .ref w3])), (w1, .inl (G.2.1, 128, .inl wt2)), (w2, .inl (G.2.1, 128, .inl wb2)), (w3, .inl (G.2.1, 8, .inl wg)), (hp, .inr (5, [.ref ha, .int (nI n)])), (ha, .inl (G.2.2.2, 4, .inr (.inr (.inr (.inr mf)))))] : va_W) ++ T) H ∧ va_D A (([(h0, .inr (10, [.ref w1, .ref w2, .ref w3])), (w1, .inl (G.2.1, 128, .inl wt2)), (w2, .inl (G.2.1, 128, .inl wb2)), (w3, .inl (G.2.1, 8, .inl wg)), (hp, .inr (5, [.ref ha, .int (nI n)])), (ha, .inl (G.2.2.2, 4, .inr (.inr (.inr (.inr mf)))))] : va_W) ++ T) ∧ va_S A s.heap H locs ∧ lv_has ls 5 [(0, .ref h0), (1, .ref hp), (2, .int (nI k))]) (g_loopM3 (α := Nat) (β := Nat → Int32) (γ := Nat → Int32) 2 (fun k wt2 wb2 => []) (fun k wt2 wb2 H locs ls => (k ≤ 128) ∧ (∀ j, j < k → wb2 j = nI (w j)) ∧ (∀ j, j < k → wt2 j = nI 0) ∧ (∀ j, k ≤ j → j < 128 → wt2 j = nI (w j)) ∧ va_P G.1 vwCl (([(h0, .inr (10, [.ref w1, .ref w2, .ref w3])), (w1, .inl (G.2.1, 128, .inl wt2)), (w2, .inl (G.2.1, 128, .inl wb2)), (w3, .inl (G.2.1, 8, .inl wg)), (hp, .inr (5, [.ref ha, .int (nI n)])), (ha, .inl (G.2.2.2, 4, .inr (.inr (.inr (.inr mf)))))] : va_W) ++ T) H ∧ va_D A (([(h0, .inr (10, [.ref w1, .ref w2, .ref w3])), (w1, .inl (G.2.1, 128, .inl wt2)), (w2, .inl (G.2.1, 128, .inl wb2)), (w3, .inl (G.2.1, 8, .inl wg)), (hp, .inr (5, [.ref ha, .int (nI n)])), (ha, .inl (G.2.2.2, 4, .inr (.inr (.inr (.inr mf)))))] : va_W) ++ T) ∧ va_S A s.heap H locs ∧ lv_has ls 5 [(0, .ref h0), (1, .ref hp), (2, .int (nI k))]) (fun k wt2 wb2 => 128 - k) ?_) (fun L2_1 => ?_)
  · intro k wt2 wb2 H locs ls hI L2_1
    obtain ⟨hk, h1, h2, h3, hP, hD, hS, hl⟩ := hI
    refine lv_iload_n hx hb dX10_passOn_2 rfl (lv_at hl 2 rfl) ?_
    refine lv_sipush (v := (nI 128)) hx hb dX10_passOn_3 (by decide) ?_
    refine lv_icmp_ge (tgt := 34) hx hb dX10_passOn_6 (by decide) (fun c_2 => ?_) (fun c_2 => ?_)
    · skip
      have c_2 := (cLeNN (a := 128) (b := k) (by omega) (by omega)).mp c_2
      obtain rfl : k = 128 := by omega
      refine lv_iconst (v := (nI 0)) hx hb dX10_passOn_34 (by decide) ?_
      refine lv_istore_n (lv' := [(2, .int (nI 0)), (0, .ref h0), (1, .ref hp)]) hx hb dX10_passOn_35 rfl hl (by decide) rfl (fun ls hl => ?_)
      refine g_cutM2 (α := Nat) (β := Nat → Int32) 36 (fun k wt3 => []) (fun k wt3 H locs ls => (k ≤ 128) ∧ (∀ j, j < 128 → wt3 j = nI (accK kd n w k j)) ∧ va_P G.1 vwCl (([(h0, .inr (10, [.ref w1, .ref w2, .ref w3])), (w1, .inl (G.2.1, 128, .inl wt3)), (w2, .inl (G.2.1, 128, .inl wb2)), (w3, .inl (G.2.1, 8, .inl wg)), (hp, .inr (5, [.ref ha, .int (nI n)])), (ha, .inl (G.2.2.2, 4, .inr (.inr (.inr (.inr mf)))))] : va_W) ++ T) H ∧ va_D A (([(h0, .inr (10, [.ref w1, .ref w2, .ref w3])), (w1, .inl (G.2.1, 128, .inl wt3)), (w2, .inl (G.2.1, 128, .inl wb2)), (w3, .inl (G.2.1, 8, .inl wg)), (hp, .inr (5, [.ref ha, .int (nI n)])), (ha, .inl (G.2.2.2, 4, .inr (.inr (.inr (.inr mf)))))] : va_W) ++ T) ∧ va_S A s.heap H locs ∧ lv_has ls 5 [(0, .ref h0), (1, .ref hp), (2, .int (nI k))]) (g_loopM2 (α := Nat) (β := Nat → Int32) 36 (fun k wt3 => []) (fun k wt3 H locs ls => (k ≤ 128) ∧ (∀ j, j < 128 → wt3 j = nI (accK kd n w k j)) ∧ va_P G.1 vwCl (([(h0, .inr (10, [.ref w1, .ref w2, .ref w3])), (w1, .inl (G.2.1, 128, .inl wt3)), (w2, .inl (G.2.1, 128, .inl wb2)), (w3, .inl (G.2.1, 8, .inl wg)), (hp, .inr (5, [.ref ha, .int (nI n)])), (ha, .inl (G.2.2.2, 4, .inr (.inr (.inr (.inr mf)))))] : va_W) ++ T) H ∧ va_D A (([(h0, .inr (10, [.ref w1, .ref w2, .ref w3])), (w1, .inl (G.2.1, 128, .inl wt3)), (w2, .inl (G.2.1, 128, .inl wb2)), (w3, .inl (G.2.1, 8, .inl wg)), (hp, .inr (5, [.ref ha, .int (nI n)])), (ha, .inl (G.2.2.2, 4, .inr (.inr (.inr (.inr mf)))))] : va_W) ++ T) ∧ va_S A s.heap H locs ∧ lv_has ls 5 [(0, .ref h0), (1, .ref hp), (2, .int (nI k))]) (fun k wt3 => 128 - k) ?_) (fun L36_3 => ?_)
      · intro k wt3 H locs ls hI L36_3
        obtain ⟨hk, h4, hP, hD, hS, hl⟩ := hI
        refine lv_iload_n hx hb dX10_passOn_36 rfl (lv_at hl 2 rfl) ?_
        refine lv_sipush (v := (nI 128)) hx hb dX10_passOn_37 (by decide) ?_
        refine lv_icmp_ge (tgt := 132) hx hb dX10_passOn_40 (by decide) (fun c_4 => ?_) (fun c_4 => ?_)
        · skip
          have c_4 := (cLeNN (a := 128) (b := k) (by omega) (by omega)).mp c_4
          obtain rfl : k = 128 := by omega
          have hP := g_arr hP 1 rfl (show ∀ k, k < 128 → wt3 k = (fun j => nI (wStep kd n w j)) k from h4)
          have hD := hD.set (p := 1) (a := w1) (e := .inl (G.2.1, 128, .inl (fun j => nI (wStep kd n w j)))) rfl
          have hP : va_P G.1 vwCl (([(h0, .inr (10, [.ref w1, .ref w2, .ref w3])), (w1, .inl (G.2.1, 128, .inl (fun j => nI (wStep kd n w j)))), (w2, .inl (G.2.1, 128, .inl wb2)), (w3, .inl (G.2.1, 8, .inl wg)), (hp, .inr (5, [.ref ha, .int (nI n)])), (ha, .inl (G.2.2.2, 4, .inr (.inr (.inr (.inr mf)))))] : va_W) ++ T) H := hP
          have hD : va_D A (([(h0, .inr (10, [.ref w1, .ref w2, .ref w3])), (w1, .inl (G.2.1, 128, .inl (fun j => nI (wStep kd n w j)))), (w2, .inl (G.2.1, 128, .inl wb2)), (w3, .inl (G.2.1, 8, .inl wg)), (hp, .inr (5, [.ref ha, .int (nI n)])), (ha, .inl (G.2.2.2, 4, .inr (.inr (.inr (.inr mf)))))] : va_W) ++ T) := hD
          have hP := g_arr hP 2 rfl (show ∀ k, k < 128 → wb2 k = (fun j => nI (w j)) k from h1)
          have hD := hD.set (p := 2) (a := w2) (e := .inl (G.2.1, 128, .inl (fun j => nI (w j)))) rfl
          have hP : va_P G.1 vwCl (([(h0, .inr (10, [.ref w1, .ref w2, .ref w3])), (w1, .inl (G.2.1, 128, .inl (fun j => nI (wStep kd n w j)))), (w2, .inl (G.2.1, 128, .inl (fun j => nI (w j)))), (w3, .inl (G.2.1, 8, .inl wg)), (hp, .inr (5, [.ref ha, .int (nI n)])), (ha, .inl (G.2.2.2, 4, .inr (.inr (.inr (.inr mf)))))] : va_W) ++ T) H := hP
          have hD : va_D A (([(h0, .inr (10, [.ref w1, .ref w2, .ref w3])), (w1, .inl (G.2.1, 128, .inl (fun j => nI (wStep kd n w j)))), (w2, .inl (G.2.1, 128, .inl (fun j => nI (w j)))), (w3, .inl (G.2.1, 8, .inl wg)), (hp, .inr (5, [.ref ha, .int (nI n)])), (ha, .inl (G.2.2.2, 4, .inr (.inr (.inr (.inr mf)))))] : va_W) ++ T) := hD
          have hP9 : va_P G.1 vwCl (([(h0, .inr (10, [.ref w1, .ref w2, .ref w3])), (w1, .inl (G.2.1, 128, .inl (fun j => nI (wStep kd n w j)))), (w2, .inl (G.2.1, 128, .inl (fun j => nI (w j)))), (w3, .inl (G.2.1, 8, .inl wg)), (hp, .inr (5, [.ref ha, .int (nI n)])), (ha, .inl (G.2.2.2, 4, .inr (.inr (.inr (.inr mf)))))] : va_W) ++ T) H := (hP.part [0, 1, 2, 3, 4, 5] rfl)
          have hD9 : va_D A (([(h0, .inr (10, [.ref w1, .ref w2, .ref w3])), (w1, .inl (G.2.1, 128, .inl (fun j => nI (wStep kd n w j)))), (w2, .inl (G.2.1, 128, .inl (fun j => nI (w j)))), (w3, .inl (G.2.1, 8, .inl wg)), (hp, .inr (5, [.ref ha, .int (nI n)])), (ha, .inl (G.2.2.2, 4, .inr (.inr (.inr (.inr mf)))))] : va_W) ++ T) := (hD.part [0, 1, 2, 3, 4, 5] (by decide) rfl)
          exact W.vret hx hb hr (fun t9 ht9 hW9 => ⟨⟨(), rfl, trivial, by rw [ht9]; exact hP9, hD9⟩, hS.F ht9⟩) hS.2.2 dX10_passOn_132
        · skip
          have c_4 := gNot (cLeNN (a := 128) (b := k) (by omega) (by omega)) c_4
          have hbk := sN_at w (k := k) (m := 128) (by omega)
          refine lv_aload_n hx hb dX10_passOn_43 rfl (lv_at hl 0 rfl) ?_
          refine va_get (D := G.1) (ci := 10) (v := .ref w2) (C := RX10) (T := TX10) (N := 3) hx hb hts (g_in wsX100 48 rfl) hown hK.1 hP 0 rfl rfl 1 (by decide) (hts _ (List.mem_of_getElem? (i := 1) rfl)) (fun _ h9 => h9) rfl dX10_passOn_44 ?_
          refine lv_iload_n hx hb dX10_passOn_47 rfl (lv_at hl 2 rfl) ?_
          refine g_iald hx hb hK hP 2 rfl (by omega) (by decide) dX10_passOn_48 ?_
          refine g_top (y := (nI (w k))) (h1 k (by omega)) ?_
          refine lv_if_ne (tgt := 55) hx hb dX10_passOn_49 (by decide) (fun c_5 => ?_) (fun c_5 => ?_)
          · skip
            have c_5 := gNot (cEqNN (a := w k) (b := 0) (by omega) (by omega)) c_5
            refine lv_iconst (v := (nI 0)) hx hb dX10_passOn_55 (by decide) ?_
            refine lv_istore_n (lv' := [(3, .int (nI 0)), (0, .ref h0), (1, .ref hp), (2, .int (nI k))]) hx hb dX10_passOn_56 rfl hl (by decide) rfl (fun ls hl => ?_)
            refine g_cutM2 (α := Nat) (β := Nat → Int32) 57 (fun i wt4 => []) (fun i wt4 H locs ls => (i ≤ n) ∧ (∀ j, j < 128 → wt4 j = nI (accP kd w k i (accK kd n w k) j)) ∧ va_P G.1 vwCl (([(h0, .inr (10, [.ref w1, .ref w2, .ref w3])), (w1, .inl (G.2.1, 128, .inl wt4)), (w2, .inl (G.2.1, 128, .inl wb2)), (w3, .inl (G.2.1, 8, .inl wg)), (hp, .inr (5, [.ref ha, .int (nI n)])), (ha, .inl (G.2.2.2, 4, .inr (.inr (.inr (.inr mf)))))] : va_W) ++ T) H ∧ va_D A (([(h0, .inr (10, [.ref w1, .ref w2, .ref w3])), (w1, .inl (G.2.1, 128, .inl wt4)), (w2, .inl (G.2.1, 128, .inl wb2)), (w3, .inl (G.2.1, 8, .inl wg)), (hp, .inr (5, [.ref ha, .int (nI n)])), (ha, .inl (G.2.2.2, 4, .inr (.inr (.inr (.inr mf)))))] : va_W) ++ T) ∧ va_S A s.heap H locs ∧ lv_has ls 5 [(0, .ref h0), (1, .ref hp), (2, .int (nI k)), (3, .int (nI i))]) (g_loopM2 (α := Nat) (β := Nat → Int32) 57 (fun i wt4 => []) (fun i wt4 H locs ls => (i ≤ n) ∧ (∀ j, j < 128 → wt4 j = nI (accP kd w k i (accK kd n w k) j)) ∧ va_P G.1 vwCl (([(h0, .inr (10, [.ref w1, .ref w2, .ref w3])), (w1, .inl (G.2.1, 128, .inl wt4)), (w2, .inl (G.2.1, 128, .inl wb2)), (w3, .inl (G.2.1, 8, .inl wg)), (hp, .inr (5, [.ref ha, .int (nI n)])), (ha, .inl (G.2.2.2, 4, .inr (.inr (.inr (.inr mf)))))] : va_W) ++ T) H ∧ va_D A (([(h0, .inr (10, [.ref w1, .ref w2, .ref w3])), (w1, .inl (G.2.1, 128, .inl wt4)), (w2, .inl (G.2.1, 128, .inl wb2)), (w3, .inl (G.2.1, 8, .inl wg)), (hp, .inr (5, [.ref ha, .int (nI n)])), (ha, .inl (G.2.2.2, 4, .inr (.inr (.inr (.inr mf)))))] : va_W) ++ T) ∧ va_S A s.heap H locs ∧ lv_has ls 5 [(0, .ref h0), (1, .ref hp), (2, .int (nI k)), (3, .int (nI i))]) (fun i wt4 => n - i) ?_) (fun L57_6 => ?_)
            · intro i wt4 H locs ls hI L57_6
              obtain ⟨hi, h5, hP, hD, hS, hl⟩ := hI
              refine lv_iload_n hx hb dX10_passOn_57 rfl (lv_at hl 3 rfl) ?_
              refine lv_aload_n hx hb dX10_passOn_58 rfl (lv_at hl 1 rfl) ?_
              refine va_getN (D := G.1) (ci := 5) (v := .int (nI n)) (C := RX5) (T := TX5) (N := 2) hx hb hts (g_in wsX50 51 rfl) hown hK.1 hP 4 rfl rfl 1 (by decide) (hK.nest 3 rfl rfl) (fun _ h9 => h9) rfl dX10_passOn_59 ?_
              refine lv_icmp_ge (tgt := 126) hx hb dX10_passOn_62 (by decide) (fun c_7 => ?_) (fun c_7 => ?_)
              · skip
                have c_7 := (cLeNN (a := n) (b := i) (by omega) (by omega)).mp c_7
                have hin : i = n := by omega
                refine lv_iinc (v := (nI (k + 1))) (lv' := [(2, .int (nI (k + 1))), (0, .ref h0), (1, .ref hp), (3, .int (nI i))]) hx hb dX10_passOn_126 hl (k := 2) rfl (nI_iinc (by decide)) (by decide) rfl (fun ls hl => ?_)
                refine lv_goto (tgt := 36) hx hb dX10_passOn_129 (by decide) ?_
                exact L36_3 (k + 1) wt4 _ _ _ (by omega) ⟨(by omega), (by simp only [accK]; first | (rw [if_pos (by assumption)]; exact h4) | (rw [if_neg (by assumption)]; have h6 := h5; rw [hin] at h6; exact h6)), (hP.part [0, 1, 2, 3, 4, 5] rfl), (hD.part [0, 1, 2, 3, 4, 5] (by decide) rfl), hS, lv_sub hl [1, 2, 0] rfl⟩
              · skip
                have c_7 := gNot (cLeNN (a := n) (b := i) (by omega) (by omega)) c_7
                refine lv_iload_n hx hb dX10_passOn_65 rfl (lv_at hl 3 rfl) ?_
                refine lv_iload_n hx hb dX10_passOn_66 rfl (lv_at hl 2 rfl) ?_
                refine g_callSi (va_runSN (As := [.int (nI k)]) (rest := [.int (nI i)]) ⟨hx, hb, hml, hown, hts⟩ (c_holderAt l G k (by omega)) ⟨va_cnB 1 hts gX10_passOn_X11_holderAt_n41 rfl rfl rfl (hK.nw 56 rfl) (hts _ (List.mem_of_getElem? (i := 4) rfl)) (by decide +kernel) ⟨Nat.le_of_ble_eq_true rfl, Nat.le_of_ble_eq_true rfl⟩, hts _ (List.mem_of_getElem? (i := 3) rfl), trivial⟩ (gR.S hK (show va_P G.1 vwCl [] H from g_nil)) rfl rfl hl.1 rfl (lv_room (Nat.le_of_ble_eq_true rfl)) dX10_passOn_67 ⟨Nat.le_of_ble_eq_true rfl, Nat.le_of_ble_eq_true rfl⟩) (fun r hr0 => ?_)
                subst hr0
                refine lv_icmp_ne (tgt := 76) hx hb dX10_passOn_70 (by decide) (fun c_8 => ?_) (fun c_8 => ?_)
                · skip
                  have c_8 := gNot (cEqNN (a := i) (b := k / 32) (by omega) (by omega)) c_8
                  have htl := touch_lt (k := kd i) (i := i) (m := k % 32) (by omega)
                  refine lv_iload_n hx hb dX10_passOn_76 rfl (lv_at hl 3 rfl) ?_
                  refine lv_aload_n hx hb dX10_passOn_77 rfl (lv_at hl 1 rfl) ?_
                  refine lv_iload_n hx hb dX10_passOn_78 rfl (lv_at hl 3 rfl) ?_
                  refine lv_iload_n hx hb dX10_passOn_79 rfl (lv_at hl 2 rfl) ?_
                  refine g_callSi (va_runSN (As := [.int (nI k)]) (rest := [.int (nI i), .ref hp, .int (nI i)]) ⟨hx, hb, hml, hown, hts⟩ (c_marksAt l G k (by omega)) ⟨va_cnB 1 hts gX10_passOn_X11_marksAt_n45 rfl rfl rfl (hK.nw 57 rfl) (hts _ (List.mem_of_getElem? (i := 4) rfl)) (by decide +kernel) ⟨Nat.le_of_ble_eq_true rfl, Nat.le_of_ble_eq_true rfl⟩, hts _ (List.mem_of_getElem? (i := 6) rfl), trivial⟩ (gR.S hK (show va_P G.1 vwCl [] H from g_nil)) rfl rfl hl.1 rfl (lv_room (Nat.le_of_ble_eq_true rfl)) dX10_passOn_80 ⟨Nat.le_of_ble_eq_true rfl, Nat.le_of_ble_eq_true rfl⟩) (fun r hr0 => ?_)
                  subst hr0
                  refine g_callSi (va_runVN (As := [.int (nI i), .int (nI (k % 32))]) (rest := [.int (nI i)]) ⟨hx, hb, hml, hown, hts⟩ (c_touched l G hp ha n mf kd pa i (k % 32) T hn hmf hkd hT (by omega) (by omega)) ⟨va_cnB 2 hts gX10_passOn_X5_touched_n48 rfl rfl rfl (hK.nw 58 rfl) (hts _ (List.mem_of_getElem? (i := 9) rfl)) (by decide +kernel) ⟨Nat.le_of_ble_eq_true rfl, Nat.le_of_ble_eq_true rfl⟩, hts _ (List.mem_of_getElem? (i := 8) rfl), hts _ (List.mem_of_getElem? (i := 10) rfl)⟩ (gR.V hK (show va_P G.1 vwCl (([(hp, .inr (5, [.ref ha, .int (nI n)])), (ha, .inl (G.2.2.2, 4, .inr (.inr (.inr (.inr mf)))))] : va_W) ++ T) H from (hP.part [4, 5] rfl)) hP (ci := 5) (q0 := 4) rfl rfl) rfl rfl hl.1 rfl (lv_room (Nat.le_of_ble_eq_true rfl)) dX10_passOn_83 ⟨Nat.le_of_ble_eq_true rfl, Nat.le_of_ble_eq_true rfl⟩) (fun r hr0 => ?_)
                  subst hr0
                  refine g_callSi (va_runSN (As := [.int (nI i), .int (nI (touch (kd i) i (k % 32)))]) (rest := []) ⟨hx, hb, hml, hown, hts⟩ (c_placeOf l G i (touch (kd i) i (k % 32)) (by omega) htl) ⟨va_cnB 2 hts gX10_passOn_X11_placeOf_n52 rfl rfl rfl (hK.nw 59 rfl) (hts _ (List.mem_of_getElem? (i := 4) rfl)) (by decide +kernel) ⟨Nat.le_of_ble_eq_true rfl, Nat.le_of_ble_eq_true rfl⟩, hts _ (List.mem_of_getElem? (i := 46) rfl), trivial⟩ (gR.S hK (show va_P G.1 vwCl [] H from g_nil)) rfl rfl hl.1 rfl (lv_room (Nat.le_of_ble_eq_true rfl)) dX10_passOn_86 ⟨Nat.le_of_ble_eq_true rfl, Nat.le_of_ble_eq_true rfl⟩) (fun r hr0 => ?_)
                  subst hr0
                  refine lv_istore (lv' := [(4, .int (nI (32 * i + (touch (kd i) i (k % 32))))), (0, .ref h0), (1, .ref hp), (2, .int (nI k)), (3, .int (nI i))]) hx hb dX10_passOn_89 hl (by decide) rfl (fun ls hl => ?_)
                  refine lv_iload hx hb dX10_passOn_91 (lv_at hl 0 rfl) ?_
                  refine lv_if_lt (tgt := 120) hx hb dX10_passOn_93 (by decide) (fun c_9 => ?_) (fun c_9 => ?_)
                  · skip
                    have c_9 := (cLtNN (a := 32 * i + (touch (kd i) i (k % 32))) (b := 0) (by omega) (by omega)).mp c_9
                    exact absurd c_9 (by omega)
                  · skip
                    have c_9 := gNot (cLtNN (a := 32 * i + (touch (kd i) i (k % 32))) (b := 0) (by omega) (by omega)) c_9
                    refine lv_iload hx hb dX10_passOn_96 (lv_at hl 0 rfl) ?_
                    refine lv_sipush (v := (nI 128)) hx hb dX10_passOn_98 (by decide) ?_
                    refine lv_icmp_ge (tgt := 120) hx hb dX10_passOn_101 (by decide) (fun c_10 => ?_) (fun c_10 => ?_)
                    · skip
                      have c_10 := (cLeNN (a := 128) (b := 32 * i + (touch (kd i) i (k % 32))) (by omega) (by omega)).mp c_10
                      exact absurd c_10 (by omega)
                    · skip
                      have c_10 := gNot (cLeNN (a := 128) (b := 32 * i + (touch (kd i) i (k % 32))) (by omega) (by omega)) c_10
                      refine lv_aload_n hx hb dX10_passOn_104 rfl (lv_at hl 1 rfl) ?_
                      refine va_get (D := G.1) (ci := 10) (v := .ref w1) (C := RX10) (T := TX10) (N := 3) hx hb hts (g_in wsX100 48 rfl) hown hK.1 hP 0 rfl rfl 0 (by decide) (hts _ (List.mem_of_getElem? (i := 2) rfl)) (fun _ h9 => h9) rfl dX10_passOn_105 ?_
                      refine lv_iload hx hb dX10_passOn_108 (lv_at hl 0 rfl) ?_
                      refine lv_dup2_11 hx hb dX10_passOn_110 rfl rfl ?_
                      refine g_iald hx hb hK hP 1 rfl (by omega) (by decide) dX10_passOn_111 ?_
                      refine g_top (y := (nI (accP kd w k i (accK kd n w k) (32 * i + touch (kd i) i (k % 32))))) (h5 _ (by omega)) ?_
                      refine lv_aload_n hx hb dX10_passOn_112 rfl (lv_at hl 1 rfl) ?_
                      refine va_get (D := G.1) (ci := 10) (v := .ref w2) (C := RX10) (T := TX10) (N := 3) hx hb hts (g_in wsX100 48 rfl) hown hK.1 hP 0 rfl rfl 1 (by decide) (hts _ (List.mem_of_getElem? (i := 1) rfl)) (fun _ h9 => h9) rfl dX10_passOn_113 ?_
                      refine lv_iload_n hx hb dX10_passOn_116 rfl (lv_at hl 3 rfl) ?_
                      refine g_iald hx hb hK hP 2 rfl (by omega) (by decide) dX10_passOn_117 ?_
                      refine g_top (y := (nI (w k))) (h1 k (by omega)) ?_
                      refine lv_iadd hx hb dX10_passOn_118 ?_
                      refine g_top (y := (nI ((accP kd w k i (accK kd n w k) (32 * i + touch (kd i) i (k % 32))) + (w k)))) (nI_add _ _) ?_
                      refine g_iast hx hb hK hP hD hS 1 rfl (by omega) (by decide) dX10_passOn_119 (fun H locs hP hD hS => ?_)
                      have hP : va_P G.1 vwCl (([(h0, .inr (10, [.ref w1, .ref w2, .ref w3])), (w1, .inl (G.2.1, 128, .inl (upd wt4 (32 * i + (touch (kd i) i (k % 32))) (nI ((accP kd w k i (accK kd n w k) (32 * i + touch (kd i) i (k % 32))) + (w k)))))), (w2, .inl (G.2.1, 128, .inl wb2)), (w3, .inl (G.2.1, 8, .inl wg)), (hp, .inr (5, [.ref ha, .int (nI n)])), (ha, .inl (G.2.2.2, 4, .inr (.inr (.inr (.inr mf)))))] : va_W) ++ T) H := hP
                      have hD : va_D A (([(h0, .inr (10, [.ref w1, .ref w2, .ref w3])), (w1, .inl (G.2.1, 128, .inl (upd wt4 (32 * i + (touch (kd i) i (k % 32))) (nI ((accP kd w k i (accK kd n w k) (32 * i + touch (kd i) i (k % 32))) + (w k)))))), (w2, .inl (G.2.1, 128, .inl wb2)), (w3, .inl (G.2.1, 8, .inl wg)), (hp, .inr (5, [.ref ha, .int (nI n)])), (ha, .inl (G.2.2.2, 4, .inr (.inr (.inr (.inr mf)))))] : va_W) ++ T) := hD
                      refine lv_iinc (v := (nI (i + 1))) (lv' := [(3, .int (nI (i + 1))), (4, .int (nI (32 * i + (touch (kd i) i (k % 32))))), (0, .ref h0), (1, .ref hp), (2, .int (nI k))]) hx hb dX10_passOn_120 hl (k := 4) rfl (nI_iinc (by decide)) (by decide) rfl (fun ls hl => ?_)
                      refine lv_goto (tgt := 57) hx hb dX10_passOn_123 (by decide) ?_
                      exact L57_6 (i + 1) (upd wt4 (32 * i + (touch (kd i) i (k % 32))) (nI ((accP kd w k i (accK kd n w k) (32 * i + touch (kd i) i (k % 32))) + (w k)))) _ _ _ (by omega) ⟨(by omega), (by intro j hj; simp only [accP]; first | (rw [if_pos (by assumption)]; exact h5 j hj) | (rw [if_neg (by assumption)]; unfold toP; by_cases e : j = 32 * i + touch (kd i) i (k % 32); (subst e; rw [upd_s, if_pos rfl]); (rw [upd_n e, if_neg e]; exact h5 j hj))), (hP.part [0, 1, 2, 3, 4, 5] rfl), (hD.part [0, 1, 2, 3, 4, 5] (by decide) rfl), hS, lv_sub hl [2, 3, 4, 0] rfl⟩
                · skip
                  have c_8 := (cEqNN (a := i) (b := k / 32) (by omega) (by omega)).mp c_8
                  refine lv_goto (tgt := 120) hx hb dX10_passOn_73 (by decide) ?_
                  refine lv_iinc (v := (nI (i + 1))) (lv' := [(3, .int (nI (i + 1))), (0, .ref h0), (1, .ref hp), (2, .int (nI k))]) hx hb dX10_passOn_120 hl (k := 3) rfl (nI_iinc (by decide)) (by decide) rfl (fun ls hl => ?_)
                  refine lv_goto (tgt := 57) hx hb dX10_passOn_123 (by decide) ?_
                  exact L57_6 (i + 1) wt4 _ _ _ (by omega) ⟨(by omega), (by intro j hj; simp only [accP]; first | (rw [if_pos (by assumption)]; exact h5 j hj) | (rw [if_neg (by assumption)]; unfold toP; by_cases e : j = 32 * i + touch (kd i) i (k % 32); (subst e; rw [upd_s, if_pos rfl]); (rw [upd_n e, if_neg e]; exact h5 j hj))), (hP.part [0, 1, 2, 3, 4, 5] rfl), (hD.part [0, 1, 2, 3, 4, 5] (by decide) rfl), hS, lv_sub hl [1, 2, 3, 0] rfl⟩
            · skip
              exact L57_6 0 wt3 _ _ _ ⟨(by omega), h4, (hP.part [0, 1, 2, 3, 4, 5] rfl), (hD.part [0, 1, 2, 3, 4, 5] (by decide) rfl), hS, lv_sub hl [1, 2, 3, 0] rfl⟩
          · skip
            have c_5 := (cEqNN (a := w k) (b := 0) (by omega) (by omega)).mp c_5
            refine lv_goto (tgt := 126) hx hb dX10_passOn_52 (by decide) ?_
            refine lv_iinc (v := (nI (k + 1))) (lv' := [(2, .int (nI (k + 1))), (0, .ref h0), (1, .ref hp)]) hx hb dX10_passOn_126 hl (k := 2) rfl (nI_iinc (by decide)) (by decide) rfl (fun ls hl => ?_)
            refine lv_goto (tgt := 36) hx hb dX10_passOn_129 (by decide) ?_
            exact L36_3 (k + 1) wt3 _ _ _ (by omega) ⟨(by omega), (by simp only [accK]; first | (rw [if_pos (by assumption)]; exact h4) | (rw [if_neg (by assumption)]; have h6 := h5; rw [hin] at h6; exact h6)), (hP.part [0, 1, 2, 3, 4, 5] rfl), (hD.part [0, 1, 2, 3, 4, 5] (by decide) rfl), hS, lv_sub hl [1, 2, 0] rfl⟩
      · skip
        exact L36_3 0 wt2 _ _ _ ⟨(by omega), h2, (hP.part [0, 1, 2, 3, 4, 5] rfl), (hD.part [0, 1, 2, 3, 4, 5] (by decide) rfl), hS, lv_sub hl [1, 2, 0] rfl⟩
    · skip
      have c_2 := gNot (cLeNN (a := 128) (b := k) (by omega) (by omega)) c_2
      refine lv_aload_n hx hb dX10_passOn_9 rfl (lv_at hl 0 rfl) ?_
      refine va_get (D := G.1) (ci := 10) (v := .ref w2) (C := RX10) (T := TX10) (N := 3) hx hb hts (g_in wsX100 48 rfl) hown hK.1 hP 0 rfl rfl 1 (by decide) (hts _ (List.mem_of_getElem? (i := 1) rfl)) (fun _ h9 => h9) rfl dX10_passOn_10 ?_
      refine lv_iload_n hx hb dX10_passOn_13 rfl (lv_at hl 2 rfl) ?_
      refine lv_aload_n hx hb dX10_passOn_14 rfl (lv_at hl 0 rfl) ?_
      refine va_get (D := G.1) (ci := 10) (v := .ref w1) (C := RX10) (T := TX10) (N := 3) hx hb hts (g_in wsX100 48 rfl) hown hK.1 hP 0 rfl rfl 0 (by decide) (hts _ (List.mem_of_getElem? (i := 2) rfl)) (fun _ h9 => h9) rfl dX10_passOn_15 ?_
      refine lv_iload_n hx hb dX10_passOn_18 rfl (lv_at hl 2 rfl) ?_
      refine g_iald hx hb hK hP 1 rfl (by omega) (by decide) dX10_passOn_19 ?_
      refine g_top (y := (nI (w k))) (h3 k (Nat.le_refl k) (by omega)) ?_
      refine g_iast hx hb hK hP hD hS 2 rfl (by omega) (by decide) dX10_passOn_20 (fun H locs hP hD hS => ?_)
      have hP : va_P G.1 vwCl (([(h0, .inr (10, [.ref w1, .ref w2, .ref w3])), (w1, .inl (G.2.1, 128, .inl wt2)), (w2, .inl (G.2.1, 128, .inl (upd wb2 k (nI (w k))))), (w3, .inl (G.2.1, 8, .inl wg)), (hp, .inr (5, [.ref ha, .int (nI n)])), (ha, .inl (G.2.2.2, 4, .inr (.inr (.inr (.inr mf)))))] : va_W) ++ T) H := hP
      have hD : va_D A (([(h0, .inr (10, [.ref w1, .ref w2, .ref w3])), (w1, .inl (G.2.1, 128, .inl wt2)), (w2, .inl (G.2.1, 128, .inl (upd wb2 k (nI (w k))))), (w3, .inl (G.2.1, 8, .inl wg)), (hp, .inr (5, [.ref ha, .int (nI n)])), (ha, .inl (G.2.2.2, 4, .inr (.inr (.inr (.inr mf)))))] : va_W) ++ T) := hD
      refine lv_aload_n hx hb dX10_passOn_21 rfl (lv_at hl 0 rfl) ?_
      refine va_get (D := G.1) (ci := 10) (v := .ref w1) (C := RX10) (T := TX10) (N := 3) hx hb hts (g_in wsX100 48 rfl) hown hK.1 hP 0 rfl rfl 0 (by decide) (hts _ (List.mem_of_getElem? (i := 2) rfl)) (fun _ h9 => h9) rfl dX10_passOn_22 ?_
      refine lv_iload_n hx hb dX10_passOn_25 rfl (lv_at hl 2 rfl) ?_
      refine lv_iconst (v := (nI 0)) hx hb dX10_passOn_26 (by decide) ?_
      refine g_iast hx hb hK hP hD hS 1 rfl (by omega) (by decide) dX10_passOn_27 (fun H locs hP hD hS => ?_)
      have hP : va_P G.1 vwCl (([(h0, .inr (10, [.ref w1, .ref w2, .ref w3])), (w1, .inl (G.2.1, 128, .inl (upd wt2 k (nI 0)))), (w2, .inl (G.2.1, 128, .inl (upd wb2 k (nI (w k))))), (w3, .inl (G.2.1, 8, .inl wg)), (hp, .inr (5, [.ref ha, .int (nI n)])), (ha, .inl (G.2.2.2, 4, .inr (.inr (.inr (.inr mf)))))] : va_W) ++ T) H := hP
      have hD : va_D A (([(h0, .inr (10, [.ref w1, .ref w2, .ref w3])), (w1, .inl (G.2.1, 128, .inl (upd wt2 k (nI 0)))), (w2, .inl (G.2.1, 128, .inl (upd wb2 k (nI (w k))))), (w3, .inl (G.2.1, 8, .inl wg)), (hp, .inr (5, [.ref ha, .int (nI n)])), (ha, .inl (G.2.2.2, 4, .inr (.inr (.inr (.inr mf)))))] : va_W) ++ T) := hD
      refine lv_iinc (v := (nI (k + 1))) (lv' := [(2, .int (nI (k + 1))), (0, .ref h0), (1, .ref hp)]) hx hb dX10_passOn_28 hl (k := 2) rfl (nI_iinc (by decide)) (by decide) rfl (fun ls hl => ?_)
      refine lv_goto (tgt := 2) hx hb dX10_passOn_31 (by decide) ?_
      exact L2_1 (k + 1) (upd wt2 k (nI 0)) (upd wb2 k (nI (w k))) _ _ _ (by omega) ⟨(by omega), up_all h1 rfl, up_all h2 rfl, fun j h8 h9 => by rw [upd_n (by omega)]; exact h3 j (by omega) h9, (hP.part [0, 1, 2, 3, 4, 5] rfl), (hD.part [0, 1, 2, 3, 4, 5] (by decide) rfl), hS, lv_sub hl [1, 2, 0] rfl⟩
  · skip
    exact L2_1 0 wt wb _ _ _ ⟨(by omega), fun j h => absurd h (Nat.not_lt_zero j), fun j h => absurd h (Nat.not_lt_zero j), fun j _ h => hw j h, (hP.part [0, 1, 2, 3, 4, 5] rfl), (hD.part [0, 1, 2, 3, 4, 5] (by decide) rfl), hS, lv_sub hl [1, 2, 0] rfl⟩

set_option maxHeartbeats 4000000 in
set_option maxRecDepth 100000 in
theorem c_spread (l : Launch) (G : gG) (h0 : Nat) (w1 : Nat) (w2 : Nat) (w3 : Nat) (wt : Nat → Int32) (wb : Nat → Int32) (wg : Nat → Int32) (lk : Nat) (a1 : Nat) (a2 : Nat) (a3 : Nat) (z : Nat) (lp : Nat → Int32) (so : Nat → Int32) (vs : Nat → Int32) (hp : Nat) (ha : Nat) (n : Nat) (mf : Nat → Option Nat) (kd : Nat → Nat) (pa : Nat → Nat) (T : va_W) (st : Nat) (y : Nat) (sz : Nat) (hn : n ≤ 4) (hmf : ∀ i, i < n → mf i = some (pa i)) (hkd : ∀ i, i < n → kd i < 5) (hT : pplT T n kd pa) (hz : z ≤ 8) (hst : st < 128) (hy : y ≤ 8) : Met l yX10_spread wsX10_spread ({ frames := 4, cells := 0, slots := 0, locals := 90 } : Room) (gM G [.ref h0, .ref hp, .ref lk, .int (nI st), .int (nI y)] (([(h0, .inr (10, [.ref w1, .ref w2, .ref w3])), (w1, .inl (G.2.1, 128, .inl wt)), (w2, .inl (G.2.1, 128, .inl wb)), (w3, .inl (G.2.1, 8, .inl wg)), (lk, .inr (3, [.ref a1, .ref a2, .ref a3, .int (nI z)])), (a1, .inl (G.2.1, 8, .inl lp)), (a2, .inl (G.2.1, 8, .inl so)), (a3, .inl (G.2.1, 8, .inl vs)), (hp, .inr (5, [.ref ha, .int (nI n)])), (ha, .inl (G.2.2.2, 4, .inr (.inr (.inr (.inr mf)))))] : va_W) ++ T) sz) (va_Qv (fun (u : (Nat → Int32)) => True) (fun u t => va_P G.1 vwCl (([(h0, .inr (10, [.ref w1, .ref w2, .ref w3])), (w1, .inl (G.2.1, 128, .inl (fun j => nI (wAt kd n lp so vs z st y j)))), (w2, .inl (G.2.1, 128, .inl u)), (w3, .inl (G.2.1, 8, .inl wg)), (lk, .inr (3, [.ref a1, .ref a2, .ref a3, .int (nI z)])), (a1, .inl (G.2.1, 8, .inl lp)), (a2, .inl (G.2.1, 8, .inl so)), (a3, .inl (G.2.1, 8, .inl vs)), (hp, .inr (5, [.ref ha, .int (nI n)])), (ha, .inl (G.2.2.2, 4, .inr (.inr (.inr (.inr mf)))))] : va_W) ++ T) t.heap ∧ va_D (va_A (([(h0, .inr (10, [.ref w1, .ref w2, .ref w3])), (w1, .inl (G.2.1, 128, .inl wt)), (w2, .inl (G.2.1, 128, .inl wb)), (w3, .inl (G.2.1, 8, .inl wg)), (lk, .inr (3, [.ref a1, .ref a2, .ref a3, .int (nI z)])), (a1, .inl (G.2.1, 8, .inl lp)), (a2, .inl (G.2.1, 8, .inl so)), (a3, .inl (G.2.1, 8, .inl vs)), (hp, .inr (5, [.ref ha, .int (nI n)])), (ha, .inl (G.2.2.2, 4, .inr (.inr (.inr (.inr mf)))))] : va_W) ++ T) sz) (([(h0, .inr (10, [.ref w1, .ref w2, .ref w3])), (w1, .inl (G.2.1, 128, .inl (fun j => nI (wAt kd n lp so vs z st y j)))), (w2, .inl (G.2.1, 128, .inl u)), (w3, .inl (G.2.1, 8, .inl wg)), (lk, .inr (3, [.ref a1, .ref a2, .ref a3, .int (nI z)])), (a1, .inl (G.2.1, 8, .inl lp)), (a2, .inl (G.2.1, 8, .inl so)), (a3, .inl (G.2.1, 8, .inl vs)), (hp, .inr (5, [.ref ha, .int (nI n)])), (ha, .inl (G.2.2.2, 4, .inr (.inr (.inr (.inr mf)))))] : va_W) ++ T)) (va_A (([(h0, .inr (10, [.ref w1, .ref w2, .ref w3])), (w1, .inl (G.2.1, 128, .inl wt)), (w2, .inl (G.2.1, 128, .inl wb)), (w3, .inl (G.2.1, 8, .inl wg)), (lk, .inr (3, [.ref a1, .ref a2, .ref a3, .int (nI z)])), (a1, .inl (G.2.1, 8, .inl lp)), (a2, .inl (G.2.1, 8, .inl so)), (a3, .inl (G.2.1, 8, .inl vs)), (hp, .inr (5, [.ref ha, .int (nI n)])), (ha, .inl (G.2.2.2, 4, .inr (.inr (.inr (.inr mf)))))] : va_W) ++ T) sz)) 0 0 (va_A (([(h0, .inr (10, [.ref w1, .ref w2, .ref w3])), (w1, .inl (G.2.1, 128, .inl wt)), (w2, .inl (G.2.1, 128, .inl wb)), (w3, .inl (G.2.1, 8, .inl wg)), (lk, .inr (3, [.ref a1, .ref a2, .ref a3, .int (nI z)])), (a1, .inl (G.2.1, 8, .inl lp)), (a2, .inl (G.2.1, 8, .inl so)), (a3, .inl (G.2.1, 8, .inl vs)), (hp, .inr (5, [.ref ha, .int (nI n)])), (ha, .inl (G.2.2.2, 4, .inr (.inr (.inr (.inr mf)))))] : va_W) ++ T) sz) := by
  refine Met.ofW (cc := cX10_spread) (maxL := 6) (ret := none) (by decide) rfl ?_
  intro p e s m args below meth c s₁ B hml hv
  obtain ⟨rfl, hsz, hP, hK, hD0⟩ := hv
  have hx := B.exec
  have hb := B.bytes
  have hr := B.returns
  have hts := atoms_spec (ws := wsX10_spread) B.pre
  have hown : s.vm.findClass RX10 = some m.cls := findClass_of_methodNamed B.named
  have hlocks := B.notSynchronized
  subst hsz
  have hD := hD0.self (sz := s.heap.size)
  generalize hAe : va_A (([(h0, .inr (10, [.ref w1, .ref w2, .ref w3])), (w1, .inl (G.2.1, 128, .inl wt)), (w2, .inl (G.2.1, 128, .inl wb)), (w3, .inl (G.2.1, 8, .inl wg)), (lk, .inr (3, [.ref a1, .ref a2, .ref a3, .int (nI z)])), (a1, .inl (G.2.1, 8, .inl lp)), (a2, .inl (G.2.1, 8, .inl so)), (a3, .inl (G.2.1, 8, .inl vs)), (hp, .inr (5, [.ref ha, .int (nI n)])), (ha, .inl (G.2.2.2, 4, .inr (.inr (.inr (.inr mf)))))] : va_W) ++ T) s.heap.size = A at hD ⊢
  have hA : ∀ q : Nat, s.heap.size ≤ q → A q := fun q h => by rw [← hAe]; exact Or.inr h
  have hS : va_S A s.heap s.heap [] := va_S.rf
  clear hAe hD0
  have hl := lv_entry ([.ref h0, .ref hp, .ref lk, .int (nI st), .int (nI y)]) (n := 6) (Nat.le_of_ble_eq_true rfl)
  rw [lg_entry_eq]
  generalize (lg_sl ([.ref h0, .ref hp, .ref lk, .int (nI st), .int (nI y)]) ++ List.replicate (6 - (lg_sl ([.ref h0, .ref hp, .ref lk, .int (nI st), .int (nI y)])).length) Slot.unset).toArray = ls at hl ⊢
  have hl : lv_has ls 6 [(0, .ref h0), (1, .ref hp), (2, .ref lk), (3, .int (nI st)), (4, .int (nI y))] := hl
  refine lv_aload_n hx hb dX10_spread_0 rfl (lv_at hl 0 rfl) ?_
  refine va_get (D := G.1) (ci := 10) (v := .ref w1) (C := RX10) (T := TX10) (N := 3) hx hb hts (g_in wsX100 73 rfl) hown hK.1 hP 0 rfl rfl 0 (by decide) (hts _ (List.mem_of_getElem? (i := 1) rfl)) (fun _ h9 => h9) rfl dX10_spread_1 ?_
  refine lv_iconst (v := (nI 0)) hx hb dX10_spread_4 (by decide) ?_
  refine g_callvQ (S := Unit) (w1 := fun u => [(w1, .inl (G.2.1, 128, .inl (fun _ => (nI 0))))]) (wr := [(h0, .inr (10, [.ref w1, .ref w2, .ref w3])), (w2, .inl (G.2.1, 128, .inl wb)), (w3, .inl (G.2.1, 8, .inl wg)), (lk, .inr (3, [.ref a1, .ref a2, .ref a3, .int (nI z)])), (a1, .inl (G.2.1, 8, .inl lp)), (a2, .inl (G.2.1, 8, .inl so)), (a3, .inl (G.2.1, 8, .inl vs)), (hp, .inr (5, [.ref ha, .int (nI n)])), (ha, .inl (G.2.2.2, 4, .inr (.inr (.inr (.inr mf)))))]) (wc := [(w1, .inl (G.2.1, 128, .inl wt))]) (T := T) hP hD hS hA [1] [0, 2, 3, 4, 5, 6, 7, 8, 9] rfl rfl (by decide) (by decide) (va_runS (As := [.ref w1, .int (nI 0)]) (rest := []) ⟨hx, hb, hml, hown, hts⟩ (c_fill l G w1 128 wt (nI 0) _ (by omega)) (va_cwS 2 hts gX10_spread_J7_fill_53178 rfl rfl rfl (by decide +kernel) ⟨Nat.le_of_ble_eq_true rfl, Nat.le_of_ble_eq_true rfl⟩) (gM.S hK (show va_P G.1 vwCl [(w1, .inl (G.2.1, 128, .inl wt))] s.heap from (hP.sub [1] rfl)) (show va_D A [(w1, .inl (G.2.1, 128, .inl wt))] from (hD.sub [1] (by decide) rfl))) rfl rfl hl.1 rfl (lv_room (Nat.le_of_ble_eq_true rfl)) dX10_spread_5 ⟨Nat.le_of_ble_eq_true rfl, Nat.le_of_ble_eq_true rfl⟩) (fun u H locs hq hP hD hS => ?_)
  have hP : va_P G.1 vwCl (([(h0, .inr (10, [.ref w1, .ref w2, .ref w3])), (w2, .inl (G.2.1, 128, .inl wb)), (w3, .inl (G.2.1, 8, .inl wg)), (lk, .inr (3, [.ref a1, .ref a2, .ref a3, .int (nI z)])), (a1, .inl (G.2.1, 8, .inl lp)), (a2, .inl (G.2.1, 8, .inl so)), (a3, .inl (G.2.1, 8, .inl vs)), (hp, .inr (5, [.ref ha, .int (nI n)])), (ha, .inl (G.2.2.2, 4, .inr (.inr (.inr (.inr mf))))), (w1, .inl (G.2.1, 128, .inl (fun _ => (nI 0))))] : va_W) ++ T) H := hP
  have hD : va_D A (([(h0, .inr (10, [.ref w1, .ref w2, .ref w3])), (w2, .inl (G.2.1, 128, .inl wb)), (w3, .inl (G.2.1, 8, .inl wg)), (lk, .inr (3, [.ref a1, .ref a2, .ref a3, .int (nI z)])), (a1, .inl (G.2.1, 8, .inl lp)), (a2, .inl (G.2.1, 8, .inl so)), (a3, .inl (G.2.1, 8, .inl vs)), (hp, .inr (5, [.ref ha, .int (nI n)])), (ha, .inl (G.2.2.2, 4, .inr (.inr (.inr (.inr mf))))), (w1, .inl (G.2.1, 128, .inl (fun _ => (nI 0))))] : va_W) ++ T) := hD
  refine lv_iload_n hx hb dX10_spread_8 rfl (lv_at hl 3 rfl) ?_
  refine lv_if_lt (tgt := 26) hx hb dX10_spread_9 (by decide) (fun c_1 => ?_) (fun c_1 => ?_)
  · skip
    have c_1 := (cLtNN (a := st) (b := 0) (by omega) (by omega)).mp c_1
    exact absurd c_1 (by omega)
  · skip
    have c_1 := gNot (cLtNN (a := st) (b := 0) (by omega) (by omega)) c_1
    refine lv_iload_n hx hb dX10_spread_12 rfl (lv_at hl 3 rfl) ?_
    refine lv_sipush (v := (nI 128)) hx hb dX10_spread_13 (by decide) ?_
    refine lv_icmp_ge (tgt := 26) hx hb dX10_spread_16 (by decide) (fun c_2 => ?_) (fun c_2 => ?_)
    · skip
      have c_2 := (cLeNN (a := 128) (b := st) (by omega) (by omega)).mp c_2
      exact absurd c_2 (by omega)
    · skip
      have c_2 := gNot (cLeNN (a := 128) (b := st) (by omega) (by omega)) c_2
      refine lv_aload_n hx hb dX10_spread_19 rfl (lv_at hl 0 rfl) ?_
      refine va_get (D := G.1) (ci := 10) (v := .ref w1) (C := RX10) (T := TX10) (N := 3) hx hb hts (g_in wsX100 73 rfl) hown hK.1 hP 0 rfl rfl 0 (by decide) (hts _ (List.mem_of_getElem? (i := 1) rfl)) (fun _ h9 => h9) rfl dX10_spread_20 ?_
      refine lv_iload_n hx hb dX10_spread_23 rfl (lv_at hl 3 rfl) ?_
      refine lv_iconst (v := (nI 1)) hx hb dX10_spread_24 (by decide) ?_
      refine g_iast hx hb hK hP hD hS 9 rfl (by omega) (by decide) dX10_spread_25 (fun H locs hP hD hS => ?_)
      have hP : va_P G.1 vwCl (([(h0, .inr (10, [.ref w1, .ref w2, .ref w3])), (w2, .inl (G.2.1, 128, .inl wb)), (w3, .inl (G.2.1, 8, .inl wg)), (lk, .inr (3, [.ref a1, .ref a2, .ref a3, .int (nI z)])), (a1, .inl (G.2.1, 8, .inl lp)), (a2, .inl (G.2.1, 8, .inl so)), (a3, .inl (G.2.1, 8, .inl vs)), (hp, .inr (5, [.ref ha, .int (nI n)])), (ha, .inl (G.2.2.2, 4, .inr (.inr (.inr (.inr mf))))), (w1, .inl (G.2.1, 128, .inl (upd (fun _ => (nI 0)) st (nI 1))))] : va_W) ++ T) H := hP
      have hD : va_D A (([(h0, .inr (10, [.ref w1, .ref w2, .ref w3])), (w2, .inl (G.2.1, 128, .inl wb)), (w3, .inl (G.2.1, 8, .inl wg)), (lk, .inr (3, [.ref a1, .ref a2, .ref a3, .int (nI z)])), (a1, .inl (G.2.1, 8, .inl lp)), (a2, .inl (G.2.1, 8, .inl so)), (a3, .inl (G.2.1, 8, .inl vs)), (hp, .inr (5, [.ref ha, .int (nI n)])), (ha, .inl (G.2.2.2, 4, .inr (.inr (.inr (.inr mf))))), (w1, .inl (G.2.1, 128, .inl (upd (fun _ => (nI 0)) st (nI 1))))] : va_W) ++ T) := hD
      refine lv_aload_n hx hb dX10_spread_26 rfl (lv_at hl 0 rfl) ?_
      refine lv_aload_n hx hb dX10_spread_27 rfl (lv_at hl 2 rfl) ?_
      refine lv_iconst (v := (nI 0)) hx hb dX10_spread_28 (by decide) ?_
      refine g_callvQ (S := Unit) (w1 := fun u => [(h0, .inr (10, [.ref w1, .ref w2, .ref w3])), (w1, .inl (G.2.1, 128, .inl (fun k => nI (if fitL lp so vs z (nI 0) k then (fun k => if k = st then 1 else 0) k else 0)))), (w2, .inl (G.2.1, 128, .inl wb)), (w3, .inl (G.2.1, 8, .inl wg)), (lk, .inr (3, [.ref a1, .ref a2, .ref a3, .int (nI z)])), (a1, .inl (G.2.1, 8, .inl lp)), (a2, .inl (G.2.1, 8, .inl so)), (a3, .inl (G.2.1, 8, .inl vs))]) (wr := [(hp, .inr (5, [.ref ha, .int (nI n)])), (ha, .inl (G.2.2.2, 4, .inr (.inr (.inr (.inr mf)))))]) (wc := [(h0, .inr (10, [.ref w1, .ref w2, .ref w3])), (w1, .inl (G.2.1, 128, .inl (upd (fun _ => (nI 0)) st (nI 1)))), (w2, .inl (G.2.1, 128, .inl wb)), (w3, .inl (G.2.1, 8, .inl wg)), (lk, .inr (3, [.ref a1, .ref a2, .ref a3, .int (nI z)])), (a1, .inl (G.2.1, 8, .inl lp)), (a2, .inl (G.2.1, 8, .inl so)), (a3, .inl (G.2.1, 8, .inl vs))]) (T := T) hP hD hS hA [0, 9, 1, 2, 3, 4, 5, 6] [7, 8] rfl rfl (by decide) (by decide) (va_runV (As := [.ref lk, .int (nI 0)]) (rest := []) ⟨hx, hb, hml, hown, hts⟩ (c_keepFitting l G h0 w1 w2 w3 (upd (fun _ => (nI 0)) st (nI 1)) wb wg lk a1 a2 a3 z lp so vs (nI 0) (fun k => if k = st then 1 else 0) _ hz (by intro k hk; by_cases e : k = st; (subst e; rw [upd_s, if_pos rfl]); (rw [upd_n e, if_neg e])) (Nat.lt_of_le_of_lt (sN_one st 128) (by decide))) (cwV 2 hts gX10_spread_X10_keepFitting rfl rfl rfl (by decide +kernel) ⟨Nat.le_of_ble_eq_true rfl, Nat.le_of_ble_eq_true rfl⟩) (gM.V hK (show va_P G.1 vwCl [(h0, .inr (10, [.ref w1, .ref w2, .ref w3])), (w1, .inl (G.2.1, 128, .inl (upd (fun _ => (nI 0)) st (nI 1)))), (w2, .inl (G.2.1, 128, .inl wb)), (w3, .inl (G.2.1, 8, .inl wg)), (lk, .inr (3, [.ref a1, .ref a2, .ref a3, .int (nI z)])), (a1, .inl (G.2.1, 8, .inl lp)), (a2, .inl (G.2.1, 8, .inl so)), (a3, .inl (G.2.1, 8, .inl vs))] H from (hP.sub [0, 9, 1, 2, 3, 4, 5, 6] rfl)) (show va_D A [(h0, .inr (10, [.ref w1, .ref w2, .ref w3])), (w1, .inl (G.2.1, 128, .inl (upd (fun _ => (nI 0)) st (nI 1)))), (w2, .inl (G.2.1, 128, .inl wb)), (w3, .inl (G.2.1, 8, .inl wg)), (lk, .inr (3, [.ref a1, .ref a2, .ref a3, .int (nI z)])), (a1, .inl (G.2.1, 8, .inl lp)), (a2, .inl (G.2.1, 8, .inl so)), (a3, .inl (G.2.1, 8, .inl vs))] from (hD.sub [0, 9, 1, 2, 3, 4, 5, 6] (by decide) rfl)) (ci := 10) (q0 := 0) rfl rfl) rfl rfl hl.1 rfl (lv_room (Nat.le_of_ble_eq_true rfl)) dX10_spread_29 ⟨Nat.le_of_ble_eq_true rfl, Nat.le_of_ble_eq_true rfl⟩) (fun u H locs hq hP hD hS => ?_)
      have hP : va_P G.1 vwCl (([(hp, .inr (5, [.ref ha, .int (nI n)])), (ha, .inl (G.2.2.2, 4, .inr (.inr (.inr (.inr mf))))), (h0, .inr (10, [.ref w1, .ref w2, .ref w3])), (w1, .inl (G.2.1, 128, .inl (fun k => nI (if fitL lp so vs z (nI 0) k then (fun k => if k = st then 1 else 0) k else 0)))), (w2, .inl (G.2.1, 128, .inl wb)), (w3, .inl (G.2.1, 8, .inl wg)), (lk, .inr (3, [.ref a1, .ref a2, .ref a3, .int (nI z)])), (a1, .inl (G.2.1, 8, .inl lp)), (a2, .inl (G.2.1, 8, .inl so)), (a3, .inl (G.2.1, 8, .inl vs))] : va_W) ++ T) H := hP
      have hD : va_D A (([(hp, .inr (5, [.ref ha, .int (nI n)])), (ha, .inl (G.2.2.2, 4, .inr (.inr (.inr (.inr mf))))), (h0, .inr (10, [.ref w1, .ref w2, .ref w3])), (w1, .inl (G.2.1, 128, .inl (fun k => nI (if fitL lp so vs z (nI 0) k then (fun k => if k = st then 1 else 0) k else 0)))), (w2, .inl (G.2.1, 128, .inl wb)), (w3, .inl (G.2.1, 8, .inl wg)), (lk, .inr (3, [.ref a1, .ref a2, .ref a3, .int (nI z)])), (a1, .inl (G.2.1, 8, .inl lp)), (a2, .inl (G.2.1, 8, .inl so)), (a3, .inl (G.2.1, 8, .inl vs))] : va_W) ++ T) := hD
      refine lv_iconst (v := (nI 1)) hx hb dX10_spread_32 (by decide) ?_
      refine lv_istore (lv' := [(5, .int (nI 1)), (0, .ref h0), (1, .ref hp), (2, .ref lk), (3, .int (nI st)), (4, .int (nI y))]) hx hb dX10_spread_33 hl (by decide) rfl (fun ls hl => ?_)
      refine g_cutM3 (α := Nat) (β := Nat → Int32) (γ := Nat → Int32) 35 (fun y0 wt2 wb2 => []) (fun y0 wt2 wb2 H locs ls => (y0 ≤ y) ∧ (∀ j, j < 128 → wt2 j = nI (wAt kd n lp so vs z st y0 j)) ∧ va_P G.1 vwCl (([(h0, .inr (10, [.ref w1, .ref w2, .ref w3])), (w1, .inl (G.2.1, 128, .inl wt2)), (w2, .inl (G.2.1, 128, .inl wb2)), (w3, .inl (G.2.1, 8, .inl wg)), (lk, .inr (3, [.ref a1, .ref a2, .ref a3, .int (nI z)])), (a1, .inl (G.2.1, 8, .inl lp)), (a2, .inl (G.2.1, 8, .inl so)), (a3, .inl (G.2.1, 8, .inl vs)), (hp, .inr (5, [.ref ha, .int (nI n)])), (ha, .inl (G.2.2.2, 4, .inr (.inr (.inr (.inr mf)))))] : va_W) ++ T) H ∧ va_D A (([(h0, .inr (10, [.ref w1, .ref w2, .ref w3])), (w1, .inl (G.2.1, 128, .inl wt2)), (w2, .inl (G.2.1, 128, .inl wb2)), (w3, .inl (G.2.1, 8, .inl wg)), (lk, .inr (3, [.ref a1, .ref a2, .ref a3, .int (nI z)])), (a1, .inl (G.2.1, 8, .inl lp)), (a2, .inl (G.2.1, 8, .inl so)), (a3, .inl (G.2.1, 8, .inl vs)), (hp, .inr (5, [.ref ha, .int (nI n)])), (ha, .inl (G.2.2.2, 4, .inr (.inr (.inr (.inr mf)))))] : va_W) ++ T) ∧ va_S A s.heap H locs ∧ lv_has ls 6 [(0, .ref h0), (1, .ref hp), (2, .ref lk), (3, .int (nI st)), (4, .int (nI y)), (5, .int (nI (y0 + 1)))]) (g_loopM3 (α := Nat) (β := Nat → Int32) (γ := Nat → Int32) 35 (fun y0 wt2 wb2 => []) (fun y0 wt2 wb2 H locs ls => (y0 ≤ y) ∧ (∀ j, j < 128 → wt2 j = nI (wAt kd n lp so vs z st y0 j)) ∧ va_P G.1 vwCl (([(h0, .inr (10, [.ref w1, .ref w2, .ref w3])), (w1, .inl (G.2.1, 128, .inl wt2)), (w2, .inl (G.2.1, 128, .inl wb2)), (w3, .inl (G.2.1, 8, .inl wg)), (lk, .inr (3, [.ref a1, .ref a2, .ref a3, .int (nI z)])), (a1, .inl (G.2.1, 8, .inl lp)), (a2, .inl (G.2.1, 8, .inl so)), (a3, .inl (G.2.1, 8, .inl vs)), (hp, .inr (5, [.ref ha, .int (nI n)])), (ha, .inl (G.2.2.2, 4, .inr (.inr (.inr (.inr mf)))))] : va_W) ++ T) H ∧ va_D A (([(h0, .inr (10, [.ref w1, .ref w2, .ref w3])), (w1, .inl (G.2.1, 128, .inl wt2)), (w2, .inl (G.2.1, 128, .inl wb2)), (w3, .inl (G.2.1, 8, .inl wg)), (lk, .inr (3, [.ref a1, .ref a2, .ref a3, .int (nI z)])), (a1, .inl (G.2.1, 8, .inl lp)), (a2, .inl (G.2.1, 8, .inl so)), (a3, .inl (G.2.1, 8, .inl vs)), (hp, .inr (5, [.ref ha, .int (nI n)])), (ha, .inl (G.2.2.2, 4, .inr (.inr (.inr (.inr mf)))))] : va_W) ++ T) ∧ va_S A s.heap H locs ∧ lv_has ls 6 [(0, .ref h0), (1, .ref hp), (2, .ref lk), (3, .int (nI st)), (4, .int (nI y)), (5, .int (nI (y0 + 1)))]) (fun y0 wt2 wb2 => y - y0) ?_) (fun L35_3 => ?_)
      · intro y0 wt2 wb2 H locs ls hI L35_3
        obtain ⟨hy0, h5, hP, hD, hS, hl⟩ := hI
        refine lv_iload hx hb dX10_spread_35 (lv_at hl 5 rfl) ?_
        refine lv_iload hx hb dX10_spread_37 (lv_at hl 4 rfl) ?_
        refine lv_icmp_gt (tgt := 60) hx hb dX10_spread_39 (by decide) (fun c_4 => ?_) (fun c_4 => ?_)
        · skip
          have c_4 := (cLtNN (a := y) (b := y0 + 1) (by omega) (by omega)).mp c_4
          have hye : y0 = y := by omega
          have hP := g_arr hP 1 rfl (show ∀ k, k < 128 → wt2 k = (fun j => nI (wAt kd n lp so vs z st y j)) k from by rw [← hye]; exact h5)
          have hD := hD.set (p := 1) (a := w1) (e := .inl (G.2.1, 128, .inl (fun j => nI (wAt kd n lp so vs z st y j)))) rfl
          have hP : va_P G.1 vwCl (([(h0, .inr (10, [.ref w1, .ref w2, .ref w3])), (w1, .inl (G.2.1, 128, .inl (fun j => nI (wAt kd n lp so vs z st y j)))), (w2, .inl (G.2.1, 128, .inl wb2)), (w3, .inl (G.2.1, 8, .inl wg)), (lk, .inr (3, [.ref a1, .ref a2, .ref a3, .int (nI z)])), (a1, .inl (G.2.1, 8, .inl lp)), (a2, .inl (G.2.1, 8, .inl so)), (a3, .inl (G.2.1, 8, .inl vs)), (hp, .inr (5, [.ref ha, .int (nI n)])), (ha, .inl (G.2.2.2, 4, .inr (.inr (.inr (.inr mf)))))] : va_W) ++ T) H := hP
          have hD : va_D A (([(h0, .inr (10, [.ref w1, .ref w2, .ref w3])), (w1, .inl (G.2.1, 128, .inl (fun j => nI (wAt kd n lp so vs z st y j)))), (w2, .inl (G.2.1, 128, .inl wb2)), (w3, .inl (G.2.1, 8, .inl wg)), (lk, .inr (3, [.ref a1, .ref a2, .ref a3, .int (nI z)])), (a1, .inl (G.2.1, 8, .inl lp)), (a2, .inl (G.2.1, 8, .inl so)), (a3, .inl (G.2.1, 8, .inl vs)), (hp, .inr (5, [.ref ha, .int (nI n)])), (ha, .inl (G.2.2.2, 4, .inr (.inr (.inr (.inr mf)))))] : va_W) ++ T) := hD
          have hP9 : va_P G.1 vwCl (([(h0, .inr (10, [.ref w1, .ref w2, .ref w3])), (w1, .inl (G.2.1, 128, .inl (fun j => nI (wAt kd n lp so vs z st y j)))), (w2, .inl (G.2.1, 128, .inl wb2)), (w3, .inl (G.2.1, 8, .inl wg)), (lk, .inr (3, [.ref a1, .ref a2, .ref a3, .int (nI z)])), (a1, .inl (G.2.1, 8, .inl lp)), (a2, .inl (G.2.1, 8, .inl so)), (a3, .inl (G.2.1, 8, .inl vs)), (hp, .inr (5, [.ref ha, .int (nI n)])), (ha, .inl (G.2.2.2, 4, .inr (.inr (.inr (.inr mf)))))] : va_W) ++ T) H := (hP.part [0, 1, 2, 3, 4, 5, 6, 7, 8, 9] rfl)
          have hD9 : va_D A (([(h0, .inr (10, [.ref w1, .ref w2, .ref w3])), (w1, .inl (G.2.1, 128, .inl (fun j => nI (wAt kd n lp so vs z st y j)))), (w2, .inl (G.2.1, 128, .inl wb2)), (w3, .inl (G.2.1, 8, .inl wg)), (lk, .inr (3, [.ref a1, .ref a2, .ref a3, .int (nI z)])), (a1, .inl (G.2.1, 8, .inl lp)), (a2, .inl (G.2.1, 8, .inl so)), (a3, .inl (G.2.1, 8, .inl vs)), (hp, .inr (5, [.ref ha, .int (nI n)])), (ha, .inl (G.2.2.2, 4, .inr (.inr (.inr (.inr mf)))))] : va_W) ++ T) := (hD.part [0, 1, 2, 3, 4, 5, 6, 7, 8, 9] (by decide) rfl)
          exact W.vret hx hb hr (fun t9 ht9 hW9 => ⟨⟨(wb2), rfl, trivial, by rw [ht9]; exact hP9, hD9⟩, hS.F ht9⟩) hS.2.2 dX10_spread_60
        · skip
          have c_4 := gNot (cLtNN (a := y) (b := y0 + 1) (by omega) (by omega)) c_4
          refine lv_aload_n hx hb dX10_spread_42 rfl (lv_at hl 0 rfl) ?_
          refine lv_aload_n hx hb dX10_spread_43 rfl (lv_at hl 1 rfl) ?_
          refine g_callvP (S := Unit) (w1 := fun u => [(h0, .inr (10, [.ref w1, .ref w2, .ref w3])), (w1, .inl (G.2.1, 128, .inl (fun j => nI (wStep kd n (wAt kd n lp so vs z st y0) j)))), (w2, .inl (G.2.1, 128, .inl (fun j => nI ((wAt kd n lp so vs z st y0) j)))), (w3, .inl (G.2.1, 8, .inl wg)), (hp, .inr (5, [.ref ha, .int (nI n)])), (ha, .inl (G.2.2.2, 4, .inr (.inr (.inr (.inr mf)))))]) (wr := [(lk, .inr (3, [.ref a1, .ref a2, .ref a3, .int (nI z)])), (a1, .inl (G.2.1, 8, .inl lp)), (a2, .inl (G.2.1, 8, .inl so)), (a3, .inl (G.2.1, 8, .inl vs))]) (wc := [(h0, .inr (10, [.ref w1, .ref w2, .ref w3])), (w1, .inl (G.2.1, 128, .inl wt2)), (w2, .inl (G.2.1, 128, .inl wb2)), (w3, .inl (G.2.1, 8, .inl wg)), (hp, .inr (5, [.ref ha, .int (nI n)])), (ha, .inl (G.2.2.2, 4, .inr (.inr (.inr (.inr mf)))))]) (T := T) (T1 := fun u => T) hP hD hS hA [0, 1, 2, 3, 8, 9] [4, 5, 6, 7] rfl rfl (by decide) (by decide) (va_runV (As := [.ref hp]) (rest := []) ⟨hx, hb, hml, hown, hts⟩ (c_passOn l G h0 w1 w2 w3 wt2 wb2 wg hp ha n mf kd pa T (wAt kd n lp so vs z st y0) _ hn hmf hkd hT h5 (wAt_b hn (by omega))) (cwV 1 hts gX10_spread_X10_passOn rfl rfl rfl (by decide +kernel) ⟨Nat.le_of_ble_eq_true rfl, Nat.le_of_ble_eq_true rfl⟩) (gM.V hK (show va_P G.1 vwCl (([(h0, .inr (10, [.ref w1, .ref w2, .ref w3])), (w1, .inl (G.2.1, 128, .inl wt2)), (w2, .inl (G.2.1, 128, .inl wb2)), (w3, .inl (G.2.1, 8, .inl wg)), (hp, .inr (5, [.ref ha, .int (nI n)])), (ha, .inl (G.2.2.2, 4, .inr (.inr (.inr (.inr mf)))))] : va_W) ++ T) H from (hP.part [0, 1, 2, 3, 8, 9] rfl)) (show va_D A (([(h0, .inr (10, [.ref w1, .ref w2, .ref w3])), (w1, .inl (G.2.1, 128, .inl wt2)), (w2, .inl (G.2.1, 128, .inl wb2)), (w3, .inl (G.2.1, 8, .inl wg)), (hp, .inr (5, [.ref ha, .int (nI n)])), (ha, .inl (G.2.2.2, 4, .inr (.inr (.inr (.inr mf)))))] : va_W) ++ T) from (hD.part [0, 1, 2, 3, 8, 9] (by decide) rfl)) (ci := 10) (q0 := 0) rfl rfl) rfl rfl hl.1 rfl (lv_room (Nat.le_of_ble_eq_true rfl)) dX10_spread_44 ⟨Nat.le_of_ble_eq_true rfl, Nat.le_of_ble_eq_true rfl⟩) (fun u H locs hq hP hD hS => ?_)
          have hP : va_P G.1 vwCl (([(lk, .inr (3, [.ref a1, .ref a2, .ref a3, .int (nI z)])), (a1, .inl (G.2.1, 8, .inl lp)), (a2, .inl (G.2.1, 8, .inl so)), (a3, .inl (G.2.1, 8, .inl vs)), (h0, .inr (10, [.ref w1, .ref w2, .ref w3])), (w1, .inl (G.2.1, 128, .inl (fun j => nI (wStep kd n (wAt kd n lp so vs z st y0) j)))), (w2, .inl (G.2.1, 128, .inl (fun j => nI ((wAt kd n lp so vs z st y0) j)))), (w3, .inl (G.2.1, 8, .inl wg)), (hp, .inr (5, [.ref ha, .int (nI n)])), (ha, .inl (G.2.2.2, 4, .inr (.inr (.inr (.inr mf)))))] : va_W) ++ T) H := hP
          have hD : va_D A (([(lk, .inr (3, [.ref a1, .ref a2, .ref a3, .int (nI z)])), (a1, .inl (G.2.1, 8, .inl lp)), (a2, .inl (G.2.1, 8, .inl so)), (a3, .inl (G.2.1, 8, .inl vs)), (h0, .inr (10, [.ref w1, .ref w2, .ref w3])), (w1, .inl (G.2.1, 128, .inl (fun j => nI (wStep kd n (wAt kd n lp so vs z st y0) j)))), (w2, .inl (G.2.1, 128, .inl (fun j => nI ((wAt kd n lp so vs z st y0) j)))), (w3, .inl (G.2.1, 8, .inl wg)), (hp, .inr (5, [.ref ha, .int (nI n)])), (ha, .inl (G.2.2.2, 4, .inr (.inr (.inr (.inr mf)))))] : va_W) ++ T) := hD
          refine lv_aload_n hx hb dX10_spread_47 rfl (lv_at hl 0 rfl) ?_
          refine lv_aload_n hx hb dX10_spread_48 rfl (lv_at hl 2 rfl) ?_
          refine lv_iload hx hb dX10_spread_49 (lv_at hl 5 rfl) ?_
          refine g_callvQ (S := Unit) (w1 := fun u => [(h0, .inr (10, [.ref w1, .ref w2, .ref w3])), (w1, .inl (G.2.1, 128, .inl (fun k => nI (if fitL lp so vs z (nI (y0 + 1)) k then (wStep kd n (wAt kd n lp so vs z st y0)) k else 0)))), (w2, .inl (G.2.1, 128, .inl (fun j => nI ((wAt kd n lp so vs z st y0) j)))), (w3, .inl (G.2.1, 8, .inl wg)), (lk, .inr (3, [.ref a1, .ref a2, .ref a3, .int (nI z)])), (a1, .inl (G.2.1, 8, .inl lp)), (a2, .inl (G.2.1, 8, .inl so)), (a3, .inl (G.2.1, 8, .inl vs))]) (wr := [(hp, .inr (5, [.ref ha, .int (nI n)])), (ha, .inl (G.2.2.2, 4, .inr (.inr (.inr (.inr mf)))))]) (wc := [(h0, .inr (10, [.ref w1, .ref w2, .ref w3])), (w1, .inl (G.2.1, 128, .inl (fun j => nI (wStep kd n (wAt kd n lp so vs z st y0) j)))), (w2, .inl (G.2.1, 128, .inl (fun j => nI ((wAt kd n lp so vs z st y0) j)))), (w3, .inl (G.2.1, 8, .inl wg)), (lk, .inr (3, [.ref a1, .ref a2, .ref a3, .int (nI z)])), (a1, .inl (G.2.1, 8, .inl lp)), (a2, .inl (G.2.1, 8, .inl so)), (a3, .inl (G.2.1, 8, .inl vs))]) (T := T) hP hD hS hA [4, 5, 6, 7, 0, 1, 2, 3] [8, 9] rfl rfl (by decide) (by decide) (va_runV (As := [.ref lk, .int (nI (y0 + 1))]) (rest := []) ⟨hx, hb, hml, hown, hts⟩ (c_keepFitting l G h0 w1 w2 w3 (fun j => nI (wStep kd n (wAt kd n lp so vs z st y0) j)) (fun j => nI ((wAt kd n lp so vs z st y0) j)) wg lk a1 a2 a3 z lp so vs (nI (y0 + 1)) (wStep kd n (wAt kd n lp so vs z st y0)) _ hz (fun _ _ => rfl) (wStep_b hn (by omega))) (cwV 2 hts gX10_spread_X10_keepFitting rfl rfl rfl (by decide +kernel) ⟨Nat.le_of_ble_eq_true rfl, Nat.le_of_ble_eq_true rfl⟩) (gM.V hK (show va_P G.1 vwCl [(h0, .inr (10, [.ref w1, .ref w2, .ref w3])), (w1, .inl (G.2.1, 128, .inl (fun j => nI (wStep kd n (wAt kd n lp so vs z st y0) j)))), (w2, .inl (G.2.1, 128, .inl (fun j => nI ((wAt kd n lp so vs z st y0) j)))), (w3, .inl (G.2.1, 8, .inl wg)), (lk, .inr (3, [.ref a1, .ref a2, .ref a3, .int (nI z)])), (a1, .inl (G.2.1, 8, .inl lp)), (a2, .inl (G.2.1, 8, .inl so)), (a3, .inl (G.2.1, 8, .inl vs))] H from (hP.sub [4, 5, 6, 7, 0, 1, 2, 3] rfl)) (show va_D A [(h0, .inr (10, [.ref w1, .ref w2, .ref w3])), (w1, .inl (G.2.1, 128, .inl (fun j => nI (wStep kd n (wAt kd n lp so vs z st y0) j)))), (w2, .inl (G.2.1, 128, .inl (fun j => nI ((wAt kd n lp so vs z st y0) j)))), (w3, .inl (G.2.1, 8, .inl wg)), (lk, .inr (3, [.ref a1, .ref a2, .ref a3, .int (nI z)])), (a1, .inl (G.2.1, 8, .inl lp)), (a2, .inl (G.2.1, 8, .inl so)), (a3, .inl (G.2.1, 8, .inl vs))] from (hD.sub [4, 5, 6, 7, 0, 1, 2, 3] (by decide) rfl)) (ci := 10) (q0 := 0) rfl rfl) rfl rfl hl.1 rfl (lv_room (Nat.le_of_ble_eq_true rfl)) dX10_spread_51 ⟨Nat.le_of_ble_eq_true rfl, Nat.le_of_ble_eq_true rfl⟩) (fun u H locs hq hP hD hS => ?_)
          have hP : va_P G.1 vwCl (([(hp, .inr (5, [.ref ha, .int (nI n)])), (ha, .inl (G.2.2.2, 4, .inr (.inr (.inr (.inr mf))))), (h0, .inr (10, [.ref w1, .ref w2, .ref w3])), (w1, .inl (G.2.1, 128, .inl (fun k => nI (if fitL lp so vs z (nI (y0 + 1)) k then (wStep kd n (wAt kd n lp so vs z st y0)) k else 0)))), (w2, .inl (G.2.1, 128, .inl (fun j => nI ((wAt kd n lp so vs z st y0) j)))), (w3, .inl (G.2.1, 8, .inl wg)), (lk, .inr (3, [.ref a1, .ref a2, .ref a3, .int (nI z)])), (a1, .inl (G.2.1, 8, .inl lp)), (a2, .inl (G.2.1, 8, .inl so)), (a3, .inl (G.2.1, 8, .inl vs))] : va_W) ++ T) H := hP
          have hD : va_D A (([(hp, .inr (5, [.ref ha, .int (nI n)])), (ha, .inl (G.2.2.2, 4, .inr (.inr (.inr (.inr mf))))), (h0, .inr (10, [.ref w1, .ref w2, .ref w3])), (w1, .inl (G.2.1, 128, .inl (fun k => nI (if fitL lp so vs z (nI (y0 + 1)) k then (wStep kd n (wAt kd n lp so vs z st y0)) k else 0)))), (w2, .inl (G.2.1, 128, .inl (fun j => nI ((wAt kd n lp so vs z st y0) j)))), (w3, .inl (G.2.1, 8, .inl wg)), (lk, .inr (3, [.ref a1, .ref a2, .ref a3, .int (nI z)])), (a1, .inl (G.2.1, 8, .inl lp)), (a2, .inl (G.2.1, 8, .inl so)), (a3, .inl (G.2.1, 8, .inl vs))] : va_W) ++ T) := hD
          refine lv_iinc (v := (nI (y0 + 1 + 1))) (lv' := [(5, .int (nI (y0 + 1 + 1))), (0, .ref h0), (1, .ref hp), (2, .ref lk), (3, .int (nI st)), (4, .int (nI y))]) hx hb dX10_spread_54 hl (k := 5) rfl (nI_iinc (by decide)) (by decide) rfl (fun ls hl => ?_)
          refine lv_goto (tgt := 35) hx hb dX10_spread_57 (by decide) ?_
          exact L35_3 (y0 + 1) (fun k => nI (if fitL lp so vs z (nI (y0 + 1)) k then (wStep kd n (wAt kd n lp so vs z st y0)) k else 0)) (fun j => nI ((wAt kd n lp so vs z st y0) j)) _ _ _ (by omega) ⟨(by omega), fun j _ => rfl, (hP.part [2, 3, 4, 5, 6, 7, 8, 9, 0, 1] rfl), (hD.part [2, 3, 4, 5, 6, 7, 8, 9, 0, 1] (by decide) rfl), hS, lv_sub hl [1, 2, 3, 4, 5, 0] rfl⟩
      · skip
        exact L35_3 0 (fun k => nI (if fitL lp so vs z (nI 0) k then (fun k => if k = st then 1 else 0) k else 0)) wb _ _ _ ⟨(by omega), fun j _ => rfl, (hP.part [2, 3, 4, 5, 6, 7, 8, 9, 0, 1] rfl), (hD.part [2, 3, 4, 5, 6, 7, 8, 9, 0, 1] (by decide) rfl), hS, lv_sub hl [1, 2, 3, 4, 5, 0] rfl⟩
