/-! my own rows over the kit: nest words, ints as naturals, loads and stores at natural places, calls, loops -/
def gNst : List Cond := [
  .methodLinkNest RX11 11 yX4_init "RingOfThirds",
  .fieldLinkNest RX11 82 RX4 "length" "I" "RingOfThirds",
  .methodLinkNest RX11 18 yX5_init "RingOfThirds",
  .fieldLinkNest RX10 35 RX5 "size" "I" "RingOfThirds",
  .fieldLinkNest RX0 43 RX5 "size" "I" "RingOfThirds",
  .fieldLinkNest RX11 112 RX5 "size" "I" "RingOfThirds",
  .methodLinkNest RX11 25 yX8_init "RingOfThirds",
  .fieldLinkNest RX11 121 RX8 "holder" "I" "RingOfThirds",
  .fieldLinkNest RX11 147 RX8 "marks" "I" "RingOfThirds",
  .fieldLinkNest RX11 203 RX8 "passes" "I" "RingOfThirds",
  .methodLinkNest RX11 38 yX3_init "RingOfThirds",
  .fieldLinkNest RX11 176 RX3 "size" "I" "RingOfThirds",
  .methodLinkNest RX11 48 yX0_init "RingOfThirds",
  .methodLinkNest RX11 55 yX10_init "RingOfThirds",
  .methodLinkNest RX11 78 yX4_add "RingOfThirds",
  .methodLinkNest RX11 85 yX4_clear "RingOfThirds",
  .methodLinkNest RX11 88 yX4_faultPlace "RingOfThirds",
  .methodLinkNest RX4 23 yX5_isKindLetter "RingOfThirds",
  .methodLinkNest RX11 92 yX4_isRing "RingOfThirds",
  .methodLinkNest RX11 96 yX4_leadingPeople "RingOfThirds",
  .methodLinkNest RX11 99 yX5_clear "RingOfThirds",
  .methodLinkNest RX11 100 yX4_at "RingOfThirds",
  .methodLinkNest RX11 104 yX5_join "RingOfThirds",
  .methodLinkNest RX5 23 yX1_init "RingOfThirds",
  .methodLinkNest RX1 3 yX6_init "RingOfThirds",
  .methodLinkNest RX5 26 yX7_init "RingOfThirds",
  .methodLinkNest RX7 3 yX6_init "RingOfThirds",
  .methodLinkNest RX5 31 yX9_init "RingOfThirds",
  .methodLinkNest RX9 3 yX6_init "RingOfThirds",
  .methodLinkNest RX5 34 yX2_init "RingOfThirds",
  .methodLinkNest RX2 3 yX1_init "RingOfThirds",
  .methodLinkNest RX5 35 yX6_init "RingOfThirds",
  .methodLinkNest RX11 108 yX8_begin "RingOfThirds",
  .methodLinkNest RX11 111 yX3_clear "RingOfThirds",
  .methodLinkNest RX11 115 yX5_has "RingOfThirds",
  .methodLinkNest RX11 118 yX5_kindOf "RingOfThirds",
  .methodLinkNest RX11 124 yX8_memoryOf "RingOfThirds",
  .methodLinkNest RX11 127 yX8_isWrong "RingOfThirds",
  .methodLinkNest RX11 130 yX8_timesPaid "RingOfThirds",
  .methodLinkNest RX11 236 yX5_touched "RingOfThirds",
  .methodLinkNest RX11 196 yX8_copyFrom "RingOfThirds",
  .methodLinkNest RX11 239 yX8_moveTo "RingOfThirds",
  .methodLinkNest RX11 206 yX8_wrongPeople "RingOfThirds",
  .methodLinkNest RX11 139 yX5_isA "RingOfThirds",
  .methodLinkNest RX11 150 yX8_payIfDue "RingOfThirds",
  .methodLinkNest RX11 157 yX0_measure "RingOfThirds",
  .methodLinkNest RX0 48 yX11_holderAt "RingOfThirds",
  .methodLinkNest RX0 54 yX11_marksAt "RingOfThirds",
  .methodLinkNest RX0 57 yX5_touched "RingOfThirds",
  .methodLinkNest RX0 61 yX11_placeOf "RingOfThirds",
  .methodLinkNest RX11 161 yX0_passesTo "RingOfThirds",
  .methodLinkNest RX11 164 yX0_firstPassTo "RingOfThirds",
  .methodLinkNest RX11 173 yX3_add "RingOfThirds",
  .methodLinkNest RX11 177 yX10_spread "RingOfThirds",
  .methodLinkNest RX10 55 yX3_fit "RingOfThirds",
  .methodLinkNest RX3 25 yX11_seenAt "RingOfThirds",
  .methodLinkNest RX10 41 yX11_holderAt "RingOfThirds",
  .methodLinkNest RX10 45 yX11_marksAt "RingOfThirds",
  .methodLinkNest RX10 48 yX5_touched "RingOfThirds",
  .methodLinkNest RX10 52 yX11_placeOf "RingOfThirds",
  .methodLinkNest RX11 181 yX10_total "RingOfThirds",
  .methodLinkNest RX11 184 yX10_holders "RingOfThirds",
  .methodLinkNest RX11 187 yX10_tellingSort "RingOfThirds",
  .methodLinkNest RX10 68 yX11_seenAt "RingOfThirds",
  .methodLinkNest RX11 193 yX8_paidInAll "RingOfThirds",
  .methodLinkNest RX11 200 yX3_copyFrom "RingOfThirds"]
def gIsN (w : Cond) : Bool := match w with
  | .methodLinkNest .. => true
  | .fieldLinkNest .. => true
  | _ => false
theorem gNst_N : ∀ w ∈ gNst, gIsN w = true := fun w h => List.all_eq_true.mp (show gNst.all gIsN = true from rfl) w h
theorem gNw_warm {w : Cond} (hn : gIsN w = true) {s U : State} (hW : s.WarmedH U.vm) (h : va_Nw w s) : va_Nw w U := by
  cases w <;> first | exact va_Nw.warmM hW h | exact va_Nw.warmF hW h | exact absurd hn Bool.false_ne_true
theorem gNw_same {w : Cond} (hn : gIsN w = true) {s U : State} (hv : s.vm = U.vm) (h : va_Nw w s) : va_Nw w U := by
  cases w <;> first | exact va_Nw.same rfl hv h | exact absurd hn Bool.false_ne_true
abbrev gG : Type := va_G × ClassId × ClassId × ClassId
abbrev gTys (G : gG) : List (ClassId × FieldType) := [(G.2.1, .int), (G.2.2.1, .boolean), (G.2.2.2, .object "RingOfThirds$Person")]
def gK (G : gG) (U : State) : Prop := va_K G.1 vwCl (gTys G) U ∧ ∀ w ∈ gNst, va_Nw w U
theorem gK.warm {G : gG} {s U : State} (hW : s.WarmedH U.vm) (h : gK G s) : gK G U := ⟨va_K.moved hW.alike h.1, fun w hw => gNw_warm (gNst_N w hw) hW (h.2 w hw)⟩
theorem gK.same {G : gG} {s U : State} (hv : s.vm = U.vm) (h : gK G s) : gK G U := ⟨va_K.moved (by rw [hv]; exact Vm.Alike.refl U.vm) h.1, fun w hw => gNw_same (gNst_N w hw) hv (h.2 w hw)⟩
theorem gK.nest {G : gG} {s : State} {A : Array Value} (h : gK G s) (k : Nat) {w : Cond} (hk : gNst[k]? = some w) (ht : w.onTables = true) : w.before A s = true := (h.2 w (List.mem_of_getElem? hk)).use ht
theorem gK.nw {G : gG} {s : State} (h : gK G s) (k : Nat) {w : Cond} (hk : gNst[k]? = some w) : va_Nw w s := h.2 w (List.mem_of_getElem? hk)
/-- what a reading method asks -/
def gR (G : gG) (av : List Value) (ws : va_W) : Array Value → State → Prop := va_Pc av (fun U => va_P G.1 vwCl ws U.heap ∧ gK G U)
/-- what a writing method asks -/
def gM (G : gG) (av : List Value) (ws : va_W) (sz : Nat) : Array Value → State → Prop := va_Pc av (fun U => U.heap.size = sz ∧ va_P G.1 vwCl ws U.heap ∧ gK G U ∧ va_D (fun _ => True) ws)
theorem gR.blind {G : gG} {av : List Value} {ws : va_W} : FrameBlind (gR G av ws) := fun _ U g mk q => ⟨q.1, q.2.1, gK.same (s := U) (U := U.calling g mk _) rfl q.2.2⟩
theorem gM.blind {G : gG} {av : List Value} {ws : va_W} {sz : Nat} : FrameBlind (gM G av ws sz) := fun _ U g mk q => ⟨q.1, q.2.1, q.2.2.1, gK.same (s := U) (U := U.calling g mk _) rfl q.2.2.2.1, q.2.2.2.2⟩
theorem gR.S {G : gG} {s : State} {H : Heap} {As : List Value} {ws : va_W} (hK : gK G s) (hP : va_P G.1 vwCl ws H) : PreS s H (gR G As ws) As := ⟨gR.blind, fun U hU hW => ⟨rfl, by rw [hU]; exact hP, hK.warm hW⟩⟩
theorem gM.S {G : gG} {s : State} {H : Heap} {As : List Value} {ws : va_W} {A : Nat → Prop} (hK : gK G s) (hP : va_P G.1 vwCl ws H) (hD : va_D A ws) : PreS s H (gM G As ws H.size) As := ⟨gM.blind, fun U hU hW => ⟨rfl, by rw [hU], by rw [hU]; exact hP, hK.warm hW, hD.weaken (fun _ _ _ _ => trivial)⟩⟩
theorem gR.V {G : gG} {s : State} {H : Heap} {As : List Value} {ws wx : va_W} (hK : gK G s) (hP : va_P G.1 vwCl ws H) (hx : va_P G.1 vwCl wx H) {ci q0 a : Nat} {q : vw_C} {fs : List Value} (hc : vwCl[ci]? = some q) (he : wx[q0]? = some (a, .inr (ci, fs))) : PreV s H q.1 a (gR G (.ref a :: As) ws) As := ⟨gR.blind, va_recv hK.1 hx hc he, (gR.S hK hP).2⟩
theorem gM.V {G : gG} {s : State} {H : Heap} {As : List Value} {ws : va_W} {A : Nat → Prop} (hK : gK G s) (hP : va_P G.1 vwCl ws H) (hD : va_D A ws) {ci q0 a : Nat} {q : vw_C} {fs : List Value} (hc : vwCl[ci]? = some q) (he : ws[q0]? = some (a, .inr (ci, fs))) : PreV s H q.1 a (gM G (.ref a :: As) ws H.size) As := ⟨gM.blind, va_recv hK.1 hP hc he, (gM.S hK hP hD).2⟩
/-! truth values -/
def bI (P : Prop) [Decidable P] : Int32 := if P then 1 else 0
theorem bI_t {P : Prop} [Decidable P] (h : P) : nI 1 = bI P := (if_pos h).symm
theorem bI_f {P : Prop} [Decidable P] (h : ¬ P) : nI 0 = bI P := (if_neg h).symm
theorem bI_z {P : Prop} [Decidable P] : bI P = 0 ↔ ¬ P := by unfold bI; split <;> simp_all
theorem bI_nz {P : Prop} [Decidable P] : ¬ bI P = 0 ↔ P := by unfold bI; split <;> simp_all
theorem bI_nar {P : Prop} [Decidable P] : narrow .boolean (.int (bI P)) = .int (bI P) := by unfold bI; split <;> rfl
theorem bI_iff {P R : Prop} [Decidable P] [Decidable R] (h : P ↔ R) : bI P = bI R := by unfold bI; by_cases hp : P <;> by_cases hr : R <;> simp_all
/-! comparisons: ints that are naturals, and others by toInt -/
theorem nT {n : Nat} (h : n < 2 ^ 31) : (nI n).toInt = (n : Int) := nI_toInt h
theorem cLtNN {a b : Nat} (ha : a < 2 ^ 31) (hb : b < 2 ^ 31) : nI a < nI b ↔ a < b := nI_ltI ha hb
theorem cLeNN {a b : Nat} (ha : a < 2 ^ 31) (hb : b < 2 ^ 31) : nI a ≤ nI b ↔ a ≤ b := nI_leI ha hb
theorem cEqNN {a b : Nat} (ha : a < 2 ^ 31) (hb : b < 2 ^ 31) : nI a = nI b ↔ a = b := nI_eq ha hb
theorem cLtII {x y : Int32} : x < y ↔ x.toInt < y.toInt := Int32.lt_iff_toInt_lt
theorem cLeII {x y : Int32} : x ≤ y ↔ x.toInt ≤ y.toInt := Int32.le_iff_toInt_le
theorem cEqII {x y : Int32} : x = y ↔ x.toInt = y.toInt := Int32.toInt_inj.symm
theorem cLtIN {x : Int32} {b : Nat} (hb : b < 2 ^ 31) : x < nI b ↔ x.toInt < (b : Int) := by rw [cLtII, nT hb]
theorem cLeIN {x : Int32} {b : Nat} (hb : b < 2 ^ 31) : x ≤ nI b ↔ x.toInt ≤ (b : Int) := by rw [cLeII, nT hb]
theorem cEqIN {x : Int32} {b : Nat} (hb : b < 2 ^ 31) : x = nI b ↔ x.toInt = (b : Int) := by rw [cEqII, nT hb]
theorem cLtNI {x : Int32} {b : Nat} (hb : b < 2 ^ 31) : nI b < x ↔ (b : Int) < x.toInt := by rw [cLtII, nT hb]
theorem cLeNI {x : Int32} {b : Nat} (hb : b < 2 ^ 31) : nI b ≤ x ↔ (b : Int) ≤ x.toInt := by rw [cLeII, nT hb]
theorem cEqNI {x : Int32} {b : Nat} (hb : b < 2 ^ 31) : nI b = x ↔ (b : Int) = x.toInt := by rw [cEqII, nT hb]
theorem gNot {a b : Prop} (h : a ↔ b) (c : ¬ a) : ¬ b := fun z => c (h.mpr z)
theorem nI_ex {x : Int32} {n : Nat} (h0 : 0 ≤ x.toInt) (h1 : x.toInt < (n : Int)) (hn : n < 2 ^ 31) : ∃ j : Nat, j < n ∧ x = nI j := vp_in_of (vp_in_iff.mpr ⟨h0, h1⟩) hn
theorem nI_of_toInt {x : Int32} {j : Nat} (h : x.toInt = (j : Int)) (hj : j < 2 ^ 31) : x = nI j := Int32.toInt_inj.mp (by rw [h, nT hj])
theorem nI_neg1 {j : Nat} (h : j < 2 ^ 31) : ¬ nI j = -1 := by
  intro e
  have h1 := congrArg Int32.toInt e
  rw [nT h] at h1
  have h2 : (-1 : Int32).toInt = -1 := by decide
  omega
theorem m1_toInt : (-1 : Int32).toInt = -1 := by decide
theorem nI_iinc {t k : Nat} {n : Int} (h : Int32.ofInt n = nI k) : nI t + Int32.ofInt n = nI (t + k) := by rw [h]; exact nI_add t k
theorem nI_dec {t : Nat} (h : 1 ≤ t) : nI t + Int32.ofInt (-1) = nI (t - 1) := by
  obtain ⟨k, rfl⟩ : ∃ k, t = k + 1 := ⟨t - 1, by omega⟩
  exact pk_m1 k
theorem g_nil {D : va_G} {cl : List vw_C} {H : Heap} : va_P D cl [] H := fun k q h => by simp at h
theorem g_loc {ls : Array Slot} {nL : Nat} {l l' : List (Nat × Value)} (h : lv_has ls nL l) (e : l = l') : lv_has ls nL l' := e ▸ h
theorem g_arrC {cA : ClassId} {n : Nat} {f g : Nat → Int32} (h : ∀ k, k < n → f k = g k) : vp_cell cA (n, .inl f) = vp_cell cA (n, .inl g) := by
  show arrV cA n (fun j => .int (f j)) = arrV cA n (fun j => .int (g j))
  unfold arrV
  congr 1
  apply Array.ext
  · simp
  · intro i h1 h2
    simp at h1 ⊢
    rw [h i (by omega)]
theorem g_arr {D : va_G} {cl : List vw_C} {ws : va_W} {H : Heap} (hP : va_P D cl ws H) (q : Nat) {a n : Nat} {cA : ClassId} {f g : Nat → Int32} (he : ws[q]? = some (a, .inl (cA, n, .inl f))) (h : ∀ k, k < n → f k = g k) : va_P D cl (ws.set q (a, .inl (cA, n, .inl g))) H := by
  intro k x hx
  by_cases e : k = q
  · subst e
    have hk : k < ws.length := (List.getElem?_eq_some_iff.mp he).1
    rw [List.getElem?_set_self hk] at hx
    cases hx
    have h1 := hP k _ he
    show H[a]? = some (vp_cell cA (n, .inl g))
    rw [← g_arrC h]; exact h1
  · rw [List.getElem?_set_ne (fun z => e z.symm)] at hx
    exact hP k x hx
theorem g_nilD {A : Nat → Prop} : va_D A [] := ⟨fun i j p q h => by simp at h, fun k q h => by simp at h⟩
theorem g_one {D : va_G} {cl : List vw_C} {H : Heap} {ws : va_W} {q : Nat × va_E} (k : Nat) (h : va_P D cl ws H) (hk : ws[k]? = some q) : va_P D cl [q] H := fun i x hx => by
  match i, hx with
  | 0, hx => cases hx; exact h k q hk
  | i + 1, hx => simp at hx
theorem g_in {Ts : List Cond} (C : List Cond) (i : Nat) (h : C = (Ts.drop i).take C.length) : ∀ w ∈ C, w ∈ Ts := fun w hw => List.mem_of_mem_drop (List.mem_of_mem_take (h ▸ hw))
theorem upd_s {f : Nat → Int32} {k : Nat} {x : Int32} : upd f k x k = x := if_pos rfl
theorem upd_n {f : Nat → Int32} {k j : Nat} {x : Int32} (h : j ≠ k) : upd f k x j = f j := if_neg h
section GK1
variable {p : Program} {l : Launch} {e : Env} {R : Room} {s : State} {m : MethodId} {args : Array Value} {below : List Frame} {meth : Method} {c : Code} {H : Heap} {locs : List Loc} {cells slots : Nat} {Q : State → Prop}
variable {cc : ByteArray} {pc : Nat} {ls : Array Slot} {rest st0 : List Value} {G : gG} {A A0 : Nat → Prop} {a : Nat} {ws : va_W} {H0 : Heap}
theorem g_top {x y : Int32} (h : x = y) (k : W p l e R s m args below meth c H locs cells slots Q (F0 m pc ls (.int y :: rest))) : W p l e R s m args below meth c H locs cells slots Q (F0 m pc ls (.int x :: rest)) := h ▸ k
theorem g_topl {x y : Int64} (h : x = y) (k : W p l e R s m args below meth c H locs cells slots Q (F0 m pc ls (.long y :: rest))) : W p l e R s m args below meth c H locs cells slots Q (F0 m pc ls (.long x :: rest)) := h ▸ k
theorem g_topv {x y : Value} (h : x = y) (k : W p l e R s m args below meth c H locs cells slots Q (F0 m pc ls (y :: rest))) : W p l e R s m args below meth c H locs cells slots Q (F0 m pc ls (x :: rest)) := h ▸ k
theorem g_iald (hx : p.tables.exec = Jvm.exec) (hb : c.code = cc) (hK : gK G s) (hP : va_P G.1 vwCl ws H) (q0 : Nat) {n t : Nat} {f : Nat → Int32} (ha : ws[q0]? = some (a, .inl (G.2.1, n, .inl f))) (ht : t < n) (hn : n < 2 ^ 31) (hdg : decode cc pc = .ok (.iaload, 1)) (kk : W p l e R s m args below meth c H locs cells slots Q (F0 m (pc + 1) ls (.int (f t) :: rest))) : W p l e R s m args below meth c H locs cells slots Q (F0 m pc ls (.int (nI t) :: .ref a :: rest)) := va_iald hx hb hK.1 hP q0 0 ha rfl (vp_in_nI ht hn) hdg (by rw [nI_clamp (Nat.lt_trans ht hn)]; exact kk)
theorem g_zald (hx : p.tables.exec = Jvm.exec) (hb : c.code = cc) (hK : gK G s) (hP : va_P G.1 vwCl ws H) (q0 : Nat) {n t : Nat} {f : Nat → Int32} (ha : ws[q0]? = some (a, .inl (G.2.2.1, n, .inl f))) (ht : t < n) (hn : n < 2 ^ 31) (hdg : decode cc pc = .ok (.baload, 1)) (kk : W p l e R s m args below meth c H locs cells slots Q (F0 m (pc + 1) ls (.int (f t) :: rest))) : W p l e R s m args below meth c H locs cells slots Q (F0 m pc ls (.int (nI t) :: .ref a :: rest)) := va_zald hx hb hK.1 hP q0 1 ha rfl (vp_in_nI ht hn) hdg (by rw [nI_clamp (Nat.lt_trans ht hn)]; exact kk)
theorem g_aald (hx : p.tables.exec = Jvm.exec) (hb : c.code = cc) (hK : gK G s) (hP : va_P G.1 vwCl ws H) (q0 : Nat) {n t : Nat} {f : Nat → Option Nat} (ha : ws[q0]? = some (a, .inl (G.2.2.2, n, .inr (.inr (.inr (.inr f)))))) (ht : t < n) (hn : n < 2 ^ 31) (hdg : decode cc pc = .ok (.aaload, 1)) (kk : W p l e R s m args below meth c H locs cells slots Q (F0 m (pc + 1) ls (va_rf (f t) :: rest))) : W p l e R s m args below meth c H locs cells slots Q (F0 m pc ls (.int (nI t) :: .ref a :: rest)) := va_aldq hx hb hK.1 hP q0 2 ha rfl (vp_in_nI ht hn) hdg (by rw [nI_clamp (Nat.lt_trans ht hn)]; exact kk)
theorem g_iast (hx : p.tables.exec = Jvm.exec) (hb : c.code = cc) (hK : gK G s) (hP : va_P G.1 vwCl ws H) (hD : va_D A ws) (hS : va_S A H0 H locs) (q0 : Nat) {n t : Nat} {f : Nat → Int32} (ha : ws[q0]? = some (a, .inl (G.2.1, n, .inl f))) {x : Int32} (ht : t < n) (hn : n < 2 ^ 31) (hdg : decode cc pc = .ok (.iastore, 1)) (kk : ∀ (H1 : Heap) (locs1 : List Loc), va_P G.1 vwCl (ws.set q0 (a, .inl (G.2.1, n, .inl (upd f t x)))) H1 → va_D A (ws.set q0 (a, .inl (G.2.1, n, .inl (upd f t x)))) → va_S A H0 H1 locs1 → W p l e R s m args below meth c H1 locs1 cells slots Q (F0 m (pc + 1) ls rest)) : W p l e R s m args below meth c H locs cells slots Q (F0 m pc ls (.int x :: .int (nI t) :: .ref a :: rest)) := va_iast hx hb hK.1 hP hD hS q0 0 ha rfl (vp_in_nI ht hn) hdg (fun H1 locs1 h1 h2 h3 => by rw [nI_clamp (Nat.lt_trans ht hn)] at h1 h2; exact kk H1 locs1 h1 h2 h3)
theorem g_zast (hx : p.tables.exec = Jvm.exec) (hb : c.code = cc) (hK : gK G s) (hP : va_P G.1 vwCl ws H) (hD : va_D A ws) (hS : va_S A H0 H locs) (q0 : Nat) {n t : Nat} {f : Nat → Int32} (ha : ws[q0]? = some (a, .inl (G.2.2.1, n, .inl f))) {x : Int32} (hz : vp_nar .boolean x = x) (ht : t < n) (hn : n < 2 ^ 31) (hdg : decode cc pc = .ok (.bastore, 1)) (kk : ∀ (H1 : Heap) (locs1 : List Loc), va_P G.1 vwCl (ws.set q0 (a, .inl (G.2.2.1, n, .inl (upd f t x)))) H1 → va_D A (ws.set q0 (a, .inl (G.2.2.1, n, .inl (upd f t x)))) → va_S A H0 H1 locs1 → W p l e R s m args below meth c H1 locs1 cells slots Q (F0 m (pc + 1) ls rest)) : W p l e R s m args below meth c H locs cells slots Q (F0 m pc ls (.int x :: .int (nI t) :: .ref a :: rest)) := va_zast hx hb hK.1 hP hD hS q0 1 ha rfl (vp_in_nI ht hn) hdg (fun H1 locs1 h1 h2 h3 => by rw [nI_clamp (Nat.lt_trans ht hn), hz] at h1 h2; exact kk H1 locs1 h1 h2 h3)
theorem g_callSi {post : Int32 → Prop} {a : Array Value} (hr : va_Run p l e R s m args below meth c H locs cells slots 0 0 (F0 m pc ls st0) rest (vp_Si post a) (fun _ => False)) (kk : ∀ r : Int32, post r → W p l e R s m args below meth c H locs cells slots Q (F0 m (pc + 3) ls (.int r :: rest))) : W p l e R s m args below meth c H locs cells slots Q (F0 m pc ls st0) := vp_callSi hr.run kk
theorem g_callSl {post : Int64 → Prop} {a : Array Value} (hr : va_Run p l e R s m args below meth c H locs cells slots 0 0 (F0 m pc ls st0) rest (vp_Sl post a) (fun _ => False)) (kk : ∀ r : Int64, post r → W p l e R s m args below meth c H locs cells slots Q (F0 m (pc + 3) ls (.long r :: rest))) : W p l e R s m args below meth c H locs cells slots Q (F0 m pc ls st0) := vp_callSl hr.run kk
theorem g_callSq {r0 : Nat} {a : Array Value} (hr : va_Run p l e R s m args below meth c H locs cells slots 0 0 (F0 m pc ls st0) rest (va_Sq (fun r => r = some r0) a) (fun _ => False)) (kk : W p l e R s m args below meth c H locs cells slots Q (F0 m (pc + 3) ls (.ref r0 :: rest))) : W p l e R s m args below meth c H locs cells slots Q (F0 m pc ls st0) := va_csq hr.run (fun r h => by subst h; exact kk)
theorem g_freeQ {X T wc : va_W} (hD : va_D A0 (X ++ T)) (hS : va_S A0 H0 H locs) (hA : ∀ q, H0.size ≤ q → A0 q) (isC : List Nat) (hC : isC.map (fun i => X[i]?) = wc.map some) : ∀ q, va_A wc H.size q → A0 q := by
  intro q h
  refine va_freeP (cx := wc) hD hS hA isC hC q ?_
  rcases h with ⟨k, e, h⟩ | h
  · exact Or.inl ⟨k, e, by rw [List.getElem?_append_left (List.getElem?_eq_some_iff.mp h).1]; exact h⟩
  · exact Or.inr h
theorem g_calli {S : Type} {post : Int32 → S → Prop} {w1 : S → va_W} {wc wr : va_W} {mc ms : Nat} {av : Array Value} (hP : va_P G.1 vwCl ws H) (hD : va_D A0 ws) (hS : va_S A0 H0 H locs) (hA : ∀ q, H0.size ≤ q → A0 q) (isC isR : List Nat) (hC : isC.map (fun i => ws[i]?) = wc.map some) (hR : isR.map (fun i => ws[i]?) = wr.map some) (hn : va_nd isR = true) (hdis : ∀ i ∈ isR, i ∉ isC)
    (hr : va_Run p l e R s m args below meth c H locs cells slots mc ms (F0 m pc ls st0) rest (va_Qi post (fun u t => va_P G.1 vwCl (w1 u) t.heap ∧ va_D (va_A wc H.size) (w1 u)) (va_A wc H.size) av) (va_A wc H.size))
    (kk : ∀ (r : Int32) (u : S) (H1 : Heap) (locs1 : List Loc), post r u → va_P G.1 vwCl (wr ++ w1 u) H1 → va_D A0 (wr ++ w1 u) → va_S A0 H0 H1 locs1 → W p l e R s m args below meth c H1 locs1 (cells + mc) (slots + ms) Q (F0 m (pc + 3) ls (.int r :: rest))) : W p l e R s m args below meth c H locs cells slots Q (F0 m pc ls st0) := by
  have hF := va_free (wc := wc) hD hS hA isC hC
  refine va_calli hr hS (fun q _ h => hF q h) hF (fun r u t H1 locs1 ht hvm hp hB hz hk hS1 => ?_)
  obtain ⟨hP1, hD1⟩ := hB
  rw [ht] at hP1
  obtain ⟨hP2, hD2⟩ := va_join hP hD isC isR hC hR hn hdis hk hF hP1 hD1
  exact kk r u H1 locs1 hp hP2 hD2 hS1
theorem g_calliQ {S : Type} {post : Int32 → S → Prop} {w1 : S → va_W} {X T wc wr : va_W} {mc ms : Nat} {av : Array Value} (hP : va_P G.1 vwCl (X ++ T) H) (hD : va_D A0 (X ++ T)) (hS : va_S A0 H0 H locs) (hA : ∀ q, H0.size ≤ q → A0 q) (isC isR : List Nat) (hC : isC.map (fun i => X[i]?) = wc.map some) (hR : isR.map (fun i => X[i]?) = wr.map some) (hn : va_nd isR = true) (hdis : ∀ i ∈ isR, i ∉ isC)
    (hr : va_Run p l e R s m args below meth c H locs cells slots mc ms (F0 m pc ls st0) rest (va_Qi post (fun u t => va_P G.1 vwCl (w1 u) t.heap ∧ va_D (va_A wc H.size) (w1 u)) (va_A wc H.size) av) (va_A wc H.size))
    (kk : ∀ (r : Int32) (u : S) (H1 : Heap) (locs1 : List Loc), post r u → va_P G.1 vwCl ((wr ++ w1 u) ++ T) H1 → va_D A0 ((wr ++ w1 u) ++ T) → va_S A0 H0 H1 locs1 → W p l e R s m args below meth c H1 locs1 (cells + mc) (slots + ms) Q (F0 m (pc + 3) ls (.int r :: rest))) : W p l e R s m args below meth c H locs cells slots Q (F0 m pc ls st0) := by
  have hF := g_freeQ (wc := wc) hD hS hA isC hC
  refine va_calli hr hS (fun q _ h => hF q h) hF (fun r u t H1 locs1 ht hvm hp hB hz hk hS1 => ?_)
  obtain ⟨hP1, hD1⟩ := hB
  rw [ht] at hP1
  obtain ⟨hP2, hD2⟩ := va_joinQ hP hD isC isR hC hR hn hdis hk hF hP1 hD1
  exact kk r u H1 locs1 hp hP2 hD2 hS1
theorem g_calliP {S : Type} {post : Int32 → S → Prop} {w1 : S → va_W} {T1 : S → va_W} {X T wc wr : va_W} {mc ms : Nat} {av : Array Value} (hP : va_P G.1 vwCl (X ++ T) H) (hD : va_D A0 (X ++ T)) (hS : va_S A0 H0 H locs) (hA : ∀ q, H0.size ≤ q → A0 q) (isC isR : List Nat) (hC : isC.map (fun i => X[i]?) = wc.map some) (hR : isR.map (fun i => X[i]?) = wr.map some) (hn : va_nd isR = true) (hdis : ∀ i ∈ isR, i ∉ isC)
    (hr : va_Run p l e R s m args below meth c H locs cells slots mc ms (F0 m pc ls st0) rest (va_Qi post (fun u t => va_P G.1 vwCl (w1 u ++ T1 u) t.heap ∧ va_D (va_A (wc ++ T) H.size) (w1 u ++ T1 u)) (va_A (wc ++ T) H.size) av) (va_A (wc ++ T) H.size))
    (kk : ∀ (r : Int32) (u : S) (H1 : Heap) (locs1 : List Loc), post r u → va_P G.1 vwCl ((wr ++ w1 u) ++ T1 u) H1 → va_D A0 ((wr ++ w1 u) ++ T1 u) → va_S A0 H0 H1 locs1 → W p l e R s m args below meth c H1 locs1 (cells + mc) (slots + ms) Q (F0 m (pc + 3) ls (.int r :: rest))) : W p l e R s m args below meth c H locs cells slots Q (F0 m pc ls st0) := by
  have hF := va_freeP (cx := wc) hD hS hA isC hC
  refine va_calli hr hS (fun q _ h => hF q h) hF (fun r u t H1 locs1 ht hvm hp hB hz hk hS1 => ?_)
  obtain ⟨hP1, hD1⟩ := hB
  rw [ht] at hP1
  obtain ⟨hP2, hD2⟩ := va_joinP hP hD isC isR hC hR hn hdis hk hF hP1 hD1
  exact kk r u H1 locs1 hp hP2 hD2 hS1
theorem g_callv {S : Type} {post : S → Prop} {w1 : S → va_W} {wc wr : va_W} {mc ms : Nat} {av : Array Value} (hP : va_P G.1 vwCl ws H) (hD : va_D A0 ws) (hS : va_S A0 H0 H locs) (hA : ∀ q, H0.size ≤ q → A0 q) (isC isR : List Nat) (hC : isC.map (fun i => ws[i]?) = wc.map some) (hR : isR.map (fun i => ws[i]?) = wr.map some) (hn : va_nd isR = true) (hdis : ∀ i ∈ isR, i ∉ isC)
    (hr : va_Run p l e R s m args below meth c H locs cells slots mc ms (F0 m pc ls st0) rest (va_Qv post (fun u t => va_P G.1 vwCl (w1 u) t.heap ∧ va_D (va_A wc H.size) (w1 u)) (va_A wc H.size) av) (va_A wc H.size))
    (kk : ∀ (u : S) (H1 : Heap) (locs1 : List Loc), post u → va_P G.1 vwCl (wr ++ w1 u) H1 → va_D A0 (wr ++ w1 u) → va_S A0 H0 H1 locs1 → W p l e R s m args below meth c H1 locs1 (cells + mc) (slots + ms) Q (F0 m (pc + 3) ls (rest))) : W p l e R s m args below meth c H locs cells slots Q (F0 m pc ls st0) := by
  have hF := va_free (wc := wc) hD hS hA isC hC
  refine va_callv hr hS (fun q _ h => hF q h) hF (fun u t H1 locs1 ht hvm hp hB hz hk hS1 => ?_)
  obtain ⟨hP1, hD1⟩ := hB
  rw [ht] at hP1
  obtain ⟨hP2, hD2⟩ := va_join hP hD isC isR hC hR hn hdis hk hF hP1 hD1
  exact kk u H1 locs1 hp hP2 hD2 hS1
theorem g_callvQ {S : Type} {post : S → Prop} {w1 : S → va_W} {X T wc wr : va_W} {mc ms : Nat} {av : Array Value} (hP : va_P G.1 vwCl (X ++ T) H) (hD : va_D A0 (X ++ T)) (hS : va_S A0 H0 H locs) (hA : ∀ q, H0.size ≤ q → A0 q) (isC isR : List Nat) (hC : isC.map (fun i => X[i]?) = wc.map some) (hR : isR.map (fun i => X[i]?) = wr.map some) (hn : va_nd isR = true) (hdis : ∀ i ∈ isR, i ∉ isC)
    (hr : va_Run p l e R s m args below meth c H locs cells slots mc ms (F0 m pc ls st0) rest (va_Qv post (fun u t => va_P G.1 vwCl (w1 u) t.heap ∧ va_D (va_A wc H.size) (w1 u)) (va_A wc H.size) av) (va_A wc H.size))
    (kk : ∀ (u : S) (H1 : Heap) (locs1 : List Loc), post u → va_P G.1 vwCl ((wr ++ w1 u) ++ T) H1 → va_D A0 ((wr ++ w1 u) ++ T) → va_S A0 H0 H1 locs1 → W p l e R s m args below meth c H1 locs1 (cells + mc) (slots + ms) Q (F0 m (pc + 3) ls (rest))) : W p l e R s m args below meth c H locs cells slots Q (F0 m pc ls st0) := by
  have hF := g_freeQ (wc := wc) hD hS hA isC hC
  refine va_callv hr hS (fun q _ h => hF q h) hF (fun u t H1 locs1 ht hvm hp hB hz hk hS1 => ?_)
  obtain ⟨hP1, hD1⟩ := hB
  rw [ht] at hP1
  obtain ⟨hP2, hD2⟩ := va_joinQ hP hD isC isR hC hR hn hdis hk hF hP1 hD1
  exact kk u H1 locs1 hp hP2 hD2 hS1
theorem g_callvP {S : Type} {post : S → Prop} {w1 : S → va_W} {T1 : S → va_W} {X T wc wr : va_W} {mc ms : Nat} {av : Array Value} (hP : va_P G.1 vwCl (X ++ T) H) (hD : va_D A0 (X ++ T)) (hS : va_S A0 H0 H locs) (hA : ∀ q, H0.size ≤ q → A0 q) (isC isR : List Nat) (hC : isC.map (fun i => X[i]?) = wc.map some) (hR : isR.map (fun i => X[i]?) = wr.map some) (hn : va_nd isR = true) (hdis : ∀ i ∈ isR, i ∉ isC)
    (hr : va_Run p l e R s m args below meth c H locs cells slots mc ms (F0 m pc ls st0) rest (va_Qv post (fun u t => va_P G.1 vwCl (w1 u ++ T1 u) t.heap ∧ va_D (va_A (wc ++ T) H.size) (w1 u ++ T1 u)) (va_A (wc ++ T) H.size) av) (va_A (wc ++ T) H.size))
    (kk : ∀ (u : S) (H1 : Heap) (locs1 : List Loc), post u → va_P G.1 vwCl ((wr ++ w1 u) ++ T1 u) H1 → va_D A0 ((wr ++ w1 u) ++ T1 u) → va_S A0 H0 H1 locs1 → W p l e R s m args below meth c H1 locs1 (cells + mc) (slots + ms) Q (F0 m (pc + 3) ls (rest))) : W p l e R s m args below meth c H locs cells slots Q (F0 m pc ls st0) := by
  have hF := va_freeP (cx := wc) hD hS hA isC hC
  refine va_callv hr hS (fun q _ h => hF q h) hF (fun u t H1 locs1 ht hvm hp hB hz hk hS1 => ?_)
  obtain ⟨hP1, hD1⟩ := hB
  rw [ht] at hP1
  obtain ⟨hP2, hD2⟩ := va_joinP hP hD isC isR hC hR hn hdis hk hF hP1 hD1
  exact kk u H1 locs1 hp hP2 hD2 hS1
theorem g_cutR0  (q : Nat) (st : List Value) (I : Array Slot → Prop) (body : ∀   (ls : Array Slot), I  ls → W p l e R s m args below meth c H locs cells slots Q (F0 m q ls st)) (k : (∀   (ls : Array Slot), I  ls → W p l e R s m args below meth c H locs cells slots Q (F0 m q ls st)) → W p l e R s m args below meth c H locs cells slots Q (F0 m pc ls st0)) : W p l e R s m args below meth c H locs cells slots Q (F0 m pc ls st0) := k body
theorem g_cutM0  (q : Nat) (st : List Value) (I : Heap → List Loc → Array Slot → Prop) (body : ∀  (H : Heap) (locs : List Loc) (ls : Array Slot), I  H locs ls → W p l e R s m args below meth c H locs cells slots Q (F0 m q ls st)) (k : (∀  (H : Heap) (locs : List Loc) (ls : Array Slot), I  H locs ls → W p l e R s m args below meth c H locs cells slots Q (F0 m q ls st)) → W p l e R s m args below meth c H locs cells slots Q (F0 m pc ls st0)) : W p l e R s m args below meth c H locs cells slots Q (F0 m pc ls st0) := k body
theorem g_cutR1 {α : Type} (q : Nat) (st : α → List Value) (I : α → Array Slot → Prop) (body : ∀ (x0 : α)  (ls : Array Slot), I x0 ls → W p l e R s m args below meth c H locs cells slots Q (F0 m q ls (st x0))) (k : (∀ (x0 : α)  (ls : Array Slot), I x0 ls → W p l e R s m args below meth c H locs cells slots Q (F0 m q ls (st x0))) → W p l e R s m args below meth c H locs cells slots Q (F0 m pc ls st0)) : W p l e R s m args below meth c H locs cells slots Q (F0 m pc ls st0) := k body
theorem g_loopR1 {α : Type} (q : Nat) (st : α → List Value) (I : α → Array Slot → Prop) (μ : α → Nat) (step : ∀ (x0 : α)  (ls : Array Slot), I x0 ls → (∀ (y0 : α)  (ls' : Array Slot), μ y0 < μ x0 → I y0 ls' → W p l e R s m args below meth c H locs cells slots Q (F0 m q ls' (st y0))) → W p l e R s m args below meth c H locs cells slots Q (F0 m q ls (st x0))) : ∀ (x0 : α)  (ls : Array Slot), I x0 ls → W p l e R s m args below meth c H locs cells slots Q (F0 m q ls (st x0)) := by
  have key : ∀ n : Nat, ∀ (x0 : α)  (ls : Array Slot), μ x0 < n → I x0 ls → W p l e R s m args below meth c H locs cells slots Q (F0 m q ls (st x0)) := by
    intro n
    induction n with
    | zero => intro x0  ls h; exact absurd h (Nat.not_lt_zero _)
    | succ n ih => intro x0  ls h hI; exact step x0 ls hI (fun y0  ls' h2 hI2 => ih y0 ls' (by omega) hI2)
  intro x0  ls hI
  exact key (μ x0 + 1) x0 ls (Nat.lt_succ_self _) hI
theorem g_cutM1 {α : Type} (q : Nat) (st : α → List Value) (I : α → Heap → List Loc → Array Slot → Prop) (body : ∀ (x0 : α) (H : Heap) (locs : List Loc) (ls : Array Slot), I x0 H locs ls → W p l e R s m args below meth c H locs cells slots Q (F0 m q ls (st x0))) (k : (∀ (x0 : α) (H : Heap) (locs : List Loc) (ls : Array Slot), I x0 H locs ls → W p l e R s m args below meth c H locs cells slots Q (F0 m q ls (st x0))) → W p l e R s m args below meth c H locs cells slots Q (F0 m pc ls st0)) : W p l e R s m args below meth c H locs cells slots Q (F0 m pc ls st0) := k body
theorem g_loopM1 {α : Type} (q : Nat) (st : α → List Value) (I : α → Heap → List Loc → Array Slot → Prop) (μ : α → Nat) (step : ∀ (x0 : α) (H : Heap) (locs : List Loc) (ls : Array Slot), I x0 H locs ls → (∀ (y0 : α) (H' : Heap) (locs' : List Loc) (ls' : Array Slot), μ y0 < μ x0 → I y0 H' locs' ls' → W p l e R s m args below meth c H' locs' cells slots Q (F0 m q ls' (st y0))) → W p l e R s m args below meth c H locs cells slots Q (F0 m q ls (st x0))) : ∀ (x0 : α) (H : Heap) (locs : List Loc) (ls : Array Slot), I x0 H locs ls → W p l e R s m args below meth c H locs cells slots Q (F0 m q ls (st x0)) := by
  have key : ∀ n : Nat, ∀ (x0 : α) (H : Heap) (locs : List Loc) (ls : Array Slot), μ x0 < n → I x0 H locs ls → W p l e R s m args below meth c H locs cells slots Q (F0 m q ls (st x0)) := by
    intro n
    induction n with
    | zero => intro x0 H locs  ls h; exact absurd h (Nat.not_lt_zero _)
    | succ n ih => intro x0 H locs  ls h hI; exact step x0 H locs ls hI (fun y0 H' locs'  ls' h2 hI2 => ih y0 H' locs' ls' (by omega) hI2)
  intro x0 H locs  ls hI
  exact key (μ x0 + 1) x0 H locs ls (Nat.lt_succ_self _) hI
theorem g_cutR2 {α : Type} {β : Type} (q : Nat) (st : α → β → List Value) (I : α → β → Array Slot → Prop) (body : ∀ (x0 : α) (x1 : β)  (ls : Array Slot), I x0 x1 ls → W p l e R s m args below meth c H locs cells slots Q (F0 m q ls (st x0 x1))) (k : (∀ (x0 : α) (x1 : β)  (ls : Array Slot), I x0 x1 ls → W p l e R s m args below meth c H locs cells slots Q (F0 m q ls (st x0 x1))) → W p l e R s m args below meth c H locs cells slots Q (F0 m pc ls st0)) : W p l e R s m args below meth c H locs cells slots Q (F0 m pc ls st0) := k body
theorem g_loopR2 {α : Type} {β : Type} (q : Nat) (st : α → β → List Value) (I : α → β → Array Slot → Prop) (μ : α → β → Nat) (step : ∀ (x0 : α) (x1 : β)  (ls : Array Slot), I x0 x1 ls → (∀ (y0 : α) (y1 : β)  (ls' : Array Slot), μ y0 y1 < μ x0 x1 → I y0 y1 ls' → W p l e R s m args below meth c H locs cells slots Q (F0 m q ls' (st y0 y1))) → W p l e R s m args below meth c H locs cells slots Q (F0 m q ls (st x0 x1))) : ∀ (x0 : α) (x1 : β)  (ls : Array Slot), I x0 x1 ls → W p l e R s m args below meth c H locs cells slots Q (F0 m q ls (st x0 x1)) := by
  have key : ∀ n : Nat, ∀ (x0 : α) (x1 : β)  (ls : Array Slot), μ x0 x1 < n → I x0 x1 ls → W p l e R s m args below meth c H locs cells slots Q (F0 m q ls (st x0 x1)) := by
    intro n
    induction n with
    | zero => intro x0 x1  ls h; exact absurd h (Nat.not_lt_zero _)
    | succ n ih => intro x0 x1  ls h hI; exact step x0 x1 ls hI (fun y0 y1  ls' h2 hI2 => ih y0 y1 ls' (by omega) hI2)
  intro x0 x1  ls hI
  exact key (μ x0 x1 + 1) x0 x1 ls (Nat.lt_succ_self _) hI
theorem g_cutM2 {α : Type} {β : Type} (q : Nat) (st : α → β → List Value) (I : α → β → Heap → List Loc → Array Slot → Prop) (body : ∀ (x0 : α) (x1 : β) (H : Heap) (locs : List Loc) (ls : Array Slot), I x0 x1 H locs ls → W p l e R s m args below meth c H locs cells slots Q (F0 m q ls (st x0 x1))) (k : (∀ (x0 : α) (x1 : β) (H : Heap) (locs : List Loc) (ls : Array Slot), I x0 x1 H locs ls → W p l e R s m args below meth c H locs cells slots Q (F0 m q ls (st x0 x1))) → W p l e R s m args below meth c H locs cells slots Q (F0 m pc ls st0)) : W p l e R s m args below meth c H locs cells slots Q (F0 m pc ls st0) := k body
theorem g_loopM2 {α : Type} {β : Type} (q : Nat) (st : α → β → List Value) (I : α → β → Heap → List Loc → Array Slot → Prop) (μ : α → β → Nat) (step : ∀ (x0 : α) (x1 : β) (H : Heap) (locs : List Loc) (ls : Array Slot), I x0 x1 H locs ls → (∀ (y0 : α) (y1 : β) (H' : Heap) (locs' : List Loc) (ls' : Array Slot), μ y0 y1 < μ x0 x1 → I y0 y1 H' locs' ls' → W p l e R s m args below meth c H' locs' cells slots Q (F0 m q ls' (st y0 y1))) → W p l e R s m args below meth c H locs cells slots Q (F0 m q ls (st x0 x1))) : ∀ (x0 : α) (x1 : β) (H : Heap) (locs : List Loc) (ls : Array Slot), I x0 x1 H locs ls → W p l e R s m args below meth c H locs cells slots Q (F0 m q ls (st x0 x1)) := by
  have key : ∀ n : Nat, ∀ (x0 : α) (x1 : β) (H : Heap) (locs : List Loc) (ls : Array Slot), μ x0 x1 < n → I x0 x1 H locs ls → W p l e R s m args below meth c H locs cells slots Q (F0 m q ls (st x0 x1)) := by
    intro n
    induction n with
    | zero => intro x0 x1 H locs  ls h; exact absurd h (Nat.not_lt_zero _)
    | succ n ih => intro x0 x1 H locs  ls h hI; exact step x0 x1 H locs ls hI (fun y0 y1 H' locs'  ls' h2 hI2 => ih y0 y1 H' locs' ls' (by omega) hI2)
  intro x0 x1 H locs  ls hI
  exact key (μ x0 x1 + 1) x0 x1 H locs ls (Nat.lt_succ_self _) hI
theorem g_cutR3 {α : Type} {β : Type} {γ : Type} (q : Nat) (st : α → β → γ → List Value) (I : α → β → γ → Array Slot → Prop) (body : ∀ (x0 : α) (x1 : β) (x2 : γ)  (ls : Array Slot), I x0 x1 x2 ls → W p l e R s m args below meth c H locs cells slots Q (F0 m q ls (st x0 x1 x2))) (k : (∀ (x0 : α) (x1 : β) (x2 : γ)  (ls : Array Slot), I x0 x1 x2 ls → W p l e R s m args below meth c H locs cells slots Q (F0 m q ls (st x0 x1 x2))) → W p l e R s m args below meth c H locs cells slots Q (F0 m pc ls st0)) : W p l e R s m args below meth c H locs cells slots Q (F0 m pc ls st0) := k body
theorem g_loopR3 {α : Type} {β : Type} {γ : Type} (q : Nat) (st : α → β → γ → List Value) (I : α → β → γ → Array Slot → Prop) (μ : α → β → γ → Nat) (step : ∀ (x0 : α) (x1 : β) (x2 : γ)  (ls : Array Slot), I x0 x1 x2 ls → (∀ (y0 : α) (y1 : β) (y2 : γ)  (ls' : Array Slot), μ y0 y1 y2 < μ x0 x1 x2 → I y0 y1 y2 ls' → W p l e R s m args below meth c H locs cells slots Q (F0 m q ls' (st y0 y1 y2))) → W p l e R s m args below meth c H locs cells slots Q (F0 m q ls (st x0 x1 x2))) : ∀ (x0 : α) (x1 : β) (x2 : γ)  (ls : Array Slot), I x0 x1 x2 ls → W p l e R s m args below meth c H locs cells slots Q (F0 m q ls (st x0 x1 x2)) := by
  have key : ∀ n : Nat, ∀ (x0 : α) (x1 : β) (x2 : γ)  (ls : Array Slot), μ x0 x1 x2 < n → I x0 x1 x2 ls → W p l e R s m args below meth c H locs cells slots Q (F0 m q ls (st x0 x1 x2)) := by
    intro n
    induction n with
    | zero => intro x0 x1 x2  ls h; exact absurd h (Nat.not_lt_zero _)
    | succ n ih => intro x0 x1 x2  ls h hI; exact step x0 x1 x2 ls hI (fun y0 y1 y2  ls' h2 hI2 => ih y0 y1 y2 ls' (by omega) hI2)
  intro x0 x1 x2  ls hI
  exact key (μ x0 x1 x2 + 1) x0 x1 x2 ls (Nat.lt_succ_self _) hI
theorem g_cutM3 {α : Type} {β : Type} {γ : Type} (q : Nat) (st : α → β → γ → List Value) (I : α → β → γ → Heap → List Loc → Array Slot → Prop) (body : ∀ (x0 : α) (x1 : β) (x2 : γ) (H : Heap) (locs : List Loc) (ls : Array Slot), I x0 x1 x2 H locs ls → W p l e R s m args below meth c H locs cells slots Q (F0 m q ls (st x0 x1 x2))) (k : (∀ (x0 : α) (x1 : β) (x2 : γ) (H : Heap) (locs : List Loc) (ls : Array Slot), I x0 x1 x2 H locs ls → W p l e R s m args below meth c H locs cells slots Q (F0 m q ls (st x0 x1 x2))) → W p l e R s m args below meth c H locs cells slots Q (F0 m pc ls st0)) : W p l e R s m args below meth c H locs cells slots Q (F0 m pc ls st0) := k body
theorem g_loopM3 {α : Type} {β : Type} {γ : Type} (q : Nat) (st : α → β → γ → List Value) (I : α → β → γ → Heap → List Loc → Array Slot → Prop) (μ : α → β → γ → Nat) (step : ∀ (x0 : α) (x1 : β) (x2 : γ) (H : Heap) (locs : List Loc) (ls : Array Slot), I x0 x1 x2 H locs ls → (∀ (y0 : α) (y1 : β) (y2 : γ) (H' : Heap) (locs' : List Loc) (ls' : Array Slot), μ y0 y1 y2 < μ x0 x1 x2 → I y0 y1 y2 H' locs' ls' → W p l e R s m args below meth c H' locs' cells slots Q (F0 m q ls' (st y0 y1 y2))) → W p l e R s m args below meth c H locs cells slots Q (F0 m q ls (st x0 x1 x2))) : ∀ (x0 : α) (x1 : β) (x2 : γ) (H : Heap) (locs : List Loc) (ls : Array Slot), I x0 x1 x2 H locs ls → W p l e R s m args below meth c H locs cells slots Q (F0 m q ls (st x0 x1 x2)) := by
  have key : ∀ n : Nat, ∀ (x0 : α) (x1 : β) (x2 : γ) (H : Heap) (locs : List Loc) (ls : Array Slot), μ x0 x1 x2 < n → I x0 x1 x2 H locs ls → W p l e R s m args below meth c H locs cells slots Q (F0 m q ls (st x0 x1 x2)) := by
    intro n
    induction n with
    | zero => intro x0 x1 x2 H locs  ls h; exact absurd h (Nat.not_lt_zero _)
    | succ n ih => intro x0 x1 x2 H locs  ls h hI; exact step x0 x1 x2 H locs ls hI (fun y0 y1 y2 H' locs'  ls' h2 hI2 => ih y0 y1 y2 H' locs' ls' (by omega) hI2)
  intro x0 x1 x2 H locs  ls hI
  exact key (μ x0 x1 x2 + 1) x0 x1 x2 H locs ls (Nat.lt_succ_self _) hI
theorem g_cutR4 {α : Type} {β : Type} {γ : Type} {δ : Type} (q : Nat) (st : α → β → γ → δ → List Value) (I : α → β → γ → δ → Array Slot → Prop) (body : ∀ (x0 : α) (x1 : β) (x2 : γ) (x3 : δ)  (ls : Array Slot), I x0 x1 x2 x3 ls → W p l e R s m args below meth c H locs cells slots Q (F0 m q ls (st x0 x1 x2 x3))) (k : (∀ (x0 : α) (x1 : β) (x2 : γ) (x3 : δ)  (ls : Array Slot), I x0 x1 x2 x3 ls → W p l e R s m args below meth c H locs cells slots Q (F0 m q ls (st x0 x1 x2 x3))) → W p l e R s m args below meth c H locs cells slots Q (F0 m pc ls st0)) : W p l e R s m args below meth c H locs cells slots Q (F0 m pc ls st0) := k body
theorem g_loopR4 {α : Type} {β : Type} {γ : Type} {δ : Type} (q : Nat) (st : α → β → γ → δ → List Value) (I : α → β → γ → δ → Array Slot → Prop) (μ : α → β → γ → δ → Nat) (step : ∀ (x0 : α) (x1 : β) (x2 : γ) (x3 : δ)  (ls : Array Slot), I x0 x1 x2 x3 ls → (∀ (y0 : α) (y1 : β) (y2 : γ) (y3 : δ)  (ls' : Array Slot), μ y0 y1 y2 y3 < μ x0 x1 x2 x3 → I y0 y1 y2 y3 ls' → W p l e R s m args below meth c H locs cells slots Q (F0 m q ls' (st y0 y1 y2 y3))) → W p l e R s m args below meth c H locs cells slots Q (F0 m q ls (st x0 x1 x2 x3))) : ∀ (x0 : α) (x1 : β) (x2 : γ) (x3 : δ)  (ls : Array Slot), I x0 x1 x2 x3 ls → W p l e R s m args below meth c H locs cells slots Q (F0 m q ls (st x0 x1 x2 x3)) := by
  have key : ∀ n : Nat, ∀ (x0 : α) (x1 : β) (x2 : γ) (x3 : δ)  (ls : Array Slot), μ x0 x1 x2 x3 < n → I x0 x1 x2 x3 ls → W p l e R s m args below meth c H locs cells slots Q (F0 m q ls (st x0 x1 x2 x3)) := by
    intro n
    induction n with
    | zero => intro x0 x1 x2 x3  ls h; exact absurd h (Nat.not_lt_zero _)
    | succ n ih => intro x0 x1 x2 x3  ls h hI; exact step x0 x1 x2 x3 ls hI (fun y0 y1 y2 y3  ls' h2 hI2 => ih y0 y1 y2 y3 ls' (by omega) hI2)
  intro x0 x1 x2 x3  ls hI
  exact key (μ x0 x1 x2 x3 + 1) x0 x1 x2 x3 ls (Nat.lt_succ_self _) hI
theorem g_cutM4 {α : Type} {β : Type} {γ : Type} {δ : Type} (q : Nat) (st : α → β → γ → δ → List Value) (I : α → β → γ → δ → Heap → List Loc → Array Slot → Prop) (body : ∀ (x0 : α) (x1 : β) (x2 : γ) (x3 : δ) (H : Heap) (locs : List Loc) (ls : Array Slot), I x0 x1 x2 x3 H locs ls → W p l e R s m args below meth c H locs cells slots Q (F0 m q ls (st x0 x1 x2 x3))) (k : (∀ (x0 : α) (x1 : β) (x2 : γ) (x3 : δ) (H : Heap) (locs : List Loc) (ls : Array Slot), I x0 x1 x2 x3 H locs ls → W p l e R s m args below meth c H locs cells slots Q (F0 m q ls (st x0 x1 x2 x3))) → W p l e R s m args below meth c H locs cells slots Q (F0 m pc ls st0)) : W p l e R s m args below meth c H locs cells slots Q (F0 m pc ls st0) := k body
theorem g_loopM4 {α : Type} {β : Type} {γ : Type} {δ : Type} (q : Nat) (st : α → β → γ → δ → List Value) (I : α → β → γ → δ → Heap → List Loc → Array Slot → Prop) (μ : α → β → γ → δ → Nat) (step : ∀ (x0 : α) (x1 : β) (x2 : γ) (x3 : δ) (H : Heap) (locs : List Loc) (ls : Array Slot), I x0 x1 x2 x3 H locs ls → (∀ (y0 : α) (y1 : β) (y2 : γ) (y3 : δ) (H' : Heap) (locs' : List Loc) (ls' : Array Slot), μ y0 y1 y2 y3 < μ x0 x1 x2 x3 → I y0 y1 y2 y3 H' locs' ls' → W p l e R s m args below meth c H' locs' cells slots Q (F0 m q ls' (st y0 y1 y2 y3))) → W p l e R s m args below meth c H locs cells slots Q (F0 m q ls (st x0 x1 x2 x3))) : ∀ (x0 : α) (x1 : β) (x2 : γ) (x3 : δ) (H : Heap) (locs : List Loc) (ls : Array Slot), I x0 x1 x2 x3 H locs ls → W p l e R s m args below meth c H locs cells slots Q (F0 m q ls (st x0 x1 x2 x3)) := by
  have key : ∀ n : Nat, ∀ (x0 : α) (x1 : β) (x2 : γ) (x3 : δ) (H : Heap) (locs : List Loc) (ls : Array Slot), μ x0 x1 x2 x3 < n → I x0 x1 x2 x3 H locs ls → W p l e R s m args below meth c H locs cells slots Q (F0 m q ls (st x0 x1 x2 x3)) := by
    intro n
    induction n with
    | zero => intro x0 x1 x2 x3 H locs  ls h; exact absurd h (Nat.not_lt_zero _)
    | succ n ih => intro x0 x1 x2 x3 H locs  ls h hI; exact step x0 x1 x2 x3 H locs ls hI (fun y0 y1 y2 y3 H' locs'  ls' h2 hI2 => ih y0 y1 y2 y3 H' locs' ls' (by omega) hI2)
  intro x0 x1 x2 x3 H locs  ls hI
  exact key (μ x0 x1 x2 x3 + 1) x0 x1 x2 x3 H locs ls (Nat.lt_succ_self _) hI
theorem g_cutR5 {α : Type} {β : Type} {γ : Type} {δ : Type} {ε : Type} (q : Nat) (st : α → β → γ → δ → ε → List Value) (I : α → β → γ → δ → ε → Array Slot → Prop) (body : ∀ (x0 : α) (x1 : β) (x2 : γ) (x3 : δ) (x4 : ε)  (ls : Array Slot), I x0 x1 x2 x3 x4 ls → W p l e R s m args below meth c H locs cells slots Q (F0 m q ls (st x0 x1 x2 x3 x4))) (k : (∀ (x0 : α) (x1 : β) (x2 : γ) (x3 : δ) (x4 : ε)  (ls : Array Slot), I x0 x1 x2 x3 x4 ls → W p l e R s m args below meth c H locs cells slots Q (F0 m q ls (st x0 x1 x2 x3 x4))) → W p l e R s m args below meth c H locs cells slots Q (F0 m pc ls st0)) : W p l e R s m args below meth c H locs cells slots Q (F0 m pc ls st0) := k body
theorem g_loopR5 {α : Type} {β : Type} {γ : Type} {δ : Type} {ε : Type} (q : Nat) (st : α → β → γ → δ → ε → List Value) (I : α → β → γ → δ → ε → Array Slot → Prop) (μ : α → β → γ → δ → ε → Nat) (step : ∀ (x0 : α) (x1 : β) (x2 : γ) (x3 : δ) (x4 : ε)  (ls : Array Slot), I x0 x1 x2 x3 x4 ls → (∀ (y0 : α) (y1 : β) (y2 : γ) (y3 : δ) (y4 : ε)  (ls' : Array Slot), μ y0 y1 y2 y3 y4 < μ x0 x1 x2 x3 x4 → I y0 y1 y2 y3 y4 ls' → W p l e R s m args below meth c H locs cells slots Q (F0 m q ls' (st y0 y1 y2 y3 y4))) → W p l e R s m args below meth c H locs cells slots Q (F0 m q ls (st x0 x1 x2 x3 x4))) : ∀ (x0 : α) (x1 : β) (x2 : γ) (x3 : δ) (x4 : ε)  (ls : Array Slot), I x0 x1 x2 x3 x4 ls → W p l e R s m args below meth c H locs cells slots Q (F0 m q ls (st x0 x1 x2 x3 x4)) := by
  have key : ∀ n : Nat, ∀ (x0 : α) (x1 : β) (x2 : γ) (x3 : δ) (x4 : ε)  (ls : Array Slot), μ x0 x1 x2 x3 x4 < n → I x0 x1 x2 x3 x4 ls → W p l e R s m args below meth c H locs cells slots Q (F0 m q ls (st x0 x1 x2 x3 x4)) := by
    intro n
    induction n with
    | zero => intro x0 x1 x2 x3 x4  ls h; exact absurd h (Nat.not_lt_zero _)
    | succ n ih => intro x0 x1 x2 x3 x4  ls h hI; exact step x0 x1 x2 x3 x4 ls hI (fun y0 y1 y2 y3 y4  ls' h2 hI2 => ih y0 y1 y2 y3 y4 ls' (by omega) hI2)
  intro x0 x1 x2 x3 x4  ls hI
  exact key (μ x0 x1 x2 x3 x4 + 1) x0 x1 x2 x3 x4 ls (Nat.lt_succ_self _) hI
theorem g_cutM5 {α : Type} {β : Type} {γ : Type} {δ : Type} {ε : Type} (q : Nat) (st : α → β → γ → δ → ε → List Value) (I : α → β → γ → δ → ε → Heap → List Loc → Array Slot → Prop) (body : ∀ (x0 : α) (x1 : β) (x2 : γ) (x3 : δ) (x4 : ε) (H : Heap) (locs : List Loc) (ls : Array Slot), I x0 x1 x2 x3 x4 H locs ls → W p l e R s m args below meth c H locs cells slots Q (F0 m q ls (st x0 x1 x2 x3 x4))) (k : (∀ (x0 : α) (x1 : β) (x2 : γ) (x3 : δ) (x4 : ε) (H : Heap) (locs : List Loc) (ls : Array Slot), I x0 x1 x2 x3 x4 H locs ls → W p l e R s m args below meth c H locs cells slots Q (F0 m q ls (st x0 x1 x2 x3 x4))) → W p l e R s m args below meth c H locs cells slots Q (F0 m pc ls st0)) : W p l e R s m args below meth c H locs cells slots Q (F0 m pc ls st0) := k body
theorem g_loopM5 {α : Type} {β : Type} {γ : Type} {δ : Type} {ε : Type} (q : Nat) (st : α → β → γ → δ → ε → List Value) (I : α → β → γ → δ → ε → Heap → List Loc → Array Slot → Prop) (μ : α → β → γ → δ → ε → Nat) (step : ∀ (x0 : α) (x1 : β) (x2 : γ) (x3 : δ) (x4 : ε) (H : Heap) (locs : List Loc) (ls : Array Slot), I x0 x1 x2 x3 x4 H locs ls → (∀ (y0 : α) (y1 : β) (y2 : γ) (y3 : δ) (y4 : ε) (H' : Heap) (locs' : List Loc) (ls' : Array Slot), μ y0 y1 y2 y3 y4 < μ x0 x1 x2 x3 x4 → I y0 y1 y2 y3 y4 H' locs' ls' → W p l e R s m args below meth c H' locs' cells slots Q (F0 m q ls' (st y0 y1 y2 y3 y4))) → W p l e R s m args below meth c H locs cells slots Q (F0 m q ls (st x0 x1 x2 x3 x4))) : ∀ (x0 : α) (x1 : β) (x2 : γ) (x3 : δ) (x4 : ε) (H : Heap) (locs : List Loc) (ls : Array Slot), I x0 x1 x2 x3 x4 H locs ls → W p l e R s m args below meth c H locs cells slots Q (F0 m q ls (st x0 x1 x2 x3 x4)) := by
  have key : ∀ n : Nat, ∀ (x0 : α) (x1 : β) (x2 : γ) (x3 : δ) (x4 : ε) (H : Heap) (locs : List Loc) (ls : Array Slot), μ x0 x1 x2 x3 x4 < n → I x0 x1 x2 x3 x4 H locs ls → W p l e R s m args below meth c H locs cells slots Q (F0 m q ls (st x0 x1 x2 x3 x4)) := by
    intro n
    induction n with
    | zero => intro x0 x1 x2 x3 x4 H locs  ls h; exact absurd h (Nat.not_lt_zero _)
    | succ n ih => intro x0 x1 x2 x3 x4 H locs  ls h hI; exact step x0 x1 x2 x3 x4 H locs ls hI (fun y0 y1 y2 y3 y4 H' locs'  ls' h2 hI2 => ih y0 y1 y2 y3 y4 H' locs' ls' (by omega) hI2)
  intro x0 x1 x2 x3 x4 H locs  ls hI
  exact key (μ x0 x1 x2 x3 x4 + 1) x0 x1 x2 x3 x4 H locs ls (Nat.lt_succ_self _) hI
theorem g_cutR6 {α : Type} {β : Type} {γ : Type} {δ : Type} {ε : Type} {ζ : Type} (q : Nat) (st : α → β → γ → δ → ε → ζ → List Value) (I : α → β → γ → δ → ε → ζ → Array Slot → Prop) (body : ∀ (x0 : α) (x1 : β) (x2 : γ) (x3 : δ) (x4 : ε) (x5 : ζ)  (ls : Array Slot), I x0 x1 x2 x3 x4 x5 ls → W p l e R s m args below meth c H locs cells slots Q (F0 m q ls (st x0 x1 x2 x3 x4 x5))) (k : (∀ (x0 : α) (x1 : β) (x2 : γ) (x3 : δ) (x4 : ε) (x5 : ζ)  (ls : Array Slot), I x0 x1 x2 x3 x4 x5 ls → W p l e R s m args below meth c H locs cells slots Q (F0 m q ls (st x0 x1 x2 x3 x4 x5))) → W p l e R s m args below meth c H locs cells slots Q (F0 m pc ls st0)) : W p l e R s m args below meth c H locs cells slots Q (F0 m pc ls st0) := k body
theorem g_loopR6 {α : Type} {β : Type} {γ : Type} {δ : Type} {ε : Type} {ζ : Type} (q : Nat) (st : α → β → γ → δ → ε → ζ → List Value) (I : α → β → γ → δ → ε → ζ → Array Slot → Prop) (μ : α → β → γ → δ → ε → ζ → Nat) (step : ∀ (x0 : α) (x1 : β) (x2 : γ) (x3 : δ) (x4 : ε) (x5 : ζ)  (ls : Array Slot), I x0 x1 x2 x3 x4 x5 ls → (∀ (y0 : α) (y1 : β) (y2 : γ) (y3 : δ) (y4 : ε) (y5 : ζ)  (ls' : Array Slot), μ y0 y1 y2 y3 y4 y5 < μ x0 x1 x2 x3 x4 x5 → I y0 y1 y2 y3 y4 y5 ls' → W p l e R s m args below meth c H locs cells slots Q (F0 m q ls' (st y0 y1 y2 y3 y4 y5))) → W p l e R s m args below meth c H locs cells slots Q (F0 m q ls (st x0 x1 x2 x3 x4 x5))) : ∀ (x0 : α) (x1 : β) (x2 : γ) (x3 : δ) (x4 : ε) (x5 : ζ)  (ls : Array Slot), I x0 x1 x2 x3 x4 x5 ls → W p l e R s m args below meth c H locs cells slots Q (F0 m q ls (st x0 x1 x2 x3 x4 x5)) := by
  have key : ∀ n : Nat, ∀ (x0 : α) (x1 : β) (x2 : γ) (x3 : δ) (x4 : ε) (x5 : ζ)  (ls : Array Slot), μ x0 x1 x2 x3 x4 x5 < n → I x0 x1 x2 x3 x4 x5 ls → W p l e R s m args below meth c H locs cells slots Q (F0 m q ls (st x0 x1 x2 x3 x4 x5)) := by
    intro n
    induction n with
    | zero => intro x0 x1 x2 x3 x4 x5  ls h; exact absurd h (Nat.not_lt_zero _)
    | succ n ih => intro x0 x1 x2 x3 x4 x5  ls h hI; exact step x0 x1 x2 x3 x4 x5 ls hI (fun y0 y1 y2 y3 y4 y5  ls' h2 hI2 => ih y0 y1 y2 y3 y4 y5 ls' (by omega) hI2)
  intro x0 x1 x2 x3 x4 x5  ls hI
  exact key (μ x0 x1 x2 x3 x4 x5 + 1) x0 x1 x2 x3 x4 x5 ls (Nat.lt_succ_self _) hI
theorem g_cutM6 {α : Type} {β : Type} {γ : Type} {δ : Type} {ε : Type} {ζ : Type} (q : Nat) (st : α → β → γ → δ → ε → ζ → List Value) (I : α → β → γ → δ → ε → ζ → Heap → List Loc → Array Slot → Prop) (body : ∀ (x0 : α) (x1 : β) (x2 : γ) (x3 : δ) (x4 : ε) (x5 : ζ) (H : Heap) (locs : List Loc) (ls : Array Slot), I x0 x1 x2 x3 x4 x5 H locs ls → W p l e R s m args below meth c H locs cells slots Q (F0 m q ls (st x0 x1 x2 x3 x4 x5))) (k : (∀ (x0 : α) (x1 : β) (x2 : γ) (x3 : δ) (x4 : ε) (x5 : ζ) (H : Heap) (locs : List Loc) (ls : Array Slot), I x0 x1 x2 x3 x4 x5 H locs ls → W p l e R s m args below meth c H locs cells slots Q (F0 m q ls (st x0 x1 x2 x3 x4 x5))) → W p l e R s m args below meth c H locs cells slots Q (F0 m pc ls st0)) : W p l e R s m args below meth c H locs cells slots Q (F0 m pc ls st0) := k body
theorem g_loopM6 {α : Type} {β : Type} {γ : Type} {δ : Type} {ε : Type} {ζ : Type} (q : Nat) (st : α → β → γ → δ → ε → ζ → List Value) (I : α → β → γ → δ → ε → ζ → Heap → List Loc → Array Slot → Prop) (μ : α → β → γ → δ → ε → ζ → Nat) (step : ∀ (x0 : α) (x1 : β) (x2 : γ) (x3 : δ) (x4 : ε) (x5 : ζ) (H : Heap) (locs : List Loc) (ls : Array Slot), I x0 x1 x2 x3 x4 x5 H locs ls → (∀ (y0 : α) (y1 : β) (y2 : γ) (y3 : δ) (y4 : ε) (y5 : ζ) (H' : Heap) (locs' : List Loc) (ls' : Array Slot), μ y0 y1 y2 y3 y4 y5 < μ x0 x1 x2 x3 x4 x5 → I y0 y1 y2 y3 y4 y5 H' locs' ls' → W p l e R s m args below meth c H' locs' cells slots Q (F0 m q ls' (st y0 y1 y2 y3 y4 y5))) → W p l e R s m args below meth c H locs cells slots Q (F0 m q ls (st x0 x1 x2 x3 x4 x5))) : ∀ (x0 : α) (x1 : β) (x2 : γ) (x3 : δ) (x4 : ε) (x5 : ζ) (H : Heap) (locs : List Loc) (ls : Array Slot), I x0 x1 x2 x3 x4 x5 H locs ls → W p l e R s m args below meth c H locs cells slots Q (F0 m q ls (st x0 x1 x2 x3 x4 x5)) := by
  have key : ∀ n : Nat, ∀ (x0 : α) (x1 : β) (x2 : γ) (x3 : δ) (x4 : ε) (x5 : ζ) (H : Heap) (locs : List Loc) (ls : Array Slot), μ x0 x1 x2 x3 x4 x5 < n → I x0 x1 x2 x3 x4 x5 H locs ls → W p l e R s m args below meth c H locs cells slots Q (F0 m q ls (st x0 x1 x2 x3 x4 x5)) := by
    intro n
    induction n with
    | zero => intro x0 x1 x2 x3 x4 x5 H locs  ls h; exact absurd h (Nat.not_lt_zero _)
    | succ n ih => intro x0 x1 x2 x3 x4 x5 H locs  ls h hI; exact step x0 x1 x2 x3 x4 x5 H locs ls hI (fun y0 y1 y2 y3 y4 y5 H' locs'  ls' h2 hI2 => ih y0 y1 y2 y3 y4 y5 H' locs' ls' (by omega) hI2)
  intro x0 x1 x2 x3 x4 x5 H locs  ls hI
  exact key (μ x0 x1 x2 x3 x4 x5 + 1) x0 x1 x2 x3 x4 x5 H locs ls (Nat.lt_succ_self _) hI
theorem g_cutR7 {α : Type} {β : Type} {γ : Type} {δ : Type} {ε : Type} {ζ : Type} {η : Type} (q : Nat) (st : α → β → γ → δ → ε → ζ → η → List Value) (I : α → β → γ → δ → ε → ζ → η → Array Slot → Prop) (body : ∀ (x0 : α) (x1 : β) (x2 : γ) (x3 : δ) (x4 : ε) (x5 : ζ) (x6 : η)  (ls : Array Slot), I x0 x1 x2 x3 x4 x5 x6 ls → W p l e R s m args below meth c H locs cells slots Q (F0 m q ls (st x0 x1 x2 x3 x4 x5 x6))) (k : (∀ (x0 : α) (x1 : β) (x2 : γ) (x3 : δ) (x4 : ε) (x5 : ζ) (x6 : η)  (ls : Array Slot), I x0 x1 x2 x3 x4 x5 x6 ls → W p l e R s m args below meth c H locs cells slots Q (F0 m q ls (st x0 x1 x2 x3 x4 x5 x6))) → W p l e R s m args below meth c H locs cells slots Q (F0 m pc ls st0)) : W p l e R s m args below meth c H locs cells slots Q (F0 m pc ls st0) := k body
theorem g_loopR7 {α : Type} {β : Type} {γ : Type} {δ : Type} {ε : Type} {ζ : Type} {η : Type} (q : Nat) (st : α → β → γ → δ → ε → ζ → η → List Value) (I : α → β → γ → δ → ε → ζ → η → Array Slot → Prop) (μ : α → β → γ → δ → ε → ζ → η → Nat) (step : ∀ (x0 : α) (x1 : β) (x2 : γ) (x3 : δ) (x4 : ε) (x5 : ζ) (x6 : η)  (ls : Array Slot), I x0 x1 x2 x3 x4 x5 x6 ls → (∀ (y0 : α) (y1 : β) (y2 : γ) (y3 : δ) (y4 : ε) (y5 : ζ) (y6 : η)  (ls' : Array Slot), μ y0 y1 y2 y3 y4 y5 y6 < μ x0 x1 x2 x3 x4 x5 x6 → I y0 y1 y2 y3 y4 y5 y6 ls' → W p l e R s m args below meth c H locs cells slots Q (F0 m q ls' (st y0 y1 y2 y3 y4 y5 y6))) → W p l e R s m args below meth c H locs cells slots Q (F0 m q ls (st x0 x1 x2 x3 x4 x5 x6))) : ∀ (x0 : α) (x1 : β) (x2 : γ) (x3 : δ) (x4 : ε) (x5 : ζ) (x6 : η)  (ls : Array Slot), I x0 x1 x2 x3 x4 x5 x6 ls → W p l e R s m args below meth c H locs cells slots Q (F0 m q ls (st x0 x1 x2 x3 x4 x5 x6)) := by
  have key : ∀ n : Nat, ∀ (x0 : α) (x1 : β) (x2 : γ) (x3 : δ) (x4 : ε) (x5 : ζ) (x6 : η)  (ls : Array Slot), μ x0 x1 x2 x3 x4 x5 x6 < n → I x0 x1 x2 x3 x4 x5 x6 ls → W p l e R s m args below meth c H locs cells slots Q (F0 m q ls (st x0 x1 x2 x3 x4 x5 x6)) := by
    intro n
    induction n with
    | zero => intro x0 x1 x2 x3 x4 x5 x6  ls h; exact absurd h (Nat.not_lt_zero _)
    | succ n ih => intro x0 x1 x2 x3 x4 x5 x6  ls h hI; exact step x0 x1 x2 x3 x4 x5 x6 ls hI (fun y0 y1 y2 y3 y4 y5 y6  ls' h2 hI2 => ih y0 y1 y2 y3 y4 y5 y6 ls' (by omega) hI2)
  intro x0 x1 x2 x3 x4 x5 x6  ls hI
  exact key (μ x0 x1 x2 x3 x4 x5 x6 + 1) x0 x1 x2 x3 x4 x5 x6 ls (Nat.lt_succ_self _) hI
theorem g_cutM7 {α : Type} {β : Type} {γ : Type} {δ : Type} {ε : Type} {ζ : Type} {η : Type} (q : Nat) (st : α → β → γ → δ → ε → ζ → η → List Value) (I : α → β → γ → δ → ε → ζ → η → Heap → List Loc → Array Slot → Prop) (body : ∀ (x0 : α) (x1 : β) (x2 : γ) (x3 : δ) (x4 : ε) (x5 : ζ) (x6 : η) (H : Heap) (locs : List Loc) (ls : Array Slot), I x0 x1 x2 x3 x4 x5 x6 H locs ls → W p l e R s m args below meth c H locs cells slots Q (F0 m q ls (st x0 x1 x2 x3 x4 x5 x6))) (k : (∀ (x0 : α) (x1 : β) (x2 : γ) (x3 : δ) (x4 : ε) (x5 : ζ) (x6 : η) (H : Heap) (locs : List Loc) (ls : Array Slot), I x0 x1 x2 x3 x4 x5 x6 H locs ls → W p l e R s m args below meth c H locs cells slots Q (F0 m q ls (st x0 x1 x2 x3 x4 x5 x6))) → W p l e R s m args below meth c H locs cells slots Q (F0 m pc ls st0)) : W p l e R s m args below meth c H locs cells slots Q (F0 m pc ls st0) := k body
theorem g_loopM7 {α : Type} {β : Type} {γ : Type} {δ : Type} {ε : Type} {ζ : Type} {η : Type} (q : Nat) (st : α → β → γ → δ → ε → ζ → η → List Value) (I : α → β → γ → δ → ε → ζ → η → Heap → List Loc → Array Slot → Prop) (μ : α → β → γ → δ → ε → ζ → η → Nat) (step : ∀ (x0 : α) (x1 : β) (x2 : γ) (x3 : δ) (x4 : ε) (x5 : ζ) (x6 : η) (H : Heap) (locs : List Loc) (ls : Array Slot), I x0 x1 x2 x3 x4 x5 x6 H locs ls → (∀ (y0 : α) (y1 : β) (y2 : γ) (y3 : δ) (y4 : ε) (y5 : ζ) (y6 : η) (H' : Heap) (locs' : List Loc) (ls' : Array Slot), μ y0 y1 y2 y3 y4 y5 y6 < μ x0 x1 x2 x3 x4 x5 x6 → I y0 y1 y2 y3 y4 y5 y6 H' locs' ls' → W p l e R s m args below meth c H' locs' cells slots Q (F0 m q ls' (st y0 y1 y2 y3 y4 y5 y6))) → W p l e R s m args below meth c H locs cells slots Q (F0 m q ls (st x0 x1 x2 x3 x4 x5 x6))) : ∀ (x0 : α) (x1 : β) (x2 : γ) (x3 : δ) (x4 : ε) (x5 : ζ) (x6 : η) (H : Heap) (locs : List Loc) (ls : Array Slot), I x0 x1 x2 x3 x4 x5 x6 H locs ls → W p l e R s m args below meth c H locs cells slots Q (F0 m q ls (st x0 x1 x2 x3 x4 x5 x6)) := by
  have key : ∀ n : Nat, ∀ (x0 : α) (x1 : β) (x2 : γ) (x3 : δ) (x4 : ε) (x5 : ζ) (x6 : η) (H : Heap) (locs : List Loc) (ls : Array Slot), μ x0 x1 x2 x3 x4 x5 x6 < n → I x0 x1 x2 x3 x4 x5 x6 H locs ls → W p l e R s m args below meth c H locs cells slots Q (F0 m q ls (st x0 x1 x2 x3 x4 x5 x6)) := by
    intro n
    induction n with
    | zero => intro x0 x1 x2 x3 x4 x5 x6 H locs  ls h; exact absurd h (Nat.not_lt_zero _)
    | succ n ih => intro x0 x1 x2 x3 x4 x5 x6 H locs  ls h hI; exact step x0 x1 x2 x3 x4 x5 x6 H locs ls hI (fun y0 y1 y2 y3 y4 y5 y6 H' locs'  ls' h2 hI2 => ih y0 y1 y2 y3 y4 y5 y6 H' locs' ls' (by omega) hI2)
  intro x0 x1 x2 x3 x4 x5 x6 H locs  ls hI
  exact key (μ x0 x1 x2 x3 x4 x5 x6 + 1) x0 x1 x2 x3 x4 x5 x6 H locs ls (Nat.lt_succ_self _) hI
theorem g_cutR8 {α : Type} {β : Type} {γ : Type} {δ : Type} {ε : Type} {ζ : Type} {η : Type} {θ : Type} (q : Nat) (st : α → β → γ → δ → ε → ζ → η → θ → List Value) (I : α → β → γ → δ → ε → ζ → η → θ → Array Slot → Prop) (body : ∀ (x0 : α) (x1 : β) (x2 : γ) (x3 : δ) (x4 : ε) (x5 : ζ) (x6 : η) (x7 : θ)  (ls : Array Slot), I x0 x1 x2 x3 x4 x5 x6 x7 ls → W p l e R s m args below meth c H locs cells slots Q (F0 m q ls (st x0 x1 x2 x3 x4 x5 x6 x7))) (k : (∀ (x0 : α) (x1 : β) (x2 : γ) (x3 : δ) (x4 : ε) (x5 : ζ) (x6 : η) (x7 : θ)  (ls : Array Slot), I x0 x1 x2 x3 x4 x5 x6 x7 ls → W p l e R s m args below meth c H locs cells slots Q (F0 m q ls (st x0 x1 x2 x3 x4 x5 x6 x7))) → W p l e R s m args below meth c H locs cells slots Q (F0 m pc ls st0)) : W p l e R s m args below meth c H locs cells slots Q (F0 m pc ls st0) := k body
theorem g_loopR8 {α : Type} {β : Type} {γ : Type} {δ : Type} {ε : Type} {ζ : Type} {η : Type} {θ : Type} (q : Nat) (st : α → β → γ → δ → ε → ζ → η → θ → List Value) (I : α → β → γ → δ → ε → ζ → η → θ → Array Slot → Prop) (μ : α → β → γ → δ → ε → ζ → η → θ → Nat) (step : ∀ (x0 : α) (x1 : β) (x2 : γ) (x3 : δ) (x4 : ε) (x5 : ζ) (x6 : η) (x7 : θ)  (ls : Array Slot), I x0 x1 x2 x3 x4 x5 x6 x7 ls → (∀ (y0 : α) (y1 : β) (y2 : γ) (y3 : δ) (y4 : ε) (y5 : ζ) (y6 : η) (y7 : θ)  (ls' : Array Slot), μ y0 y1 y2 y3 y4 y5 y6 y7 < μ x0 x1 x2 x3 x4 x5 x6 x7 → I y0 y1 y2 y3 y4 y5 y6 y7 ls' → W p l e R s m args below meth c H locs cells slots Q (F0 m q ls' (st y0 y1 y2 y3 y4 y5 y6 y7))) → W p l e R s m args below meth c H locs cells slots Q (F0 m q ls (st x0 x1 x2 x3 x4 x5 x6 x7))) : ∀ (x0 : α) (x1 : β) (x2 : γ) (x3 : δ) (x4 : ε) (x5 : ζ) (x6 : η) (x7 : θ)  (ls : Array Slot), I x0 x1 x2 x3 x4 x5 x6 x7 ls → W p l e R s m args below meth c H locs cells slots Q (F0 m q ls (st x0 x1 x2 x3 x4 x5 x6 x7)) := by
  have key : ∀ n : Nat, ∀ (x0 : α) (x1 : β) (x2 : γ) (x3 : δ) (x4 : ε) (x5 : ζ) (x6 : η) (x7 : θ)  (ls : Array Slot), μ x0 x1 x2 x3 x4 x5 x6 x7 < n → I x0 x1 x2 x3 x4 x5 x6 x7 ls → W p l e R s m args below meth c H locs cells slots Q (F0 m q ls (st x0 x1 x2 x3 x4 x5 x6 x7)) := by
    intro n
    induction n with
    | zero => intro x0 x1 x2 x3 x4 x5 x6 x7  ls h; exact absurd h (Nat.not_lt_zero _)
    | succ n ih => intro x0 x1 x2 x3 x4 x5 x6 x7  ls h hI; exact step x0 x1 x2 x3 x4 x5 x6 x7 ls hI (fun y0 y1 y2 y3 y4 y5 y6 y7  ls' h2 hI2 => ih y0 y1 y2 y3 y4 y5 y6 y7 ls' (by omega) hI2)
  intro x0 x1 x2 x3 x4 x5 x6 x7  ls hI
  exact key (μ x0 x1 x2 x3 x4 x5 x6 x7 + 1) x0 x1 x2 x3 x4 x5 x6 x7 ls (Nat.lt_succ_self _) hI
theorem g_cutM8 {α : Type} {β : Type} {γ : Type} {δ : Type} {ε : Type} {ζ : Type} {η : Type} {θ : Type} (q : Nat) (st : α → β → γ → δ → ε → ζ → η → θ → List Value) (I : α → β → γ → δ → ε → ζ → η → θ → Heap → List Loc → Array Slot → Prop) (body : ∀ (x0 : α) (x1 : β) (x2 : γ) (x3 : δ) (x4 : ε) (x5 : ζ) (x6 : η) (x7 : θ) (H : Heap) (locs : List Loc) (ls : Array Slot), I x0 x1 x2 x3 x4 x5 x6 x7 H locs ls → W p l e R s m args below meth c H locs cells slots Q (F0 m q ls (st x0 x1 x2 x3 x4 x5 x6 x7))) (k : (∀ (x0 : α) (x1 : β) (x2 : γ) (x3 : δ) (x4 : ε) (x5 : ζ) (x6 : η) (x7 : θ) (H : Heap) (locs : List Loc) (ls : Array Slot), I x0 x1 x2 x3 x4 x5 x6 x7 H locs ls → W p l e R s m args below meth c H locs cells slots Q (F0 m q ls (st x0 x1 x2 x3 x4 x5 x6 x7))) → W p l e R s m args below meth c H locs cells slots Q (F0 m pc ls st0)) : W p l e R s m args below meth c H locs cells slots Q (F0 m pc ls st0) := k body
theorem g_loopM8 {α : Type} {β : Type} {γ : Type} {δ : Type} {ε : Type} {ζ : Type} {η : Type} {θ : Type} (q : Nat) (st : α → β → γ → δ → ε → ζ → η → θ → List Value) (I : α → β → γ → δ → ε → ζ → η → θ → Heap → List Loc → Array Slot → Prop) (μ : α → β → γ → δ → ε → ζ → η → θ → Nat) (step : ∀ (x0 : α) (x1 : β) (x2 : γ) (x3 : δ) (x4 : ε) (x5 : ζ) (x6 : η) (x7 : θ) (H : Heap) (locs : List Loc) (ls : Array Slot), I x0 x1 x2 x3 x4 x5 x6 x7 H locs ls → (∀ (y0 : α) (y1 : β) (y2 : γ) (y3 : δ) (y4 : ε) (y5 : ζ) (y6 : η) (y7 : θ) (H' : Heap) (locs' : List Loc) (ls' : Array Slot), μ y0 y1 y2 y3 y4 y5 y6 y7 < μ x0 x1 x2 x3 x4 x5 x6 x7 → I y0 y1 y2 y3 y4 y5 y6 y7 H' locs' ls' → W p l e R s m args below meth c H' locs' cells slots Q (F0 m q ls' (st y0 y1 y2 y3 y4 y5 y6 y7))) → W p l e R s m args below meth c H locs cells slots Q (F0 m q ls (st x0 x1 x2 x3 x4 x5 x6 x7))) : ∀ (x0 : α) (x1 : β) (x2 : γ) (x3 : δ) (x4 : ε) (x5 : ζ) (x6 : η) (x7 : θ) (H : Heap) (locs : List Loc) (ls : Array Slot), I x0 x1 x2 x3 x4 x5 x6 x7 H locs ls → W p l e R s m args below meth c H locs cells slots Q (F0 m q ls (st x0 x1 x2 x3 x4 x5 x6 x7)) := by
  have key : ∀ n : Nat, ∀ (x0 : α) (x1 : β) (x2 : γ) (x3 : δ) (x4 : ε) (x5 : ζ) (x6 : η) (x7 : θ) (H : Heap) (locs : List Loc) (ls : Array Slot), μ x0 x1 x2 x3 x4 x5 x6 x7 < n → I x0 x1 x2 x3 x4 x5 x6 x7 H locs ls → W p l e R s m args below meth c H locs cells slots Q (F0 m q ls (st x0 x1 x2 x3 x4 x5 x6 x7)) := by
    intro n
    induction n with
    | zero => intro x0 x1 x2 x3 x4 x5 x6 x7 H locs  ls h; exact absurd h (Nat.not_lt_zero _)
    | succ n ih => intro x0 x1 x2 x3 x4 x5 x6 x7 H locs  ls h hI; exact step x0 x1 x2 x3 x4 x5 x6 x7 H locs ls hI (fun y0 y1 y2 y3 y4 y5 y6 y7 H' locs'  ls' h2 hI2 => ih y0 y1 y2 y3 y4 y5 y6 y7 H' locs' ls' (by omega) hI2)
  intro x0 x1 x2 x3 x4 x5 x6 x7 H locs  ls hI
  exact key (μ x0 x1 x2 x3 x4 x5 x6 x7 + 1) x0 x1 x2 x3 x4 x5 x6 x7 H locs ls (Nat.lt_succ_self _) hI
end GK1
