/-! what the tables give at the start -/
theorem gNst_in : ∀ w ∈ gNst, w ∈ lw_tbl := fun w h => of_decide_eq_true (List.all_eq_true.mp (show gNst.all (fun w => decide (w ∈ lw_tbl)) = true by decide +kernel) w h)
theorem gNst_on : ∀ w ∈ gNst, w.onTables = true := fun w h => List.all_eq_true.mp (show gNst.all Cond.onTables = true from rfl) w h
theorem gNcs_in : ∀ q ∈ gNcs, Cond.not (.castable q.1 q.2) ∈ flatC (Jvm.Cond.and given_1 narrow_1) := fun q h => of_decide_eq_true (List.all_eq_true.mp (show gNcs.all (fun q => decide (Cond.not (.castable q.1 q.2) ∈ flatC (Jvm.Cond.and given_1 narrow_1))) = true by decide +kernel) q h)
theorem gAO_in : Cond.arrayOver (.object "RingOfThirds$Person") ∈ lw_tbl := by decide +kernel

set_option maxHeartbeats 4000000 in
set_option maxRecDepth 100000 in
theorem g_start {p : Program} {s : State} {m : MethodId} {meth : Method} {c : Code} {b L : Nat} {xs : Nat → Int32} (C0 : lw_At p s m meth c b L xs) : ∃ G : gG, gK G s := by
  obtain ⟨hx, hb, hr, hml, hown, hts0, hX, hbl, hlocks, hgv⟩ := C0
  obtain ⟨c0, i0, k0⟩ := u_known (C := RX0) (T := TX0) (N := 4) (n := 4) hts0 inX0 (hts0 _ (wsL_law_in _ (List.mem_of_getElem? (i := 32) rfl)))
  obtain ⟨c1, i1, k1⟩ := u_known (C := RX1) (T := TX1) (N := 0) (n := 0) hts0 inX1 (hts0 _ (wsL_law_in _ (List.mem_of_getElem? (i := 190) rfl)))
  obtain ⟨c2, i2, k2⟩ := u_known (C := RX2) (T := TX2) (N := 0) (n := 0) hts0 inX2 (hts0 _ (wsL_law_in _ (List.mem_of_getElem? (i := 199) rfl)))
  obtain ⟨c3, i3, k3⟩ := u_known (C := RX3) (T := TX3) (N := 4) (n := 4) hts0 inX3 (hts0 _ (wsL_law_in _ (List.mem_of_getElem? (i := 27) rfl)))
  obtain ⟨c4, i4, k4⟩ := u_known (C := RX4) (T := TX4) (N := 2) (n := 2) hts0 inX4 (hts0 _ (wsL_law_in _ (List.mem_of_getElem? (i := 13) rfl)))
  obtain ⟨c5, i5, k5⟩ := u_known (C := RX5) (T := TX5) (N := 2) (n := 2) hts0 inX5 (hts0 _ (wsL_law_in _ (List.mem_of_getElem? (i := 17) rfl)))
  obtain ⟨c6, i6, k6⟩ := u_known (C := RX6) (T := TX6) (N := 0) (n := 0) hts0 inX6 (hts0 _ (wsL_law_in _ (List.mem_of_getElem? (i := 201) rfl)))
  obtain ⟨c7, i7, k7⟩ := u_known (C := RX7) (T := TX7) (N := 1) (n := 1) hts0 inX7 (hts0 _ (wsL_law_in _ (List.mem_of_getElem? (i := 193) rfl)))
  obtain ⟨c8, i8, k8⟩ := u_known (C := RX8) (T := TX8) (N := 6) (n := 6) hts0 inX8 (hts0 _ (wsL_law_in _ (List.mem_of_getElem? (i := 21) rfl)))
  obtain ⟨c9, i9, k9⟩ := u_known (C := RX9) (T := TX9) (N := 0) (n := 0) hts0 inX9 (hts0 _ (wsL_law_in _ (List.mem_of_getElem? (i := 196) rfl)))
  obtain ⟨c10, i10, k10⟩ := u_known (C := RX10) (T := TX10) (N := 3) (n := 3) hts0 inX10 (hts0 _ (wsL_law_in _ (List.mem_of_getElem? (i := 36) rfl)))
  obtain ⟨c11, i11, k11⟩ := u_known (C := RX11) (T := TX11) (N := 14) (n := 14) hts0 inX11 (hts0 _ (wsL_law_in _ (List.mem_of_getElem? (i := 1) rfl)))
  obtain ⟨c12, i12, k12⟩ := u_known (C := RX12) (T := TX12) (N := 33) (n := 33) hts0 inX12 (hts0 _ (wsL_law_in _ (List.mem_of_getElem? (i := 4) rfl)))
  obtain ⟨dC, dI, hKc⟩ : ∃ (dC : Nat → ClassId) (dI : Nat → Nat → Nat), ∀ (k : Nat) (q : vw_C), vwCl[k]? = some q → u_Kn s q.1 q.2.1 q.2.2 (dC k) (dI k) := by
    refine ⟨fun k => if k = 0 then c0 else if k = 1 then c1 else if k = 2 then c2 else if k = 3 then c3 else if k = 4 then c4 else if k = 5 then c5 else if k = 6 then c6 else if k = 7 then c7 else if k = 8 then c8 else if k = 9 then c9 else if k = 10 then c10 else if k = 11 then c11 else c12, fun k => if k = 0 then i0 else if k = 1 then i1 else if k = 2 then i2 else if k = 3 then i3 else if k = 4 then i4 else if k = 5 then i5 else if k = 6 then i6 else if k = 7 then i7 else if k = 8 then i8 else if k = 9 then i9 else if k = 10 then i10 else if k = 11 then i11 else i12, ?_⟩
    intro k q hq
    match k, hq with
    | 0, hq => cases hq; exact k0
    | 1, hq => cases hq; exact k1
    | 2, hq => cases hq; exact k2
    | 3, hq => cases hq; exact k3
    | 4, hq => cases hq; exact k4
    | 5, hq => cases hq; exact k5
    | 6, hq => cases hq; exact k6
    | 7, hq => cases hq; exact k7
    | 8, hq => cases hq; exact k8
    | 9, hq => cases hq; exact k9
    | 10, hq => cases hq; exact k10
    | 11, hq => cases hq; exact k11
    | 12, hq => cases hq; exact k12
    | k + 13, hq => simp [vwCl] at hq
  obtain ⟨cI, aI⟩ := g_tyA (ty := .int) (hts0 _ (wsL_law_in _ (List.mem_of_getElem? (i := 39) rfl))) (fun cA h => h)
  obtain ⟨cB, aB⟩ := g_tyA (ty := .boolean) (hts0 _ (wsL_law_in _ (List.mem_of_getElem? (i := 64) rfl))) (fun cA h => h)
  obtain ⟨cP, aP⟩ := g_tyO (hts0 _ gAO_in)
  refine ⟨((dC, dI), cI, cB, cP), ⟨hKc, ?_⟩, ?_, ?_, va_AO.of (hts0 _ gAO_in)⟩
  · intro k q hq
    match k, hq with
    | 0, hq => cases hq; exact aI
    | 1, hq => cases hq; exact aB
    | 2, hq => cases hq; exact aP
    | k + 3, hq => simp [gTys] at hq
  · intro w hw
    exact va_Nw.of (gNst_on w hw) (hts0 w (gNst_in w hw))
  · intro q hq
    exact va_Nc.of (flat_of_before _ hgv _ (gNcs_in q hq))

set_option maxHeartbeats 4000000 in
set_option maxRecDepth 100000 in
/-- the law's loop, with t calls made -/
theorem law_loop {p : Program} {l : Launch} {e : Env} {s : State} {m : MethodId} {below : List Frame} {meth : Method} {c : Code} {b L : Nat} {xs : Nat → Int32} {G : gG} {A : Nat → Prop} (C0 : lw_At p s m meth c b L xs) (hA : ∀ q, s.heap.size ≤ q → A q) (hbA : ¬ A b) (hAs : ∀ q, A q → s.heap.size ≤ q) (hK : gK G s) (ad bd : Nat → Nat) (hL : L ≤ 256) : ∀ (f t : Nat), t + f = 65 → 4 * t ≤ L → ∀ (cW : Int32) (iK : Int32) (rr : Int32) (ln : Nat) (lg : Nat → Int32) (n : Nat) (mf : Nat → Option Nat) (kd : Nat → Nat) (pa : Nat → Nat) (T : va_W) (hd : Int32) (h : Nat) (mk : Nat) (mkc : Int32) (ps : Int32) (me : Nat → Int32) (pd : Nat → Int32) (fl : Nat → Int32) (hd3 : Int32) (mk3 : Int32) (ps3 : Int32) (me3 : Nat → Int32) (pd3 : Nat → Int32) (fl3 : Nat → Int32) (hd4 : Int32) (mk4 : Int32) (ps4 : Int32) (me4 : Nat → Int32) (pd4 : Nat → Int32) (fl4 : Nat → Int32) (z : Nat) (lp : Nat → Int32) (so : Nat → Int32) (vs : Nat → Int32) (z4 : Nat) (lp4 : Nat → Int32) (so4 : Nat → Int32) (vs4 : Nat → Int32) (pa0 : Nat → Int32) (fp : Nat → Int32) (qu : Nat → Int32) (qn : Nat) (wt : Nat → Int32) (wb : Nat → Int32) (wg : Nat → Int32) (ta : Nat → Int32) (ca : Nat → Int32) (rM : Int32) (rK : Int32) (sT : Int32) (sH : Int32) (sM : Int32) (sP : Int32) (sd : Int32) (kR : Int32) (kH : Int32) (kM : Int32) (kP : Int32) (kz : Nat) (hs : Int64) (rd : Nat → Int32) (kI : Nat → Int32) (me2 : Nat → Int32) (pd2 : Nat → Int32) (fl2 : Nat → Int32) (sv : Nat → Int32) (fz : Nat → Int32) (rw : Nat → Int32) (bs : Nat → Int32) (wy : Nat → Int32) (nx : Nat → Int32) (pt : Nat → Int32) (kr : Nat → Int32) (klo : Nat → Int32) (H : Heap) (locs : List Loc) (ls : Array Slot), (ln ≤ 10) → (n = 0 ∨ 2 ≤ n) → (n ≤ 4) → (∀ i, i < n → mf i = some (pa i)) → (∀ i, i < n → kd i < 5) → (pplT T n kd pa) → (n = 0 → h = 0) → (0 < n → h < n) → (hd = if n = 0 then -1 else nI h) → (mk < 32) → (mkc = nI mk) → (SRel n h me pd fl me2 pd2 fl2) → (∀ i, i < n → kI i = nI (kd i)) → (z ≤ 8) → (∀ i, i < z → inR (so i) 3) → (ImR t n kd iK rr kR ps4 kP hd4 mk4 kH kM z4 kz lp4 so4 vs4 me4 pd4 fl4 kr klo) → va_P G.1 vwCl (([(ad 0, .inr (11, [.ref (ad 1), .ref (ad 3), .ref (ad 5), .ref (ad 9), .ref (ad 13), .ref (ad 17), .ref (ad 21), .ref (ad 25), .ref (ad 29), .ref (ad 33), .ref (ad 34), .int cW, .int iK, .int rr])), (ad 1, .inr (4, [.ref (ad 2), .int (nI ln)])), (ad 2, .inl (G.2.1, 10, .inl lg)), (ad 3, .inr (5, [.ref (ad 4), .int (nI n)])), (ad 4, .inl (G.2.2.2, 4, .inr (.inr (.inr (.inr mf))))), (ad 5, .inr (8, [.int hd, .int mkc, .int ps, .ref (ad 6), .ref (ad 7), .ref (ad 8)])), (ad 6, .inl (G.2.1, 4, .inl me)), (ad 7, .inl (G.2.1, 4, .inl pd)), (ad 8, .inl (G.2.2.1, 4, .inl fl)), (ad 9, .inr (8, [.int hd4, .int mk4, .int ps4, .ref (ad 10), .ref (ad 11), .ref (ad 12)])), (ad 10, .inl (G.2.1, 4, .inl me4)), (ad 11, .inl (G.2.1, 4, .inl pd4)), (ad 12, .inl (G.2.2.1, 4, .inl fl4)), (ad 13, .inr (8, [.int hd3, .int mk3, .int ps3, .ref (ad 14), .ref (ad 15), .ref (ad 16)])), (ad 14, .inl (G.2.1, 4, .inl me3)), (ad 15, .inl (G.2.1, 4, .inl pd3)), (ad 16, .inl (G.2.2.1, 4, .inl fl3)), (ad 17, .inr (3, [.ref (ad 18), .ref (ad 19), .ref (ad 20), .int (nI z)])), (ad 18, .inl (G.2.1, 8, .inl lp)), (ad 19, .inl (G.2.1, 8, .inl so)), (ad 20, .inl (G.2.1, 8, .inl vs)), (ad 21, .inr (3, [.ref (ad 22), .ref (ad 23), .ref (ad 24), .int (nI z4)])), (ad 22, .inl (G.2.1, 8, .inl lp4)), (ad 23, .inl (G.2.1, 8, .inl so4)), (ad 24, .inl (G.2.1, 8, .inl vs4)), (ad 25, .inr (0, [.ref (ad 26), .ref (ad 27), .ref (ad 28), .int (nI qn)])), (ad 26, .inl (G.2.1, 128, .inl pa0)), (ad 27, .inl (G.2.1, 128, .inl fp)), (ad 28, .inl (G.2.1, 128, .inl qu)), (ad 29, .inr (10, [.ref (ad 30), .ref (ad 31), .ref (ad 32)])), (ad 30, .inl (G.2.1, 128, .inl wt)), (ad 31, .inl (G.2.1, 128, .inl wb)), (ad 32, .inl (G.2.1, 8, .inl wg)), (ad 33, .inl (G.2.1, 4, .inl ta)), (ad 34, .inl (G.2.1, 4, .inl ca)), (bd 0, .inr (12, [.ref (bd 1), .int (nI ln), .ref (bd 2), .int rM, .int rK, .int sT, .int (nI n), .int (nI h), .int (nI mk), .int ps, .int rr, .ref (bd 3), .ref (bd 4), .int sH, .int sM, .int sP, .ref (bd 5), .ref (bd 6), .ref (bd 7), .int (nI z), .ref (bd 8), .ref (bd 9), .ref (bd 10), .ref (bd 11), .int sd, .int kR, .int kH, .int kM, .int kP, .int (nI kz), .ref (bd 12), .ref (bd 13), .long hs])), (bd 1, .inl (G.2.1, 10, .inl lg)), (bd 2, .inl (G.2.1, 4, .inl rd)), (bd 3, .inl (G.2.1, 16, .inl (rowsF kI me2 fl2 pd2))), (bd 4, .inl (G.2.1, 16, .inl sv)), (bd 5, .inl (G.2.1, 128, .inl fz)), (bd 6, .inl (G.2.1, 4, .inl rw)), (bd 7, .inl (G.2.1, 4, .inl bs)), (bd 8, .inl (G.2.1, 24, .inl (looksF lp so vs))), (bd 9, .inl (G.2.1, 128, .inl wy)), (bd 10, .inl (G.2.1, 128, .inl nx)), (bd 11, .inl (G.2.1, 8, .inl pt)), (bd 12, .inl (G.2.1, 16, .inl kr)), (bd 13, .inl (G.2.1, 24, .inl klo))] : va_W) ++ T) H → va_D A (([(ad 0, .inr (11, [.ref (ad 1), .ref (ad 3), .ref (ad 5), .ref (ad 9), .ref (ad 13), .ref (ad 17), .ref (ad 21), .ref (ad 25), .ref (ad 29), .ref (ad 33), .ref (ad 34), .int cW, .int iK, .int rr])), (ad 1, .inr (4, [.ref (ad 2), .int (nI ln)])), (ad 2, .inl (G.2.1, 10, .inl lg)), (ad 3, .inr (5, [.ref (ad 4), .int (nI n)])), (ad 4, .inl (G.2.2.2, 4, .inr (.inr (.inr (.inr mf))))), (ad 5, .inr (8, [.int hd, .int mkc, .int ps, .ref (ad 6), .ref (ad 7), .ref (ad 8)])), (ad 6, .inl (G.2.1, 4, .inl me)), (ad 7, .inl (G.2.1, 4, .inl pd)), (ad 8, .inl (G.2.2.1, 4, .inl fl)), (ad 9, .inr (8, [.int hd4, .int mk4, .int ps4, .ref (ad 10), .ref (ad 11), .ref (ad 12)])), (ad 10, .inl (G.2.1, 4, .inl me4)), (ad 11, .inl (G.2.1, 4, .inl pd4)), (ad 12, .inl (G.2.2.1, 4, .inl fl4)), (ad 13, .inr (8, [.int hd3, .int mk3, .int ps3, .ref (ad 14), .ref (ad 15), .ref (ad 16)])), (ad 14, .inl (G.2.1, 4, .inl me3)), (ad 15, .inl (G.2.1, 4, .inl pd3)), (ad 16, .inl (G.2.2.1, 4, .inl fl3)), (ad 17, .inr (3, [.ref (ad 18), .ref (ad 19), .ref (ad 20), .int (nI z)])), (ad 18, .inl (G.2.1, 8, .inl lp)), (ad 19, .inl (G.2.1, 8, .inl so)), (ad 20, .inl (G.2.1, 8, .inl vs)), (ad 21, .inr (3, [.ref (ad 22), .ref (ad 23), .ref (ad 24), .int (nI z4)])), (ad 22, .inl (G.2.1, 8, .inl lp4)), (ad 23, .inl (G.2.1, 8, .inl so4)), (ad 24, .inl (G.2.1, 8, .inl vs4)), (ad 25, .inr (0, [.ref (ad 26), .ref (ad 27), .ref (ad 28), .int (nI qn)])), (ad 26, .inl (G.2.1, 128, .inl pa0)), (ad 27, .inl (G.2.1, 128, .inl fp)), (ad 28, .inl (G.2.1, 128, .inl qu)), (ad 29, .inr (10, [.ref (ad 30), .ref (ad 31), .ref (ad 32)])), (ad 30, .inl (G.2.1, 128, .inl wt)), (ad 31, .inl (G.2.1, 128, .inl wb)), (ad 32, .inl (G.2.1, 8, .inl wg)), (ad 33, .inl (G.2.1, 4, .inl ta)), (ad 34, .inl (G.2.1, 4, .inl ca)), (bd 0, .inr (12, [.ref (bd 1), .int (nI ln), .ref (bd 2), .int rM, .int rK, .int sT, .int (nI n), .int (nI h), .int (nI mk), .int ps, .int rr, .ref (bd 3), .ref (bd 4), .int sH, .int sM, .int sP, .ref (bd 5), .ref (bd 6), .ref (bd 7), .int (nI z), .ref (bd 8), .ref (bd 9), .ref (bd 10), .ref (bd 11), .int sd, .int kR, .int kH, .int kM, .int kP, .int (nI kz), .ref (bd 12), .ref (bd 13), .long hs])), (bd 1, .inl (G.2.1, 10, .inl lg)), (bd 2, .inl (G.2.1, 4, .inl rd)), (bd 3, .inl (G.2.1, 16, .inl (rowsF kI me2 fl2 pd2))), (bd 4, .inl (G.2.1, 16, .inl sv)), (bd 5, .inl (G.2.1, 128, .inl fz)), (bd 6, .inl (G.2.1, 4, .inl rw)), (bd 7, .inl (G.2.1, 4, .inl bs)), (bd 8, .inl (G.2.1, 24, .inl (looksF lp so vs))), (bd 9, .inl (G.2.1, 128, .inl wy)), (bd 10, .inl (G.2.1, 128, .inl nx)), (bd 11, .inl (G.2.1, 8, .inl pt)), (bd 12, .inl (G.2.1, 16, .inl kr)), (bd 13, .inl (G.2.1, 24, .inl klo))] : va_W) ++ T) → va_S A s.heap H locs → lv_has ls 4 [(0, .ref b), (1, .ref (ad 0)), (2, .ref (bd 0)), (3, .int (nI (4 * t)))] → W p l e room_1 s m #[Value.ref b] below meth c H locs (49 + 4 * t) (1348 + 4 * t) (lw_Z below #[Value.ref b] s) (F0 m 18 ls []) := by
  intro f
  induction f with
  | zero => intro t h1 h2; exact absurd h1 (by omega)
  | succ f ih =>
    intro t htf htL cW iK rr ln lg n mf kd pa T hd h mk mkc ps me pd fl hd3 mk3 ps3 me3 pd3 fl3 hd4 mk4 ps4 me4 pd4 fl4 z lp so vs z4 lp4 so4 vs4 pa0 fp qu qn wt wb wg ta ca rM rK sT sH sM sP sd kR kH kM kP kz hs rd kI me2 pd2 fl2 sv fz rw bs wy nx pt kr klo H locs ls hln hn2 hn hmf hkd hT hh0 hhn hd0 hmk hmkc hS9 hkI hz hso hIm hP hD hS hl
    have C1 := C0
    obtain ⟨hx, hb, hr, hml, hown, hts0, hX, hbl, hlocks, hgv⟩ := C0
    refine lv_iload_n hx hb dL_law_18 rfl (lv_at hl 3 rfl) ?_
    refine lv_aload_n hx hb dL_law_19 rfl (lv_at hl 0 rfl) ?_
    refine va_slen hx hb hX hbl hbA hS dL_law_20 ?_
    refine lv_iconst (v := (nI 4)) hx hb dL_law_21 (by decide) ?_
    refine lv_isub hx hb dL_law_22 ?_
    refine lv_icmp_gt (tgt := 598) hx hb dL_law_23 (by decide) (fun c_1 => ?_) (fun c_1 => ?_)
    · refine lv_iconst (v := 1) hx hb dL_law_598 (by decide) ?_
      refine va_forget (fun q hq => hAs _ (hS.2.2 q hq)) ?_
      refine W.widen (k := 600000) (n := 7302250) (show _ ≤ 600000 by omega) (show _ ≤ 7302250 by omega) ?_
      exact lw_ret hx hb hr hlocks dL_law_599
    · have hlt : 4 * t + 4 ≤ L := by
        have c_2 : ¬ (nI L - nI 4).toInt < (nI (4 * t)).toInt := fun z9 => c_1 (cLtII.mpr z9)
        rw [nT (by omega)] at c_2
        have c_3 : (nI L - nI 4).toInt = (L : Int) - 4 := pk_sub_toInt (by omega) (by omega)
        rw [c_3] at c_2
        omega
      have K : LK p l e s m below meth c b G A ad bd t := by
        intro cW iK rr ln lg n mf kd pa T hd h mk mkc ps me pd fl hd3 mk3 ps3 me3 pd3 fl3 hd4 mk4 ps4 me4 pd4 fl4 z lp so vs z4 lp4 so4 vs4 pa0 fp qu qn wt wb wg ta ca rM rK sT sH sM sP sd kR kH kM kP kz hs rd kI me2 pd2 fl2 sv fz rw bs wy nx pt kr klo H locs ls hln hn2 hn hmf hkd hT hh0 hhn hd0 hmk hmkc hS9 hkI hz hso hIm hP hD hS hl
        refine lv_iinc (v := (nI (4 * (t + 1)))) (lv' := [(3, .int (nI (4 * (t + 1)))), (0, .ref b), (1, .ref (ad 0)), (2, .ref (bd 0))]) hx hb dL_law_592 hl (k := 3) rfl (by rw [show 4 * (t + 1) = 4 * t + 4 by omega]; exact nI_iinc (by decide)) (by decide) rfl (fun ls hl => ?_)
        refine lv_goto (tgt := 18) hx hb dL_law_595 (by decide) ?_
        refine W.widen (k := 49 + 4 * (t + 1)) (n := 1348 + 4 * (t + 1)) (by omega) (by omega) ?_
        exact ih (t + 1) (by omega) (by omega) cW iK rr ln lg n mf kd pa T hd h mk mkc ps me pd fl hd3 mk3 ps3 me3 pd3 fl3 hd4 mk4 ps4 me4 pd4 fl4 z lp so vs z4 lp4 so4 vs4 pa0 fp qu qn wt wb wg ta ca rM rK sT sH sM sP sd kR kH kM kP kz hs rd kI me2 pd2 fl2 sv fz rw bs wy nx pt kr klo H locs ls hln hn2 hn hmf hkd hT hh0 hhn hd0 hmk hmkc hS9 hkI hz hso hIm hP hD hS (lv_sub hl [1, 2, 3, 0] rfl)
      refine lv_aload_n hx hb dL_law_26 rfl (lv_at hl 0 rfl) ?_
      refine lv_iload_n hx hb dL_law_27 rfl (lv_at hl 3 rfl) ?_
      refine g_sld hx hb hX hbl hbA hS (show 4 * t < L by omega) hL dL_law_28 ?_
      refine lv_bipush (v := (nI 31)) hx hb dL_law_29 (by decide) ?_
      refine lv_iand hx hb dL_law_31 ?_
      generalize xs (4 * t) &&& nI 31 = y9
      by_cases k0 : y9.toInt = (0 : Int)
      · refine lv_tableIn (off := 92) (tgt := 124) hx hb dL_law_32 (by rw [k0]; decide) (by rw [k0]; decide) (by rw [k0]; rfl) (by decide) ?_
        exact law_0 C1 hA hbA hK ad bd t hlt hL K cW iK rr ln lg n mf kd pa T hd h mk mkc ps me pd fl hd3 mk3 ps3 me3 pd3 fl3 hd4 mk4 ps4 me4 pd4 fl4 z lp so vs z4 lp4 so4 vs4 pa0 fp qu qn wt wb wg ta ca rM rK sT sH sM sP sd kR kH kM kP kz hs rd kI me2 pd2 fl2 sv fz rw bs wy nx pt kr klo hln hn2 hn hmf hkd hT hh0 hhn hd0 hmk hmkc hS9 hkI hz hso hIm hP hD hS hl
      by_cases k1 : y9.toInt = (1 : Int)
      · refine lv_tableIn (off := 115) (tgt := 147) hx hb dL_law_32 (by rw [k1]; decide) (by rw [k1]; decide) (by rw [k1]; rfl) (by decide) ?_
        exact law_1 C1 hA hbA hK ad bd t hlt hL K cW iK rr ln lg n mf kd pa T hd h mk mkc ps me pd fl hd3 mk3 ps3 me3 pd3 fl3 hd4 mk4 ps4 me4 pd4 fl4 z lp so vs z4 lp4 so4 vs4 pa0 fp qu qn wt wb wg ta ca rM rK sT sH sM sP sd kR kH kM kP kz hs rd kI me2 pd2 fl2 sv fz rw bs wy nx pt kr klo hln hn2 hn hmf hkd hT hh0 hhn hd0 hmk hmkc hS9 hkI hz hso hIm hP hD hS hl
      by_cases k2 : y9.toInt = (2 : Int)
      · refine lv_tableIn (off := 128) (tgt := 160) hx hb dL_law_32 (by rw [k2]; decide) (by rw [k2]; decide) (by rw [k2]; rfl) (by decide) ?_
        exact law_2 C1 hA hbA hK ad bd t hlt hL K cW iK rr ln lg n mf kd pa T hd h mk mkc ps me pd fl hd3 mk3 ps3 me3 pd3 fl3 hd4 mk4 ps4 me4 pd4 fl4 z lp so vs z4 lp4 so4 vs4 pa0 fp qu qn wt wb wg ta ca rM rK sT sH sM sP sd kR kH kM kP kz hs rd kI me2 pd2 fl2 sv fz rw bs wy nx pt kr klo hln hn2 hn hmf hkd hT hh0 hhn hd0 hmk hmkc hS9 hkI hz hso hIm hP hD hS hl
      by_cases k3 : y9.toInt = (3 : Int)
      · refine lv_tableIn (off := 141) (tgt := 173) hx hb dL_law_32 (by rw [k3]; decide) (by rw [k3]; decide) (by rw [k3]; rfl) (by decide) ?_
        exact law_3 C1 hA hbA hK ad bd t hlt hL K cW iK rr ln lg n mf kd pa T hd h mk mkc ps me pd fl hd3 mk3 ps3 me3 pd3 fl3 hd4 mk4 ps4 me4 pd4 fl4 z lp so vs z4 lp4 so4 vs4 pa0 fp qu qn wt wb wg ta ca rM rK sT sH sM sP sd kR kH kM kP kz hs rd kI me2 pd2 fl2 sv fz rw bs wy nx pt kr klo hln hn2 hn hmf hkd hT hh0 hhn hd0 hmk hmkc hS9 hkI hz hso hIm hP hD hS hl
      by_cases k4 : y9.toInt = (4 : Int)
      · refine lv_tableIn (off := 154) (tgt := 186) hx hb dL_law_32 (by rw [k4]; decide) (by rw [k4]; decide) (by rw [k4]; rfl) (by decide) ?_
        exact law_4 C1 hA hbA hK ad bd t hlt hL K cW iK rr ln lg n mf kd pa T hd h mk mkc ps me pd fl hd3 mk3 ps3 me3 pd3 fl3 hd4 mk4 ps4 me4 pd4 fl4 z lp so vs z4 lp4 so4 vs4 pa0 fp qu qn wt wb wg ta ca rM rK sT sH sM sP sd kR kH kM kP kz hs rd kI me2 pd2 fl2 sv fz rw bs wy nx pt kr klo hln hn2 hn hmf hkd hT hh0 hhn hd0 hmk hmkc hS9 hkI hz hso hIm hP hD hS hl
      by_cases k5 : y9.toInt = (5 : Int)
      · refine lv_tableIn (off := 187) (tgt := 219) hx hb dL_law_32 (by rw [k5]; decide) (by rw [k5]; decide) (by rw [k5]; rfl) (by decide) ?_
        exact law_5 C1 hA hbA hK ad bd t hlt hL K cW iK rr ln lg n mf kd pa T hd h mk mkc ps me pd fl hd3 mk3 ps3 me3 pd3 fl3 hd4 mk4 ps4 me4 pd4 fl4 z lp so vs z4 lp4 so4 vs4 pa0 fp qu qn wt wb wg ta ca rM rK sT sH sM sP sd kR kH kM kP kz hs rd kI me2 pd2 fl2 sv fz rw bs wy nx pt kr klo hln hn2 hn hmf hkd hT hh0 hhn hd0 hmk hmkc hS9 hkI hz hso hIm hP hD hS hl
      by_cases k6 : y9.toInt = (6 : Int)
      · refine lv_tableIn (off := 220) (tgt := 252) hx hb dL_law_32 (by rw [k6]; decide) (by rw [k6]; decide) (by rw [k6]; rfl) (by decide) ?_
        exact law_6 C1 hA hbA hK ad bd t hlt hL K cW iK rr ln lg n mf kd pa T hd h mk mkc ps me pd fl hd3 mk3 ps3 me3 pd3 fl3 hd4 mk4 ps4 me4 pd4 fl4 z lp so vs z4 lp4 so4 vs4 pa0 fp qu qn wt wb wg ta ca rM rK sT sH sM sP sd kR kH kM kP kz hs rd kI me2 pd2 fl2 sv fz rw bs wy nx pt kr klo hln hn2 hn hmf hkd hT hh0 hhn hd0 hmk hmkc hS9 hkI hz hso hIm hP hD hS hl
      by_cases k7 : y9.toInt = (7 : Int)
      · refine lv_tableIn (off := 243) (tgt := 275) hx hb dL_law_32 (by rw [k7]; decide) (by rw [k7]; decide) (by rw [k7]; rfl) (by decide) ?_
        exact law_7 C1 hA hbA hK ad bd t hlt hL K cW iK rr ln lg n mf kd pa T hd h mk mkc ps me pd fl hd3 mk3 ps3 me3 pd3 fl3 hd4 mk4 ps4 me4 pd4 fl4 z lp so vs z4 lp4 so4 vs4 pa0 fp qu qn wt wb wg ta ca rM rK sT sH sM sP sd kR kH kM kP kz hs rd kI me2 pd2 fl2 sv fz rw bs wy nx pt kr klo hln hn2 hn hmf hkd hT hh0 hhn hd0 hmk hmkc hS9 hkI hz hso hIm hP hD hS hl
      by_cases k8 : y9.toInt = (8 : Int)
      · refine lv_tableIn (off := 266) (tgt := 298) hx hb dL_law_32 (by rw [k8]; decide) (by rw [k8]; decide) (by rw [k8]; rfl) (by decide) ?_
        exact law_8 C1 hA hbA hK ad bd t hlt hL K cW iK rr ln lg n mf kd pa T hd h mk mkc ps me pd fl hd3 mk3 ps3 me3 pd3 fl3 hd4 mk4 ps4 me4 pd4 fl4 z lp so vs z4 lp4 so4 vs4 pa0 fp qu qn wt wb wg ta ca rM rK sT sH sM sP sd kR kH kM kP kz hs rd kI me2 pd2 fl2 sv fz rw bs wy nx pt kr klo hln hn2 hn hmf hkd hT hh0 hhn hd0 hmk hmkc hS9 hkI hz hso hIm hP hD hS hl
      by_cases k9 : y9.toInt = (9 : Int)
      · refine lv_tableIn (off := 309) (tgt := 341) hx hb dL_law_32 (by rw [k9]; decide) (by rw [k9]; decide) (by rw [k9]; rfl) (by decide) ?_
        exact law_9 C1 hA hbA hK ad bd t hlt hL K cW iK rr ln lg n mf kd pa T hd h mk mkc ps me pd fl hd3 mk3 ps3 me3 pd3 fl3 hd4 mk4 ps4 me4 pd4 fl4 z lp so vs z4 lp4 so4 vs4 pa0 fp qu qn wt wb wg ta ca rM rK sT sH sM sP sd kR kH kM kP kz hs rd kI me2 pd2 fl2 sv fz rw bs wy nx pt kr klo hln hn2 hn hmf hkd hT hh0 hhn hd0 hmk hmkc hS9 hkI hz hso hIm hP hD hS hl
      by_cases k10 : y9.toInt = (10 : Int)
      · refine lv_tableIn (off := 342) (tgt := 374) hx hb dL_law_32 (by rw [k10]; decide) (by rw [k10]; decide) (by rw [k10]; rfl) (by decide) ?_
        exact law_10 C1 hA hbA hK ad bd t hlt hL K cW iK rr ln lg n mf kd pa T hd h mk mkc ps me pd fl hd3 mk3 ps3 me3 pd3 fl3 hd4 mk4 ps4 me4 pd4 fl4 z lp so vs z4 lp4 so4 vs4 pa0 fp qu qn wt wb wg ta ca rM rK sT sH sM sP sd kR kH kM kP kz hs rd kI me2 pd2 fl2 sv fz rw bs wy nx pt kr klo hln hn2 hn hmf hkd hT hh0 hhn hd0 hmk hmkc hS9 hkI hz hso hIm hP hD hS hl
      by_cases k11 : y9.toInt = (11 : Int)
      · refine lv_tableIn (off := 385) (tgt := 417) hx hb dL_law_32 (by rw [k11]; decide) (by rw [k11]; decide) (by rw [k11]; rfl) (by decide) ?_
        exact law_11 C1 hA hbA hK ad bd t hlt hL K cW iK rr ln lg n mf kd pa T hd h mk mkc ps me pd fl hd3 mk3 ps3 me3 pd3 fl3 hd4 mk4 ps4 me4 pd4 fl4 z lp so vs z4 lp4 so4 vs4 pa0 fp qu qn wt wb wg ta ca rM rK sT sH sM sP sd kR kH kM kP kz hs rd kI me2 pd2 fl2 sv fz rw bs wy nx pt kr klo hln hn2 hn hmf hkd hT hh0 hhn hd0 hmk hmkc hS9 hkI hz hso hIm hP hD hS hl
      by_cases k12 : y9.toInt = (12 : Int)
      · refine lv_tableIn (off := 398) (tgt := 430) hx hb dL_law_32 (by rw [k12]; decide) (by rw [k12]; decide) (by rw [k12]; rfl) (by decide) ?_
        exact law_12 C1 hA hbA hK ad bd t hlt hL K cW iK rr ln lg n mf kd pa T hd h mk mkc ps me pd fl hd3 mk3 ps3 me3 pd3 fl3 hd4 mk4 ps4 me4 pd4 fl4 z lp so vs z4 lp4 so4 vs4 pa0 fp qu qn wt wb wg ta ca rM rK sT sH sM sP sd kR kH kM kP kz hs rd kI me2 pd2 fl2 sv fz rw bs wy nx pt kr klo hln hn2 hn hmf hkd hT hh0 hhn hd0 hmk hmkc hS9 hkI hz hso hIm hP hD hS hl
      by_cases k13 : y9.toInt = (13 : Int)
      · refine lv_tableIn (off := 431) (tgt := 463) hx hb dL_law_32 (by rw [k13]; decide) (by rw [k13]; decide) (by rw [k13]; rfl) (by decide) ?_
        exact law_13 C1 hA hbA hK ad bd t hlt hL K cW iK rr ln lg n mf kd pa T hd h mk mkc ps me pd fl hd3 mk3 ps3 me3 pd3 fl3 hd4 mk4 ps4 me4 pd4 fl4 z lp so vs z4 lp4 so4 vs4 pa0 fp qu qn wt wb wg ta ca rM rK sT sH sM sP sd kR kH kM kP kz hs rd kI me2 pd2 fl2 sv fz rw bs wy nx pt kr klo hln hn2 hn hmf hkd hT hh0 hhn hd0 hmk hmkc hS9 hkI hz hso hIm hP hD hS hl
      by_cases k14 : y9.toInt = (14 : Int)
      · refine lv_tableIn (off := 454) (tgt := 486) hx hb dL_law_32 (by rw [k14]; decide) (by rw [k14]; decide) (by rw [k14]; rfl) (by decide) ?_
        exact law_14 C1 hA hbA hK ad bd t hlt hL K cW iK rr ln lg n mf kd pa T hd h mk mkc ps me pd fl hd3 mk3 ps3 me3 pd3 fl3 hd4 mk4 ps4 me4 pd4 fl4 z lp so vs z4 lp4 so4 vs4 pa0 fp qu qn wt wb wg ta ca rM rK sT sH sM sP sd kR kH kM kP kz hs rd kI me2 pd2 fl2 sv fz rw bs wy nx pt kr klo hln hn2 hn hmf hkd hT hh0 hhn hd0 hmk hmkc hS9 hkI hz hso hIm hP hD hS hl
      by_cases k15 : y9.toInt = (15 : Int)
      · refine lv_tableIn (off := 497) (tgt := 529) hx hb dL_law_32 (by rw [k15]; decide) (by rw [k15]; decide) (by rw [k15]; rfl) (by decide) ?_
        exact law_15 C1 hA hbA hK ad bd t hlt hL K cW iK rr ln lg n mf kd pa T hd h mk mkc ps me pd fl hd3 mk3 ps3 me3 pd3 fl3 hd4 mk4 ps4 me4 pd4 fl4 z lp so vs z4 lp4 so4 vs4 pa0 fp qu qn wt wb wg ta ca rM rK sT sH sM sP sd kR kH kM kP kz hs rd kI me2 pd2 fl2 sv fz rw bs wy nx pt kr klo hln hn2 hn hmf hkd hT hh0 hhn hd0 hmk hmkc hS9 hkI hz hso hIm hP hD hS hl
      by_cases k16 : y9.toInt = (16 : Int)
      · refine lv_tableIn (off := 510) (tgt := 542) hx hb dL_law_32 (by rw [k16]; decide) (by rw [k16]; decide) (by rw [k16]; rfl) (by decide) ?_
        exact law_16 C1 hA hbA hK ad bd t hlt hL K cW iK rr ln lg n mf kd pa T hd h mk mkc ps me pd fl hd3 mk3 ps3 me3 pd3 fl3 hd4 mk4 ps4 me4 pd4 fl4 z lp so vs z4 lp4 so4 vs4 pa0 fp qu qn wt wb wg ta ca rM rK sT sH sM sP sd kR kH kM kP kz hs rd kI me2 pd2 fl2 sv fz rw bs wy nx pt kr klo hln hn2 hn hmf hkd hT hh0 hhn hd0 hmk hmkc hS9 hkI hz hso hIm hP hD hS hl
      by_cases k17 : y9.toInt = (17 : Int)
      · refine lv_tableIn (off := 523) (tgt := 555) hx hb dL_law_32 (by rw [k17]; decide) (by rw [k17]; decide) (by rw [k17]; rfl) (by decide) ?_
        exact law_17 C1 hA hbA hK ad bd t hlt hL K cW iK rr ln lg n mf kd pa T hd h mk mkc ps me pd fl hd3 mk3 ps3 me3 pd3 fl3 hd4 mk4 ps4 me4 pd4 fl4 z lp so vs z4 lp4 so4 vs4 pa0 fp qu qn wt wb wg ta ca rM rK sT sH sM sP sd kR kH kM kP kz hs rd kI me2 pd2 fl2 sv fz rw bs wy nx pt kr klo hln hn2 hn hmf hkd hT hh0 hhn hd0 hmk hmkc hS9 hkI hz hso hIm hP hD hS hl
      by_cases k18 : y9.toInt = (18 : Int)
      · refine lv_tableIn (off := 546) (tgt := 578) hx hb dL_law_32 (by rw [k18]; decide) (by rw [k18]; decide) (by rw [k18]; rfl) (by decide) ?_
        exact law_18 C1 hA hbA hK ad bd t hlt hL K cW iK rr ln lg n mf kd pa T hd h mk mkc ps me pd fl hd3 mk3 ps3 me3 pd3 fl3 hd4 mk4 ps4 me4 pd4 fl4 z lp so vs z4 lp4 so4 vs4 pa0 fp qu qn wt wb wg ta ca rM rK sT sH sM sP sd kR kH kM kP kz hs rd kI me2 pd2 fl2 sv fz rw bs wy nx pt kr klo hln hn2 hn hmf hkd hT hh0 hhn hd0 hmk hmkc hS9 hkI hz hso hIm hP hD hS hl
      refine lv_tableOut (tgt := 592) hx hb dL_law_32 (by omega) (by decide) ?_
      refine W.widen (k := 49 + 4 * t + 4) (n := 1348 + 4 * t + 4) (by omega) (by omega) ?_
      exact K cW iK rr ln lg n mf kd pa T hd h mk mkc ps me pd fl hd3 mk3 ps3 me3 pd3 fl3 hd4 mk4 ps4 me4 pd4 fl4 z lp so vs z4 lp4 so4 vs4 pa0 fp qu qn wt wb wg ta ca rM rK sT sH sM sP sd kR kH kM kP kz hs rd kI me2 pd2 fl2 sv fz rw bs wy nx pt kr klo H locs ls hln hn2 hn hmf hkd hT hh0 hhn hd0 hmk hmkc hS9 hkI hz hso hIm.more hP hD hS hl
