/-! what each call makes of the two states -/
theorem hd_hd {n h : Nat} {hd : Int32} (hd0 : hd = if n = 0 then -1 else nI h) (hh : 0 < n → h < n) : 0 < n → hd = nI h ∧ h < n := fun z => ⟨by rw [hd0, if_neg (by omega)], hh z⟩
theorem pass_rel {kd : Nat → Nat} {n h : Nat} {x hd ps : Int32} {mk : Nat} {me pd fl me2 pd2 fl2 : Nat → Int32} {hdA psA psB : Int32} {mkA hB mkB : Nat} {meA flA meB flB : Nat → Int32} (hn : n ≤ 4) (hh0 : n = 0 → h = 0) (hh : 0 < n → h < n) (hd0 : hd = if n = 0 then -1 else nI h) (hmk : mk < 32) (hS : SRel n h me pd fl me2 pd2 fl2)
    (he1 : (hdA, mkA, psA, meA, flA) = psS kd n h x (hd, mk, ps, me, fl)) (he2 : (hB, mkB, psB, meB, flB) = psM kd n x (h, mk, ps, me2, fl2)) : mkB = mkA ∧ psB = psA ∧ (n = 0 → hB = 0) ∧ (0 < n → hB < n) ∧ hdA = (if n = 0 then -1 else nI hB) ∧ mkA < 32 ∧ SRel n hB meA pd flA meB pd2 flB := by
  unfold psS at he1
  unfold psM at he2
  by_cases e : inR x n ∧ h ≠ x.toNatClampNeg
  · rw [if_pos e] at he1 he2
    obtain ⟨j, hj, rfl⟩ := inR_ex e.1 (by omega)
    rw [nI_clamp (by omega)] at he1 he2 e
    cases he1
    cases he2
    refine ⟨rfl, rfl, fun z => by omega, fun _ => hj, by rw [if_neg (by omega)], touch_lt hmk, ?_⟩
    exact SRel_move hS (hh (by omega)) hj (fun z => e.2 z.symm)
  · rw [if_neg e] at he1 he2
    cases he1
    cases he2
    exact ⟨rfl, rfl, hh0, hh, hd0, hmk, hS⟩
theorem claim_rel {n h mk : Nat} {x : Int32} {me pd fl me2 pd2 fl2 pdA flA pdB flB : Nat → Int32} (hn : n ≤ 4) (hS : SRel n h me pd fl me2 pd2 fl2) (he1 : (pdA, flA) = clS n h mk me x (pd, fl)) (he2 : (pdB, flB) = clS n h mk me2 x (pd2, fl2)) : clR n h mk me fl x = clR n h mk me2 fl2 x ∧ SRel n h me pdA flA me2 pdB flB := by
  unfold clS at he1 he2
  unfold clR
  by_cases hx : inR x n
  · obtain ⟨j, hj, rfl⟩ := inR_ex hx (by omega)
    rw [nI_clamp (by omega)] at he1 he2 ⊢
    rw [if_pos hx, if_pos hx]
    refine ⟨bI_iff (duS_iff hS hj), ?_⟩
    by_cases e : duS (nI h) (nI mk) me fl j
    · rw [if_pos ⟨hx, e⟩] at he1
      rw [if_pos ⟨hx, (duS_iff hS hj).mp e⟩] at he2
      cases he1
      cases he2
      exact SRel_pay hS hj (fun z => e.1.2.2.1 (by rw [z]))
    · rw [if_neg (fun z => e z.2)] at he1
      rw [if_neg (fun z => e ((duS_iff hS hj).mpr z.2))] at he2
      cases he1
      cases he2
      exact hS
  · rw [if_neg (fun z => hx z.1)] at he1 he2
    rw [if_neg hx, if_neg hx]
    cases he1
    cases he2
    exact ⟨rfl, hS⟩
theorem look_rel {n z zA : Nat} {x y v : Int32} {lp so vs lpA soA vsA : Nat → Int32} (hz : z ≤ 8) (hso : ∀ i, i < z → inR (so i) 3) (he : (zA, lpA, soA, vsA) = lkS n x y v (z, lp, so, vs)) : zA ≤ 8 ∧ ∀ i, i < zA → inR (soA i) 3 := by
  unfold lkS at he
  by_cases e : (inR x 9 ∧ inR y 3 ∧ inR v (if y = 0 then 4 else if y = nI 1 then 8 else n)) ∧ n ≠ 0 ∧ z < 8
  · rw [if_pos e] at he
    cases he
    refine ⟨by have := e.2.2; show z + 1 ≤ 8; omega, ?_⟩
    intro i hi
    show inR (upd so z y i) 3
    by_cases e2 : i = z
    · subst e2; rw [upd_s]; exact e.1.2.1
    · rw [upd_n e2]; exact hso i (by have h9 : i < z + 1 := hi; omega)
  · rw [if_neg e] at he
    cases he
    exact ⟨hz, hso⟩
def ImR (t n : Nat) (kd : Nat → Nat) (iK rr kR ps4 kP hd4 mk4 kH kM : Int32) (z4 kz : Nat) (lp4 so4 vs4 me4 pd4 fl4 kr klo : Nat → Int32) : Prop :=
  (∀ k, k < 4 → vp_nar .boolean (fl4 k) = fl4 k) ∧ ∃ q : Nat, rr = nI q ∧ q ≤ t ∧ ((iK = 0 ∧ kR.toInt < (q : Int)) ∨
    (iK = nI 1 ∧ kR = rr ∧ 0 < n ∧ ∃ (h5 m5 : Nat) (me5 pd5 fl5 kI5 : Nat → Int32), h5 < n ∧ m5 < 32 ∧ hd4 = nI h5 ∧ mk4 = nI m5 ∧ kH = nI h5 ∧ kM = nI m5 ∧ kP = ps4 ∧ kz = z4 ∧ z4 ≤ 8 ∧ (∀ i, i < z4 → inR (so4 i) 3) ∧ klo = looksF lp4 so4 vs4 ∧ kr = rowsF kI5 me5 fl5 pd5 ∧ (∀ i, i < n → kI5 i = nI (kd i)) ∧ SRel n h5 me4 pd4 fl4 me5 pd5 fl5))
theorem ImR.more {t n : Nat} {kd : Nat → Nat} {iK rr kR ps4 kP hd4 mk4 kH kM : Int32} {z4 kz : Nat} {lp4 so4 vs4 me4 pd4 fl4 kr klo : Nat → Int32} (h : ImR t n kd iK rr kR ps4 kP hd4 mk4 kH kM z4 kz lp4 so4 vs4 me4 pd4 fl4 kr klo) : ImR (t + 1) n kd iK rr kR ps4 kP hd4 mk4 kH kM z4 kz lp4 so4 vs4 me4 pd4 fl4 kr klo := by
  obtain ⟨h1, q, h2, h3, h4⟩ := h
  exact ⟨h1, q, h2, by omega, h4⟩
theorem ImR.ring {t n n2 : Nat} {kd kd2 : Nat → Nat} {iK rr kR ps4 kP hd4 mk4 kH kM : Int32} {z4 kz : Nat} {lp4 so4 vs4 me4 pd4 fl4 kr klo : Nat → Int32} (ht : t ≤ 64) (h : ImR t n kd iK rr kR ps4 kP hd4 mk4 kH kM z4 kz lp4 so4 vs4 me4 pd4 fl4 kr klo) : ImR (t + 1) n2 kd2 (nI 0) (rr + nI 1) kR ps4 kP hd4 mk4 kH kM z4 kz lp4 so4 vs4 me4 pd4 fl4 kr klo := by
  obtain ⟨h1, q, h2, h3, h4⟩ := h
  refine ⟨h1, q + 1, by rw [h2]; exact nI_add q 1, by omega, Or.inl ⟨rfl, ?_⟩⟩
  rcases h4 with ⟨-, h5⟩ | ⟨-, h5, -⟩
  · omega
  · rw [h5, h2, nT (by omega)]; omega
theorem image_rel {t n h mk : Nat} {kd : Nat → Nat} {iK rr kR ps4 kP hd4 mk4 kH kM : Int32} {z4 kz : Nat} {lp4 so4 vs4 me4 pd4 fl4 kr klo : Nat → Int32} {hd ps : Int32} {me pd fl me2 pd2 fl2 kI : Nat → Int32} {z : Nat} {lp so vs : Nat → Int32}
    {hdA mkA psA iKA kRB kHB kMB kPB : Int32} {zA kzB : Nat} {meA pdA flA lpA soA vsA krB klB : Nat → Int32} (hh : 0 < n → h < n) (hd0 : hd = if n = 0 then -1 else nI h) (hmk : mk < 32) (hz : z ≤ 8) (hso : ∀ i, i < z → inR (so i) 3) (hkI : ∀ i, i < n → kI i = nI (kd i)) (hS : SRel n h me pd fl me2 pd2 fl2)
    (hI : ImR t n kd iK rr kR ps4 kP hd4 mk4 kH kM z4 kz lp4 so4 vs4 me4 pd4 fl4 kr klo)
    (he1 : (hdA, mkA, psA, meA, pdA, flA, zA, lpA, soA, vsA, iKA) = if n = 0 then (hd4, mk4, ps4, me4, pd4, fl4, z4, lp4, so4, vs4, iK) else (hd, nI mk, ps, me, pd, fl, z, lp, so, vs, nI 1))
    (he2 : (kRB, kHB, kMB, kPB, kzB, krB, klB) = if n = 0 then (kR, kH, kM, kP, kz, kr, klo) else (rr, nI h, nI mk, ps, z, rowsF kI me2 fl2 pd2, looksF lp so vs)) : ImR (t + 1) n kd iKA rr kRB psA kPB hdA mkA kHB kMB zA kzB lpA soA vsA meA pdA flA krB klB := by
  by_cases e : n = 0
  · rw [if_pos e] at he1 he2
    cases he1
    cases he2
    exact hI.more
  · rw [if_neg e] at he1 he2
    cases he1
    cases he2
    obtain ⟨-, q, h2, h3, -⟩ := hI
    exact ⟨hS.2.2.2.2.2.2, q, h2, by omega, Or.inr ⟨rfl, rfl, by omega, h, mk, me2, pd2, fl2, kI, hh (by omega), hmk, by rw [hd0, if_neg e], rfl, rfl, rfl, rfl, rfl, hz, hso, rfl, rfl, hkI, hS⟩⟩
theorem restore_rel {t n h mk : Nat} {kd : Nat → Nat} {iK rr kR ps4 kP hd4 mk4 kH kM : Int32} {z4 kz : Nat} {lp4 so4 vs4 me4 pd4 fl4 kr klo : Nat → Int32} {hd ps : Int32} {me pd fl me2 pd2 fl2 kI : Nat → Int32} {z : Nat} {lp so vs : Nat → Int32}
    {hdA mkA psA hB mkB psB : Int32} {zA zB : Nat} {meA pdA flA lpA soA vsA rwB loB : Nat → Int32} (ht : t ≤ 64) (hh0 : n = 0 → h = 0) (hh : 0 < n → h < n) (hd0 : hd = if n = 0 then -1 else nI h) (hmk : mk < 32) (hz : z ≤ 8) (hso : ∀ i, i < z → inR (so i) 3) (hkI : ∀ i, i < n → kI i = nI (kd i)) (hS : SRel n h me pd fl me2 pd2 fl2)
    (hI : ImR t n kd iK rr kR ps4 kP hd4 mk4 kH kM z4 kz lp4 so4 vs4 me4 pd4 fl4 kr klo)
    (he1 : (hdA, mkA, psA, meA, pdA, flA, zA, lpA, soA, vsA) = if iK = 0 then (hd, nI mk, ps, me, pd, fl, z, lp, so, vs) else (hd4, mk4, ps4, me4, pd4, fl4, z4, lp4, so4, vs4))
    (he2 : (hB, mkB, psB, zB, rwB, loB) = if kR = rr then (kH, kM, kP, kz, kr, klo) else (nI h, nI mk, ps, z, rowsF kI me2 fl2 pd2, looksF lp so vs)) :
    (if iK = 0 then (-103 : Int32) else ps4) = (if kR = rr then kP else -103) ∧ ∃ (h5 m5 : Nat) (me5 pd5 fl5 kI5 : Nat → Int32), hB = nI h5 ∧ mkB = nI m5 ∧ mkA = nI m5 ∧ psB = psA ∧ zB = zA ∧ rwB = rowsF kI5 me5 fl5 pd5 ∧ loB = looksF lpA soA vsA ∧ (n = 0 → h5 = 0) ∧ (0 < n → h5 < n) ∧ hdA = (if n = 0 then -1 else nI h5) ∧ m5 < 32 ∧ zA ≤ 8 ∧ (∀ i, i < zA → inR (soA i) 3) ∧ (∀ i, i < n → kI5 i = nI (kd i)) ∧ SRel n h5 meA pdA flA me5 pd5 fl5 := by
  obtain ⟨-, q, h2, h3, h4⟩ := hI
  rcases h4 with ⟨h5, h6⟩ | ⟨h5, h6, h7, g5, m5, me5, pd5, fl5, kI5, a1, a2, a3, a4, a5, a6, a7, a8, a9, a10, a11, a12, a13, a14⟩
  · have hne : ¬ kR = rr := fun z9 => by rw [z9, h2, nT (by omega)] at h6; omega
    rw [if_pos h5] at he1 ⊢
    rw [if_neg hne] at he2 ⊢
    cases he1
    cases he2
    exact ⟨rfl, h, mk, me2, pd2, fl2, kI, rfl, rfl, rfl, rfl, rfl, rfl, rfl, hh0, hh, hd0, hmk, hz, hso, hkI, hS⟩
  · have hne : ¬ iK = 0 := fun z9 => by rw [h5] at z9; exact absurd z9 (by decide)
    rw [if_neg hne] at he1 ⊢
    rw [if_pos h6] at he2 ⊢
    cases he1
    cases he2
    exact ⟨a7.symm, g5, m5, me5, pd5, fl5, kI5, a5, a6, a4, a7, a8, a12, a11, fun z9 => by omega, fun _ => a1, by rw [if_neg (by omega)]; exact a3, a2, a9, a10, a13, a14⟩
theorem ring_mk {lg : Nat → Int32} {ln : Nat} (h : isRg lg ln) : 8 * rgD lg (lead lg ln + 1) + rgD lg (lead lg ln + 2) < 32 := by
  obtain ⟨-, -, h1, h2⟩ := ring_fit h
  unfold rgD
  omega
theorem ring_rel {n : Nat} {me2 pd2 fl2 : Nat → Int32} (hn : 0 < n) (h1 : ∀ k, k < n → me2 k = -1) (h2 : ∀ k, k < n → fl2 k = nI 0) (h3 : ∀ k, k < n → pd2 k = nI 0) : SRel n 0 (fun _ => (-1 : Int32)) (fun _ => nI 0) (fun _ => nI 0) me2 pd2 fl2 :=
  ⟨h1, h3, fun k hk _ => h2 k hk, h2 0 hn, fun _ _ _ _ => rfl, fun _ _ _ => rfl, fun _ _ => nar0⟩
theorem letter_rel {ln : Nat} {lg : Nat → Int32} {x : Int32} {lnA lnB : Nat} {lgA lgB : Nat → Int32} (hln : ln ≤ 10) (t1 : ¬ (x.toInt < 1 ∨ 126 < x.toInt) ∧ ln < 10 → lnA = ln + 1 ∧ lgA = upd lg ln x) (f1 : ¬ (¬ (x.toInt < 1 ∨ 126 < x.toInt) ∧ ln < 10) → lnA = ln ∧ lgA = lg) (t2 : ¬ (x.toInt < 1 ∨ 126 < x.toInt) ∧ ln < 10 → lnB = ln + 1 ∧ lgB = upd lg ln x) (f2 : ¬ (¬ (x.toInt < 1 ∨ 126 < x.toInt) ∧ ln < 10) → lnB = ln ∧ lgB = lg) : lnB = lnA ∧ lgB = lgA ∧ lnA ≤ 10 := by
  by_cases e : ¬ (x.toInt < 1 ∨ 126 < x.toInt) ∧ ln < 10
  · obtain ⟨a1, a2⟩ := t1 e
    obtain ⟨b1, b2⟩ := t2 e
    have := e.2
    exact ⟨by omega, by rw [a2, b2], by omega⟩
  · obtain ⟨a1, a2⟩ := f1 e
    obtain ⟨b1, b2⟩ := f2 e
    exact ⟨by omega, by rw [a2, b2], by omega⟩
theorem digest_eq {kd : Nat → Nat} {n ln z h mk : Nat} {hd ps rr : Int32} {lg me pd fl me2 pd2 fl2 lp so vs ca c1 c2 bs b1 b2 : Nat → Int32} (hn2 : n = 0 ∨ 2 ≤ n) (hn : n ≤ 4) (hh : 0 < n → h < n) (hd0 : hd = if n = 0 then -1 else nI h) (hmk : mk < 32) (hS : SRel n h me pd fl me2 pd2 fl2) :
    dgAll n ln (fun p9 w9 => abF n kd h mk me pd (nI p9) (nI w9).toInt) (fun p9 => chR kd n h mk (nI p9) (nI mk) (nI 0).toInt) (caR n kd h mk me ca (nI 2).toInt (nI 0).toInt) (caR n kd h mk me c1 (nI 2).toInt (nI 10).toInt) (caR n kd h mk me c2 (nI 2).toInt (nI 11).toInt) (fun k9 => rwR kd n h mk z lp so vs (nI k9) (nI 0).toInt) (fun k9 => rwR kd n h mk z lp so vs (nI k9) (nI 1).toInt) (nxR kd n h mk z lp so vs (nI 3)) lg (fun w9 => coR n ln z mk hd ps rr me pd (nI w9).toInt)
    = dgAll n ln (fun p9 w9 => abN kd n h mk me2 pd2 p9 (nI w9).toInt) (fun p9 => chM kd n h mk (32 * p9 + mk) (nI 0)) (caN n kd h mk me2 bs 2 (nI 0).toInt) (caN n kd h mk me2 b1 2 (nI 10).toInt) (caN n kd h mk me2 b2 2 (nI 11).toInt) (fun k9 => if nI 0 = 0 then nI (sN (wAt kd n lp so vs z (32 * h + mk) k9) 128) else hoB (wAt kd n lp so vs z (32 * h + mk) k9) 128) (fun k9 => if nI 1 = 0 then nI (sN (wAt kd n lp so vs z (32 * h + mk) k9) 128) else hoB (wAt kd n lp so vs z (32 * h + mk) k9) 128) ((nxB (wAt kd n lp so vs z (32 * h + mk) 3) 3).1) lg (fun w9 => coN n ln z h mk ps rr me2 pd2 (nI w9).toInt) := by
  have t0 : (nI 0).toInt = 0 := by decide
  have t1 : (nI 1).toInt = 1 := by decide
  have t2 : (nI 2).toInt = 2 := by decide
  have t10 : (nI 10).toInt = 10 := by decide
  have t11 : (nI 11).toInt = 11 := by decide
  refine dgAll_congr ?_ ?_ ?_ ?_
  · intro q hq k
    rw [about_eq (pd2 := pd2) hn hh hS]
    unfold abM
    rw [if_pos (inR_N hq (by omega)), nI_clamp (by omega)]
  · intro k hk
    rw [chain_eq hn hh hmk]
    unfold chRM
    rw [if_pos (inR_N hk (by omega)), if_pos ⟨inR_N hmk (by omega), by rw [t0]; omega, by rw [t0]; omega⟩, nI_clamp (by omega), nI_clamp (by omega)]
  · intro h0
    have hh2 := hh (by omega)
    have ho := hS.2.2.2.2.1 (by omega)
    refine ⟨?_, ?_, ?_, ?_, ?_, ?_⟩
    · rw [caN_eq (bs := bs) (by omega) hn hh2 hS.1 ho (by rw [t2]; omega) (by rw [t0]; omega), t2]; rfl
    · rw [caN_eq (bs := b1) (by omega) hn hh2 hS.1 ho (by rw [t2]; omega) (by rw [t10]; omega), t2]; rfl
    · rw [caN_eq (bs := b2) (by omega) hn hh2 hS.1 ho (by rw [t2]; omega) (by rw [t11]; omega), t2]; rfl
    · intro k hk
      unfold rwR
      rw [if_pos ⟨inR_N (show k < 9 by omega) (by omega), by rw [t0]; omega, by rw [t0]; omega⟩, if_neg h0, t0, if_pos rfl, if_pos (show nI 0 = 0 from rfl), nI_clamp (by omega)]
    · intro k hk
      unfold rwR
      rw [if_pos ⟨inR_N (show k < 9 by omega) (by omega), by rw [t1]; omega, by rw [t1]; omega⟩, if_neg h0, t1, if_neg (by decide), if_neg (by decide), nI_clamp (by omega)]
    · rw [next_eq hn]
      unfold lnM
      rw [if_pos (inR_N (show 3 < 9 by omega) (by omega)), if_neg h0, nI_clamp (by omega)]
  · intro k hk
    exact count_eq hn hh hd0 hS
