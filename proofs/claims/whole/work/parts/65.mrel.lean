/-! looks: what is told next -/
theorem pt_mx (so : Int32) (w : Nat → Nat) : ∀ (m v : Nat), ptN so w m v ≤ mxN so w m
  | 0, _ => Nat.le_refl 0
  | m + 1, v => by
    have h := pt_mx so w m v
    simp only [mxN]
    by_cases e : v = saw so m
    · rw [← e]; exact Nat.le_max_right _ _
    · have h2 : ptN so w (m + 1) v = ptN so w m v := by simp only [ptN]; rw [if_neg e, Nat.add_zero]
      rw [h2]; exact Nat.le_trans h (Nat.le_max_left _ _)
theorem mxV_at {f : Nat → Nat} {v : Nat} : ∀ {n : Nat}, v < n → f v ≤ mxV f n
  | 0, h => absurd h (Nat.not_lt_zero v)
  | n + 1, h => by
    simp only [mxV]
    by_cases e : v = n
    · subst e; exact Nat.le_max_right _ _
    · exact Nat.le_trans (mxV_at (by omega)) (Nat.le_max_left _ _)
theorem mxV_mono {f g : Nat → Nat} (h : ∀ v, f v ≤ g v) : ∀ n : Nat, mxV f n ≤ mxV g n
  | 0 => Nat.le_refl 0
  | n + 1 => by have h1 := mxV_mono h n; have h2 := h n; simp only [mxV]; omega
theorem mx_V (so : Int32) (w : Nat → Nat) : ∀ m : Nat, m ≤ 128 → mxN so w m ≤ mxV (ptN so w m) 8
  | 0, _ => Nat.zero_le _
  | m + 1, hm => by
    have h1 := mx_V so w m (by omega)
    have h2 : mxV (ptN so w m) 8 ≤ mxV (ptN so w (m + 1)) 8 := mxV_mono (fun v => by simp only [ptN]; omega) 8
    have h3 : ptN so w (m + 1) (saw so m) ≤ mxV (ptN so w (m + 1)) 8 := mxV_at (saw_lt (by omega))
    show max (mxN so w m) (ptN so w (m + 1) (saw so m)) ≤ _
    omega
theorem mx_eq (so : Int32) (w : Nat → Nat) : mxV (ptN so w 128) 8 = mxN so w 128 := Nat.le_antisymm (mxV_le (fun v => pt_mx so w 128 v) 8) (mx_V so w 128 (Nat.le_refl _))
theorem pt_w (so : Int32) (w : Nat → Nat) {k : Nat} : ∀ {m : Nat}, k < m → w k ≤ ptN so w m (saw so k)
  | 0, h => absurd h (Nat.not_lt_zero k)
  | m + 1, h => by
    simp only [ptN]
    by_cases e : k = m
    · subst e; rw [if_pos rfl]; omega
    · have := pt_w so w (show k < m by omega); omega
theorem sN_zero {w : Nat → Nat} : ∀ {m : Nat}, (∀ k, k < m → w k = 0) → sN w m = 0
  | 0, _ => rfl
  | m + 1, h => by simp only [sN]; rw [sN_zero (fun k hk => h k (by omega)), h m (by omega)]
theorem mx_pos (so : Int32) {w : Nat → Nat} (h : ¬ sN w 128 = 0) : 0 < mxN so w 128 := by
  rcases Nat.eq_zero_or_pos (mxN so w 128) with z | z
  · exact absurd (sN_zero (fun k hk => by have h1 := pt_w so w hk; have h2 := pt_mx so w 128 (saw so k); omega)) h
  · exact z
theorem nx_tel {w : Nat → Nat} (hb : sN w 128 < 2 ^ 31) (h0 : ¬ sN w 128 = 0) : ∀ s : Nat, s < 100 → nxB w (s + 1) = (nI (telN w (s + 1)), nI (mxN (nI (telN w (s + 1))) w 128))
  | 0, _ => by
    simp only [nxB]
    rw [if_pos ⟨by rw [mx_eq]; exact mx_pos _ h0, Or.inl trivial⟩, mx_eq]; rfl
  | s + 1, hs => by
    have ih := nx_tel hb h0 s (by omega)
    have ht := telN_lt w s
    have hm := mxN_le (nI (telN w (s + 1))) w 128
    rw [show nxB w (s + 1 + 1) = (if 0 < mxV (ptN (nI (s + 1)) w 128) 8 ∧ ((nxB w (s + 1)).1 = -1 ∨ ((mxV (ptN (nI (s + 1)) w 128) 8 : Nat) : Int) < (nxB w (s + 1)).2.toInt) then (nI (s + 1), nI (mxV (ptN (nI (s + 1)) w 128) 8)) else nxB w (s + 1)) from rfl, ih, mx_eq]
    have e2 : telN w (s + 1 + 1) = (if mxN (nI (s + 1)) w 128 < mxN (nI (telN w (s + 1))) w 128 then s + 1 else telN w (s + 1)) := rfl
    have hT : (nI (mxN (nI (telN w (s + 1))) w 128)).toInt = ((mxN (nI (telN w (s + 1))) w 128 : Nat) : Int) := nT (by omega)
    by_cases e : mxN (nI (s + 1)) w 128 < mxN (nI (telN w (s + 1))) w 128
    · rw [if_pos e] at e2
      rw [if_pos ⟨mx_pos _ h0, Or.inr (by dsimp only; rw [hT]; omega)⟩, e2]
    · rw [if_neg e] at e2
      rw [if_neg (fun z => by
        rcases z.2 with y | y
        · exact nI_neg1 (by omega) y
        · dsimp only at y; rw [hT] at y; omega), e2]
theorem nx_none {w : Nat → Nat} (h0 : sN w 128 = 0) : ∀ s : Nat, nxB w s = (-1, -1)
  | 0 => rfl
  | s + 1 => by
    have hm := mxN_le (nI s) w 128
    simp only [nxB]
    rw [if_neg (fun z => by have := z.1; rw [mx_eq] at this; omega)]
    exact nx_none h0 s
theorem next_w {w : Nat → Nat} (hb : sN w 128 < 2 ^ 31) : (if sN w 128 = 0 then -1 else nI (telN w 3)) = (nxB w 3).1 := by
  by_cases h0 : sN w 128 = 0
  · rw [if_pos h0, nx_none h0]
  · rw [if_neg h0, nx_tel hb h0 2 (by omega)]
theorem next_eq {kd : Nat → Nat} {n h mk z : Nat} {lp so vs : Nat → Int32} {x : Int32} (hn : n ≤ 4) : nxR kd n h mk z lp so vs x = lnM kd n h mk z lp so vs x := by
  unfold nxR lnM
  by_cases hx : inR x 9
  · rw [if_pos hx, if_pos hx]
    obtain ⟨j, hj, rfl⟩ := inR_ex hx (by omega)
    rw [nI_clamp (by omega)]
    by_cases h0 : n = 0
    · rw [if_pos h0, if_pos h0]
    · rw [if_neg h0, if_neg h0]; exact next_w (wAt_b hn (by omega))
  · rw [if_neg hx, if_neg hx]
/-! what the two stories share -/
def SRel (n h : Nat) (me pd fl me2 pd2 fl2 : Nat → Int32) : Prop :=
  (∀ k, k < n → me2 k = me k) ∧ (∀ k, k < n → pd2 k = pd k) ∧ (∀ k, k < n → k ≠ h → fl2 k = fl k) ∧ fl2 h = nI 0 ∧ (0 < n → ∀ k, n ≤ k → k < 4 → me k = -1) ∧ (∀ k, n ≤ k → k < 4 → pd k = nI 0) ∧ (∀ k, k < 4 → vp_nar .boolean (fl k) = fl k)
theorem nar0 : vp_nar .boolean (nI 0) = nI 0 := rfl
theorem nar1 : vp_nar .boolean (nI 1) = nI 1 := rfl
theorem duS_iff {n h mk j : Nat} {me pd fl me2 pd2 fl2 : Nat → Int32} (hS : SRel n h me pd fl me2 pd2 fl2) (hj : j < n) : duS (nI h) (nI mk) me fl j ↔ duS (nI h) (nI mk) me2 fl2 j := by
  constructor
  · intro z
    have hne : j ≠ h := fun e => z.1.2.2.1 (by rw [e])
    exact ⟨(wrS_congr (hS.1 j hj)).mpr z.1, by rw [hS.2.2.1 j hj hne]; exact z.2⟩
  · intro z
    have hne : j ≠ h := fun e => z.1.2.2.1 (by rw [e])
    exact ⟨(wrS_congr (hS.1 j hj)).mp z.1, by rw [← hS.2.2.1 j hj hne]; exact z.2⟩
theorem SRel_pay {n h j : Nat} {me pd fl me2 pd2 fl2 : Nat → Int32} (hS : SRel n h me pd fl me2 pd2 fl2) (hj : j < n) (hne : j ≠ h) : SRel n h me (upd pd j (pd j + nI 1)) (upd fl j (nI 1)) me2 (upd pd2 j (pd2 j + nI 1)) (upd fl2 j (nI 1)) := by
  obtain ⟨h1, h2, h3, h4, h5, h6, h7⟩ := hS
  refine ⟨h1, ?_, ?_, ?_, h5, ?_, ?_⟩
  · intro k hk
    by_cases e : k = j
    · subst e; rw [upd_s, upd_s, h2 k hk]
    · rw [upd_n e, upd_n e]; exact h2 k hk
  · intro k hk hkh
    by_cases e : k = j
    · subst e; rw [upd_s, upd_s]
    · rw [upd_n e, upd_n e]; exact h3 k hk hkh
  · rw [upd_n (fun z => hne z.symm)]; exact h4
  · intro k hk hk4
    rw [upd_n (by omega)]; exact h6 k hk hk4
  · intro k hk
    by_cases e : k = j
    · subst e; rw [upd_s]; exact nar1
    · rw [upd_n e]; exact h7 k hk
theorem SRel_move {n h j : Nat} {x : Int32} {me pd fl me2 pd2 fl2 : Nat → Int32} (hS : SRel n h me pd fl me2 pd2 fl2) (hh : h < n) (hj : j < n) (hne : j ≠ h) : SRel n j (upd me h x) pd (upd fl h (nI 0)) (upd me2 h x) pd2 (upd fl2 j (nI 0)) := by
  obtain ⟨h1, h2, h3, h4, h5, h6, h7⟩ := hS
  refine ⟨?_, h2, ?_, upd_s, ?_, h6, ?_⟩
  · intro k hk
    by_cases e : k = h
    · subst e; rw [upd_s, upd_s]
    · rw [upd_n e, upd_n e]; exact h1 k hk
  · intro k hk hkj
    rw [upd_n hkj]
    by_cases e : k = h
    · subst e; rw [upd_s]; exact h4
    · rw [upd_n e]; exact h3 k hk e
  · intro h0 k hk hk4
    rw [upd_n (by omega)]; exact h5 h0 k hk hk4
  · intro k hk
    by_cases e : k = h
    · subst e; rw [upd_s]; exact nar0
    · rw [upd_n e]; exact h7 k hk
def SB (n : Nat) (b b2 : ST5) : Prop := b2.1 = b.1 ∧ b.1 < n ∧ b2.2.1 = b.2.1 ∧ b.2.1 < 32 ∧ SRel n b.1 b.2.2.1 b.2.2.2.1 b.2.2.2.2 b2.2.2.1 b2.2.2.2.1 b2.2.2.2.2
theorem SB_mv {kd : Nat → Nat} {n j : Nat} {b b2 : ST5} (h : SB n b b2) (hj : j < n) (hne : ¬ j = b.1) : SB n (mvS kd j b) (mvM kd j b2) := by
  obtain ⟨h1, h2, h3, h4, h5⟩ := h
  refine ⟨rfl, hj, ?_, touch_lt h4, ?_⟩
  · show touch (kd j) j b2.2.1 = touch (kd j) j b.2.1
    rw [h3]
  · unfold mvS mvM
    dsimp only
    rw [h1, h3]
    exact SRel_move h5 h2 hj hne
theorem SB_py {n j : Nat} {b b2 : ST5} (h : SB n b b2) (hj : j < n) : SB n (pyS j b) (pyS j b2) := by
  have h0 := h
  obtain ⟨h1, h2, h3, h4, h5⟩ := h
  unfold pyS
  by_cases e : duS (nI b.1) (nI b.2.1) b.2.2.1 b.2.2.2.2 j
  · have e2 : duS (nI b2.1) (nI b2.2.1) b2.2.2.1 b2.2.2.2.2 j := by rw [h1, h3]; exact (duS_iff h5 hj).mp e
    rw [if_pos e, if_pos e2]
    exact ⟨h1, h2, h3, h4, SRel_pay h5 hj (fun z => e.1.2.2.1 (by rw [z]))⟩
  · have e2 : ¬ duS (nI b2.1) (nI b2.2.1) b2.2.2.1 b2.2.2.2.2 j := by rw [h1, h3]; exact fun z => e ((duS_iff h5 hj).mpr z)
    rw [if_neg e, if_neg e2]
    exact h0
theorem SB_pyN {n : Nat} {b b2 : ST5} (h : SB n b b2) : ∀ {m : Nat}, m ≤ n → SB n (pyN m b) (pyN m b2)
  | 0, _ => h
  | m + 1, hm => SB_py (SB_pyN h (by omega)) (by omega)
theorem SB_se {kd : Nat → Nat} {n v : Nat} {b b2 : ST5} (h : SB n b b2) : ∀ t : Nat, (seM kd n t (v, b2)).1 = (seS kd n t (v, b)).1 ∧ SB n (seS kd n t (v, b)).2 (seM kd n t (v, b2)).2
  | 0 => ⟨rfl, h⟩
  | t + 1 => by
    obtain ⟨h1, h2⟩ := SB_se (kd := kd) (v := v) h t
    simp only [seS, seM]
    rw [h1]
    refine ⟨rfl, SB_pyN ?_ (Nat.le_refl n)⟩
    rw [h2.1]
    by_cases e : sdN (seS kd n t (v, b)).1 / 65536 % n = (seS kd n t (v, b)).2.1
    · rw [if_pos e, if_pos e]; exact h2
    · rw [if_neg e, if_neg e]
      exact SB_mv h2 (Nat.mod_lt _ (by have := h2.2.1; omega)) e
theorem sI_congr {f g : Nat → Int32} : ∀ {n : Nat}, (∀ k, k < n → g k = f k) → sI g n = sI f n
  | 0, _ => rfl
  | n + 1, h => by simp only [sI]; rw [sI_congr (fun k hk => h k (by omega)), h n (by omega)]
theorem sI_cut {f : Nat → Int32} {n : Nat} : ∀ {m : Nat}, n ≤ m → (∀ k, n ≤ k → k < m → f k = nI 0) → sI f m = sI f n
  | 0, h, _ => by rw [show n = 0 by omega]
  | m + 1, h, h2 => by
    by_cases e : n = m + 1
    · rw [e]
    · simp only [sI]
      rw [sI_cut (show n ≤ m by omega) (fun k h3 h4 => h2 k h3 (by omega)), h2 m (by omega) (by omega)]
      exact Int32.add_zero _
theorem SRel_sI {n h : Nat} {me pd fl me2 pd2 fl2 : Nat → Int32} (hn : n ≤ 4) (hS : SRel n h me pd fl me2 pd2 fl2) : sI pd 4 = sI pd2 n := by
  rw [sI_cut hn hS.2.2.2.2.2.1]; exact (sI_congr hS.2.1).symm
theorem seasons_eq {kd : Nat → Nat} {n h mk : Nat} {me pd fl me2 pd2 fl2 : Nat → Int32} {x y : Int32} {w : Int} (hn : n ≤ 4) (hh : 0 < n → h < n) (hmk : mk < 32) (hS : SRel n h me pd fl me2 pd2 fl2) : seR kd n h mk me pd fl x y w = seRM kd n h mk me2 pd2 fl2 x y w := by
  unfold seR seRM
  by_cases e : (1 ≤ x.toInt ∧ x.toInt ≤ 60) ∧ 0 ≤ y.toInt ∧ 0 ≤ w ∧ w ≤ 2
  · rw [if_pos e, if_pos e]
    by_cases h0 : n = 0
    · rw [if_pos h0, if_pos h0]
    · rw [if_neg h0, if_neg h0]
      have hb : SB n (h, mk, me, pd, fl) (h, mk, me2, pd2, fl2) := ⟨rfl, hh (by omega), rfl, hmk, hS⟩
      obtain ⟨h1, h2⟩ := SB_se (kd := kd) (v := y.toNatClampNeg) hb x.toNatClampNeg
      rw [h1, SRel_sI hn h2.2.2.2.2, SRel_sI hn hS, h2.2.2.1]
  · rw [if_neg e, if_neg e]
theorem wIf_eq {kd : Nat → Nat} {n h mk j : Nat} {me pd fl me2 pd2 fl2 : Nat → Int32} (hn : n ≤ 4) (hh : h < n) (hS : SRel n h me pd fl me2 pd2 fl2) : wIf kd h mk me j = wIfN kd n h mk me2 j := by
  unfold wIf wIfN
  refine cnt_wrS hn ?_ ?_
  · intro k hk
    by_cases e : k = h
    · subst e; rw [upd_s, upd_s]
    · rw [upd_n e, upd_n e]; exact hS.1 k hk
  · intro k h1 h2
    rw [upd_n (by omega)]; exact hS.2.2.2.2.1 (by omega) k h1 h2
theorem abJ_eq {kd : Nat → Nat} {n h mk j : Nat} {me pd fl me2 pd2 fl2 : Nat → Int32} {w : Int} (hn : n ≤ 4) (hh : h < n) (hj : j < n) (hS : SRel n h me pd fl me2 pd2 fl2) : abJ kd h mk me pd j w = abN kd n h mk me2 pd2 j w := by
  unfold abJ abN
  have e3 : bI (wrS (nI h) (nI mk) me j) = bI (wrS (nI h) (nI mk) me2 j) := bI_iff (wrS_congr (hS.1 j hj)).symm
  rw [e3, ← hS.1 j hj, ← hS.2.1 j hj, wIf_eq hn hh hS]
theorem about_eq {kd : Nat → Nat} {n h mk : Nat} {me pd fl me2 pd2 fl2 : Nat → Int32} {x : Int32} {w : Int} (hn : n ≤ 4) (hh : 0 < n → h < n) (hS : SRel n h me pd fl me2 pd2 fl2) : abF n kd h mk me pd x w = abM n kd h mk me2 pd2 x w := by
  unfold abF abM
  by_cases hx : inR x n
  · rw [if_pos hx, if_pos hx]
    obtain ⟨j, hj, rfl⟩ := inR_ex hx (by omega)
    rw [nI_clamp (by omega)]
    exact abJ_eq hn (hh (by omega)) hj hS
  · rw [if_neg hx, if_neg hx]
theorem count_eq {n ln z h mk : Nat} {hd ps rr : Int32} {me pd fl me2 pd2 fl2 : Nat → Int32} {w : Int} (hn : n ≤ 4) (hh : 0 < n → h < n) (hd0 : hd = if n = 0 then -1 else nI h) (hS : SRel n h me pd fl me2 pd2 fl2) : coR n ln z mk hd ps rr me pd w = coN n ln z h mk ps rr me2 pd2 w := by
  unfold coR coN
  have h5 : cnt (fun k => decide (wrS hd (nI mk) me k)) 4 = cnt (fun k => decide (wrS (nI h) (nI mk) me2 k)) n := by
    by_cases h0 : n = 0
    · subst h0
      rw [if_pos rfl] at hd0
      rw [cnt_none (fun j => by simp only [decide_eq_false_iff_not]; exact fun z => z.2.1 hd0) 4]; rfl
    · rw [if_neg h0] at hd0
      rw [hd0]; exact cnt_wrS hn hS.1 (hS.2.2.2.2.1 (by omega))
  rw [h5, SRel_sI hn hS, hd0]
/-! digests -/
theorem dgW_congr {f g : Nat → Int32} : ∀ {n : Nat} {s : Int64}, (∀ k, k < n → f k = g k) → dgW f n s = dgW g n s
  | 0, _, _ => rfl
  | n + 1, s, h => by simp only [dgW]; rw [dgW_congr (fun k hk => h k (by omega)), h n (by omega)]
theorem dgP_congr {f g : Nat → Nat → Int32} : ∀ {n : Nat} {s : Int64}, (∀ q, q < n → ∀ k, f q k = g q k) → dgP f n s = dgP g n s
  | 0, _, _ => rfl
  | n + 1, s, h => by
    simp only [dgP]
    rw [dgP_congr (fun k hk => h k (by omega))]
    exact dgW_congr (fun k _ => h n (by omega) k)
theorem dgR_congr {f g f2 g2 : Nat → Int32} : ∀ {n : Nat} {s : Int64}, (∀ k, k < n → f k = g k) → (∀ k, k < n → f2 k = g2 k) → dgR f f2 n s = dgR g g2 n s
  | 0, _, _, _ => rfl
  | n + 1, s, h, h2 => by
    simp only [dgR]
    rw [dgR_congr (fun k hk => h k (by omega)) (fun k hk => h2 k (by omega)), h n (by omega), h2 n (by omega)]
theorem dgAll_congr {n ln : Nat} {ab ab2 : Nat → Nat → Int32} {ch ch2 : Nat → Int32} {c0 c1 c2 d0 d1 d2 : Int32} {r0 r1 t0 t1 : Nat → Int32} {nx ny : Int32} {lg co co2 : Nat → Int32} (hab : ∀ q, q < n → ∀ k, ab q k = ab2 q k) (hch : ∀ k, k < n → ch k = ch2 k) (hc : ¬ n = 0 → c0 = d0 ∧ c1 = d1 ∧ c2 = d2 ∧ (∀ k, k < 5 → r0 k = t0 k) ∧ (∀ k, k < 5 → r1 k = t1 k) ∧ nx = ny) (hco : ∀ k, k < 10 → co k = co2 k) : dgAll n ln ab ch c0 c1 c2 r0 r1 nx lg co = dgAll n ln ab2 ch2 d0 d1 d2 t0 t1 ny lg co2 := by
  unfold dgAll
  rw [dgW_congr hco]
  refine congrArg (fun z => dgW co2 10 (dgW lg ln z)) ?_
  by_cases h0 : n = 0
  · rw [dgM_0 h0, dgM_0 h0]; exact dgP_congr hab
  · obtain ⟨e1, e2, e3, e4, e5, e6⟩ := hc h0
    rw [dgM_1 h0, dgM_1 h0, e1, e2, e3, e6, dgP_congr hab, dgW_congr hch, dgR_congr e4 e5]
