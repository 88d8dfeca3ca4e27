/-! chains: what the queue tells at its end -/
theorem chB_I {kd : Nat → Nat} {n h mk : Nat} (hn : n ≤ 4) (hh : h < n) (hmk : mk < 32) : ∃ i dv pr pe fv, QueI kd n (32 * h + mk) i 0 (chB kd n h mk) dv pr pe fv ∧ (chB kd n h mk).2.2.2 ≤ i := by
  obtain ⟨i, ⟨dv, pr, pe, fv, h1⟩, h2⟩ := QueE_m (kd := kd) (n := n) (s := 32 * h + mk) hn 128 0 _ rfl (QueE_0 (by omega))
  exact ⟨i, dv, pr, pe, fv, h1, h2⟩
section CHW
variable {kd : Nat → Nat} {n s i : Nat} {b : BS} {dv pr pe fv : Nat → Nat}
theorem q_mono (h : QueI kd n s i 0 b dv pr pe fv) : ∀ (j2 j : Nat), j ≤ j2 → j2 < b.2.2.2 → dv j ≤ dv j2 := by
  obtain ⟨hA, hB, hC, hD, hE, hF, hG, hH⟩ := h
  intro j2
  induction j2 using Nat.strongRecOn with
  | _ j2 ih =>
    intro j hj hj2
    rcases Nat.eq_zero_or_pos j with z | z
    · subst z; rw [hA.2.2.2]; exact Nat.zero_le _
    · rcases Nat.lt_or_ge j j2 with y | y
      · obtain ⟨⟨a1, -, -, -, -, a6, -⟩, -⟩ := hE j z (by omega)
        obtain ⟨⟨b1, -, -, -, -, b6, -⟩, -⟩ := hE j2 (by omega) hj2
        have h3 : pr j ≤ pr j2 := by rcases hF j j2 z y hj2 with w | w <;> omega
        have h4 := ih (pr j2) b1 (pr j) h3 (by omega)
        omega
      · rw [show j = j2 by omega]; exact Nat.le_refl _
theorem q_walk (h : QueI kd n s i 0 b dv pr pe fv) : ∀ j, j < b.2.2.2 → walk kd n s (dv j) (b.2.2.1 j) := by
  obtain ⟨hA, hB, hC, hD, hE, hF, hG, hH⟩ := h
  intro j
  induction j using Nat.strongRecOn with
  | _ j ih =>
    intro hj
    rcases Nat.eq_zero_or_pos j with z | z
    · subst z; rw [hA.2.2.2, hA.2.2.1]; exact rfl
    · obtain ⟨⟨a1, -, a3, a4, a5, a6, -⟩, -⟩ := hE j z hj
      rw [a6]
      exact ⟨b.2.2.1 (pr j), ih (pr j) a1 (by omega), pe j, a3, a4, a5⟩
theorem q_near (hn : n ≤ 4) (hs : s < 128) (hi : b.2.2.2 ≤ i) (h : QueI kd n s i 0 b dv pr pe fv) : ∀ (d k : Nat), walk kd n s d k → ∃ j, j < b.2.2.2 ∧ b.2.2.1 j = k ∧ dv j ≤ d
  | 0, k, hw => by
    have h2 : k = s := hw
    exact ⟨0, h.1.1, by rw [h.1.2.2.1, h2], by rw [h.1.2.2.2]; exact Nat.le_refl _⟩
  | d + 1, k, hw => by
    obtain ⟨m, h1, r, hr, hrm, rfl⟩ := hw
    obtain ⟨j, hj, rfl, hd⟩ := q_near hn hs hi h d m h1
    have hm := h
    obtain ⟨hA, hB, hC, hD, hE, hF, hG, hH⟩ := h
    obtain ⟨j2, hj2, h5⟩ := hC _ (toP_lt (by omega)) (hG j r hj hr (Or.inl (by omega)) hrm)
    refine ⟨j2, hj2, h5, ?_⟩
    rcases Nat.eq_zero_or_pos j2 with z | z
    · subst z; rw [hA.2.2.2]; exact Nat.zero_le _
    · obtain ⟨⟨a1, -, a3, a4, a5, a6, -⟩, a8⟩ := hE j2 z hj2
      have h6 : pr j2 ≤ j := by
        rcases Nat.lt_or_ge j (pr j2) with y | y
        · exact absurd h5.symm (a8 j r y hr hrm)
        · exact y
      have h7 := q_mono hm j (pr j2) h6 hj
      omega
theorem q_dv (h : QueI kd n s i 0 b dv pr pe fv) {j j2 : Nat} (hj : j < b.2.2.2) (hj2 : j2 < b.2.2.2) (e : b.2.2.1 j = b.2.2.1 j2) : dv j = dv j2 := by
  have h1 := (h.2.1 j hj).2
  have h2 := (h.2.1 j2 hj2).2
  have h3 := h.1.2.1
  have e2 := h1.1.symm.trans ((congrArg b.1 e).trans h2.1)
  exact nI_inj (by have := h1.2.2; omega) (by have := h2.2.2; omega) e2
theorem q_far (hn : n ≤ 4) (hs : s < 128) (hi : b.2.2.2 ≤ i) (h : QueI kd n s i 0 b dv pr pe fv) {k : Nat} (hk : k < 128) : b.1 k = farT kd n s k := by
  have h3 := h.1.2.1
  by_cases e : b.1 k = -1
  · rw [e]
    rcases far_or (kd := kd) hn hs hk with z | ⟨d, z1, z2⟩
    · exact z.symm
    · obtain ⟨j, hj, hjk, -⟩ := q_near hn hs hi h d k (far_walk hn hs hk (by omega) z2)
      have h1 := (h.2.1 j hj).2
      rw [hjk, e] at h1
      exact absurd h1.1.symm (nI_neg1 (by have := h1.2.2; omega))
  · obtain ⟨j, hj, rfl⟩ := h.2.2.1 k hk e
    have h1 := (h.2.1 j hj).2
    obtain ⟨d, hd, hd2⟩ := walk_far hn hs (dv j) _ (by have := h1.2.2; omega) (q_walk h j hj)
    obtain ⟨j2, hj2, e2, hd3⟩ := q_near hn hs hi h d _ (far_walk hn hs hk (by have := h1.2.2; omega) hd2)
    have h4 := q_dv h hj2 hj e2
    rw [h1.1, hd2, show d = dv j by omega]
theorem q_fmono (h : QueI kd n s i 0 b dv pr pe fv) : ∀ (j2 j : Nat), 0 < j → j ≤ j2 → j2 < b.2.2.2 → dv j = dv j2 → fv j ≤ fv j2 := by
  obtain ⟨hA, hB, hC, hD, hE, hF, hG, hH⟩ := h
  intro j2
  induction j2 using Nat.strongRecOn with
  | _ j2 ih =>
    intro j h0 hj hj2 hd
    rcases Nat.lt_or_ge j j2 with y | y
    · obtain ⟨⟨a1, -, -, -, -, a6, a7⟩, -⟩ := hE j h0 (by omega)
      obtain ⟨⟨b1, -, -, -, -, b6, b7⟩, -⟩ := hE j2 (by omega) hj2
      rcases hF j j2 h0 y hj2 with w | ⟨w1, w2⟩
      · have hz : 0 < pr j := by
          rcases Nat.eq_zero_or_pos (pr j) with v | v
          · have h9 := (hE (pr j2) (by omega) (by omega)).1.2.2.2.2.2.1
            rw [v, hA.2.2.2] at a6
            omega
          · exact v
        rw [a7, b7, if_neg (by omega), if_neg (by omega)]
        exact ih (pr j2) b1 (pr j) hz (by omega) (by omega) (by omega)
      · rw [a7, b7, w1]
        split
        · omega
        · exact Nat.le_refl _
    · rw [show j = j2 by omega]; exact Nat.le_refl _
theorem q_first (h : QueI kd n s i 0 b dv pr pe fv) : ∀ j, 0 < j → j < b.2.2.2 → fv j < n ∧ fv j ≠ s / 32 ∧ ∃ d, dv j = d + 1 ∧ walk kd n (toP kd (fv j) s) d (b.2.2.1 j) := by
  obtain ⟨hA, hB, hC, hD, hE, hF, hG, hH⟩ := h
  intro j
  induction j using Nat.strongRecOn with
  | _ j ih =>
    intro h0 hj
    obtain ⟨⟨a1, -, a3, a4, a5, a6, a7⟩, -⟩ := hE j h0 hj
    by_cases z : pr j = 0
    · rw [if_pos z] at a7
      rw [z, hA.2.2.1] at a4 a5
      rw [z, hA.2.2.2] at a6
      rw [a7]
      exact ⟨a3, a4, 0, a6, a5⟩
    · rw [if_neg z] at a7
      obtain ⟨c1, c2, d, c3, c4⟩ := ih (pr j) a1 (by omega) (by omega)
      rw [a7]
      exact ⟨c1, c2, d + 1, by omega, b.2.2.1 (pr j), c4, pe j, a3, a4, a5⟩
theorem q_least (hn : n ≤ 4) (hs : s < 128) (hi : b.2.2.2 ≤ i) (h : QueI kd n s i 0 b dv pr pe fv) : ∀ (d j q : Nat), 0 < j → j < b.2.2.2 → dv j = d + 1 → q < n → q ≠ s / 32 → walk kd n (toP kd q s) d (b.2.2.1 j) → fv j ≤ q
  | 0, j, q, h0, hj, hd, hq, hqs, hw => by
    have h2 : b.2.2.1 j = toP kd q s := hw
    obtain ⟨hA, hB, hC, hD, hE, hF, hG, hH⟩ := h
    obtain ⟨⟨a1, -, a3, a4, a5, a6, a7⟩, -⟩ := hE j h0 hj
    have hz : pr j = 0 := by
      rcases Nat.eq_zero_or_pos (pr j) with v | v
      · exact v
      · have h9 := (hE (pr j) v (by omega)).1.2.2.2.2.2.1
        omega
    rw [if_pos hz] at a7
    rw [hz, hA.2.2.1, h2] at a5
    have h8 : toP kd q s / 32 = toP kd (pe j) s / 32 := congrArg (fun z => z / 32) a5
    rw [toP_div, toP_div] at h8
    omega
  | d + 1, j, q, h0, hj, hd, hq, hqs, hw => by
    obtain ⟨m, h1, r, hr, hrm, h2⟩ := hw
    have hedge : edge kd n s (toP kd q s) := ⟨q, hq, hqs, rfl⟩
    obtain ⟨j3, hj3, rfl, hd3⟩ := q_near hn hs hi h (d + 1) m (walk_cons hedge d m h1)
    have hw2 : walk kd n s (dv j3 + 1) (b.2.2.1 j) := ⟨b.2.2.1 j3, q_walk h j3 hj3, r, hr, hrm, h2⟩
    obtain ⟨j4, hj4, e4, hd4⟩ := q_near hn hs hi h _ _ hw2
    have e5 := q_dv h hj4 hj e4
    have hj30 : 0 < j3 := by
      rcases Nat.eq_zero_or_pos j3 with v | v
      · subst v; have := h.1.2.2.2; omega
      · exact v
    have ih := q_least hn hs hi h d j3 q hj30 hj3 (by omega) hq hqs h1
    have hm := h
    obtain ⟨hA, hB, hC, hD, hE, hF, hG, hH⟩ := h
    obtain ⟨⟨a1, -, a3, a4, a5, a6, a7⟩, a8⟩ := hE j h0 hj
    have hpj : pr j ≤ j3 := by
      rcases Nat.lt_or_ge j3 (pr j) with y | y
      · exact absurd h2.symm (a8 j3 r y hr hrm)
      · exact y
    have hz : ¬ pr j = 0 := fun z => by rw [z, hA.2.2.2] at a6; omega
    rw [if_neg hz] at a7
    have h9 := q_fmono hm j3 (pr j) (by omega) hpj hj3 (by omega)
    omega
end CHW
theorem fpS_eq {kd : Nat → Nat} {n h mk goal v : Nat} {few : Int32} (hv : v < n) (hn : n ≤ 4) (h1 : ¬ v = h ∧ farT kd n (32 * v + touch (kd v) v mk) goal = few - nI 1) (h2 : ∀ q, q < v → ¬ (¬ q = h ∧ farT kd n (32 * q + touch (kd q) q mk) goal = few - nI 1)) : fpS kd n h mk goal few n = nI v := by
  have h3 : ∀ q, q ≤ v → fpS kd n h mk goal few q = -1 := by
    intro q
    induction q with
    | zero => intro _; rfl
    | succ q ih =>
      intro hq
      have h4 := h2 q (by omega)
      refine fpS_no (ih (by omega)) ?_
      by_cases e : q = h
      · exact Or.inl e
      · exact Or.inr (fun z => h4 ⟨e, z⟩)
  exact fpS_at (a := v + 1 + (n - (v + 1))) (by omega) (fpS_hit (by omega) (h3 v (Nat.le_refl v)) h1.1 h1.2 _)
theorem chain_eq {kd : Nat → Nat} {n h mk : Nat} {x y w : Int32} (hn : n ≤ 4) (hh : 0 < n → h < n) (hmk : mk < 32) : chR kd n h mk x y w.toInt = chRM kd n h mk x y w := by
  unfold chR chRM
  by_cases hx : inR x n
  · rw [if_pos hx, if_pos hx]
    by_cases hy : inR y 32 ∧ 0 ≤ w.toInt ∧ w.toInt ≤ 1
    · rw [if_pos hy, if_pos hy]
      obtain ⟨j, hj, rfl⟩ := inR_ex hx (by omega)
      obtain ⟨g, hg, rfl⟩ := inR_ex hy.1 (by omega)
      rw [nI_clamp (by omega), nI_clamp (by omega)]
      have hh2 : h < n := hh (by omega)
      have hs : 32 * h + mk < 128 := by omega
      have hgoal : 32 * j + g < 128 := by omega
      obtain ⟨i, dv, pr, pe, fv, hQ, hi⟩ := chB_I (kd := kd) hn hh2 hmk
      have hfar : ∀ k, k < 128 → (chB kd n h mk).1 k = farT kd n (32 * h + mk) k := fun k hk => q_far hn hs hi hQ hk
      unfold chM
      by_cases hw : w = 0
      · rw [if_pos hw, if_pos (by rw [hw]; rfl)]; exact hfar _ hgoal
      · rw [if_neg hw, if_neg (show ¬ w.toInt = 0 from fun z => hw (Int32.toInt_inj.mp z)), ← hfar _ hgoal]
        generalize 32 * j + g = goal at *
        by_cases e : (chB kd n h mk).1 goal = -1
        · rw [e, if_pos (by decide)]
          exact hQ.2.2.2.2.2.2.2 goal hgoal e
        · obtain ⟨j2, hj2, rfl⟩ := hQ.2.2.1 goal hgoal e
          have hb := (hQ.2.1 j2 hj2).2
          have hc := hQ.1.2.1
          rw [hb.1, hb.2.1]
          rcases Nat.eq_zero_or_pos j2 with z | z
          · subst z
            rw [if_pos rfl, hQ.1.2.2.2, if_pos (by decide)]
          · obtain ⟨f1, f2, d, f3, f4⟩ := q_first hQ j2 z hj2
            have hd := hb.2.2
            rw [if_neg (by omega), if_neg (by rw [nT (by omega)]; omega)]
            have hsd : (32 * h + mk) / 32 = h := by omega
            have hsm : ∀ q, toP kd q (32 * h + mk) = 32 * q + touch (kd q) q mk := fun q => by unfold toP; rw [show (32 * h + mk) % 32 = mk by omega]
            rw [hsd] at f2
            have hfew : nI (dv j2) - nI 1 = nI d := by rw [f3]; exact nI_sub1 d
            have key : ∀ q, q < n → ¬ q = h → (farT kd n (32 * q + touch (kd q) q mk) ((chB kd n h mk).2.2.1 j2) = nI (dv j2) - nI 1 ↔ walk kd n (toP kd q (32 * h + mk)) d ((chB kd n h mk).2.2.1 j2)) := by
              intro q hq hqh
              rw [hfew, ← hsm q]
              have hs2 : toP kd q (32 * h + mk) < 128 := toP_lt (by omega)
              constructor
              · intro z9; exact far_walk hn hs2 hgoal (by omega) z9
              · intro z9
                obtain ⟨e1, e2, e3⟩ := walk_far hn hs2 d _ (by omega) z9
                have hw3 := walk_cons (⟨q, hq, by rw [hsd]; exact hqh, rfl⟩ : edge kd n (32 * h + mk) (toP kd q (32 * h + mk))) e1 _ (far_walk hn hs2 hgoal (by omega) e3)
                obtain ⟨j5, hj5, e5, hd5⟩ := q_near hn hs hi hQ _ _ hw3
                have e6 := q_dv hQ hj5 hj2 e5
                rw [e3, show e1 = d by omega]
            refine (fpS_eq f1 hn ⟨f2, (key _ f1 f2).mpr f4⟩ ?_).symm
            intro q hq ⟨g1, g2⟩
            have h9 := q_least hn hs hi hQ d j2 q z hj2 f3 (by omega) (by rw [hsd]; exact g1) ((key q (by omega) g1).mp g2)
            omega
    · rw [if_neg hy, if_neg hy]
  · rw [if_neg hx, if_neg hx]
