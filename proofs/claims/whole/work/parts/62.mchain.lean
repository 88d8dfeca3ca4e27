/-! chains: the class' queue and the reference's layers tell the same -/
def edge (kd : Nat → Nat) (n k k2 : Nat) : Prop := ∃ q, q < n ∧ q ≠ k / 32 ∧ k2 = toP kd q k
def walk (kd : Nat → Nat) (n s : Nat) : Nat → Nat → Prop
  | 0, k => k = s
  | d + 1, k => ∃ j, walk kd n s d j ∧ edge kd n j k
theorem edge_lt {kd : Nat → Nat} {n k k2 : Nat} (hn : n ≤ 4) (h : edge kd n k k2) : k2 < 128 := by
  obtain ⟨q, h1, -, rfl⟩ := h
  exact toP_lt (by omega)
theorem walk_lt {kd : Nat → Nat} {n s : Nat} (hn : n ≤ 4) (hs : s < 128) : ∀ (d k : Nat), walk kd n s d k → k < 128
  | 0, k, h => by have h2 : k = s := h; omega
  | d + 1, k, h => by obtain ⟨j, -, h2⟩ := h; exact edge_lt hn h2
theorem walk_cons {kd : Nat → Nat} {n s x : Nat} (hx : edge kd n s x) : ∀ (d k : Nat), walk kd n x d k → walk kd n s (d + 1) k
  | 0, k, h => by have h2 : k = x := h; subst h2; exact ⟨s, rfl, hx⟩
  | d + 1, k, h => by obtain ⟨j, h1, h2⟩ := h; exact ⟨j, walk_cons hx d j h1, h2⟩
theorem toP_div {kd : Nat → Nat} {q k : Nat} : toP kd q k / 32 = q := by
  have h := touch_lt (k := kd q) (i := q) (m := k % 32) (by omega)
  unfold toP; omega
theorem nI_inj {a b : Nat} (ha : a < 2 ^ 31) (hb : b < 2 ^ 31) (h : nI a = nI b) : a = b := (nI_eq ha hb).mp h
def FarI (kd : Nat → Nat) (n s t k q : Nat) (f : Nat → Int32) : Prop :=
  f s = nI 0 ∧ (∀ j, j < 128 → f j = -1 ∨ ∃ d, d ≤ t + 1 ∧ f j = nI d) ∧ (∀ j d, j < 128 → d < 2 ^ 31 → f j = nI d → walk kd n s d j) ∧
  (∀ j d r, j < 128 → r < n → r ≠ j / 32 → f j = nI d → (d < t ∨ (d = t ∧ j < k) ∨ (d = t ∧ j = k ∧ r < q)) → ∃ e, e ≤ d + 1 ∧ f (toP kd r j) = nI e)
theorem FarI_p {kd : Nat → Nat} {n s t k q : Nat} {f0 : Nat → Int32} (hn : n ≤ 4) (ht : t < 128) (hk : k < 128) (hq : q < n) (h : FarI kd n s t k q (lfP kd t k q f0)) : FarI kd n s t k (q + 1) (lfP kd t k (q + 1) f0) := by
  have hto : toP kd q k < 128 := toP_lt (by omega)
  simp only [lfP]
  generalize lfP kd t k q f0 = f at *
  obtain ⟨h1, h2, h3, h4⟩ := h
  by_cases hc : f k = nI t
  · rw [if_pos hc]
    by_cases hd : ¬ q = k / 32 ∧ f (toP kd q k) = -1
    · rw [if_pos hd]
      have hw : walk kd n s (t + 1) (toP kd q k) := ⟨k, h3 k t hk (by omega) hc, q, hq, hd.1, rfl⟩
      refine ⟨?_, ?_, ?_, ?_⟩
      · rw [upd_n (fun z => by rw [← z, h1] at hd; exact nI_neg1 (by omega) hd.2)]; exact h1
      · intro j hj
        by_cases e : j = toP kd q k
        · subst e; exact Or.inr ⟨t + 1, Nat.le_refl _, upd_s⟩
        · rw [upd_n e]; exact h2 j hj
      · intro j d hj hd2 hf
        by_cases e : j = toP kd q k
        · subst e
          rw [upd_s] at hf
          have := nI_inj (by omega) hd2 hf
          subst this; exact hw
        · rw [upd_n e] at hf; exact h3 j d hj hd2 hf
      · intro j d r hj hr hrj hf hcnd
        by_cases e : j = toP kd q k
        · subst e
          rw [upd_s] at hf
          have := nI_inj (by omega) (by omega) hf
          omega
        · rw [upd_n e] at hf
          by_cases e2 : toP kd r j = toP kd q k
          · rw [e2, upd_s]
            by_cases e3 : d = t
            · exact ⟨t + 1, by omega, rfl⟩
            · obtain ⟨e', h5, h6⟩ := h4 j d r hj hr hrj hf (by omega)
              rw [e2, hd.2] at h6
              exact absurd h6.symm (nI_neg1 (by omega))
          · rw [upd_n e2]
            refine h4 j d r hj hr hrj hf ?_
            rcases hcnd with z | z | ⟨z1, z2, z3⟩
            · exact Or.inl z
            · exact Or.inr (Or.inl z)
            · refine Or.inr (Or.inr ⟨z1, z2, ?_⟩)
              rcases Nat.lt_or_ge r q with y | y
              · exact y
              · have : r = q := by omega
                subst this; subst z2
                exact absurd rfl e2
    · rw [if_neg hd]
      refine ⟨h1, h2, h3, ?_⟩
      intro j d r hj hr hrj hf hcnd
      rcases hcnd with z | z | ⟨z1, z2, z3⟩
      · exact h4 j d r hj hr hrj hf (Or.inl z)
      · exact h4 j d r hj hr hrj hf (Or.inr (Or.inl z))
      · rcases Nat.lt_or_ge r q with y | y
        · exact h4 j d r hj hr hrj hf (Or.inr (Or.inr ⟨z1, z2, y⟩))
        · have : r = q := by omega
          subst this; subst z2; subst z1
          rcases h2 (toP kd r j) hto with y | ⟨e, y1, y2⟩
          · exact absurd ⟨hrj, y⟩ hd
          · exact ⟨e, y1, y2⟩
  · rw [if_neg hc]
    refine ⟨h1, h2, h3, ?_⟩
    intro j d r hj hr hrj hf hcnd
    rcases hcnd with z | z | ⟨z1, z2, z3⟩
    · exact h4 j d r hj hr hrj hf (Or.inl z)
    · exact h4 j d r hj hr hrj hf (Or.inr (Or.inl z))
    · subst z2; subst z1; exact absurd hf hc
theorem FarI_P {kd : Nat → Nat} {n s t k : Nat} {f0 : Nat → Int32} (hn : n ≤ 4) (ht : t < 128) (hk : k < 128) (h : FarI kd n s t k 0 f0) : ∀ q, q ≤ n → FarI kd n s t k q (lfP kd t k q f0)
  | 0, _ => h
  | q + 1, hq => FarI_p hn ht hk hq (FarI_P hn ht hk h q (by omega))
theorem FarI_K {kd : Nat → Nat} {n s t : Nat} {f0 : Nat → Int32} (hn : n ≤ 4) (ht : t < 128) (h : FarI kd n s t 0 0 f0) : ∀ k, k ≤ 128 → FarI kd n s t k 0 (lfK kd n t k f0)
  | 0, _ => h
  | k + 1, hk => by
    have h9 := FarI_P hn ht hk (FarI_K hn ht h k (by omega)) n (Nat.le_refl n)
    obtain ⟨h1, h2, h3, h4⟩ := h9
    refine ⟨h1, h2, h3, ?_⟩
    intro j d r hj hr hrj hf hcnd
    refine h4 j d r hj hr hrj hf ?_
    rcases hcnd with z | ⟨z1, z2⟩ | ⟨z1, z2, z3⟩
    · exact Or.inl z
    · rcases Nat.lt_or_ge j k with y | y
      · exact Or.inr (Or.inl ⟨z1, y⟩)
      · exact Or.inr (Or.inr ⟨z1, by omega, hr⟩)
    · omega
theorem FarI_S {kd : Nat → Nat} {n s : Nat} {f0 : Nat → Int32} (hn : n ≤ 4) (h : FarI kd n s 0 0 0 f0) : ∀ t, t ≤ 128 → FarI kd n s t 0 0 (lfS kd n t f0)
  | 0, _ => h
  | t + 1, ht => by
    have h9 := FarI_K hn ht (FarI_S hn h t (by omega)) 128 (Nat.le_refl _)
    obtain ⟨h1, h2, h3, h4⟩ := h9
    refine ⟨h1, ?_, h3, ?_⟩
    · intro j hj
      rcases h2 j hj with z | ⟨d, z1, z2⟩
      · exact Or.inl z
      · exact Or.inr ⟨d, by omega, z2⟩
    · intro j d r hj hr hrj hf hcnd
      refine h4 j d r hj hr hrj hf ?_
      rcases hcnd with z | ⟨z1, z2⟩ | ⟨z1, z2, z3⟩
      · rcases Nat.lt_or_ge d t with y | y
        · exact Or.inl y
        · exact Or.inr (Or.inl ⟨by omega, hj⟩)
      · omega
      · omega
theorem FarI_0 {kd : Nat → Nat} {n s : Nat} (hs : s < 128) : FarI kd n s 0 0 0 (upd (fun _ => (-1 : Int32)) s (nI 0)) := by
  refine ⟨upd_s, ?_, ?_, ?_⟩
  · intro j hj
    by_cases e : j = s
    · subst e; exact Or.inr ⟨0, by omega, upd_s⟩
    · rw [upd_n e]; exact Or.inl rfl
  · intro j d hj hd hf
    by_cases e : j = s
    · subst e; rw [upd_s] at hf
      have := nI_inj (by omega) hd hf
      subst this; exact rfl
    · rw [upd_n e] at hf; exact absurd hf.symm (nI_neg1 hd)
  · intro j d r hj hr hrj hf hcnd
    omega
theorem far_I {kd : Nat → Nat} {n s : Nat} (hn : n ≤ 4) (hs : s < 128) : FarI kd n s 128 0 0 (farT kd n s) := FarI_S hn (FarI_0 hs) 128 (Nat.le_refl _)
theorem far_walk {kd : Nat → Nat} {n s k d : Nat} (hn : n ≤ 4) (hs : s < 128) (hk : k < 128) (hd : d < 2 ^ 31) (h : farT kd n s k = nI d) : walk kd n s d k := (far_I hn hs).2.2.1 k d hk hd h
theorem walk_far {kd : Nat → Nat} {n s : Nat} (hn : n ≤ 4) (hs : s < 128) : ∀ (d k : Nat), d ≤ 128 → walk kd n s d k → ∃ e, e ≤ d ∧ farT kd n s k = nI e
  | 0, k, _, h => by
    have h2 : k = s := h
    subst h2; exact ⟨0, Nat.le_refl _, (far_I hn hs).1⟩
  | d + 1, k, hd, h => by
    obtain ⟨j, h1, q, hq, hqj, rfl⟩ := h
    obtain ⟨e, h3, h4⟩ := walk_far hn hs d j (by omega) h1
    obtain ⟨e2, h5, h6⟩ := (far_I hn hs).2.2.2 j e q (walk_lt hn hs d j h1) hq hqj h4 (Or.inl (by omega))
    exact ⟨e2, by omega, h6⟩
theorem far_or {kd : Nat → Nat} {n s k : Nat} (hn : n ≤ 4) (hs : s < 128) (hk : k < 128) : farT kd n s k = -1 ∨ ∃ d, d ≤ 129 ∧ farT kd n s k = nI d := (far_I hn hs).2.1 k hk
/-! counting -/
theorem cnt_lt {P : Nat → Bool} {k : Nat} (hP : P k = false) : ∀ {m : Nat}, k < m → cnt P m < m
  | 0, h => absurd h (Nat.not_lt_zero k)
  | m + 1, h => by
    simp only [cnt]
    have h1 := cnt_le P m
    by_cases e : k = m
    · subst e; rw [hP]; simp only [Bool.false_eq_true, if_false]; omega
    · have h2 := cnt_lt hP (show k < m by omega)
      split <;> omega
theorem cnt_set {P R : Nat → Bool} {k : Nat} (hP : P k = false) (hR : R k = true) (ho : ∀ j, j ≠ k → R j = P j) : ∀ {m : Nat}, k < m → cnt R m = cnt P m + 1
  | 0, h => absurd h (Nat.not_lt_zero k)
  | m + 1, h => by
    simp only [cnt]
    by_cases e : k = m
    · subst e
      have h2 : cnt R k = cnt P k := cnt_congr (fun i hi => ho i (by omega))
      rw [hP, hR, h2]; simp
    · have h2 := cnt_set hP hR ho (show k < m by omega)
      rw [ho m (fun z => e z.symm), h2]; omega
theorem cnt_none {P : Nat → Bool} (h : ∀ j, P j = false) : ∀ m : Nat, cnt P m = 0
  | 0 => rfl
  | m + 1 => by simp only [cnt]; rw [h m, cnt_none h m]; simp
/-! the queue -/
def QueI (kd : Nat → Nat) (n s i q : Nat) (b : BS) (dv pr pe fv : Nat → Nat) : Prop :=
  (0 < b.2.2.2 ∧ b.2.2.2 ≤ 128 ∧ b.2.2.1 0 = s ∧ dv 0 = 0) ∧
  (∀ j, j < b.2.2.2 → b.2.2.1 j < 128 ∧ b.1 (b.2.2.1 j) = nI (dv j) ∧ b.2.1 (b.2.2.1 j) = (if j = 0 then -1 else nI (fv j)) ∧ dv j ≤ j) ∧
  (∀ k, k < 128 → b.1 k ≠ -1 → ∃ j, j < b.2.2.2 ∧ b.2.2.1 j = k) ∧
  cnt (fun k => decide (b.1 k ≠ -1)) 128 = b.2.2.2 ∧
  (∀ j, 0 < j → j < b.2.2.2 → (pr j < j ∧ (pr j < i ∨ (pr j = i ∧ pe j < q)) ∧ pe j < n ∧ pe j ≠ b.2.2.1 (pr j) / 32 ∧ b.2.2.1 j = toP kd (pe j) (b.2.2.1 (pr j)) ∧ dv j = dv (pr j) + 1 ∧ fv j = (if pr j = 0 then pe j else fv (pr j))) ∧ ∀ x r, x < pr j → r < n → r ≠ b.2.2.1 x / 32 → toP kd r (b.2.2.1 x) ≠ b.2.2.1 j) ∧
  (∀ j j2, 0 < j → j < j2 → j2 < b.2.2.2 → pr j < pr j2 ∨ (pr j = pr j2 ∧ pe j < pe j2)) ∧
  (∀ j r, j < b.2.2.2 → r < n → (j < i ∨ (j = i ∧ r < q)) → r ≠ b.2.2.1 j / 32 → b.1 (toP kd r (b.2.2.1 j)) ≠ -1) ∧
  (∀ k, k < 128 → b.1 k = -1 → b.2.1 k = -1)
def QueE (kd : Nat → Nat) (n s i q : Nat) (b : BS) : Prop := ∃ dv pr pe fv : Nat → Nat, QueI kd n s i q b dv pr pe fv
theorem QueE_skip {kd : Nat → Nat} {n s i q : Nat} {b : BS} (h : QueE kd n s i q b) (hq : q = b.2.2.1 i / 32) : QueE kd n s i (q + 1) b := by
  obtain ⟨dv, pr, pe, fv, hA, hB, hC, hD, hE, hF, hG, hH⟩ := h
  refine ⟨dv, pr, pe, fv, hA, hB, hC, hD, ?_, hF, ?_, hH⟩
  · intro j h0 hj
    obtain ⟨⟨a1, a2, a3⟩, a4⟩ := hE j h0 hj
    exact ⟨⟨a1, by omega, a3⟩, a4⟩
  · intro j r hj hr hc hne
    by_cases e : j = i ∧ r = q
    · obtain ⟨rfl, rfl⟩ := e; exact absurd hq hne
    · exact hG j r hj hr (by omega) hne
theorem QueE_old {kd : Nat → Nat} {n s i q : Nat} {b : BS} (h : QueE kd n s i q b) (hm : b.1 (toP kd q (b.2.2.1 i)) ≠ -1) : QueE kd n s i (q + 1) b := by
  obtain ⟨dv, pr, pe, fv, hA, hB, hC, hD, hE, hF, hG, hH⟩ := h
  refine ⟨dv, pr, pe, fv, hA, hB, hC, hD, ?_, hF, ?_, hH⟩
  · intro j h0 hj
    obtain ⟨⟨a1, a2, a3⟩, a4⟩ := hE j h0 hj
    exact ⟨⟨a1, by omega, a3⟩, a4⟩
  · intro j r hj hr hc hne
    by_cases e : j = i ∧ r = q
    · obtain ⟨rfl, rfl⟩ := e; exact hm
    · exact hG j r hj hr (by omega) hne
theorem uN_s {f : Nat → Nat} {k v : Nat} : updN f k v k = v := if_pos rfl
theorem uN_n {f : Nat → Nat} {k v j : Nat} (h : j ≠ k) : updN f k v j = f j := if_neg h
theorem QueE_new {kd : Nat → Nat} {n s i q : Nat} {pa fp : Nat → Int32} {qu : Nat → Nat} {qn : Nat} {fur fi : Int32} (hn : n ≤ 4) (hq : q < n) (hi : i < qn) (hne : q ≠ qu i / 32) (h : QueE kd n s i q (pa, fp, qu, qn)) (hm : pa (toP kd q (qu i)) = -1) (hlt : qn < 128)
    (hfur : fur = pa (qu i) + nI 1) (hfi : fi = if fur = nI 1 then nI q else fp (qu i)) : QueE kd n s i (q + 1) (upd pa (toP kd q (qu i)) fur, upd fp (toP kd q (qu i)) fi, (fun j => if j = qn then toP kd q (qu i) else qu j), qn + 1) := by
  obtain ⟨dv, pr, pe, fv, hA, hB, hC, hD, hE, hF, hG, hH⟩ := h
  have hto : toP kd q (qu i) < 128 := toP_lt (by omega)
  obtain ⟨hA1, hA2, hA3, hA4⟩ := hA
  dsimp only at hA1 hA2 hA3 hB hC hD hE hF hG hH
  have hbi := hB i hi
  have hnq : ∀ j, j < qn → qu j ≠ toP kd q (qu i) := by
    intro j hj e
    have h1 := (hB j hj).2.1
    rw [e, hm] at h1
    have := (hB j hj).2.2.2
    exact nI_neg1 (by omega) h1.symm
  have hf1 : fur = nI (dv i + 1) := by rw [hfur, hbi.2.1]; exact nI_add _ _
  have hdv0 : dv i = 0 → i = 0 := by
    intro z
    rcases Nat.eq_zero_or_pos i with y | y
    · exact y
    · have := (hE i y hi).1.2.2.2.2.2.1; omega
  refine ⟨updN dv qn (dv i + 1), updN pr qn i, updN pe qn q, updN fv qn (if i = 0 then q else fv i), ⟨by show 0 < qn + 1; omega, by show qn + 1 ≤ 128; omega, ?_, ?_⟩, ?_, ?_, ?_, ?_, ?_, ?_, ?_⟩
  · show (if 0 = qn then _ else _) = s
    rw [if_neg (by omega)]; exact hA3
  · rw [uN_n (by omega)]; exact hA4
  · intro j hj
    dsimp only at hj ⊢
    by_cases e : j = qn
    · subst e
      rw [if_pos rfl, uN_s, uN_s, upd_s, upd_s, if_neg (by omega)]
      refine ⟨hto, hf1, ?_, by have := hbi.2.2.2; omega⟩
      rw [hfi, hf1]
      by_cases z : i = 0
      · subst z; rw [hA4, if_pos rfl, if_pos rfl]
      · rw [if_neg (fun y => by have := nI_inj (by have := hbi.2.2.2; omega) (by omega) y; exact z (hdv0 (by omega))), if_neg z, hbi.2.2.1, if_neg z]
    · rw [if_neg e, uN_n e, uN_n e, upd_n (hnq j (by omega)), upd_n (hnq j (by omega))]
      exact hB j (by omega)
  · intro k hk hmk
    dsimp only at hmk ⊢
    by_cases e : k = toP kd q (qu i)
    · exact ⟨qn, by omega, by rw [if_pos rfl, e]⟩
    · rw [upd_n e] at hmk
      obtain ⟨j, h1, h2⟩ := hC k hk hmk
      exact ⟨j, by omega, by rw [if_neg (by omega)]; exact h2⟩
  · dsimp only
    refine (cnt_set (P := fun k => decide (pa k ≠ -1)) (R := fun k => decide (upd pa (toP kd q (qu i)) fur k ≠ -1)) (k := toP kd q (qu i)) ?_ ?_ ?_ hto).trans (congrArg (fun z => z + 1) hD)
    · simp [hm]
    · refine decide_eq_true ?_
      rw [upd_s, hf1]
      have := hbi.2.2.2
      exact nI_neg1 (by omega)
    · intro j hj
      exact decide_eq_decide.mpr (by rw [upd_n hj])
  · intro j h0 hj
    dsimp only at hj ⊢
    by_cases e : j = qn
    · subst e
      rw [if_pos rfl, uN_s, uN_s, uN_s, uN_s, if_neg (show ¬ i = j by omega), uN_n (show i ≠ j by omega)]
      refine ⟨⟨hi, Or.inr ⟨rfl, by omega⟩, hq, hne, rfl, rfl, ?_⟩, ?_⟩
      · by_cases z : i = 0
        · rw [if_pos z, if_pos z]
        · rw [if_neg z, if_neg z, uN_n (by omega)]
      · intro x r hx hr hrx
        rw [if_neg (by omega)] at hrx ⊢
        intro e2
        have h9 := hG x r (by omega) hr (Or.inl hx) hrx
        rw [e2] at h9; exact h9 hm
    · obtain ⟨⟨a1, a2, a3, a4, a5, a6, a7⟩, a8⟩ := hE j h0 (by omega)
      rw [if_neg e, uN_n e, uN_n e, uN_n e, uN_n e, if_neg (show ¬ pr j = qn by omega), uN_n (show pr j ≠ qn by omega), uN_n (show pr j ≠ qn by omega)]
      refine ⟨⟨a1, by omega, a3, a4, a5, a6, a7⟩, ?_⟩
      intro x r hx hr hrx
      rw [if_neg (by omega)] at hrx ⊢
      exact a8 x r hx hr hrx
  · intro j j2 h0 hjj hj2
    dsimp only at hj2
    rw [uN_n (show j ≠ qn by omega), uN_n (show j ≠ qn by omega)]
    by_cases e : j2 = qn
    · subst e
      rw [uN_s, uN_s]
      have h9 := (hE j h0 (by omega)).1.2.1
      omega
    · rw [uN_n e, uN_n e]; exact hF j j2 h0 hjj (by omega)
  · intro j r hj hr hc hrj
    dsimp only at hj hrj ⊢
    by_cases e : j = qn
    · omega
    · rw [if_neg e] at hrj ⊢
      by_cases e2 : toP kd r (qu j) = toP kd q (qu i)
      · rw [e2, upd_s, hf1]
        have := hbi.2.2.2
        exact nI_neg1 (by omega)
      · rw [upd_n e2]
        refine hG j r (by omega) hr ?_ hrj
        rcases hc with z | ⟨z1, z2⟩
        · exact Or.inl z
        · refine Or.inr ⟨z1, ?_⟩
          rcases Nat.lt_or_ge r q with y | y
          · exact y
          · have : r = q := by omega
            subst this; subst z1; exact absurd rfl e2
  · intro k hk hmk
    dsimp only at hmk ⊢
    by_cases e : k = toP kd q (qu i)
    · subst e
      rw [upd_s, hf1] at hmk
      have := hbi.2.2.2
      exact absurd hmk (nI_neg1 (by omega))
    · rw [upd_n e] at hmk ⊢; exact hH k hk hmk
theorem QueE_reach {kd : Nat → Nat} {n s i q : Nat} {b : BS} {fur fi : Int32} (hn : n ≤ 4) (hq : q < n) (hi : i < b.2.2.2) (hne : q ≠ b.2.2.1 i / 32) (h : QueE kd n s i q b) (hfur : fur = b.1 (b.2.2.1 i) + nI 1) (hfi : fi = if fur = nI 1 then nI q else b.2.1 (b.2.2.1 i)) :
    QueE kd n s i (q + 1) (reachB (toP kd q (b.2.2.1 i)) fur fi b) ∧ i < (reachB (toP kd q (b.2.2.1 i)) fur fi b).2.2.2 ∧ (reachB (toP kd q (b.2.2.1 i)) fur fi b).2.2.1 i = b.2.2.1 i ∧ (reachB (toP kd q (b.2.2.1 i)) fur fi b).1 (b.2.2.1 i) = b.1 (b.2.2.1 i) := by
  obtain ⟨pa, fp, qu, qn⟩ := b
  dsimp only at hi hne hfur hfi ⊢
  unfold reachB
  dsimp only
  by_cases hm : pa (toP kd q (qu i)) = -1
  · have hlt : qn < 128 := by
      obtain ⟨dv, pr, pe, fv, hA, hB, hC, hD, -⟩ := h
      have h1 := cnt_lt (P := fun k => decide (pa k ≠ -1)) (k := toP kd q (qu i)) (by simp [hm]) (toP_lt (by omega) : toP kd q (qu i) < 128)
      dsimp only at hD
      rw [hD] at h1; exact h1
    have hk : qu i ≠ toP kd q (qu i) := by
      obtain ⟨dv, pr, pe, fv, hA, hB, -⟩ := h
      intro e
      have h1 := (hB i hi).2.1
      have h2 := (hB i hi).2.2.2
      dsimp only at h1 hA
      rw [e, hm] at h1
      exact nI_neg1 (by have := hA.2.1; omega) h1.symm
    rw [if_pos ⟨hm, hlt⟩]
    exact ⟨QueE_new hn hq hi hne h hm hlt hfur hfi, by show i < qn + 1; omega, by show (if i = qn then _ else _) = _; rw [if_neg (by omega)], upd_n hk⟩
  · rw [if_neg (fun z => hm z.1)]
    exact ⟨QueE_old h hm, hi, rfl, rfl⟩
theorem QueE_rf {kd : Nat → Nat} {n s i : Nat} {b : BS} (hn : n ≤ 4) (hi : i < b.2.2.2) (h : QueE kd n s i 0 b) : ∀ q, q ≤ n → QueE kd n s i q (rfB kd (b.2.2.1 i) (b.1 (b.2.2.1 i) + nI 1) q b) ∧ i < (rfB kd (b.2.2.1 i) (b.1 (b.2.2.1 i) + nI 1) q b).2.2.2 ∧ (rfB kd (b.2.2.1 i) (b.1 (b.2.2.1 i) + nI 1) q b).2.2.1 i = b.2.2.1 i ∧ (rfB kd (b.2.2.1 i) (b.1 (b.2.2.1 i) + nI 1) q b).1 (b.2.2.1 i) = b.1 (b.2.2.1 i)
  | 0, _ => ⟨h, hi, rfl, rfl⟩
  | q + 1, hq => by
    obtain ⟨h1, h2, h3, h4⟩ := QueE_rf hn hi h q (by omega)
    simp only [rfB]
    generalize rfB kd (b.2.2.1 i) (b.1 (b.2.2.1 i) + nI 1) q b = b2 at *
    by_cases e : q = b.2.2.1 i / 32
    · rw [if_pos e]
      exact ⟨QueE_skip h1 (by rw [h3]; exact e), h2, h3, h4⟩
    · rw [if_neg e]
      have h9 := QueE_reach (fur := b.1 (b.2.2.1 i) + nI 1) (fi := if b.1 (b.2.2.1 i) + nI 1 = nI 1 then nI q else b2.2.1 (b.2.2.1 i)) hn (show q < n from hq) h2 (by rw [h3]; exact e) h1 (by rw [h3, h4]) (by rw [h3])
      rw [h3] at h9
      exact ⟨h9.1, h9.2.1, h9.2.2.1, h9.2.2.2.trans h4⟩
theorem QueE_next {kd : Nat → Nat} {n s i : Nat} {b : BS} (h : QueE kd n s i n b) : QueE kd n s (i + 1) 0 b := by
  obtain ⟨dv, pr, pe, fv, hA, hB, hC, hD, hE, hF, hG, hH⟩ := h
  refine ⟨dv, pr, pe, fv, hA, hB, hC, hD, ?_, hF, ?_, hH⟩
  · intro j h0 hj
    obtain ⟨⟨a1, a2, a3⟩, a4⟩ := hE j h0 hj
    exact ⟨⟨a1, by omega, a3⟩, a4⟩
  · intro j r hj hr hc hne
    exact hG j r hj hr (by omega) hne
theorem QueE_m {kd : Nat → Nat} {n s : Nat} (hn : n ≤ 4) : ∀ (f i : Nat) (b : BS), f + i = 128 → QueE kd n s i 0 b → ∃ i2, QueE kd n s i2 0 (mB kd n f i b) ∧ (mB kd n f i b).2.2.2 ≤ i2
  | 0, i, b, hf, h => by
    refine ⟨i, h, ?_⟩
    obtain ⟨dv, pr, pe, fv, hA, -⟩ := h
    have := hA.2.1
    show b.2.2.2 ≤ i
    omega
  | f + 1, i, b, hf, h => by
    simp only [mB]
    by_cases hi : i < b.2.2.2
    · rw [if_pos hi]
      exact QueE_m hn f (i + 1) _ (by omega) (QueE_next (QueE_rf hn hi h n (Nat.le_refl n)).1)
    · rw [if_neg hi]; exact ⟨i, h, by omega⟩
theorem QueE_0 {kd : Nat → Nat} {n s : Nat} (hs : s < 128) : QueE kd n s 0 0 (reachB s (nI 0) (-1) ((fun _ => (-1 : Int32)), (fun _ => (-1 : Int32)), (fun _ => 0), 0)) := by
  unfold reachB
  dsimp only
  rw [if_pos ⟨rfl, by decide⟩]
  refine ⟨fun _ => 0, fun _ => 0, fun _ => 0, fun _ => 0, ⟨Nat.one_pos, by show 1 ≤ 128; decide, rfl, rfl⟩, ?_, ?_, ?_, ?_, ?_, ?_, ?_⟩
  · intro j hj
    have : j = 0 := by have h1 : j < 0 + 1 := hj; omega
    subst this
    dsimp only
    rw [if_pos rfl, if_pos rfl, upd_s, upd_s]
    exact ⟨hs, rfl, rfl, Nat.le_refl _⟩
  · intro k hk hm
    dsimp only at hm ⊢
    by_cases e : k = s
    · exact ⟨0, by decide, by rw [if_pos rfl, e]⟩
    · rw [upd_n e] at hm; exact absurd rfl hm
  · dsimp only
    have h1 : cnt (fun k => decide ((fun _ => (-1 : Int32)) k ≠ -1)) 128 = 0 := cnt_none (fun j => by simp) 128
    have h2 := cnt_set (P := fun k => decide ((fun _ => (-1 : Int32)) k ≠ -1)) (R := fun k => decide (upd (fun _ => (-1 : Int32)) s (nI 0) k ≠ -1)) (k := s) (by simp) (by rw [upd_s]; simp [nI_neg1 (show 0 < 2 ^ 31 by decide)]) (fun j hj => by rw [upd_n hj]) hs
    rw [h2, h1]
  · intro j h0 hj
    have : j < 0 + 1 := hj
    omega
  · intro j j2 h0 h1 hj
    have : j2 < 0 + 1 := hj
    omega
  · intro j r hj hr hc
    omega
  · intro k hk hm
    dsimp only at hm ⊢
    by_cases e : k = s
    · subst e; rw [upd_s] at hm; exact absurd hm (nI_neg1 (by decide))
    · rw [upd_n e]
