/-! calm: the class' rows one after the other are the reference's codes -/
def vl (n : Nat) (tr : Nat → Nat) : Nat → Nat
  | 0 => 0
  | y + 1 => vl n tr y * n + tr y
theorem vl_lt {n : Nat} {tr : Nat → Nat} : ∀ {y : Nat}, (∀ t, t < y → tr t < n) → vl n tr y < n ^ y
  | 0, _ => by simp [vl]
  | y + 1, h => by
    have h1 := vl_lt (y := y) (fun t ht => h t (by omega))
    have h2 := h y (by omega)
    have h3 : (vl n tr y + 1) * n ≤ n ^ y * n := Nat.mul_le_mul_right n h1
    rw [Nat.succ_mul] at h3
    show vl n tr y * n + tr y < n ^ y * n
    omega
theorem vl_congr {n : Nat} {tr tr2 : Nat → Nat} : ∀ {y : Nat}, (∀ t, t < y → tr t = tr2 t) → vl n tr y = vl n tr2 y
  | 0, _ => rfl
  | y + 1, h => by
    simp only [vl]
    rw [vl_congr (fun t ht => h t (by omega)), h y (by omega)]
theorem dgt_vl {n : Nat} {tr : Nat → Nat} : ∀ {y : Nat}, (∀ t, t < y → tr t < n) → ∀ t, t < y → dgt n y (vl n tr y) t = tr t
  | 0, _, t, ht => absurd ht (Nat.not_lt_zero t)
  | y + 1, h, t, ht => by
    have hr := h y (by omega)
    have hn : 0 < n := by omega
    have hdv : (vl n tr y * n + tr y) / n = vl n tr y := by
      rw [Nat.mul_comm, Nat.mul_add_div hn, Nat.div_eq_of_lt hr, Nat.add_zero]
    unfold dgt
    simp only [vl]
    by_cases e : t = y
    · subst e
      rw [show t + 1 - 1 - t = 0 by omega, Nat.pow_zero, Nat.div_one, Nat.mul_comm, Nat.mul_add_mod, Nat.mod_eq_of_lt hr]
    · have h2 := dgt_vl (y := y) (fun t ht => h t (by omega)) t (by omega)
      unfold dgt at h2
      rw [show y + 1 - 1 - t = (y - 1 - t) + 1 by omega, Nat.pow_succ, Nat.mul_comm (n ^ (y - 1 - t)) n, ← Nat.div_div_eq_div_mul, hdv]
      exact h2
theorem nxt_vl {n : Nat} (hn : 0 < n) : ∀ (y : Nat) (tr : Nat → Nat), (∀ t, t < y → tr t < n) → (∀ k, y ≤ k → (nxt n y tr).2 k = tr k) ∧ ((nxt n y tr).1 = true → vl n (nxt n y tr).2 y = vl n tr y + 1) ∧ (¬ (nxt n y tr).1 = true → vl n tr y + 1 = n ^ y)
  | 0, tr, _ => ⟨fun _ _ => rfl, fun h => absurd h (by simp [nxt]), fun _ => by simp [vl]⟩
  | y + 1, tr, h => by
    simp only [nxt]
    have hy := h y (by omega)
    by_cases e : tr y + 1 < n
    · rw [if_pos e]
      refine ⟨?_, ?_, ?_⟩
      · intro k hk
        show updN tr y (tr y + 1) k = tr k
        exact uN_n (by omega)
      · intro _
        simp only [vl]
        rw [uN_s, vl_congr (tr2 := tr) (fun t ht => uN_n (by omega))]
        omega
      · intro z; exact absurd rfl z
    · rw [if_neg e]
      obtain ⟨a1, a2, a3⟩ := nxt_vl hn y (updN tr y 0) (fun t ht => by rw [uN_n (by omega)]; exact h t (by omega))
      have hv : vl n (updN tr y 0) y = vl n tr y := vl_congr (fun t ht => uN_n (by omega))
      rw [hv] at a2 a3
      refine ⟨?_, ?_, ?_⟩
      · intro k hk
        rw [a1 k (by omega)]; exact uN_n (by omega)
      · intro z
        simp only [vl]
        rw [a2 z, a1 y (Nat.le_refl y), uN_s, Nat.succ_mul]
        omega
      · intro z
        have h3 := a3 z
        simp only [vl]
        rw [Nat.pow_succ, ← h3, Nat.succ_mul]
        omega
theorem plT_tr {kd tr tr2 : Nat → Nat} {b : CS} : ∀ {t : Nat}, (∀ i, i < t → tr i = tr2 i) → plT kd tr t b = plT kd tr2 t b
  | 0, _ => rfl
  | t + 1, h => by
    simp only [plT]
    rw [plT_tr (fun i hi => h i (by omega)), h t (by omega)]
theorem okR_tr {kd tr tr2 : Nat → Nat} {y : Nat} {b : CS} (h : ∀ i, i < y → tr i = tr2 i) (z : okR kd tr y b) : okR kd tr2 y b := by
  intro t ht
  rw [← plT_tr (fun i hi => h i (by omega)), ← h t ht]; exact z t ht
theorem plT_me {kd tr : Nat → Nat} {n h mk : Nat} {me me2 : Nat → Int32} (hme : ∀ k, k < n → me2 k = me k) : ∀ t : Nat, (plT kd tr t (h, mk, me2)).1 = (plT kd tr t (h, mk, me)).1 ∧ (plT kd tr t (h, mk, me2)).2.1 = (plT kd tr t (h, mk, me)).2.1 ∧ ∀ k, k < n → (plT kd tr t (h, mk, me2)).2.2 k = (plT kd tr t (h, mk, me)).2.2 k
  | 0 => ⟨rfl, rfl, hme⟩
  | t + 1 => by
    obtain ⟨h1, h2, h3⟩ := plT_me (kd := kd) (tr := tr) (h := h) (mk := mk) hme t
    simp only [plT]
    refine ⟨trivial, by rw [h2], ?_⟩
    intro k hk
    rw [h1, h2]
    by_cases e : k = (plT kd tr t (h, mk, me)).1
    · rw [← e, upd_s, upd_s]
    · rw [upd_n e, upd_n e]; exact h3 k hk
theorem plT_hold {kd tr : Nat → Nat} {n h mk : Nat} {me : Nat → Int32} (hh : h < n) : ∀ {t : Nat}, (∀ i, i < t → tr i < n) → (plT kd tr t (h, mk, me)).1 < n
  | 0, _ => hh
  | t + 1, h9 => h9 t (by omega)
theorem plT_out {kd tr : Nat → Nat} {n h mk : Nat} {me : Nat → Int32} (hh : h < n) (hme : ∀ k, n ≤ k → k < 4 → me k = -1) : ∀ {t : Nat}, (∀ i, i < t → tr i < n) → ∀ k, n ≤ k → k < 4 → (plT kd tr t (h, mk, me)).2.2 k = -1
  | 0, _, k, h1, h2 => hme k h1 h2
  | t + 1, h9, k, h1, h2 => by
    simp only [plT]
    have h3 := plT_hold (kd := kd) (mk := mk) (me := me) (t := t) hh (fun i hi => h9 i (by omega))
    rw [upd_n (by omega)]
    exact plT_out hh hme (fun i hi => h9 i (by omega)) k h1 h2
theorem cnt_cut {P : Nat → Bool} {n : Nat} : ∀ {m : Nat}, n ≤ m → (∀ k, n ≤ k → k < m → P k = false) → cnt P m = cnt P n
  | 0, h, _ => by rw [show n = 0 by omega]
  | m + 1, h, h2 => by
    by_cases e : n = m + 1
    · rw [e]
    · simp only [cnt]
      rw [cnt_cut (show n ≤ m by omega) (fun k h3 h4 => h2 k h3 (by omega)), h2 m (by omega) (by omega)]
      simp
theorem wrS_congr {hd mk : Int32} {me me2 : Nat → Int32} {k : Nat} (h : me2 k = me k) : wrS hd mk me2 k ↔ wrS hd mk me k := by
  simp only [wrS]; rw [h]
theorem wrS_none {hd mk : Int32} {me : Nat → Int32} {k : Nat} (h : me k = -1) : ¬ wrS hd mk me k := fun z => z.1 h
theorem cnt_wrS {n : Nat} {hd mk : Int32} {me me2 : Nat → Int32} (hn : n ≤ 4) (hme : ∀ k, k < n → me2 k = me k) (ho : ∀ k, n ≤ k → k < 4 → me k = -1) : cnt (fun k => decide (wrS hd mk me k)) 4 = cnt (fun k => decide (wrS hd mk me2 k)) n := by
  rw [cnt_cut hn (fun k h1 h2 => by simp only [decide_eq_false_iff_not]; exact wrS_none (ho k h1 h2))]
  exact cnt_congr (fun k hk => by simp only [decide_eq_decide]; exact (wrS_congr (hme k hk)).symm)
theorem wrC_wrM {kd tr tr2 : Nat → Nat} {n y h mk : Nat} {me me2 : Nat → Int32} (hn : n ≤ 4) (hh : h < n) (hme : ∀ k, k < n → me2 k = me k) (ho : ∀ k, n ≤ k → k < 4 → me k = -1) (htr : ∀ i, i < y → tr i < n) (he : ∀ i, i < y → tr i = tr2 i) : wrC kd tr y (h, mk, me) = wrM n kd tr2 y (h, mk, me2) := by
  unfold wrC wrM
  obtain ⟨h1, h2, h3⟩ := plT_me (kd := kd) (tr := tr) (n := n) (h := h) (mk := mk) hme y
  rw [← plT_tr he, h1, h2]
  exact cnt_wrS hn h3 (plT_out hh ho htr)
theorem okR_me {kd tr tr2 : Nat → Nat} {n y h mk : Nat} {me me2 : Nat → Int32} (hme : ∀ k, k < n → me2 k = me k) (he : ∀ i, i < y → tr i = tr2 i) : okR kd tr y (h, mk, me) ↔ okR kd tr2 y (h, mk, me2) := by
  constructor
  · intro z t ht
    rw [(plT_me hme t).1, ← plT_tr (fun i hi => he i (by omega)), ← he t ht]; exact z t ht
  · intro z t ht
    have h1 := z t ht
    rw [(plT_me hme t).1, ← plT_tr (fun i hi => he i (by omega)), ← he t ht] at h1; exact h1
def csR (y : Nat) (f g : FS) : Prop := f.1 = g.1 ∧ (f.1 ≠ -1 → ∀ t, t < y → f.2 t = g.2 t)
theorem csR_kp {y w : Nat} {tr tr2 : Nat → Nat} {f g : FS} (h : csR y f g) (he : ∀ i, i < y → tr i = tr2 i) : csR y (kpC w tr f) (kpC w tr2 g) := by
  unfold kpC
  rw [← h.1]
  by_cases e : f.1 = -1 ∨ (w : Int) < f.1.toInt
  · rw [if_pos e, if_pos e]
    exact ⟨rfl, fun _ t ht => by show nI (tr t) = nI (tr2 t); rw [he t ht]⟩
  · rw [if_neg e, if_neg e]; exact h
theorem fcB_cm {n : Nat} {kd : Nat → Nat} {y h mk : Nat} {me me2 bs : Nat → Int32} (hn : n ≤ 4) (hy : y ≤ 4) (hh : h < n) (hme : ∀ k, k < n → me2 k = me k) (ho : ∀ k, n ≤ k → k < 4 → me k = -1) : ∀ (m : Nat) (tr : Nat → Nat) (f : FS), (∀ k, k < 4 → tr k < n) → n ^ y ≤ vl n tr y + m → csR y f (cmF n kd y (h, mk, me2) (vl n tr y) (-1, bs)) → csR y (fcB n kd y (h, mk, me) m tr f) (cmF n kd y (h, mk, me2) (n ^ y) (-1, bs))
  | 0, tr, f, htr, hm, hf => by
    have h1 := vl_lt (n := n) (tr := tr) (y := y) (fun t ht => htr t (by omega))
    omega
  | m + 1, tr, f, htr, hm, hf => by
    have htr2 : ∀ t, t < y → tr t < n := fun t ht => htr t (by omega)
    obtain ⟨-, a2, a3⟩ := nxt_vl (n := n) (by omega) y tr htr2
    have hd : ∀ i, i < y → tr i = dgt n y (vl n tr y) i := fun i hi => (dgt_vl htr2 i hi).symm
    have h1 : csR y (if okR kd tr y (h, mk, me) then kpC (wrC kd tr y (h, mk, me)) tr f else f) (cmF n kd y (h, mk, me2) (vl n tr y + 1) (-1, bs)) := by
      by_cases e : okR kd tr y (h, mk, me)
      · rw [if_pos e, cmF_ok ((okR_me hme hd).mp e), wrC_wrM hn hh hme ho htr2 hd]
        exact csR_kp hf hd
      · rw [if_neg e, cmF_no (fun z => e ((okR_me hme hd).mpr z))]; exact hf
    by_cases e : (nxt n y tr).1 = true
    · rw [fcB_go e]
      rw [← a2 e] at h1
      exact fcB_cm hn hy hh hme ho m _ _ (nxt_lt y tr (by omega) htr) (by rw [a2 e]; omega) h1
    · rw [fcB_end e, ← a3 e]; exact h1
theorem cmF_pos {n : Nat} {kd : Nat → Nat} {y c0 : Nat} {b : CS} {f : FS} (hn : n ≤ 4) (h : okR kd (dgt n y c0) y b) : ∀ c, c0 < c → (cmF n kd y b c f).1 ≠ -1
  | 0, hc => absurd hc (Nat.not_lt_zero _)
  | c + 1, hc => by
    have hw : ∀ (tr : Nat → Nat) (g : FS), (kpC (wrM n kd tr y b) tr g).1 ≠ -1 := by
      intro tr g
      unfold kpC
      have h9 := cnt_le (fun k => decide (wrS (nI (plT kd tr y b).1) (nI (plT kd tr y b).2.1) (plT kd tr y b).2.2 k)) n
      by_cases e : g.1 = -1 ∨ ((wrM n kd tr y b : Nat) : Int) < g.1.toInt
      · rw [if_pos e]; exact nI_neg1 (by unfold wrM; omega)
      · rw [if_neg e]; exact fun z => e (Or.inl z)
    by_cases e : okR kd (dgt n y c) y b
    · rw [cmF_ok e]; exact hw _ _
    · rw [cmF_no e]
      by_cases e2 : c0 = c
      · subst e2; exact absurd h e
      · exact cmF_pos hn h c (by omega)
def altR (h : Nat) : Nat → Nat := fun t => if t % 2 = 0 then (if h = 0 then 1 else 0) else (if h = 0 then 0 else 1)
theorem altR_ok {kd : Nat → Nat} {h mk y : Nat} {me : Nat → Int32} : okR kd (altR h) y (h, mk, me) := by
  intro t ht
  match t with
  | 0 => show h ≠ altR h 0; unfold altR; rw [if_pos rfl]; split <;> omega
  | t + 1 =>
    show altR h t ≠ altR h (t + 1)
    unfold altR
    split <;> split <;> split <;> omega
theorem cmF_some {n : Nat} {kd : Nat → Nat} {y h mk : Nat} {me bs : Nat → Int32} (hn2 : 2 ≤ n) (hn : n ≤ 4) : (cmF n kd y (h, mk, me) (n ^ y) (-1, bs)).1 ≠ -1 := by
  have ha : ∀ t, t < y → altR h t < n := by intro t _; unfold altR; split <;> split <;> omega
  exact cmF_pos (c0 := vl n (altR h) y) hn (okR_tr (fun i hi => (dgt_vl ha i hi).symm) altR_ok) _ (vl_lt ha)
theorem calm_csR {n : Nat} {kd : Nat → Nat} {y h mk : Nat} {me me2 ca bs : Nat → Int32} (hn2 : 2 ≤ n) (hn : n ≤ 4) (hy : y ≤ 4) (hh : h < n) (hme : ∀ k, k < n → me2 k = me k) (ho : ∀ k, n ≤ k → k < 4 → me k = -1) : csR y (fcB n kd y (h, mk, me) 256 (fun _ => 0) (-1, ca)) (cmF n kd y (h, mk, me2) (n ^ y) (-1, bs)) := by
  have h0 : ∀ y, vl n (fun _ => 0) y = 0 := by
    intro y
    induction y with
    | zero => rfl
    | succ y ih => simp only [vl]; rw [ih]; omega
  refine fcB_cm hn hy hh hme ho 256 _ _ (fun k _ => by omega) ?_ ?_
  · rw [h0]; have := pow_b hn hy; omega
  · rw [h0]; exact ⟨rfl, fun z => absurd rfl z⟩
theorem caN_eq {n : Nat} {kd : Nat → Nat} {h mk : Nat} {me me2 ca bs : Nat → Int32} {x w : Int} (hn2 : 2 ≤ n) (hn : n ≤ 4) (hh : h < n) (hme : ∀ k, k < n → me2 k = me k) (ho : ∀ k, n ≤ k → k < 4 → me k = -1) (hx : 1 ≤ x ∧ x ≤ 4) (hw : w = 0 ∨ (10 ≤ w ∧ w ≤ 13)) : caR n kd h mk me ca x w = caN n kd h mk me2 bs x.toNat w := by
  have hc := calm_csR (kd := kd) (mk := mk) (ca := ca) (bs := bs) hn2 hn (show x.toNat ≤ 4 by omega) hh hme ho
  unfold caR caN
  rw [if_pos ⟨hx.1, hx.2, hw⟩, if_neg (by omega)]
  by_cases e : w = 0
  · rw [if_pos e, if_pos e]; exact hc.1
  · rw [if_neg e, if_neg e]
    by_cases e2 : x ≤ w - 10
    · rw [if_pos e2, if_pos (by omega)]
    · rw [if_neg e2, if_neg (by omega)]
      exact hc.2 (by rw [hc.1]; exact cmF_some hn2 hn) _ (by omega)
theorem calm_eq {n : Nat} {kd : Nat → Nat} {h mk : Nat} {me me2 ca bs : Nat → Int32} {x w : Int} (hn2 : n = 0 ∨ 2 ≤ n) (hn : n ≤ 4) (hh : 0 < n → h < n) (hme : ∀ k, k < n → me2 k = me k) (ho : 0 < n → ∀ k, n ≤ k → k < 4 → me k = -1) : caR n kd h mk me ca x w = caM n kd h mk me2 bs x w := by
  by_cases e : 1 ≤ x ∧ x ≤ 4 ∧ (w = 0 ∨ (10 ≤ w ∧ w ≤ 13))
  · by_cases e0 : n = 0
    · unfold caR caM; rw [if_pos e, if_pos e, if_pos e0, if_pos e0]
    · rw [caN_eq (bs := bs) (by omega) hn (hh (by omega)) hme (ho (by omega)) ⟨e.1, e.2.1⟩ e.2.2]
      unfold caM; rw [if_pos e, if_neg e0]
  · unfold caR caM; rw [if_neg e, if_neg e]
