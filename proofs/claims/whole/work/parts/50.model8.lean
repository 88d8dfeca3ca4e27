/-! how the reference reads THE PAGE -/
abbrev goB (x : Int32) (r s : Nat) : Prop := (s = 0 ∧ ((x = nI 59 ∧ 1 < r) ∨ (r ≠ 4 ∧ ¬ kBy x = -1))) ∨ (s = 1 ∧ 0 ≤ (x - nI 48).toInt ∧ (x - nI 48).toInt ≤ 3) ∨ (s = 2 ∧ 0 ≤ (x - nI 48).toInt ∧ (x - nI 48).toInt ≤ 7)
abbrev RdS : Type := Nat × Nat × Int32 × (Nat → Int32)
def goS (x : Int32) (r s : Nat) (rK : Int32) (rd : Nat → Int32) : RdS := if s = 0 then (if x = nI 59 ∧ 1 < r then (r, 1, rK, rd) else if r = 4 ∨ kBy x = -1 then (r, 0, rK, rd) else (r + 1, 0, rK, upd rd r (kBy x))) else (r, s + 1, if s = 1 then nI 8 * (x - nI 48) else rK + (x - nI 48), rd)
theorem goS_a {x : Int32} {r s : Nat} {rK : Int32} {rd : Nat → Int32} (h0 : s = 0) (h1 : x = nI 59) (h2 : 1 < r) : (r, 1, rK, rd) = goS x r s rK rd := by unfold goS; rw [if_pos h0, if_pos ⟨h1, h2⟩]
theorem goS_b {x : Int32} {r s : Nat} {rK : Int32} {rd : Nat → Int32} (h0 : s = 0) (h1 : ¬ (x = nI 59 ∧ 1 < r)) (h2 : r = 4 ∨ kBy x = -1) : (r, s, rK, rd) = goS x r s rK rd := by unfold goS; rw [if_pos h0, if_neg h1, if_pos h2, h0]
theorem goS_c {x : Int32} {r s : Nat} {rK : Int32} {rd : Nat → Int32} (h0 : s = 0) (h1 : ¬ (x = nI 59 ∧ 1 < r)) (h2 : ¬ (r = 4 ∨ kBy x = -1)) : (r + 1, s, rK, upd rd r (kBy x)) = goS x r s rK rd := by unfold goS; rw [if_pos h0, if_neg h1, if_neg h2, h0]
theorem goS_d {x : Int32} {r s : Nat} {rK : Int32} {rd : Nat → Int32} (h0 : ¬ s = 0) (h1 : s = 1) : (r, s + 1, nI 8 * (x - nI 48), rd) = goS x r s rK rd := by unfold goS; rw [if_neg h0, if_pos h1]
theorem goS_e {x : Int32} {r s : Nat} {rK : Int32} {rd : Nat → Int32} (h0 : ¬ s = 0) (h1 : ¬ s = 1) : (r, s + 1, rK + (x - nI 48), rd) = goS x r s rK rd := by unfold goS; rw [if_neg h0, if_neg h1]
theorem goS_4 {x : Int32} {r s r2 s2 : Nat} {rK rK2 : Int32} {rd rd2 : Nat → Int32} (h : (r2, s2, rK2, rd2) = goS x r s rK rd) (hs : s ≤ 3) : s2 ≤ 4 := by
  unfold goS at h
  split at h
  · split at h
    · cases h; omega
    · split at h
      · cases h; omega
      · cases h; omega
  · cases h; omega
theorem sub48 (x : Int32) : (x - nI 48).toInt = x.toInt - 48 ∨ (x - nI 48).toInt = x.toInt - 48 + 4294967296 := by
  have h1 := Int32.toInt_lt x
  have h2 := Int32.le_toInt x
  have h3 : (x - nI 48).toInt = (x.toInt - 48).bmod 4294967296 := by rw [Int32.toInt_sub, nT (by omega)]; rfl
  rw [h3, Int.bmod_def]
  omega
theorem dig_iff {x : Int32} {b : Int} (hb : b < 100) : (0 ≤ (x - nI 48).toInt ∧ (x - nI 48).toInt ≤ b) ↔ (48 ≤ x.toInt ∧ x.toInt < 49 + b) := by
  have h1 := Int32.toInt_lt x
  have h2 := Int32.le_toInt x
  have h3 := sub48 x
  have h4 := Int32.toInt_lt (x - nI 48)
  have h5 := Int32.le_toInt (x - nI 48)
  omega
theorem dig_eq {lg : Nat → Int32} {k : Nat} (h : 48 ≤ (lg k).toInt) : lg k - nI 48 = nI (rgD lg k) := by
  have h1 := Int32.toInt_lt (lg k)
  have e : lg k = nI (48 + rgD lg k) := nI_of_toInt (by unfold rgD; omega) (by unfold rgD; omega)
  rw [e, show rgD lg k = 48 + rgD lg k - 48 by omega]
  rw [show 48 + (48 + rgD lg k - 48) = 48 + rgD lg k by omega]
  exact pk_sub (by omega)
theorem kBy_no {x : Int32} (h : ¬ isKL x) : kBy x = -1 := by
  simp only [isKL, not_or] at h
  obtain ⟨a, b, c, d, e⟩ := h
  unfold kBy; rw [if_neg a, if_neg b, if_neg c, if_neg d, if_neg e]
theorem kBy_yes {x : Int32} (h : isKL x) : kBy x = nI (kx x) := by
  rcases h with rfl | rfl | rfl | rfl | rfl <;> decide
theorem kBy_iff {x : Int32} : kBy x = -1 ↔ ¬ isKL x := by
  constructor
  · intro h z
    rw [kBy_yes z] at h
    exact nI_neg1 (by have := kx_lt x; omega) h
  · exact kBy_no
theorem kl59 : ¬ isKL (nI 59) := by decide
theorem kl0 : ¬ isKL (nI 0) := by decide
theorem leadF_at {lg : Nat → Int32} {ln : Nat} : ∀ (f t k : Nat), t ≤ k → k < leadF lg ln f t → isKL (pAt lg ln k)
  | 0, t, k, h1, h2 => by simp only [leadF] at h2; omega
  | f + 1, t, k, h1, h2 => by
    simp only [leadF] at h2
    by_cases h : isKL (pAt lg ln t)
    · rw [if_pos h] at h2
      by_cases e : k = t
      · subst e; exact h
      · exact leadF_at f (t + 1) k (by omega) h2
    · rw [if_neg h] at h2; omega
theorem lead_at {lg : Nat → Int32} {ln k : Nat} (h : k < lead lg ln) : isKL (pAt lg ln k) := leadF_at 4 0 k (Nat.zero_le k) h
theorem leadF_stop {lg : Nat → Int32} {ln : Nat} : ∀ (f t : Nat), leadF lg ln f t = f + t ∨ ¬ isKL (pAt lg ln (leadF lg ln f t))
  | 0, t => by simp [leadF]
  | f + 1, t => by
    simp only [leadF]
    by_cases h : isKL (pAt lg ln t)
    · rw [if_pos h]; rcases leadF_stop (lg := lg) (ln := ln) f (t + 1) with z | z
      · exact Or.inl (by omega)
      · exact Or.inr z
    · rw [if_neg h]; exact Or.inr h
theorem lead_stop {lg : Nat → Int32} {ln : Nat} : lead lg ln = 4 ∨ ¬ isKL (pAt lg ln (lead lg ln)) := leadF_stop 4 0
theorem lead_ln {lg : Nat → Int32} {ln : Nat} : lead lg ln ≤ ln := by
  rcases Nat.lt_or_ge ln (lead lg ln) with h | h
  · have h2 := lead_at h
    unfold pAt at h2; rw [if_neg (Nat.lt_irrefl ln)] at h2; exact absurd h2 kl0
  · exact h
abbrev rdOk (lg rd : Nat → Int32) (t : Nat) : Prop := ∀ i, i < t → rd i = nI (kx (lg i))
def RdI (lg : Nat → Int32) (ln k r s : Nat) (rK : Int32) (rd : Nat → Int32) : Prop :=
  (s = 0 ∧ r = k ∧ k ≤ lead lg ln ∧ rdOk lg rd k) ∨
  (r = lead lg ln ∧ 2 ≤ r ∧ rdOk lg rd r ∧ faultG lg ln (lead lg ln) (ln - k) k = faultP lg ln ∧
    ((s = 1 ∧ k = lead lg ln + 1) ∨ (s = 2 ∧ k = lead lg ln + 2 ∧ rK = nI (8 * rgD lg (lead lg ln + 1))) ∨ (s = 3 ∧ k = lead lg ln + 3 ∧ rK = nI (8 * rgD lg (lead lg ln + 1) + rgD lg (lead lg ln + 2)))))
theorem RdI_0 {lg rd : Nat → Int32} {ln : Nat} {rK : Int32} : RdI lg ln 0 0 0 rK rd := Or.inl ⟨rfl, rfl, Nat.zero_le _, fun i h => absurd h (Nat.not_lt_zero i)⟩
theorem fault_lead {lg : Nat → Int32} {ln : Nat} : faultG lg ln (lead lg ln) (ln - lead lg ln) (lead lg ln) = faultP lg ln := rfl
theorem RdI_s {lg rd rd2 : Nat → Int32} {ln k r s r2 s2 : Nat} {rK rK2 : Int32} (hI : RdI lg ln k r s rK rd) (hk : k < ln) (hg : goB (lg k) r s) (hS : (r2, s2, rK2, rd2) = goS (lg k) r s rK rd) : RdI lg ln (k + 1) r2 s2 rK2 rd2 := by
  have hp : pAt lg ln k = lg k := pAt_in hk
  have hl4 := lead_le lg ln
  rcases hI with ⟨h0, hr, hkl, hrd⟩ | ⟨hr, h2r, hrd, hF, hs⟩
  · subst h0; subst hr
    have hg2 : (lg r = nI 59 ∧ 1 < r) ∨ (r ≠ 4 ∧ ¬ kBy (lg r) = -1) := by
      rcases hg with z | z | z
      · exact z.2
      · omega
      · omega
    by_cases e : lg r = nI 59 ∧ 1 < r
    · have hlast : r = lead lg ln := by
        rcases Nat.lt_or_ge r (lead lg ln) with z | z
        · have z2 := lead_at z; rw [hp, e.1] at z2; exact absurd z2 kl59
        · omega
      unfold goS at hS; rw [if_pos rfl, if_pos e] at hS
      cases hS
      refine Or.inr ⟨hlast, e.2, hrd, ?_, Or.inl ⟨rfl, by omega⟩⟩
      rw [← fault_lead, ← hlast]
      exact (faultG_go hk (Or.inl ⟨by omega, e.2, by rw [hp]; exact e.1⟩)).symm
    · have hg3 : r ≠ 4 ∧ ¬ kBy (lg r) = -1 := hg2.resolve_left e
      have hkl2 : isKL (lg r) := by
        by_cases z : isKL (lg r)
        · exact z
        · exact absurd (kBy_iff.mpr z) hg3.2
      unfold goS at hS; rw [if_pos rfl, if_neg e, if_neg (fun z => z.elim hg3.1 hg3.2)] at hS
      cases hS
      refine Or.inl ⟨rfl, rfl, ?_, ?_⟩
      · rcases Nat.lt_or_ge r (lead lg ln) with z | z
        · exact z
        · have hrl : r = lead lg ln := by omega
          rcases lead_stop (lg := lg) (ln := ln) with y | y
          · omega
          · rw [← hrl, hp] at y; exact absurd hkl2 y
      · intro i hi
        by_cases z : i = r
        · subst z; rw [upd_s, kBy_yes hkl2]
        · rw [upd_n z]; exact hrd i (by omega)
  · have hs0 : ¬ s = 0 := by rcases hs with z | z | z <;> omega
    unfold goS at hS; rw [if_neg hs0] at hS
    rcases hs with ⟨s1, k1⟩ | ⟨s1, k1, hm⟩ | ⟨s1, k1, hm⟩
    · subst s1
      have hd : 0 ≤ (lg k - nI 48).toInt ∧ (lg k - nI 48).toInt ≤ 3 := by
        rcases hg with z | z | z
        · omega
        · exact z.2
        · omega
      have hd2 := (dig_iff (by omega)).mp hd
      rw [if_pos rfl] at hS
      cases hS
      refine Or.inr ⟨hr, h2r, hrd, ?_, Or.inr (Or.inl ⟨rfl, by omega, ?_⟩)⟩
      · rw [← hF]; exact (faultG_go hk (Or.inr (Or.inl ⟨by omega, by rw [hp]; omega⟩))).symm
      · rw [dig_eq (by omega), k1]; exact pk_mul _ _
    · subst s1
      have hd : 0 ≤ (lg k - nI 48).toInt ∧ (lg k - nI 48).toInt ≤ 7 := by
        rcases hg with z | z | z
        · omega
        · omega
        · exact z.2
      have hd2 := (dig_iff (by omega)).mp hd
      rw [if_neg (by omega)] at hS
      cases hS
      refine Or.inr ⟨hr, h2r, hrd, ?_, Or.inr (Or.inr ⟨rfl, by omega, ?_⟩)⟩
      · rw [← hF]; exact (faultG_go hk (Or.inr (Or.inr ⟨by omega, by rw [hp]; omega⟩))).symm
      · rw [dig_eq (by omega), hm, k1]; exact nI_add _ _
    · subst s1
      rcases hg with z | z | z <;> omega
theorem RdI_bad {lg rd : Nat → Int32} {ln k r s : Nat} {rK : Int32} (hI : RdI lg ln k r s rK rd) (hk : k < ln) (hg : ¬ goB (lg k) r s) : k = faultP lg ln := by
  have hp : pAt lg ln k = lg k := pAt_in hk
  have hl4 := lead_le lg ln
  simp only [goB, not_or] at hg
  obtain ⟨hg0, hg1, hg2⟩ := hg
  rcases hI with ⟨h0, hr, hkl, hrd⟩ | ⟨hr, h2r, hrd, hF, hs⟩
  · subst h0; subst hr
    have h59 : ¬ (lg r = nI 59 ∧ 1 < r) := fun z => hg0 ⟨rfl, Or.inl z⟩
    have hkb : ¬ (r ≠ 4 ∧ ¬ kBy (lg r) = -1) := fun z => hg0 ⟨rfl, Or.inr z⟩
    have hlast : r = lead lg ln := by
      rcases Nat.lt_or_ge r (lead lg ln) with z | z
      · have z2 := lead_at z; rw [hp] at z2
        exact absurd ⟨by omega, fun y => kBy_iff.mp y z2⟩ hkb
      · omega
    have h3 : ¬ fitT lg ln r (lead lg ln) := by
      intro z
      rcases z with z | z | z
      · rw [hp] at z; exact h59 ⟨z.2.2, by omega⟩
      · have := z.1; omega
      · have := z.1; omega
    have h4 := faultG_no hk h3
    rw [hlast] at h4
    rw [← fault_lead, h4]; exact hlast
  · have h3 : ¬ fitT lg ln k (lead lg ln) := by
      intro z
      rcases hs with ⟨s1, k1⟩ | ⟨s1, k1, hm⟩ | ⟨s1, k1, hm⟩
      · refine hg1 ⟨s1, ?_⟩
        rcases z with z | z | z
        · have := z.1; omega
        · rw [hp] at z; exact dig_iff (by omega) |>.mpr ⟨z.2.1, by omega⟩
        · have := z.1; omega
      · refine hg2 ⟨s1, ?_⟩
        rcases z with z | z | z
        · have := z.1; omega
        · have := z.1; omega
        · rw [hp] at z; exact dig_iff (by omega) |>.mpr ⟨z.2.1, by omega⟩
      · rcases z with z | z | z
        · have := z.1; omega
        · have := z.1; omega
        · have := z.1; omega
    rw [← hF, faultG_no hk h3]
abbrev RdY (lg : Nat → Int32) (ln r s : Nat) (rK : Int32) (rd : Nat → Int32) : Prop := r = lead lg ln ∧ s = 3 ∧ rK = nI (8 * rgD lg (lead lg ln + 1) + rgD lg (lead lg ln + 2)) ∧ rdOk lg rd (lead lg ln)
theorem RdI_end {lg rd : Nat → Int32} {ln r s : Nat} {rK : Int32} (hI : RdI lg ln ln r s rK rd) : ln = faultP lg ln ∧ (isRg lg ln → RdY lg ln r s rK rd) ∧ (¬ isRg lg ln → ¬ (faultP lg ln = ln ∧ s = 3)) := by
  have hl4 := lead_le lg ln
  have hl9 := lead_ln (lg := lg) (ln := ln)
  rcases hI with ⟨h0, hr, hkl, hrd⟩ | ⟨hr, h2r, hrd, hF, hs⟩
  · have e : ln = lead lg ln := by omega
    refine ⟨?_, fun z => absurd z.1 (by omega), fun _ z => by omega⟩
    have h := faultG_end (lg := lg) (t := lead lg ln) (Nat.le_of_eq e)
    exact h.symm
  · rw [faultG_end (Nat.le_refl ln)] at hF
    refine ⟨hF, fun z => ?_, fun z y => z ⟨?_, hF.symm⟩⟩
    · rcases hs with ⟨s1, k1⟩ | ⟨s1, k1, hm⟩ | ⟨s1, k1, hm⟩
      · have := z.1; omega
      · have := z.1; omega
      · exact ⟨hr, s1, hm, by rw [← hr]; exact hrd⟩
    · rcases hs with ⟨s1, k1⟩ | ⟨s1, k1, hm⟩ | ⟨s1, k1, hm⟩
      · omega
      · omega
      · exact k1
theorem RdI_r {lg rd : Nat → Int32} {ln k r s : Nat} {rK : Int32} (hI : RdI lg ln k r s rK rd) : r ≤ 4 := by
  have hl4 := lead_le lg ln
  rcases hI with ⟨h0, hr, hkl, hrd⟩ | ⟨hr, h2r, hrd, hF, hs⟩ <;> omega
theorem RdI_q {lg rd : Nat → Int32} {ln k r s : Nat} {rK : Int32} (hI : RdI lg ln k r s rK rd) : s ≤ 3 := by
  rcases hI with ⟨h0, hr, hkl, hrd⟩ | ⟨hr, h2r, hrd, hF, hs⟩
  · omega
  · rcases hs with z | z | z <;> omega

set_option maxHeartbeats 500000 in
set_option maxRecDepth 100000 in
theorem m_go (l : Launch) (G : gG) (bd : Nat → Nat) (ln : Nat) (rK : Int32) (n : Nat) (h : Nat) (mk : Nat) (ps : Int32) (rr : Int32) (sH : Int32) (sM : Int32) (sP : Int32) (z : Nat) (sd : Int32) (kR : Int32) (kH : Int32) (kM : Int32) (kP : Int32) (kz : Nat) (hs : Int64) (r1 : Nat) (s1 : Nat) (rd : Nat → Int32) (x : Int32) (sz : Nat) (hr9 : r1 ≤ 4) (hs9 : s1 ≤ 3) : Met l yX12_go wsX12_go ({ frames := 1, cells := 0, slots := 0, locals := 25 } : Room) (gM G [.ref (bd 0), .int x] [(bd 0, .inr (12, [.ref (bd 1), .int (nI ln), .ref (bd 2), .int (nI r1), .int rK, .int (nI s1), .int (nI n), .int (nI h), .int (nI mk), .int ps, .int rr, .ref (bd 3), .ref (bd 4), .int sH, .int sM, .int sP, .ref (bd 5), .ref (bd 6), .ref (bd 7), .int (nI z), .ref (bd 8), .ref (bd 9), .ref (bd 10), .ref (bd 11), .int sd, .int kR, .int kH, .int kM, .int kP, .int (nI kz), .ref (bd 12), .ref (bd 13), .long hs])), (bd 2, .inl (G.2.1, 4, .inl rd))] sz) (va_Qi (fun (r : Int32) (u : Nat × Nat × Int32 × (Nat → Int32)) => r = (bI (goB x r1 s1)) ∧ ((u.1, u.2.1, u.2.2.1, u.2.2.2) = goS x r1 s1 rK rd)) (fun u t => va_P G.1 vwCl [(bd 0, .inr (12, [.ref (bd 1), .int (nI ln), .ref (bd 2), .int (nI u.1), .int u.2.2.1, .int (nI u.2.1), .int (nI n), .int (nI h), .int (nI mk), .int ps, .int rr, .ref (bd 3), .ref (bd 4), .int sH, .int sM, .int sP, .ref (bd 5), .ref (bd 6), .ref (bd 7), .int (nI z), .ref (bd 8), .ref (bd 9), .ref (bd 10), .ref (bd 11), .int sd, .int kR, .int kH, .int kM, .int kP, .int (nI kz), .ref (bd 12), .ref (bd 13), .long hs])), (bd 2, .inl (G.2.1, 4, .inl u.2.2.2))] t.heap ∧ va_D (va_A [(bd 0, .inr (12, [.ref (bd 1), .int (nI ln), .ref (bd 2), .int (nI r1), .int rK, .int (nI s1), .int (nI n), .int (nI h), .int (nI mk), .int ps, .int rr, .ref (bd 3), .ref (bd 4), .int sH, .int sM, .int sP, .ref (bd 5), .ref (bd 6), .ref (bd 7), .int (nI z), .ref (bd 8), .ref (bd 9), .ref (bd 10), .ref (bd 11), .int sd, .int kR, .int kH, .int kM, .int kP, .int (nI kz), .ref (bd 12), .ref (bd 13), .long hs])), (bd 2, .inl (G.2.1, 4, .inl rd))] sz) [(bd 0, .inr (12, [.ref (bd 1), .int (nI ln), .ref (bd 2), .int (nI u.1), .int u.2.2.1, .int (nI u.2.1), .int (nI n), .int (nI h), .int (nI mk), .int ps, .int rr, .ref (bd 3), .ref (bd 4), .int sH, .int sM, .int sP, .ref (bd 5), .ref (bd 6), .ref (bd 7), .int (nI z), .ref (bd 8), .ref (bd 9), .ref (bd 10), .ref (bd 11), .int sd, .int kR, .int kH, .int kM, .int kP, .int (nI kz), .ref (bd 12), .ref (bd 13), .long hs])), (bd 2, .inl (G.2.1, 4, .inl u.2.2.2))]) (va_A [(bd 0, .inr (12, [.ref (bd 1), .int (nI ln), .ref (bd 2), .int (nI r1), .int rK, .int (nI s1), .int (nI n), .int (nI h), .int (nI mk), .int ps, .int rr, .ref (bd 3), .ref (bd 4), .int sH, .int sM, .int sP, .ref (bd 5), .ref (bd 6), .ref (bd 7), .int (nI z), .ref (bd 8), .ref (bd 9), .ref (bd 10), .ref (bd 11), .int sd, .int kR, .int kH, .int kM, .int kP, .int (nI kz), .ref (bd 12), .ref (bd 13), .long hs])), (bd 2, .inl (G.2.1, 4, .inl rd))] sz)) 0 0 (va_A [(bd 0, .inr (12, [.ref (bd 1), .int (nI ln), .ref (bd 2), .int (nI r1), .int rK, .int (nI s1), .int (nI n), .int (nI h), .int (nI mk), .int ps, .int rr, .ref (bd 3), .ref (bd 4), .int sH, .int sM, .int sP, .ref (bd 5), .ref (bd 6), .ref (bd 7), .int (nI z), .ref (bd 8), .ref (bd 9), .ref (bd 10), .ref (bd 11), .int sd, .int kR, .int kH, .int kM, .int kP, .int (nI kz), .ref (bd 12), .ref (bd 13), .long hs])), (bd 2, .inl (G.2.1, 4, .inl rd))] sz) := by
  refine Met.ofW (cc := cX12_go) (maxL := 4) (ret := (some .boolean)) (by decide) rfl ?_
  intro p e s m args below meth c s₁ B hml hv
  obtain ⟨rfl, hsz, hP, hK, hD0⟩ := hv
  have hx := B.exec
  have hb := B.bytes
  have hr := B.returns
  have hts := atoms_spec (ws := wsX12_go) B.pre
  have hown : s.vm.findClass RX12 = some m.cls := findClass_of_methodNamed B.named
  have hlocks := B.notSynchronized
  subst hsz
  have hD := hD0.self (sz := s.heap.size)
  generalize hAe : va_A [(bd 0, .inr (12, [.ref (bd 1), .int (nI ln), .ref (bd 2), .int (nI r1), .int rK, .int (nI s1), .int (nI n), .int (nI h), .int (nI mk), .int ps, .int rr, .ref (bd 3), .ref (bd 4), .int sH, .int sM, .int sP, .ref (bd 5), .ref (bd 6), .ref (bd 7), .int (nI z), .ref (bd 8), .ref (bd 9), .ref (bd 10), .ref (bd 11), .int sd, .int kR, .int kH, .int kM, .int kP, .int (nI kz), .ref (bd 12), .ref (bd 13), .long hs])), (bd 2, .inl (G.2.1, 4, .inl rd))] s.heap.size = A at hD ⊢
  have hA : ∀ q : Nat, s.heap.size ≤ q → A q := fun q h => by rw [← hAe]; exact Or.inr h
  have hS : va_S A s.heap s.heap [] := va_S.rf
  clear hAe hD0
  have hl := lv_entry ([.ref (bd 0), .int x]) (n := 4) (Nat.le_of_ble_eq_true rfl)
  rw [lg_entry_eq]
  generalize (lg_sl ([.ref (bd 0), .int x]) ++ List.replicate (4 - (lg_sl ([.ref (bd 0), .int x])).length) Slot.unset).toArray = ls at hl ⊢
  have hl : lv_has ls 4 [(0, .ref (bd 0)), (1, .int x)] := hl
  refine lv_iload_n hx hb dX12_go_0 rfl (lv_at hl 1 rfl) ?_
  refine lv_bipush (v := (nI 48)) hx hb dX12_go_1 (by decide) ?_
  refine lv_isub hx hb dX12_go_3 ?_
  refine lv_istore_n (lv' := [(2, .int (x - (nI 48))), (0, .ref (bd 0)), (1, .int x)]) hx hb dX12_go_4 rfl hl (by decide) rfl (fun ls hl => ?_)
  refine lv_aload_n hx hb dX12_go_5 rfl (lv_at hl 1 rfl) ?_
  refine va_get (D := G.1) (ci := 12) (v := .int (nI s1)) (C := RX12) (T := TX12) (N := 33) hx hb hts (g_in wsX120 14 rfl) hown hK.1 hP 0 rfl rfl 5 (by decide) (hts _ (List.mem_of_getElem? (i := 1) rfl)) (fun _ h9 => h9) rfl dX12_go_6 ?_
  refine lv_if_ne (tgt := 33) hx hb dX12_go_9 (by decide) (fun c_1 => ?_) (fun c_1 => ?_)
  · skip
    have c_1 := gNot (cEqNN (a := s1) (b := 0) (by omega) (by omega)) c_1
    refine lv_aload_n hx hb dX12_go_33 rfl (lv_at hl 1 rfl) ?_
    refine va_get (D := G.1) (ci := 12) (v := .int (nI s1)) (C := RX12) (T := TX12) (N := 33) hx hb hts (g_in wsX120 14 rfl) hown hK.1 hP 0 rfl rfl 5 (by decide) (hts _ (List.mem_of_getElem? (i := 1) rfl)) (fun _ h9 => h9) rfl dX12_go_34 ?_
    refine lv_if_ne (tgt := 83) hx hb dX12_go_37 (by decide) (fun c_2 => ?_) (fun c_2 => ?_)
    · skip
      have c_2 := gNot (cEqNN (a := s1) (b := 0) (by omega) (by omega)) c_2
      refine lv_aload_n hx hb dX12_go_83 rfl (lv_at hl 1 rfl) ?_
      refine va_get (D := G.1) (ci := 12) (v := .int (nI s1)) (C := RX12) (T := TX12) (N := 33) hx hb hts (g_in wsX120 14 rfl) hown hK.1 hP 0 rfl rfl 5 (by decide) (hts _ (List.mem_of_getElem? (i := 1) rfl)) (fun _ h9 => h9) rfl dX12_go_84 ?_
      refine lv_istore_n (lv' := [(3, .int (nI s1)), (2, .int (x - (nI 48))), (0, .ref (bd 0)), (1, .int x)]) hx hb dX12_go_87 rfl hl (by decide) rfl (fun ls hl => ?_)
      refine lv_aload_n hx hb dX12_go_88 rfl (lv_at hl 2 rfl) ?_
      refine lv_dup hx hb dX12_go_89 rfl ?_
      refine va_get (D := G.1) (ci := 12) (v := .int (nI s1)) (C := RX12) (T := TX12) (N := 33) hx hb hts (g_in wsX120 14 rfl) hown hK.1 hP 0 rfl rfl 5 (by decide) (hts _ (List.mem_of_getElem? (i := 1) rfl)) (fun _ h9 => h9) rfl dX12_go_90 ?_
      refine lv_iconst (v := (nI 1)) hx hb dX12_go_93 (by decide) ?_
      refine lv_iadd hx hb dX12_go_94 ?_
      refine g_top (y := (nI (s1 + 1))) (nI_add _ _) ?_
      refine va_put (D := G.1) (ci := 12) (v := .int (nI (s1 + 1))) (ty := .int) (C := RX12) (T := TX12) (N := 33) hx hb hts (g_in wsX120 14 rfl) tyX12 tyX12_ok nmX12 hown hK.1 hP hD hS 0 rfl rfl 5 (by decide) (hts _ (List.mem_of_getElem? (i := 1) rfl)) (fun _ h9 => h9) rfl (tyX12_ok 5 (by decide)) rfl rfl (Nat.le_of_ble_eq_true rfl) dX12_go_95 (fun H locs hP hD hS => ?_)
      have hP : va_P G.1 vwCl [(bd 0, .inr (12, [.ref (bd 1), .int (nI ln), .ref (bd 2), .int (nI r1), .int rK, .int (nI (s1 + 1)), .int (nI n), .int (nI h), .int (nI mk), .int ps, .int rr, .ref (bd 3), .ref (bd 4), .int sH, .int sM, .int sP, .ref (bd 5), .ref (bd 6), .ref (bd 7), .int (nI z), .ref (bd 8), .ref (bd 9), .ref (bd 10), .ref (bd 11), .int sd, .int kR, .int kH, .int kM, .int kP, .int (nI kz), .ref (bd 12), .ref (bd 13), .long hs])), (bd 2, .inl (G.2.1, 4, .inl rd))] H := hP
      have hD : va_D A [(bd 0, .inr (12, [.ref (bd 1), .int (nI ln), .ref (bd 2), .int (nI r1), .int rK, .int (nI (s1 + 1)), .int (nI n), .int (nI h), .int (nI mk), .int ps, .int rr, .ref (bd 3), .ref (bd 4), .int sH, .int sM, .int sP, .ref (bd 5), .ref (bd 6), .ref (bd 7), .int (nI z), .ref (bd 8), .ref (bd 9), .ref (bd 10), .ref (bd 11), .int sd, .int kR, .int kH, .int kM, .int kP, .int (nI kz), .ref (bd 12), .ref (bd 13), .long hs])), (bd 2, .inl (G.2.1, 4, .inl rd))] := hD
      refine lv_aload_n hx hb dX12_go_98 rfl (lv_at hl 2 rfl) ?_
      refine lv_iload_n hx hb dX12_go_99 rfl (lv_at hl 0 rfl) ?_
      refine lv_iconst (v := (nI 1)) hx hb dX12_go_100 (by decide) ?_
      refine lv_icmp_ne (tgt := 111) hx hb dX12_go_101 (by decide) (fun c_3 => ?_) (fun c_3 => ?_)
      · skip
        have c_3 := gNot (cEqNN (a := s1) (b := 1) (by omega) (by omega)) c_3
        refine lv_aload_n hx hb dX12_go_111 rfl (lv_at hl 2 rfl) ?_
        refine va_get (D := G.1) (ci := 12) (v := .int rK) (C := RX12) (T := TX12) (N := 33) hx hb hts (g_in wsX120 14 rfl) hown hK.1 hP 0 rfl rfl 4 (by decide) (hts _ (List.mem_of_getElem? (i := 4) rfl)) (fun _ h9 => h9) rfl dX12_go_112 ?_
        refine lv_iload_n hx hb dX12_go_115 rfl (lv_at hl 1 rfl) ?_
        refine lv_iadd hx hb dX12_go_116 ?_
        refine va_put (D := G.1) (ci := 12) (v := .int (rK + (x - (nI 48)))) (ty := .int) (C := RX12) (T := TX12) (N := 33) hx hb hts (g_in wsX120 14 rfl) tyX12 tyX12_ok nmX12 hown hK.1 hP hD hS 0 rfl rfl 4 (by decide) (hts _ (List.mem_of_getElem? (i := 4) rfl)) (fun _ h9 => h9) rfl (tyX12_ok 4 (by decide)) rfl rfl (Nat.le_of_ble_eq_true rfl) dX12_go_117 (fun H locs hP hD hS => ?_)
        have hP : va_P G.1 vwCl [(bd 0, .inr (12, [.ref (bd 1), .int (nI ln), .ref (bd 2), .int (nI r1), .int (rK + (x - (nI 48))), .int (nI (s1 + 1)), .int (nI n), .int (nI h), .int (nI mk), .int ps, .int rr, .ref (bd 3), .ref (bd 4), .int sH, .int sM, .int sP, .ref (bd 5), .ref (bd 6), .ref (bd 7), .int (nI z), .ref (bd 8), .ref (bd 9), .ref (bd 10), .ref (bd 11), .int sd, .int kR, .int kH, .int kM, .int kP, .int (nI kz), .ref (bd 12), .ref (bd 13), .long hs])), (bd 2, .inl (G.2.1, 4, .inl rd))] H := hP
        have hD : va_D A [(bd 0, .inr (12, [.ref (bd 1), .int (nI ln), .ref (bd 2), .int (nI r1), .int (rK + (x - (nI 48))), .int (nI (s1 + 1)), .int (nI n), .int (nI h), .int (nI mk), .int ps, .int rr, .ref (bd 3), .ref (bd 4), .int sH, .int sM, .int sP, .ref (bd 5), .ref (bd 6), .ref (bd 7), .int (nI z), .ref (bd 8), .ref (bd 9), .ref (bd 10), .ref (bd 11), .int sd, .int kR, .int kH, .int kM, .int kP, .int (nI kz), .ref (bd 12), .ref (bd 13), .long hs])), (bd 2, .inl (G.2.1, 4, .inl rd))] := hD
        refine lv_iload_n hx hb dX12_go_120 rfl (lv_at hl 0 rfl) ?_
        refine lv_iconst (v := (nI 1)) hx hb dX12_go_121 (by decide) ?_
        refine lv_icmp_ne (tgt := 137) hx hb dX12_go_122 (by decide) (fun c_4 => ?_) (fun c_4 => ?_)
        · skip
          have c_4 := gNot (cEqNN (a := s1) (b := 1) (by omega) (by omega)) c_4
          refine lv_iload_n hx hb dX12_go_137 rfl (lv_at hl 0 rfl) ?_
          refine lv_iconst (v := (nI 2)) hx hb dX12_go_138 (by decide) ?_
          refine lv_icmp_ne (tgt := 158) hx hb dX12_go_139 (by decide) (fun c_5 => ?_) (fun c_5 => ?_)
          · skip
            have c_5 := gNot (cEqNN (a := s1) (b := 2) (by omega) (by omega)) c_5
            refine lv_iconst (v := (nI 0)) hx hb dX12_go_158 (by decide) ?_
            have w9_r : (nI 0) = (bI (goB x r1 s1)) := (bI_f (fun z9 => by rcases z9 with ⟨z8, _⟩ | ⟨z8, _⟩ | ⟨z8, z7⟩ <;> first | omega | contradiction))
            have w9_0 : (r1, (s1 + 1), (rK + (x - (nI 48))), rd) = goS x r1 s1 rK rd := (goS_e (by omega) (by omega))
            have hP9 : va_P G.1 vwCl [(bd 0, .inr (12, [.ref (bd 1), .int (nI ln), .ref (bd 2), .int (nI r1), .int (rK + (x - (nI 48))), .int (nI (s1 + 1)), .int (nI n), .int (nI h), .int (nI mk), .int ps, .int rr, .ref (bd 3), .ref (bd 4), .int sH, .int sM, .int sP, .ref (bd 5), .ref (bd 6), .ref (bd 7), .int (nI z), .ref (bd 8), .ref (bd 9), .ref (bd 10), .ref (bd 11), .int sd, .int kR, .int kH, .int kM, .int kP, .int (nI kz), .ref (bd 12), .ref (bd 13), .long hs])), (bd 2, .inl (G.2.1, 4, .inl rd))] H := (hP.sub [0, 1] rfl)
            have hD9 : va_D A [(bd 0, .inr (12, [.ref (bd 1), .int (nI ln), .ref (bd 2), .int (nI r1), .int (rK + (x - (nI 48))), .int (nI (s1 + 1)), .int (nI n), .int (nI h), .int (nI mk), .int ps, .int rr, .ref (bd 3), .ref (bd 4), .int sH, .int sM, .int sP, .ref (bd 5), .ref (bd 6), .ref (bd 7), .int (nI z), .ref (bd 8), .ref (bd 9), .ref (bd 10), .ref (bd 11), .int sd, .int kR, .int kH, .int kM, .int kP, .int (nI kz), .ref (bd 12), .ref (bd 13), .long hs])), (bd 2, .inl (G.2.1, 4, .inl rd))] := (hD.sub [0, 1] (by decide) rfl)
            exact W.zret (ty := .boolean) hx hb hr (by decide) (fun t9 ht9 hW9 => ⟨⟨(nI 0), (r1, s1 + 1, (rK + (x - (nI 48))), rd), rfl, ⟨w9_r, w9_0⟩, by rw [ht9]; exact hP9, hD9⟩, hS.F ht9⟩) hS.2.2 dX12_go_159
          · skip
            have c_5 := (cEqNN (a := s1) (b := 2) (by omega) (by omega)).mp c_5
            refine lv_iload_n hx hb dX12_go_142 rfl (lv_at hl 1 rfl) ?_
            refine lv_i2l (v := (x - (nI 48)).toInt64) hx hb dX12_go_143 rfl ?_
            refine lv_lconst (v := (0 : Int64)) hx hb dX12_go_144 rfl ?_
            refine lv_ldc2 (v := (7 : Int64)) hx hb hown (hts _ (List.mem_of_getElem? (i := 6) rfl)) dX12_go_145 ?_
            refine g_callSi (va_runS (As := [.long ((x - (nI 48)).toInt64), .long (0 : Int64), .long (7 : Int64)]) (rest := []) ⟨hx, hb, hml, hown, hts⟩ (m_in l G ((x - (nI 48)).toInt64) (0 : Int64) (7 : Int64) ) (va_cwS 3 hts gX12_go_X12_in rfl rfl rfl (by decide +kernel) ⟨Nat.le_of_ble_eq_true rfl, Nat.le_of_ble_eq_true rfl⟩) (gR.S hK (show va_P G.1 vwCl [] H from g_nil)) rfl rfl hl.1 rfl (lv_room (Nat.le_of_ble_eq_true rfl)) dX12_go_148 ⟨Nat.le_of_ble_eq_true rfl, Nat.le_of_ble_eq_true rfl⟩) (fun r hr0 => ?_)
            subst hr0
            refine g_top (x := (bI ((0 : Int64).toInt ≤ ((x - (nI 48)).toInt64).toInt ∧ ((x - (nI 48)).toInt64).toInt ≤ (7 : Int64).toInt))) (y := (bI (0 ≤ (x - nI 48).toInt ∧ (x - nI 48).toInt ≤ 7))) (bI_iff (inE (by decide) (by decide))) ?_
            refine lv_if_eq (tgt := 158) hx hb dX12_go_151 (by decide) (fun c_6 => ?_) (fun c_6 => ?_)
            · skip
              have c_6 := bI_z.mp c_6
              refine lv_iconst (v := (nI 0)) hx hb dX12_go_158 (by decide) ?_
              have w9_r : (nI 0) = (bI (goB x r1 s1)) := (bI_f (fun z9 => by rcases z9 with ⟨z8, _⟩ | ⟨z8, _⟩ | ⟨z8, z7⟩ <;> first | omega | contradiction))
              have w9_0 : (r1, (s1 + 1), (rK + (x - (nI 48))), rd) = goS x r1 s1 rK rd := (goS_e (by omega) (by omega))
              have hP9 : va_P G.1 vwCl [(bd 0, .inr (12, [.ref (bd 1), .int (nI ln), .ref (bd 2), .int (nI r1), .int (rK + (x - (nI 48))), .int (nI (s1 + 1)), .int (nI n), .int (nI h), .int (nI mk), .int ps, .int rr, .ref (bd 3), .ref (bd 4), .int sH, .int sM, .int sP, .ref (bd 5), .ref (bd 6), .ref (bd 7), .int (nI z), .ref (bd 8), .ref (bd 9), .ref (bd 10), .ref (bd 11), .int sd, .int kR, .int kH, .int kM, .int kP, .int (nI kz), .ref (bd 12), .ref (bd 13), .long hs])), (bd 2, .inl (G.2.1, 4, .inl rd))] H := (hP.sub [0, 1] rfl)
              have hD9 : va_D A [(bd 0, .inr (12, [.ref (bd 1), .int (nI ln), .ref (bd 2), .int (nI r1), .int (rK + (x - (nI 48))), .int (nI (s1 + 1)), .int (nI n), .int (nI h), .int (nI mk), .int ps, .int rr, .ref (bd 3), .ref (bd 4), .int sH, .int sM, .int sP, .ref (bd 5), .ref (bd 6), .ref (bd 7), .int (nI z), .ref (bd 8), .ref (bd 9), .ref (bd 10), .ref (bd 11), .int sd, .int kR, .int kH, .int kM, .int kP, .int (nI kz), .ref (bd 12), .ref (bd 13), .long hs])), (bd 2, .inl (G.2.1, 4, .inl rd))] := (hD.sub [0, 1] (by decide) rfl)
              exact W.zret (ty := .boolean) hx hb hr (by decide) (fun t9 ht9 hW9 => ⟨⟨(nI 0), (r1, s1 + 1, (rK + (x - (nI 48))), rd), rfl, ⟨w9_r, w9_0⟩, by rw [ht9]; exact hP9, hD9⟩, hS.F ht9⟩) hS.2.2 dX12_go_159
            · skip
              have c_6 := bI_nz.mp c_6
              refine lv_iconst (v := (nI 1)) hx hb dX12_go_154 (by decide) ?_
              refine lv_goto (tgt := 159) hx hb dX12_go_155 (by decide) ?_
              have w9_r : (nI 1) = (bI (goB x r1 s1)) := (bI_t (Or.inr (Or.inr ⟨by omega, by assumption⟩)))
              have w9_0 : (r1, (s1 + 1), (rK + (x - (nI 48))), rd) = goS x r1 s1 rK rd := (goS_e (by omega) (by omega))
              have hP9 : va_P G.1 vwCl [(bd 0, .inr (12, [.ref (bd 1), .int (nI ln), .ref (bd 2), .int (nI r1), .int (rK + (x - (nI 48))), .int (nI (s1 + 1)), .int (nI n), .int (nI h), .int (nI mk), .int ps, .int rr, .ref (bd 3), .ref (bd 4), .int sH, .int sM, .int sP, .ref (bd 5), .ref (bd 6), .ref (bd 7), .int (nI z), .ref (bd 8), .ref (bd 9), .ref (bd 10), .ref (bd 11), .int sd, .int kR, .int kH, .int kM, .int kP, .int (nI kz), .ref (bd 12), .ref (bd 13), .long hs])), (bd 2, .inl (G.2.1, 4, .inl rd))] H := (hP.sub [0, 1] rfl)
              have hD9 : va_D A [(bd 0, .inr (12, [.ref (bd 1), .int (nI ln), .ref (bd 2), .int (nI r1), .int (rK + (x - (nI 48))), .int (nI (s1 + 1)), .int (nI n), .int (nI h), .int (nI mk), .int ps, .int rr, .ref (bd 3), .ref (bd 4), .int sH, .int sM, .int sP, .ref (bd 5), .ref (bd 6), .ref (bd 7), .int (nI z), .ref (bd 8), .ref (bd 9), .ref (bd 10), .ref (bd 11), .int sd, .int kR, .int kH, .int kM, .int kP, .int (nI kz), .ref (bd 12), .ref (bd 13), .long hs])), (bd 2, .inl (G.2.1, 4, .inl rd))] := (hD.sub [0, 1] (by decide) rfl)
              exact W.zret (ty := .boolean) hx hb hr (by decide) (fun t9 ht9 hW9 => ⟨⟨(nI 1), (r1, s1 + 1, (rK + (x - (nI 48))), rd), rfl, ⟨w9_r, w9_0⟩, by rw [ht9]; exact hP9, hD9⟩, hS.F ht9⟩) hS.2.2 dX12_go_159
        · skip
          have c_4 := (cEqNN (a := s1) (b := 1) (by omega) (by omega)).mp c_4
          exact absurd c_4 (by omega)
      · skip
        have c_3 := (cEqNN (a := s1) (b := 1) (by omega) (by omega)).mp c_3
        refine lv_bipush (v := (nI 8)) hx hb dX12_go_104 (by decide) ?_
        refine lv_iload_n hx hb dX12_go_106 rfl (lv_at hl 1 rfl) ?_
        refine lv_imul hx hb dX12_go_107 ?_
        refine lv_goto (tgt := 117) hx hb dX12_go_108 (by decide) ?_
        refine va_put (D := G.1) (ci := 12) (v := .int ((nI 8) * (x - (nI 48)))) (ty := .int) (C := RX12) (T := TX12) (N := 33) hx hb hts (g_in wsX120 14 rfl) tyX12 tyX12_ok nmX12 hown hK.1 hP hD hS 0 rfl rfl 4 (by decide) (hts _ (List.mem_of_getElem? (i := 4) rfl)) (fun _ h9 => h9) rfl (tyX12_ok 4 (by decide)) rfl rfl (Nat.le_of_ble_eq_true rfl) dX12_go_117 (fun H locs hP hD hS => ?_)
        have hP : va_P G.1 vwCl [(bd 0, .inr (12, [.ref (bd 1), .int (nI ln), .ref (bd 2), .int (nI r1), .int ((nI 8) * (x - (nI 48))), .int (nI (s1 + 1)), .int (nI n), .int (nI h), .int (nI mk), .int ps, .int rr, .ref (bd 3), .ref (bd 4), .int sH, .int sM, .int sP, .ref (bd 5), .ref (bd 6), .ref (bd 7), .int (nI z), .ref (bd 8), .ref (bd 9), .ref (bd 10), .ref (bd 11), .int sd, .int kR, .int kH, .int kM, .int kP, .int (nI kz), .ref (bd 12), .ref (bd 13), .long hs])), (bd 2, .inl (G.2.1, 4, .inl rd))] H := hP
        have hD : va_D A [(bd 0, .inr (12, [.ref (bd 1), .int (nI ln), .ref (bd 2), .int (nI r1), .int ((nI 8) * (x - (nI 48))), .int (nI (s1 + 1)), .int (nI n), .int (nI h), .int (nI mk), .int ps, .int rr, .ref (bd 3), .ref (bd 4), .int sH, .int sM, .int sP, .ref (bd 5), .ref (bd 6), .ref (bd 7), .int (nI z), .ref (bd 8), .ref (bd 9), .ref (bd 10), .ref (bd 11), .int sd, .int kR, .int kH, .int kM, .int kP, .int (nI kz), .ref (bd 12), .ref (bd 13), .long hs])), (bd 2, .inl (G.2.1, 4, .inl rd))] := hD
        refine lv_iload_n hx hb dX12_go_120 rfl (lv_at hl 0 rfl) ?_
        refine lv_iconst (v := (nI 1)) hx hb dX12_go_121 (by decide) ?_
        refine lv_icmp_ne (tgt := 137) hx hb dX12_go_122 (by decide) (fun c_7 => ?_) (fun c_7 => ?_)
        · skip
          have c_7 := gNot (cEqNN (a := s1) (b := 1) (by omega) (by omega)) c_7
          exact absurd c_7 (by omega)
        · skip
          have c_7 := (cEqNN (a := s1) (b := 1) (by omega) (by omega)).mp c_7
          refine lv_iload_n hx hb dX12_go_125 rfl (lv_at hl 1 rfl) ?_
          refine lv_i2l (v := (x - (nI 48)).toInt64) hx hb dX12_go_126 rfl ?_
          refine lv_lconst (v := (0 : Int64)) hx hb dX12_go_127 rfl ?_
          refine lv_ldc2 (v := (3 : Int64)) hx hb hown (hts _ (List.mem_of_getElem? (i := 5) rfl)) dX12_go_128 ?_
          refine g_callSi (va_runS (As := [.long ((x - (nI 48)).toInt64), .long (0 : Int64), .long (3 : Int64)]) (rest := []) ⟨hx, hb, hml, hown, hts⟩ (m_in l G ((x - (nI 48)).toInt64) (0 : Int64) (3 : Int64) ) (va_cwS 3 hts gX12_go_X12_in rfl rfl rfl (by decide +kernel) ⟨Nat.le_of_ble_eq_true rfl, Nat.le_of_ble_eq_true rfl⟩) (gR.S hK (show va_P G.1 vwCl [] H from g_nil)) rfl rfl hl.1 rfl (lv_room (Nat.le_of_ble_eq_true rfl)) dX12_go_131 ⟨Nat.le_of_ble_eq_true rfl, Nat.le_of_ble_eq_true rfl⟩) (fun r hr0 => ?_)
          subst hr0
          refine g_top (x := (bI ((0 : Int64).toInt ≤ ((x - (nI 48)).toInt64).toInt ∧ ((x - (nI 48)).toInt64).toInt ≤ (3 : Int64).toInt))) (y := (bI (0 ≤ (x - nI 48).toInt ∧ (x - nI 48).toInt ≤ 3))) (bI_iff (inE (by decide) (by decide))) ?_
          refine lv_goto (tgt := 159) hx hb dX12_go_134 (by decide) ?_
          have w9_r : (bI (0 ≤ (x - nI 48).toInt ∧ (x - nI 48).toInt ≤ 3)) = (bI (goB x r1 s1)) := (bI_iff ⟨fun z9 => Or.inr (Or.inl ⟨by omega, z9⟩), fun z9 => by rcases z9 with ⟨z8, _⟩ | ⟨_, z7⟩ | ⟨z8, _⟩ <;> first | omega | exact z7⟩)
          have w9_0 : (r1, (s1 + 1), ((nI 8) * (x - (nI 48))), rd) = goS x r1 s1 rK rd := (goS_d (by omega) (by omega))
          have hP9 : va_P G.1 vwCl [(bd 0, .inr (12, [.ref (bd 1), .int (nI ln), .ref (bd 2), .int (nI r1), .int ((nI 8) * (x - (nI 48))), .int (nI (s1 + 1)), .int (nI n), .int (nI h), .int (nI mk), .int ps, .int rr, .ref (bd 3), .ref (bd 4), .int sH, .int sM, .int sP, .ref (bd 5), .ref (bd 6), .ref (bd 7), .int (nI z), .ref (bd 8), .ref (bd 9), .ref (bd 10), .ref (bd 11), .int sd, .int kR, .int kH, .int kM, .int kP, .int (nI kz), .ref (bd 12), .ref (bd 13), .long hs])), (bd 2, .inl (G.2.1, 4, .inl rd))] H := (hP.sub [0, 1] rfl)
          have hD9 : va_D A [(bd 0, .inr (12, [.ref (bd 1), .int (nI ln), .ref (bd 2), .int (nI r1), .int ((nI 8) * (x - (nI 48))), .int (nI (s1 + 1)), .int (nI n), .int (nI h), .int (nI mk), .int ps, .int rr, .ref (bd 3), .ref (bd 4), .int sH, .int sM, .int sP, .ref (bd 5), .ref (bd 6), .ref (bd 7), .int (nI z), .ref (bd 8), .ref (bd 9), .ref (bd 10), .ref (bd 11), .int sd, .int kR, .int kH, .int kM, .int kP, .int (nI kz), .ref (bd 12), .ref (bd 13), .long hs])), (bd 2, .inl (G.2.1, 4, .inl rd))] := (hD.sub [0, 1] (by decide) rfl)
          exact W.zret (ty := .boolean) hx hb hr bI_nar (fun t9 ht9 hW9 => ⟨⟨(bI (0 ≤ (x - nI 48).toInt ∧ (x - nI 48).toInt ≤ 3)), (r1, s1 + 1, ((nI 8) * (x - (nI 48))), rd), rfl, ⟨w9_r, w9_0⟩, by rw [ht9]; exact hP9, hD9⟩, hS.F ht9⟩) hS.2.2 dX12_go_159
    · skip
      have c_2 := (cEqNN (a := s1) (b := 0) (by omega) (by omega)).mp c_2
      exact absurd c_2 (by omega)
  · skip
    have c_1 := (cEqNN (a := s1) (b := 0) (by omega) (by omega)).mp c_1
    refine lv_iload_n hx hb dX12_go_12 rfl (lv_at hl 2 rfl) ?_
    refine lv_bipush (v := (nI 59)) hx hb dX12_go_13 (by decide) ?_
    refine lv_icmp_ne (tgt := 33) hx hb dX12_go_15 (by decide) (fun c_8 => ?_) (fun c_8 => ?_)
    · skip
      refine lv_aload_n hx hb dX12_go_33 rfl (lv_at hl 1 rfl) ?_
      refine va_get (D := G.1) (ci := 12) (v := .int (nI s1)) (C := RX12) (T := TX12) (N := 33) hx hb hts (g_in wsX120 14 rfl) hown hK.1 hP 0 rfl rfl 5 (by decide) (hts _ (List.mem_of_getElem? (i := 1) rfl)) (fun _ h9 => h9) rfl dX12_go_34 ?_
      refine lv_if_ne (tgt := 83) hx hb dX12_go_37 (by decide) (fun c_9 => ?_) (fun c_9 => ?_)
      · skip
        have c_9 := gNot (cEqNN (a := s1) (b := 0) (by omega) (by omega)) c_9
        exact absurd c_9 (by omega)
      · skip
        have c_9 := (cEqNN (a := s1) (b := 0) (by omega) (by omega)).mp c_9
        refine lv_aload_n hx hb dX12_go_40 rfl (lv_at hl 1 rfl) ?_
        refine va_get (D := G.1) (ci := 12) (v := .int (nI r1)) (C := RX12) (T := TX12) (N := 33) hx hb hts (g_in wsX120 14 rfl) hown hK.1 hP 0 rfl rfl 3 (by decide) (hts _ (List.mem_of_getElem? (i := 2) rfl)) (fun _ h9 => h9) rfl dX12_go_41 ?_
        refine lv_iconst (v := (nI 4)) hx hb dX12_go_44 (by decide) ?_
        refine lv_icmp_eq (tgt := 56) hx hb dX12_go_45 (by decide) (fun c_10 => ?_) (fun c_10 => ?_)
        · skip
          have c_10 := (cEqNN (a := r1) (b := 4) (by omega) (by omega)).mp c_10
          refine lv_iconst (v := (nI 0)) hx hb dX12_go_56 (by decide) ?_
          have w9_r : (nI 0) = (bI (goB x r1 s1)) := (bI_f (fun z9 => by rcases z9 with ⟨_, ⟨z8, z7⟩ | ⟨z8, z7⟩⟩ | ⟨z8, _⟩ | ⟨z8, _⟩ <;> first | omega | contradiction))
          have w9_0 : (r1, s1, rK, rd) = goS x r1 s1 rK rd := (goS_b (by omega) (fun z9 => by obtain ⟨z8, z7⟩ := z9; first | omega | contradiction) (by first | exact Or.inl (by omega) | exact Or.inr (by assumption)))
          have hP9 : va_P G.1 vwCl [(bd 0, .inr (12, [.ref (bd 1), .int (nI ln), .ref (bd 2), .int (nI r1), .int rK, .int (nI s1), .int (nI n), .int (nI h), .int (nI mk), .int ps, .int rr, .ref (bd 3), .ref (bd 4), .int sH, .int sM, .int sP, .ref (bd 5), .ref (bd 6), .ref (bd 7), .int (nI z), .ref (bd 8), .ref (bd 9), .ref (bd 10), .ref (bd 11), .int sd, .int kR, .int kH, .int kM, .int kP, .int (nI kz), .ref (bd 12), .ref (bd 13), .long hs])), (bd 2, .inl (G.2.1, 4, .inl rd))] s.heap := (hP.sub [0, 1] rfl)
          have hD9 : va_D A [(bd 0, .inr (12, [.ref (bd 1), .int (nI ln), .ref (bd 2), .int (nI r1), .int rK, .int (nI s1), .int (nI n), .int (nI h), .int (nI mk), .int ps, .int rr, .ref (bd 3), .ref (bd 4), .int sH, .int sM, .int sP, .ref (bd 5), .ref (bd 6), .ref (bd 7), .int (nI z), .ref (bd 8), .ref (bd 9), .ref (bd 10), .ref (bd 11), .int sd, .int kR, .int kH, .int kM, .int kP, .int (nI kz), .ref (bd 12), .ref (bd 13), .long hs])), (bd 2, .inl (G.2.1, 4, .inl rd))] := (hD.sub [0, 1] (by decide) rfl)
          exact W.zret (ty := .boolean) hx hb hr (by decide) (fun t9 ht9 hW9 => ⟨⟨(nI 0), (r1, s1, rK, rd), rfl, ⟨w9_r, w9_0⟩, by rw [ht9]; exact hP9, hD9⟩, hS.F ht9⟩) hS.2.2 dX12_go_57
        · skip
          have c_10 := gNot (cEqNN (a := r1) (b := 4) (by omega) (by omega)) c_10
          refine lv_iload_n hx hb dX12_go_48 rfl (lv_at hl 2 rfl) ?_
          refine g_callSi (va_runS (As := [.int x]) (rest := []) ⟨hx, hb, hml, hown, hts⟩ (m_kindBy l G x ) (va_cwS 1 hts gX12_go_X12_kindBy rfl rfl rfl (by decide +kernel) ⟨Nat.le_of_ble_eq_true rfl, Nat.le_of_ble_eq_true rfl⟩) (gR.S hK (show va_P G.1 vwCl [] s.heap from g_nil)) rfl rfl hl.1 rfl (lv_room (Nat.le_of_ble_eq_true rfl)) dX12_go_49 ⟨Nat.le_of_ble_eq_true rfl, Nat.le_of_ble_eq_true rfl⟩) (fun r hr0 => ?_)
          subst hr0
          refine lv_iconst (v := (-1)) hx hb dX12_go_52 (by decide) ?_
          refine lv_icmp_ne (tgt := 58) hx hb dX12_go_53 (by decide) (fun c_11 => ?_) (fun c_11 => ?_)
          · skip
            refine lv_aload_n hx hb dX12_go_58 rfl (lv_at hl 1 rfl) ?_
            refine va_get (D := G.1) (ci := 12) (v := .ref (bd 2)) (C := RX12) (T := TX12) (N := 33) hx hb hts (g_in wsX120 14 rfl) hown hK.1 hP 0 rfl rfl 2 (by decide) (hts _ (List.mem_of_getElem? (i := 3) rfl)) (fun _ h9 => h9) rfl dX12_go_59 ?_
            refine lv_aload_n hx hb dX12_go_62 rfl (lv_at hl 1 rfl) ?_
            refine va_get (D := G.1) (ci := 12) (v := .int (nI r1)) (C := RX12) (T := TX12) (N := 33) hx hb hts (g_in wsX120 14 rfl) hown hK.1 hP 0 rfl rfl 3 (by decide) (hts _ (List.mem_of_getElem? (i := 2) rfl)) (fun _ h9 => h9) rfl dX12_go_63 ?_
            refine lv_iload_n hx hb dX12_go_66 rfl (lv_at hl 2 rfl) ?_
            refine g_callSi (va_runS (As := [.int x]) (rest := [.int (nI r1), .ref (bd 2)]) ⟨hx, hb, hml, hown, hts⟩ (m_kindBy l G x ) (va_cwS 1 hts gX12_go_X12_kindBy rfl rfl rfl (by decide +kernel) ⟨Nat.le_of_ble_eq_true rfl, Nat.le_of_ble_eq_true rfl⟩) (gR.S hK (show va_P G.1 vwCl [] s.heap from g_nil)) rfl rfl hl.1 rfl (lv_room (Nat.le_of_ble_eq_true rfl)) dX12_go_67 ⟨Nat.le_of_ble_eq_true rfl, Nat.le_of_ble_eq_true rfl⟩) (fun r hr0 => ?_)
            subst hr0
            refine g_iast hx hb hK hP hD hS 1 rfl (by omega) (by decide) dX12_go_70 (fun H locs hP hD hS => ?_)
            have hP : va_P G.1 vwCl [(bd 0, .inr (12, [.ref (bd 1), .int (nI ln), .ref (bd 2), .int (nI r1), .int rK, .int (nI s1), .int (nI n), .int (nI h), .int (nI mk), .int ps, .int rr, .ref (bd 3), .ref (bd 4), .int sH, .int sM, .int sP, .ref (bd 5), .ref (bd 6), .ref (bd 7), .int (nI z), .ref (bd 8), .ref (bd 9), .ref (bd 10), .ref (bd 11), .int sd, .int kR, .int kH, .int kM, .int kP, .int (nI kz), .ref (bd 12), .ref (bd 13), .long hs])), (bd 2, .inl (G.2.1, 4, .inl (upd rd r1 (kBy x))))] H := hP
            have hD : va_D A [(bd 0, .inr (12, [.ref (bd 1), .int (nI ln), .ref (bd 2), .int (nI r1), .int rK, .int (nI s1), .int (nI n), .int (nI h), .int (nI mk), .int ps, .int rr, .ref (bd 3), .ref (bd 4), .int sH, .int sM, .int sP, .ref (bd 5), .ref (bd 6), .ref (bd 7), .int (nI z), .ref (bd 8), .ref (bd 9), .ref (bd 10), .ref (bd 11), .int sd, .int kR, .int kH, .int kM, .int kP, .int (nI kz), .ref (bd 12), .ref (bd 13), .long hs])), (bd 2, .inl (G.2.1, 4, .inl (upd rd r1 (kBy x))))] := hD
            refine lv_aload_n hx hb dX12_go_71 rfl (lv_at hl 1 rfl) ?_
            refine lv_dup hx hb dX12_go_72 rfl ?_
            refine va_get (D := G.1) (ci := 12) (v := .int (nI r1)) (C := RX12) (T := TX12) (N := 33) hx hb hts (g_in wsX120 14 rfl) hown hK.1 hP 0 rfl rfl 3 (by decide) (hts _ (List.mem_of_getElem? (i := 2) rfl)) (fun _ h9 => h9) rfl dX12_go_73 ?_
            refine lv_iconst (v := (nI 1)) hx hb dX12_go_76 (by decide) ?_
            refine lv_iadd hx hb dX12_go_77 ?_
            refine g_top (y := (nI (r1 + 1))) (nI_add _ _) ?_
            refine va_put (D := G.1) (ci := 12) (v := .int (nI (r1 + 1))) (ty := .int) (C := RX12) (T := TX12) (N := 33) hx hb hts (g_in wsX120 14 rfl) tyX12 tyX12_ok nmX12 hown hK.1 hP hD hS 0 rfl rfl 3 (by decide) (hts _ (List.mem_of_getElem? (i := 2) rfl)) (fun _ h9 => h9) rfl (tyX12_ok 3 (by decide)) rfl rfl (Nat.le_of_ble_eq_true rfl) dX12_go_78 (fun H locs hP hD hS => ?_)
            have hP : va_P G.1 vwCl [(bd 0, .inr (12, [.ref (bd 1), .int (nI ln), .ref (bd 2), .int (nI (r1 + 1)), .int rK, .int (nI s1), .int (nI n), .int (nI h), .int (nI mk), .int ps, .int rr, .ref (bd 3), .ref (bd 4), .int sH, .int sM, .int sP, .ref (bd 5), .ref (bd 6), .ref (bd 7), .int (nI z), .ref (bd 8), .ref (bd 9), .ref (bd 10), .ref (bd 11), .int sd, .int kR, .int kH, .int kM, .int kP, .int (nI kz), .ref (bd 12), .ref (bd 13), .long hs])), (bd 2, .inl (G.2.1, 4, .inl (upd rd r1 (kBy x))))] H := hP
            have hD : va_D A [(bd 0, .inr (12, [.ref (bd 1), .int (nI ln), .ref (bd 2), .int (nI (r1 + 1)), .int rK, .int (nI s1), .int (nI n), .int (nI h), .int (nI mk), .int ps, .int rr, .ref (bd 3), .ref (bd 4), .int sH, .int sM, .int sP, .ref (bd 5), .ref (bd 6), .ref (bd 7), .int (nI z), .ref (bd 8), .ref (bd 9), .ref (bd 10), .ref (bd 11), .int sd, .int kR, .int kH, .int kM, .int kP, .int (nI kz), .ref (bd 12), .ref (bd 13), .long hs])), (bd 2, .inl (G.2.1, 4, .inl (upd rd r1 (kBy x))))] := hD
            refine lv_iconst (v := (nI 1)) hx hb dX12_go_81 (by decide) ?_
            have w9_r : (nI 1) = (bI (goB x r1 s1)) := (bI_t (Or.inl ⟨by omega, Or.inr ⟨by omega, by assumption⟩⟩))
            have w9_0 : ((r1 + 1), s1, rK, (upd rd r1 (kBy x))) = goS x r1 s1 rK rd := (goS_c (by omega) (fun z9 => by obtain ⟨z8, z7⟩ := z9; first | omega | contradiction) (fun z9 => z9.elim (by omega) (by assumption)))
            have hP9 : va_P G.1 vwCl [(bd 0, .inr (12, [.ref (bd 1), .int (nI ln), .ref (bd 2), .int (nI (r1 + 1)), .int rK, .int (nI s1), .int (nI n), .int (nI h), .int (nI mk), .int ps, .int rr, .ref (bd 3), .ref (bd 4), .int sH, .int sM, .int sP, .ref (bd 5), .ref (bd 6), .ref (bd 7), .int (nI z), .ref (bd 8), .ref (bd 9), .ref (bd 10), .ref (bd 11), .int sd, .int kR, .int kH, .int kM, .int kP, .int (nI kz), .ref (bd 12), .ref (bd 13), .long hs])), (bd 2, .inl (G.2.1, 4, .inl (upd rd r1 (kBy x))))] H := (hP.sub [0, 1] rfl)
            have hD9 : va_D A [(bd 0, .inr (12, [.ref (bd 1), .int (nI ln), .ref (bd 2), .int (nI (r1 + 1)), .int rK, .int (nI s1), .int (nI n), .int (nI h), .int (nI mk), .int ps, .int rr, .ref (bd 3), .ref (bd 4), .int sH, .int sM, .int sP, .ref (bd 5), .ref (bd 6), .ref (bd 7), .int (nI z), .ref (bd 8), .ref (bd 9), .ref (bd 10), .ref (bd 11), .int sd, .int kR, .int kH, .int kM, .int kP, .int (nI kz), .ref (bd 12), .ref (bd 13), .long hs])), (bd 2, .inl (G.2.1, 4, .inl (upd rd r1 (kBy x))))] := (hD.sub [0, 1] (by decide) rfl)
            exact W.zret (ty := .boolean) hx hb hr (by decide) (fun t9 ht9 hW9 => ⟨⟨(nI 1), (r1 + 1, s1, rK, upd rd r1 (kBy x)), rfl, ⟨w9_r, w9_0⟩, by rw [ht9]; exact hP9, hD9⟩, hS.F ht9⟩) hS.2.2 dX12_go_82
          · skip
            refine lv_iconst (v := (nI 0)) hx hb dX12_go_56 (by decide) ?_
            have w9_r : (nI 0) = (bI (goB x r1 s1)) := (bI_f (fun z9 => by rcases z9 with ⟨_, ⟨z8, z7⟩ | ⟨z8, z7⟩⟩ | ⟨z8, _⟩ | ⟨z8, _⟩ <;> first | omega | contradiction))
            have w9_0 : (r1, s1, rK, rd) = goS x r1 s1 rK rd := (goS_b (by omega) (fun z9 => by obtain ⟨z8, z7⟩ := z9; first | omega | contradiction) (by first | exact Or.inl (by omega) | exact Or.inr (by assumption)))
            have hP9 : va_P G.1 vwCl [(bd 0, .inr (12, [.ref (bd 1), .int (nI ln), .ref (bd 2), .int (nI r1), .int rK, .int (nI s1), .int (nI n), .int (nI h), .int (nI mk), .int ps, .int rr, .ref (bd 3), .ref (bd 4), .int sH, .int sM, .int sP, .ref (bd 5), .ref (bd 6), .ref (bd 7), .int (nI z), .ref (bd 8), .ref (bd 9), .ref (bd 10), .ref (bd 11), .int sd, .int kR, .int kH, .int kM, .int kP, .int (nI kz), .ref (bd 12), .ref (bd 13), .long hs])), (bd 2, .inl (G.2.1, 4, .inl rd))] s.heap := (hP.sub [0, 1] rfl)
            have hD9 : va_D A [(bd 0, .inr (12, [.ref (bd 1), .int (nI ln), .ref (bd 2), .int (nI r1), .int rK, .int (nI s1), .int (nI n), .int (nI h), .int (nI mk), .int ps, .int rr, .ref (bd 3), .ref (bd 4), .int sH, .int sM, .int sP, .ref (bd 5), .ref (bd 6), .ref (bd 7), .int (nI z), .ref (bd 8), .ref (bd 9), .ref (bd 10), .ref (bd 11), .int sd, .int kR, .int kH, .int kM, .int kP, .int (nI kz), .ref (bd 12), .ref (bd 13), .long hs])), (bd 2, .inl (G.2.1, 4, .inl rd))] := (hD.sub [0, 1] (by decide) rfl)
            exact W.zret (ty := .boolean) hx hb hr (by decide) (fun t9 ht9 hW9 => ⟨⟨(nI 0), (r1, s1, rK, rd), rfl, ⟨w9_r, w9_0⟩, by rw [ht9]; exact hP9, hD9⟩, hS.F ht9⟩) hS.2.2 dX12_go_57
    · skip
      refine lv_aload_n hx hb dX12_go_18 rfl (lv_at hl 1 rfl) ?_
      refine va_get (D := G.1) (ci := 12) (v := .int (nI r1)) (C := RX12) (T := TX12) (N := 33) hx hb hts (g_in wsX120 14 rfl) hown hK.1 hP 0 rfl rfl 3 (by decide) (hts _ (List.mem_of_getElem? (i := 2) rfl)) (fun _ h9 => h9) rfl dX12_go_19 ?_
      refine lv_iconst (v := (nI 1)) hx hb dX12_go_22 (by decide) ?_
      refine lv_icmp_le (tgt := 33) hx hb dX12_go_23 (by decide) (fun c_12 => ?_) (fun c_12 => ?_)
      · skip
        have c_12 := (cLeNN (a := r1) (b := 1) (by omega) (by omega)).mp c_12
        refine lv_aload_n hx hb dX12_go_33 rfl (lv_at hl 1 rfl) ?_
        refine va_get (D := G.1) (ci := 12) (v := .int (nI s1)) (C := RX12) (T := TX12) (N := 33) hx hb hts (g_in wsX120 14 rfl) hown hK.1 hP 0 rfl rfl 5 (by decide) (hts _ (List.mem_of_getElem? (i := 1) rfl)) (fun _ h9 => h9) rfl dX12_go_34 ?_
        refine lv_if_ne (tgt := 83) hx hb dX12_go_37 (by decide) (fun c_13 => ?_) (fun c_13 => ?_)
        · skip
          have c_13 := gNot (cEqNN (a := s1) (b := 0) (by omega) (by omega)) c_13
          exact absurd c_13 (by omega)
        · skip
          have c_13 := (cEqNN (a := s1) (b := 0) (by omega) (by omega)).mp c_13
          refine lv_aload_n hx hb dX12_go_40 rfl (lv_at hl 1 rfl) ?_
          refine va_get (D := G.1) (ci := 12) (v := .int (nI r1)) (C := RX12) (T := TX12) (N := 33) hx hb hts (g_in wsX120 14 rfl) hown hK.1 hP 0 rfl rfl 3 (by decide) (hts _ (List.mem_of_getElem? (i := 2) rfl)) (fun _ h9 => h9) rfl dX12_go_41 ?_
          refine lv_iconst (v := (nI 4)) hx hb dX12_go_44 (by decide) ?_
          refine lv_icmp_eq (tgt := 56) hx hb dX12_go_45 (by decide) (fun c_14 => ?_) (fun c_14 => ?_)
          · skip
            have c_14 := (cEqNN (a := r1) (b := 4) (by omega) (by omega)).mp c_14
            refine lv_iconst (v := (nI 0)) hx hb dX12_go_56 (by decide) ?_
            have w9_r : (nI 0) = (bI (goB x r1 s1)) := (bI_f (fun z9 => by rcases z9 with ⟨_, ⟨z8, z7⟩ | ⟨z8, z7⟩⟩ | ⟨z8, _⟩ | ⟨z8, _⟩ <;> first | omega | contradiction))
            have w9_0 : (r1, s1, rK, rd) = goS x r1 s1 rK rd := (goS_b (by omega) (fun z9 => by obtain ⟨z8, z7⟩ := z9; first | omega | contradiction) (by first | exact Or.inl (by omega) | exact Or.inr (by assumption)))
            have hP9 : va_P G.1 vwCl [(bd 0, .inr (12, [.ref (bd 1), .int (nI ln), .ref (bd 2), .int (nI r1), .int rK, .int (nI s1), .int (nI n), .int (nI h), .int (nI mk), .int ps, .int rr, .ref (bd 3), .ref (bd 4), .int sH, .int sM, .int sP, .ref (bd 5), .ref (bd 6), .ref (bd 7), .int (nI z), .ref (bd 8), .ref (bd 9), .ref (bd 10), .ref (bd 11), .int sd, .int kR, .int kH, .int kM, .int kP, .int (nI kz), .ref (bd 12), .ref (bd 13), .long hs])), (bd 2, .inl (G.2.1, 4, .inl rd))] s.heap := (hP.sub [0, 1] rfl)
            have hD9 : va_D A [(bd 0, .inr (12, [.ref (bd 1), .int (nI ln), .ref (bd 2), .int (nI r1), .int rK, .int (nI s1), .int (nI n), .int (nI h), .int (nI mk), .int ps, .int rr, .ref (bd 3), .ref (bd 4), .int sH, .int sM, .int sP, .ref (bd 5), .ref (bd 6), .ref (bd 7), .int (nI z), .ref (bd 8), .ref (bd 9), .ref (bd 10), .ref (bd 11), .int sd, .int kR, .int kH, .int kM, .int kP, .int (nI kz), .ref (bd 12), .ref (bd 13), .long hs])), (bd 2, .inl (G.2.1, 4, .inl rd))] := (hD.sub [0, 1] (by decide) rfl)
            exact W.zret (ty := .boolean) hx hb hr (by decide) (fun t9 ht9 hW9 => ⟨⟨(nI 0), (r1, s1, rK, rd), rfl, ⟨w9_r, w9_0⟩, by rw [ht9]; exact hP9, hD9⟩, hS.F ht9⟩) hS.2.2 dX12_go_57
          · skip
            have c_14 := gNot (cEqNN (a := r1) (b := 4) (by omega) (by omega)) c_14
            refine lv_iload_n hx hb dX12_go_48 rfl (lv_at hl 2 rfl) ?_
            refine g_callSi (va_runS (As := [.int x]) (rest := []) ⟨hx, hb, hml, hown, hts⟩ (m_kindBy l G x ) (va_cwS 1 hts gX12_go_X12_kindBy rfl rfl rfl (by decide +kernel) ⟨Nat.le_of_ble_eq_true rfl, Nat.le_of_ble_eq_true rfl⟩) (gR.S hK (show va_P G.1 vwCl [] s.heap from g_nil)) rfl rfl hl.1 rfl (lv_room (Nat.le_of_ble_eq_true rfl)) dX12_go_49 ⟨Nat.le_of_ble_eq_true rfl, Nat.le_of_ble_eq_true rfl⟩) (fun r hr0 => ?_)
            subst hr0
            refine lv_iconst (v := (-1)) hx hb dX12_go_52 (by decide) ?_
            refine lv_icmp_ne (tgt := 58) hx hb dX12_go_53 (by decide) (fun c_15 => ?_) (fun c_15 => ?_)
            · skip
              refine lv_aload_n hx hb dX12_go_58 rfl (lv_at hl 1 rfl) ?_
              refine va_get (D := G.1) (ci := 12) (v := .ref (bd 2)) (C := RX12) (T := TX12) (N := 33) hx hb hts (g_in wsX120 14 rfl) hown hK.1 hP 0 rfl rfl 2 (by decide) (hts _ (List.mem_of_getElem? (i := 3) rfl)) (fun _ h9 => h9) rfl dX12_go_59 ?_
              refine lv_aload_n hx hb dX12_go_62 rfl (lv_at hl 1 rfl) ?_
              refine va_get (D := G.1) (ci := 12) (v := .int (nI r1)) (C := RX12) (T := TX12) (N := 33) hx hb hts (g_in wsX120 14 rfl) hown hK.1 hP 0 rfl rfl 3 (by decide) (hts _ (List.mem_of_getElem? (i := 2) rfl)) (fun _ h9 => h9) rfl dX12_go_63 ?_
              refine lv_iload_n hx hb dX12_go_66 rfl (lv_at hl 2 rfl) ?_
              refine g_callSi (va_runS (As := [.int x]) (rest := [.int (nI r1), .ref (bd 2)]) ⟨hx, hb, hml, hown, hts⟩ (m_kindBy l G x ) (va_cwS 1 hts gX12_go_X12_kindBy rfl rfl rfl (by decide +kernel) ⟨Nat.le_of_ble_eq_true rfl, Nat.le_of_ble_eq_true rfl⟩) (gR.S hK (show va_P G.1 vwCl [] s.heap from g_nil)) rfl rfl hl.1 rfl (lv_room (Nat.le_of_ble_eq_true rfl)) dX12_go_67 ⟨Nat.le_of_ble_eq_true rfl, Nat.le_of_ble_eq_true rfl⟩) (fun r hr0 => ?_)
              subst hr0
              refine g_iast hx hb hK hP hD hS 1 rfl (by omega) (by decide) dX12_go_70 (fun H locs hP hD hS => ?_)
              have hP : va_P G.1 vwCl [(bd 0, .inr (12, [.ref (bd 1), .int (nI ln), .ref (bd 2), .int (nI r1), .int rK, .int (nI s1), .int (nI n), .int (nI h), .int (nI mk), .int ps, .int rr, .ref (bd 3), .ref (bd 4), .int sH, .int sM, .int sP, .ref (bd 5), .ref (bd 6), .ref (bd 7), .int (nI z), .ref (bd 8), .ref (bd 9), .ref (bd 10), .ref (bd 11), .int sd, .int kR, .int kH, .int kM, .int kP, .int (nI kz), .ref (bd 12), .ref (bd 13), .long hs])), (bd 2, .inl (G.2.1, 4, .inl (upd rd r1 (kBy x))))] H := hP
              have hD : va_D A [(bd 0, .inr (12, [.ref (bd 1), .int (nI ln), .ref (bd 2), .int (nI r1), .int rK, .int (nI s1), .int (nI n), .int (nI h), .int (nI mk), .int ps, .int rr, .ref (bd 3), .ref (bd 4), .int sH, .int sM, .int sP, .ref (bd 5), .ref (bd 6), .ref (bd 7), .int (nI z), .ref (bd 8), .ref (bd 9), .ref (bd 10), .ref (bd 11), .int sd, .int kR, .int kH, .int kM, .int kP, .int (nI kz), .ref (bd 12), .ref (bd 13), .long hs])), (bd 2, .inl (G.2.1, 4, .inl (upd rd r1 (kBy x))))] := hD
              refine lv_aload_n hx hb dX12_go_71 rfl (lv_at hl 1 rfl) ?_
              refine lv_dup hx hb dX12_go_72 rfl ?_
              refine va_get (D := G.1) (ci := 12) (v := .int (nI r1)) (C := RX12) (T := TX12) (N := 33) hx hb hts (g_in wsX120 14 rfl) hown hK.1 hP 0 rfl rfl 3 (by decide) (hts _ (List.mem_of_getElem? (i := 2) rfl)) (fun _ h9 => h9) rfl dX12_go_73 ?_
              refine lv_iconst (v := (nI 1)) hx hb dX12_go_76 (by decide) ?_
              refine lv_iadd hx hb dX12_go_77 ?_
              refine g_top (y := (nI (r1 + 1))) (nI_add _ _) ?_
              refine va_put (D := G.1) (ci := 12) (v := .int (nI (r1 + 1))) (ty := .int) (C := RX12) (T := TX12) (N := 33) hx hb hts (g_in wsX120 14 rfl) tyX12 tyX12_ok nmX12 hown hK.1 hP hD hS 0 rfl rfl 3 (by decide) (hts _ (List.mem_of_getElem? (i := 2) rfl)) (fun _ h9 => h9) rfl (tyX12_ok 3 (by decide)) rfl rfl (Nat.le_of_ble_eq_true rfl) dX12_go_78 (fun H locs hP hD hS => ?_)
              have hP : va_P G.1 vwCl [(bd 0, .inr (12, [.ref (bd 1), .int (nI ln), .ref (bd 2), .int (nI (r1 + 1)), .int rK, .int (nI s1), .int (nI n), .int (nI h), .int (nI mk), .int ps, .int rr, .ref (bd 3), .ref (bd 4), .int sH, .int sM, .int sP, .ref (bd 5), .ref (bd 6), .ref (bd 7), .int (nI z), .ref (bd 8), .ref (bd 9), .ref (bd 10), .ref (bd 11), .int sd, .int kR, .int kH, .int kM, .int kP, .int (nI kz), .ref (bd 12), .ref (bd 13), .long hs])), (bd 2, .inl (G.2.1, 4, .inl (upd rd r1 (kBy x))))] H := hP
              have hD : va_D A [(bd 0, .inr (12, [.ref (bd 1), .int (nI ln), .ref (bd 2), .int (nI (r1 + 1)), .int rK, .int (nI s1), .int (nI n), .int (nI h), .int (nI mk), .int ps, .int rr, .ref (bd 3), .ref (bd 4), .int sH, .int sM, .int sP, .ref (bd 5), .ref (bd 6), .ref (bd 7), .int (nI z), .ref (bd 8), .ref (bd 9), .ref (bd 10), .ref (bd 11), .int sd, .int kR, .int kH, .int kM, .int kP, .int (nI kz), .ref (bd 12), .ref (bd 13), .long hs])), (bd 2, .inl (G.2.1, 4, .inl (upd rd r1 (kBy x))))] := hD
              refine lv_iconst (v := (nI 1)) hx hb dX12_go_81 (by decide) ?_
              have w9_r : (nI 1) = (bI (goB x r1 s1)) := (bI_t (Or.inl ⟨by omega, Or.inr ⟨by omega, by assumption⟩⟩))
              have w9_0 : ((r1 + 1), s1, rK, (upd rd r1 (kBy x))) = goS x r1 s1 rK rd := (goS_c (by omega) (fun z9 => by obtain ⟨z8, z7⟩ := z9; first | omega | contradiction) (fun z9 => z9.elim (by omega) (by assumption)))
              have hP9 : va_P G.1 vwCl [(bd 0, .inr (12, [.ref (bd 1), .int (nI ln), .ref (bd 2), .int (nI (r1 + 1)), .int rK, .int (nI s1), .int (nI n), .int (nI h), .int (nI mk), .int ps, .int rr, .ref (bd 3), .ref (bd 4), .int sH, .int sM, .int sP, .ref (bd 5), .ref (bd 6), .ref (bd 7), .int (nI z), .ref (bd 8), .ref (bd 9), .ref (bd 10), .ref (bd 11), .int sd, .int kR, .int kH, .int kM, .int kP, .int (nI kz), .ref (bd 12), .ref (bd 13), .long hs])), (bd 2, .inl (G.2.1, 4, .inl (upd rd r1 (kBy x))))] H := (hP.sub [0, 1] rfl)
              have hD9 : va_D A [(bd 0, .inr (12, [.ref (bd 1), .int (nI ln), .ref (bd 2), .int (nI (r1 + 1)), .int rK, .int (nI s1), .int (nI n), .int (nI h), .int (nI mk), .int ps, .int rr, .ref (bd 3), .ref (bd 4), .int sH, .int sM, .int sP, .ref (bd 5), .ref (bd 6), .ref (bd 7), .int (nI z), .ref (bd 8), .ref (bd 9), .ref (bd 10), .ref (bd 11), .int sd, .int kR, .int kH, .int kM, .int kP, .int (nI kz), .ref (bd 12), .ref (bd 13), .long hs])), (bd 2, .inl (G.2.1, 4, .inl (upd rd r1 (kBy x))))] := (hD.sub [0, 1] (by decide) rfl)
              exact W.zret (ty := .boolean) hx hb hr (by decide) (fun t9 ht9 hW9 => ⟨⟨(nI 1), (r1 + 1, s1, rK, upd rd r1 (kBy x)), rfl, ⟨w9_r, w9_0⟩, by rw [ht9]; exact hP9, hD9⟩, hS.F ht9⟩) hS.2.2 dX12_go_82
            · skip
              refine lv_iconst (v := (nI 0)) hx hb dX12_go_56 (by decide) ?_
              have w9_r : (nI 0) = (bI (goB x r1 s1)) := (bI_f (fun z9 => by rcases z9 with ⟨_, ⟨z8, z7⟩ | ⟨z8, z7⟩⟩ | ⟨z8, _⟩ | ⟨z8, _⟩ <;> first | omega | contradiction))
              have w9_0 : (r1, s1, rK, rd) = goS x r1 s1 rK rd := (goS_b (by omega) (fun z9 => by obtain ⟨z8, z7⟩ := z9; first | omega | contradiction) (by first | exact Or.inl (by omega) | exact Or.inr (by assumption)))
              have hP9 : va_P G.1 vwCl [(bd 0, .inr (12, [.ref (bd 1), .int (nI ln), .ref (bd 2), .int (nI r1), .int rK, .int (nI s1), .int (nI n), .int (nI h), .int (nI mk), .int ps, .int rr, .ref (bd 3), .ref (bd 4), .int sH, .int sM, .int sP, .ref (bd 5), .ref (bd 6), .ref (bd 7), .int (nI z), .ref (bd 8), .ref (bd 9), .ref (bd 10), .ref (bd 11), .int sd, .int kR, .int kH, .int kM, .int kP, .int (nI kz), .ref (bd 12), .ref (bd 13), .long hs])), (bd 2, .inl (G.2.1, 4, .inl rd))] s.heap := (hP.sub [0, 1] rfl)
              have hD9 : va_D A [(bd 0, .inr (12, [.ref (bd 1), .int (nI ln), .ref (bd 2), .int (nI r1), .int rK, .int (nI s1), .int (nI n), .int (nI h), .int (nI mk), .int ps, .int rr, .ref (bd 3), .ref (bd 4), .int sH, .int sM, .int sP, .ref (bd 5), .ref (bd 6), .ref (bd 7), .int (nI z), .ref (bd 8), .ref (bd 9), .ref (bd 10), .ref (bd 11), .int sd, .int kR, .int kH, .int kM, .int kP, .int (nI kz), .ref (bd 12), .ref (bd 13), .long hs])), (bd 2, .inl (G.2.1, 4, .inl rd))] := (hD.sub [0, 1] (by decide) rfl)
              exact W.zret (ty := .boolean) hx hb hr (by decide) (fun t9 ht9 hW9 => ⟨⟨(nI 0), (r1, s1, rK, rd), rfl, ⟨w9_r, w9_0⟩, by rw [ht9]; exact hP9, hD9⟩, hS.F ht9⟩) hS.2.2 dX12_go_57
      · skip
        have c_12 := gNot (cLeNN (a := r1) (b := 1) (by omega) (by omega)) c_12
        refine lv_aload_n hx hb dX12_go_26 rfl (lv_at hl 1 rfl) ?_
        refine lv_iconst (v := (nI 1)) hx hb dX12_go_27 (by decide) ?_
        refine va_put (D := G.1) (ci := 12) (v := .int (nI 1)) (ty := .int) (C := RX12) (T := TX12) (N := 33) hx hb hts (g_in wsX120 14 rfl) tyX12 tyX12_ok nmX12 hown hK.1 hP hD hS 0 rfl rfl 5 (by decide) (hts _ (List.mem_of_getElem? (i := 1) rfl)) (fun _ h9 => h9) rfl (tyX12_ok 5 (by decide)) rfl rfl (Nat.le_of_ble_eq_true rfl) dX12_go_28 (fun H locs hP hD hS => ?_)
        have hP : va_P G.1 vwCl [(bd 0, .inr (12, [.ref (bd 1), .int (nI ln), .ref (bd 2), .int (nI r1), .int rK, .int (nI 1), .int (nI n), .int (nI h), .int (nI mk), .int ps, .int rr, .ref (bd 3), .ref (bd 4), .int sH, .int sM, .int sP, .ref (bd 5), .ref (bd 6), .ref (bd 7), .int (nI z), .ref (bd 8), .ref (bd 9), .ref (bd 10), .ref (bd 11), .int sd, .int kR, .int kH, .int kM, .int kP, .int (nI kz), .ref (bd 12), .ref (bd 13), .long hs])), (bd 2, .inl (G.2.1, 4, .inl rd))] H := hP
        have hD : va_D A [(bd 0, .inr (12, [.ref (bd 1), .int (nI ln), .ref (bd 2), .int (nI r1), .int rK, .int (nI 1), .int (nI n), .int (nI h), .int (nI mk), .int ps, .int rr, .ref (bd 3), .ref (bd 4), .int sH, .int sM, .int sP, .ref (bd 5), .ref (bd 6), .ref (bd 7), .int (nI z), .ref (bd 8), .ref (bd 9), .ref (bd 10), .ref (bd 11), .int sd, .int kR, .int kH, .int kM, .int kP, .int (nI kz), .ref (bd 12), .ref (bd 13), .long hs])), (bd 2, .inl (G.2.1, 4, .inl rd))] := hD
        refine lv_iconst (v := (nI 1)) hx hb dX12_go_31 (by decide) ?_
        have w9_r : (nI 1) = (bI (goB x r1 s1)) := (bI_t (Or.inl ⟨by omega, Or.inl ⟨by assumption, by omega⟩⟩))
        have w9_0 : (r1, 1, rK, rd) = goS x r1 s1 rK rd := (goS_a (by omega) (by assumption) (by omega))
        have hP9 : va_P G.1 vwCl [(bd 0, .inr (12, [.ref (bd 1), .int (nI ln), .ref (bd 2), .int (nI r1), .int rK, .int (nI 1), .int (nI n), .int (nI h), .int (nI mk), .int ps, .int rr, .ref (bd 3), .ref (bd 4), .int sH, .int sM, .int sP, .ref (bd 5), .ref (bd 6), .ref (bd 7), .int (nI z), .ref (bd 8), .ref (bd 9), .ref (bd 10), .ref (bd 11), .int sd, .int kR, .int kH, .int kM, .int kP, .int (nI kz), .ref (bd 12), .ref (bd 13), .long hs])), (bd 2, .inl (G.2.1, 4, .inl rd))] H := (hP.sub [0, 1] rfl)
        have hD9 : va_D A [(bd 0, .inr (12, [.ref (bd 1), .int (nI ln), .ref (bd 2), .int (nI r1), .int rK, .int (nI 1), .int (nI n), .int (nI h), .int (nI mk), .int ps, .int rr, .ref (bd 3), .ref (bd 4), .int sH, .int sM, .int sP, .ref (bd 5), .ref (bd 6), .ref (bd 7), .int (nI z), .ref (bd 8), .ref (bd 9), .ref (bd 10), .ref (bd 11), .int sd, .int kR, .int kH, .int kM, .int kP, .int (nI kz), .ref (bd 12), .ref (bd 13), .long hs])), (bd 2, .inl (G.2.1, 4, .inl rd))] := (hD.sub [0, 1] (by decide) rfl)
        exact W.zret (ty := .boolean) hx hb hr (by decide) (fun t9 ht9 hW9 => ⟨⟨(nI 1), (r1, 1, rK, rd), rfl, ⟨w9_r, w9_0⟩, by rw [ht9]; exact hP9, hD9⟩, hS.F ht9⟩) hS.2.2 dX12_go_32

set_option maxHeartbeats 500000 in
set_option maxRecDepth 100000 in
theorem m_faultOf (l : Launch) (G : gG) (bd : Nat → Nat) (ln : Nat) (rM : Int32) (rK : Int32) (sT : Int32) (n : Nat) (h : Nat) (mk : Nat) (ps : Int32) (rr : Int32) (sH : Int32) (sM : Int32) (sP : Int32) (z : Nat) (sd : Int32) (kR : Int32) (kH : Int32) (kM : Int32) (kP : Int32) (kz : Nat) (hs : Int64) (lg : Nat → Int32) (rd : Nat → Int32) (sz : Nat) (hln : ln ≤ 10) : Met l yX12_faultOf wsX12_faultOf ({ frames := 2, cells := 0, slots := 0, locals := 48 } : Room) (gM G [.ref (bd 0)] [(bd 0, .inr (12, [.ref (bd 1), .int (nI ln), .ref (bd 2), .int rM, .int rK, .int sT, .int (nI n), .int (nI h), .int (nI mk), .int ps, .int rr, .ref (bd 3), .ref (bd 4), .int sH, .int sM, .int sP, .ref (bd 5), .ref (bd 6), .ref (bd 7), .int (nI z), .ref (bd 8), .ref (bd 9), .ref (bd 10), .ref (bd 11), .int sd, .int kR, .int kH, .int kM, .int kP, .int (nI kz), .ref (bd 12), .ref (bd 13), .long hs])), (bd 1, .inl (G.2.1, 10, .inl lg)), (bd 2, .inl (G.2.1, 4, .inl rd))] sz) (va_Qi (fun (r : Int32) (u : Nat × Nat × Int32 × (Nat → Int32)) => r = (nI (faultP lg ln)) ∧ (isRg lg ln → RdY lg ln u.1 u.2.1 u.2.2.1 u.2.2.2) ∧ (¬ isRg lg ln → ¬ (faultP lg ln = ln ∧ u.2.1 = 3)) ∧ (u.2.1 ≤ 4)) (fun u t => va_P G.1 vwCl [(bd 0, .inr (12, [.ref (bd 1), .int (nI ln), .ref (bd 2), .int (nI u.1), .int u.2.2.1, .int (nI u.2.1), .int (nI n), .int (nI h), .int (nI mk), .int ps, .int rr, .ref (bd 3), .ref (bd 4), .int sH, .int sM, .int sP, .ref (bd 5), .ref (bd 6), .ref (bd 7), .int (nI z), .ref (bd 8), .ref (bd 9), .ref (bd 10), .ref (bd 11), .int sd, .int kR, .int kH, .int kM, .int kP, .int (nI kz), .ref (bd 12), .ref (bd 13), .long hs])), (bd 1, .inl (G.2.1, 10, .inl lg)), (bd 2, .inl (G.2.1, 4, .inl u.2.2.2))] t.heap ∧ va_D (va_A [(bd 0, .inr (12, [.ref (bd 1), .int (nI ln), .ref (bd 2), .int rM, .int rK, .int sT, .int (nI n), .int (nI h), .int (nI mk), .int ps, .int rr, .ref (bd 3), .ref (bd 4), .int sH, .int sM, .int sP, .ref (bd 5), .ref (bd 6), .ref (bd 7), .int (nI z), .ref (bd 8), .ref (bd 9), .ref (bd 10), .ref (bd 11), .int sd, .int kR, .int kH, .int kM, .int kP, .int (nI kz), .ref (bd 12), .ref (bd 13), .long hs])), (bd 1, .inl (G.2.1, 10, .inl lg)), (bd 2, .inl (G.2.1, 4, .inl rd))] sz) [(bd 0, .inr (12, [.ref (bd 1), .int (nI ln), .ref (bd 2), .int (nI u.1), .int u.2.2.1, .int (nI u.2.1), .int (nI n), .int (nI h), .int (nI mk), .int ps, .int rr, .ref (bd 3), .ref (bd 4), .int sH, .int sM, .int sP, .ref (bd 5), .ref (bd 6), .ref (bd 7), .int (nI z), .ref (bd 8), .ref (bd 9), .ref (bd 10), .ref (bd 11), .int sd, .int kR, .int kH, .int kM, .int kP, .int (nI kz), .ref (bd 12), .ref (bd 13), .long hs])), (bd 1, .inl (G.2.1, 10, .inl lg)), (bd 2, .inl (G.2.1, 4, .inl u.2.2.2))]) (va_A [(bd 0, .inr (12, [.ref (bd 1), .int (nI ln), .ref (bd 2), .int rM, .int rK, .int sT, .int (nI n), .int (nI h), .int (nI mk), .int ps, .int rr, .ref (bd 3), .ref (bd 4), .int sH, .int sM, .int sP, .ref (bd 5), .ref (bd 6), .ref (bd 7), .int (nI z), .ref (bd 8), .ref (bd 9), .ref (bd 10), .ref (bd 11), .int sd, .int kR, .int kH, .int kM, .int kP, .int (nI kz), .ref (bd 12), .ref (bd 13), .long hs])), (bd 1, .inl (G.2.1, 10, .inl lg)), (bd 2, .inl (G.2.1, 4, .inl rd))] sz)) 0 0 (va_A [(bd 0, .inr (12, [.ref (bd 1), .int (nI ln), .ref (bd 2), .int rM, .int rK, .int sT, .int (nI n), .int (nI h), .int (nI mk), .int ps, .int rr, .ref (bd 3), .ref (bd 4), .int sH, .int sM, .int sP, .ref (bd 5), .ref (bd 6), .ref (bd 7), .int (nI z), .ref (bd 8), .ref (bd 9), .ref (bd 10), .ref (bd 11), .int sd, .int kR, .int kH, .int kM, .int kP, .int (nI kz), .ref (bd 12), .ref (bd 13), .long hs])), (bd 1, .inl (G.2.1, 10, .inl lg)), (bd 2, .inl (G.2.1, 4, .inl rd))] sz) := by
  refine Met.ofW (cc := cX12_faultOf) (maxL := 2) (ret := (some .int)) (by decide) rfl ?_
  intro p e s m args below meth c s₁ B hml hv
  obtain ⟨rfl, hsz, hP, hK, hD0⟩ := hv
  have hx := B.exec
  have hb := B.bytes
  have hr := B.returns
  have hts := atoms_spec (ws := wsX12_faultOf) B.pre
  have hown : s.vm.findClass RX12 = some m.cls := findClass_of_methodNamed B.named
  have hlocks := B.notSynchronized
  subst hsz
  have hD := hD0.self (sz := s.heap.size)
  generalize hAe : va_A [(bd 0, .inr (12, [.ref (bd 1), .int (nI ln), .ref (bd 2), .int rM, .int rK, .int sT, .int (nI n), .int (nI h), .int (nI mk), .int ps, .int rr, .ref (bd 3), .ref (bd 4), .int sH, .int sM, .int sP, .ref (bd 5), .ref (bd 6), .ref (bd 7), .int (nI z), .ref (bd 8), .ref (bd 9), .ref (bd 10), .ref (bd 11), .int sd, .int kR, .int kH, .int kM, .int kP, .int (nI kz), .ref (bd 12), .ref (bd 13), .long hs])), (bd 1, .inl (G.2.1, 10, .inl lg)), (bd 2, .inl (G.2.1, 4, .inl rd))] s.heap.size = A at hD ⊢
  have hA : ∀ q : Nat, s.heap.size ≤ q → A q := fun q h => by rw [← hAe]; exact Or.inr h
  have hS : va_S A s.heap s.heap [] := va_S.rf
  clear hAe hD0
  have hl := lv_entry ([.ref (bd 0)]) (n := 2) (Nat.le_of_ble_eq_true rfl)
  rw [lg_entry_eq]
  generalize (lg_sl ([.ref (bd 0)]) ++ List.replicate (2 - (lg_sl ([.ref (bd 0)])).length) Slot.unset).toArray = ls at hl ⊢
  have hl : lv_has ls 2 [(0, .ref (bd 0))] := hl
  refine lv_aload_n hx hb dX12_faultOf_0 rfl (lv_at hl 0 rfl) ?_
  refine lv_iconst (v := (nI 0)) hx hb dX12_faultOf_1 (by decide) ?_
  refine va_put (D := G.1) (ci := 12) (v := .int (nI 0)) (ty := .int) (C := RX12) (T := TX12) (N := 33) hx hb hts (g_in wsX120 20 rfl) tyX12 tyX12_ok nmX12 hown hK.1 hP hD hS 0 rfl rfl 3 (by decide) (hts _ (List.mem_of_getElem? (i := 1) rfl)) (fun _ h9 => h9) rfl (tyX12_ok 3 (by decide)) rfl rfl (Nat.le_of_ble_eq_true rfl) dX12_faultOf_2 (fun H locs hP hD hS => ?_)
  have hP : va_P G.1 vwCl [(bd 0, .inr (12, [.ref (bd 1), .int (nI ln), .ref (bd 2), .int (nI 0), .int rK, .int sT, .int (nI n), .int (nI h), .int (nI mk), .int ps, .int rr, .ref (bd 3), .ref (bd 4), .int sH, .int sM, .int sP, .ref (bd 5), .ref (bd 6), .ref (bd 7), .int (nI z), .ref (bd 8), .ref (bd 9), .ref (bd 10), .ref (bd 11), .int sd, .int kR, .int kH, .int kM, .int kP, .int (nI kz), .ref (bd 12), .ref (bd 13), .long hs])), (bd 1, .inl (G.2.1, 10, .inl lg)), (bd 2, .inl (G.2.1, 4, .inl rd))] H := hP
  have hD : va_D A [(bd 0, .inr (12, [.ref (bd 1), .int (nI ln), .ref (bd 2), .int (nI 0), .int rK, .int sT, .int (nI n), .int (nI h), .int (nI mk), .int ps, .int rr, .ref (bd 3), .ref (bd 4), .int sH, .int sM, .int sP, .ref (bd 5), .ref (bd 6), .ref (bd 7), .int (nI z), .ref (bd 8), .ref (bd 9), .ref (bd 10), .ref (bd 11), .int sd, .int kR, .int kH, .int kM, .int kP, .int (nI kz), .ref (bd 12), .ref (bd 13), .long hs])), (bd 1, .inl (G.2.1, 10, .inl lg)), (bd 2, .inl (G.2.1, 4, .inl rd))] := hD
  refine lv_aload_n hx hb dX12_faultOf_5 rfl (lv_at hl 0 rfl) ?_
  refine lv_iconst (v := (nI 0)) hx hb dX12_faultOf_6 (by decide) ?_
  refine va_put (D := G.1) (ci := 12) (v := .int (nI 0)) (ty := .int) (C := RX12) (T := TX12) (N := 33) hx hb hts (g_in wsX120 20 rfl) tyX12 tyX12_ok nmX12 hown hK.1 hP hD hS 0 rfl rfl 5 (by decide) (hts _ (List.mem_of_getElem? (i := 2) rfl)) (fun _ h9 => h9) rfl (tyX12_ok 5 (by decide)) rfl rfl (Nat.le_of_ble_eq_true rfl) dX12_faultOf_7 (fun H locs hP hD hS => ?_)
  have hP : va_P G.1 vwCl [(bd 0, .inr (12, [.ref (bd 1), .int (nI ln), .ref (bd 2), .int (nI 0), .int rK, .int (nI 0), .int (nI n), .int (nI h), .int (nI mk), .int ps, .int rr, .ref (bd 3), .ref (bd 4), .int sH, .int sM, .int sP, .ref (bd 5), .ref (bd 6), .ref (bd 7), .int (nI z), .ref (bd 8), .ref (bd 9), .ref (bd 10), .ref (bd 11), .int sd, .int kR, .int kH, .int kM, .int kP, .int (nI kz), .ref (bd 12), .ref (bd 13), .long hs])), (bd 1, .inl (G.2.1, 10, .inl lg)), (bd 2, .inl (G.2.1, 4, .inl rd))] H := hP
  have hD : va_D A [(bd 0, .inr (12, [.ref (bd 1), .int (nI ln), .ref (bd 2), .int (nI 0), .int rK, .int (nI 0), .int (nI n), .int (nI h), .int (nI mk), .int ps, .int rr, .ref (bd 3), .ref (bd 4), .int sH, .int sM, .int sP, .ref (bd 5), .ref (bd 6), .ref (bd 7), .int (nI z), .ref (bd 8), .ref (bd 9), .ref (bd 10), .ref (bd 11), .int sd, .int kR, .int kH, .int kM, .int kP, .int (nI kz), .ref (bd 12), .ref (bd 13), .long hs])), (bd 1, .inl (G.2.1, 10, .inl lg)), (bd 2, .inl (G.2.1, 4, .inl rd))] := hD
  refine lv_iconst (v := (nI 0)) hx hb dX12_faultOf_10 (by decide) ?_
  refine lv_istore_n (lv' := [(1, .int (nI 0)), (0, .ref (bd 0))]) hx hb dX12_faultOf_11 rfl hl (by decide) rfl (fun ls hl => ?_)
  refine g_cutM5 (α := Nat) (β := Nat) (γ := Nat) (δ := Int32) (ε := Nat → Int32) 12 (fun k r1 s1 rK1 rd1 => []) (fun k r1 s1 rK1 rd1 H locs ls => (k ≤ ln) ∧ (RdI lg ln k r1 s1 rK1 rd1) ∧ (r1 ≤ 4) ∧ (s1 ≤ 3) ∧ va_P G.1 vwCl [(bd 0, .inr (12, [.ref (bd 1), .int (nI ln), .ref (bd 2), .int (nI r1), .int rK1, .int (nI s1), .int (nI n), .int (nI h), .int (nI mk), .int ps, .int rr, .ref (bd 3), .ref (bd 4), .int sH, .int sM, .int sP, .ref (bd 5), .ref (bd 6), .ref (bd 7), .int (nI z), .ref (bd 8), .ref (bd 9), .ref (bd 10), .ref (bd 11), .int sd, .int kR, .int kH, .int kM, .int kP, .int (nI kz), .ref (bd 12), .ref (bd 13), .long hs])), (bd 1, .inl (G.2.1, 10, .inl lg)), (bd 2, .inl (G.2.1, 4, .inl rd1))] H ∧ va_D A [(bd 0, .inr (12, [.ref (bd 1), .int (nI ln), .ref (bd 2), .int (nI r1), .int rK1, .int (nI s1), .int (nI n), .int (nI h), .int (nI mk), .int ps, .int rr, .ref (bd 3), .ref (bd 4), .int sH, .int sM, .int sP, .ref (bd 5), .ref (bd 6), .ref (bd 7), .int (nI z), .ref (bd 8), .ref (bd 9), .ref (bd 10), .ref (bd 11), .int sd, .int kR, .int kH, .int kM, .int kP, .int (nI kz), .ref (bd 12), .ref (bd 13), .long hs])), (bd 1, .inl (G.2.1, 10, .inl lg)), (bd 2, .inl (G.2.1, 4, .inl rd1))] ∧ va_S A s.heap H locs ∧ lv_has ls 2 [(0, .ref (bd 0)), (1, .int (nI k))]) (g_loopM5 (α := Nat) (β := Nat) (γ := Nat) (δ := Int32) (ε := Nat → Int32) 12 (fun k r1 s1 rK1 rd1 => []) (fun k r1 s1 rK1 rd1 H locs ls => (k ≤ ln) ∧ (RdI lg ln k r1 s1 rK1 rd1) ∧ (r1 ≤ 4) ∧ (s1 ≤ 3) ∧ va_P G.1 vwCl [(bd 0, .inr (12, [.ref (bd 1), .int (nI ln), .ref (bd 2), .int (nI r1), .int rK1, .int (nI s1), .int (nI n), .int (nI h), .int (nI mk), .int ps, .int rr, .ref (bd 3), .ref (bd 4), .int sH, .int sM, .int sP, .ref (bd 5), .ref (bd 6), .ref (bd 7), .int (nI z), .ref (bd 8), .ref (bd 9), .ref (bd 10), .ref (bd 11), .int sd, .int kR, .int kH, .int kM, .int kP, .int (nI kz), .ref (bd 12), .ref (bd 13), .long hs])), (bd 1, .inl (G.2.1, 10, .inl lg)), (bd 2, .inl (G.2.1, 4, .inl rd1))] H ∧ va_D A [(bd 0, .inr (12, [.ref (bd 1), .int (nI ln), .ref (bd 2), .int (nI r1), .int rK1, .int (nI s1), .int (nI n), .int (nI h), .int (nI mk), .int ps, .int rr, .ref (bd 3), .ref (bd 4), .int sH, .int sM, .int sP, .ref (bd 5), .ref (bd 6), .ref (bd 7), .int (nI z), .ref (bd 8), .ref (bd 9), .ref (bd 10), .ref (bd 11), .int sd, .int kR, .int kH, .int kM, .int kP, .int (nI kz), .ref (bd 12), .ref (bd 13), .long hs])), (bd 1, .inl (G.2.1, 10, .inl lg)), (bd 2, .inl (G.2.1, 4, .inl rd1))] ∧ va_S A s.heap H locs ∧ lv_has ls 2 [(0, .ref (bd 0)), (1, .int (nI k))]) (fun k r1 s1 rK1 rd1 => ln - k) ?_) (fun L12_1 => ?_)
  · intro k r1 s1 rK1 rd1 H locs ls hI L12_1
    obtain ⟨hk9, hI9, hr9, hs9, hP, hD, hS, hl⟩ := hI
    refine lv_iload_n hx hb dX12_faultOf_12 rfl (lv_at hl 1 rfl) ?_
    refine lv_aload_n hx hb dX12_faultOf_13 rfl (lv_at hl 0 rfl) ?_
    refine va_get (D := G.1) (ci := 12) (v := .int (nI ln)) (C := RX12) (T := TX12) (N := 33) hx hb hts (g_in wsX120 20 rfl) hown hK.1 hP 0 rfl rfl 1 (by decide) (hts _ (List.mem_of_getElem? (i := 3) rfl)) (fun _ h9 => h9) rfl dX12_faultOf_14 ?_
    refine lv_icmp_ge (tgt := 39) hx hb dX12_faultOf_17 (by decide) (fun c_2 => ?_) (fun c_2 => ?_)
    · skip
      have c_2 := (cLeNN (a := ln) (b := k) (by omega) (by omega)).mp c_2
      refine lv_iload_n hx hb dX12_faultOf_39 rfl (lv_at hl 1 rfl) ?_
      have w9_r : (nI k) = (nI (faultP lg ln)) := (by rw [show k = ln by omega]; exact congrArg nI (RdI_end (by rw [show k = ln by omega] at hI9; exact hI9)).1)
      have w9_0 : isRg lg ln → RdY lg ln r1 s1 rK1 rd1 := (RdI_end (by rw [show k = ln by omega] at hI9; exact hI9)).2.1
      have w9_1 : ¬ isRg lg ln → ¬ (faultP lg ln = ln ∧ s1 = 3) := (RdI_end (by rw [show k = ln by omega] at hI9; exact hI9)).2.2
      have w9_2 : s1 ≤ 4 := (by omega)
      have hP9 : va_P G.1 vwCl [(bd 0, .inr (12, [.ref (bd 1), .int (nI ln), .ref (bd 2), .int (nI r1), .int rK1, .int (nI s1), .int (nI n), .int (nI h), .int (nI mk), .int ps, .int rr, .ref (bd 3), .ref (bd 4), .int sH, .int sM, .int sP, .ref (bd 5), .ref (bd 6), .ref (bd 7), .int (nI z), .ref (bd 8), .ref (bd 9), .ref (bd 10), .ref (bd 11), .int sd, .int kR, .int kH, .int kM, .int kP, .int (nI kz), .ref (bd 12), .ref (bd 13), .long hs])), (bd 1, .inl (G.2.1, 10, .inl lg)), (bd 2, .inl (G.2.1, 4, .inl rd1))] H := (hP.sub [0, 1, 2] rfl)
      have hD9 : va_D A [(bd 0, .inr (12, [.ref (bd 1), .int (nI ln), .ref (bd 2), .int (nI r1), .int rK1, .int (nI s1), .int (nI n), .int (nI h), .int (nI mk), .int ps, .int rr, .ref (bd 3), .ref (bd 4), .int sH, .int sM, .int sP, .ref (bd 5), .ref (bd 6), .ref (bd 7), .int (nI z), .ref (bd 8), .ref (bd 9), .ref (bd 10), .ref (bd 11), .int sd, .int kR, .int kH, .int kM, .int kP, .int (nI kz), .ref (bd 12), .ref (bd 13), .long hs])), (bd 1, .inl (G.2.1, 10, .inl lg)), (bd 2, .inl (G.2.1, 4, .inl rd1))] := (hD.sub [0, 1, 2] (by decide) rfl)
      exact W.iret hx hb hr (fun t9 ht9 hW9 => ⟨⟨(nI k), (r1, s1, rK1, rd1), rfl, ⟨w9_r, w9_0, w9_1, w9_2⟩, by rw [ht9]; exact hP9, hD9⟩, hS.F ht9⟩) hS.2.2 dX12_faultOf_40
    · skip
      have c_2 := gNot (cLeNN (a := ln) (b := k) (by omega) (by omega)) c_2
      refine lv_aload_n hx hb dX12_faultOf_20 rfl (lv_at hl 0 rfl) ?_
      refine lv_aload_n hx hb dX12_faultOf_21 rfl (lv_at hl 0 rfl) ?_
      refine va_get (D := G.1) (ci := 12) (v := .ref (bd 1)) (C := RX12) (T := TX12) (N := 33) hx hb hts (g_in wsX120 20 rfl) hown hK.1 hP 0 rfl rfl 0 (by decide) (hts _ (List.mem_of_getElem? (i := 4) rfl)) (fun _ h9 => h9) rfl dX12_faultOf_22 ?_
      refine lv_iload_n hx hb dX12_faultOf_25 rfl (lv_at hl 1 rfl) ?_
      refine g_iald hx hb hK hP 1 rfl (by omega) (by decide) dX12_faultOf_26 ?_
      refine g_calli (S := Nat × Nat × Int32 × (Nat → Int32)) (w1 := fun u => [(bd 0, .inr (12, [.ref (bd 1), .int (nI ln), .ref (bd 2), .int (nI u.1), .int u.2.2.1, .int (nI u.2.1), .int (nI n), .int (nI h), .int (nI mk), .int ps, .int rr, .ref (bd 3), .ref (bd 4), .int sH, .int sM, .int sP, .ref (bd 5), .ref (bd 6), .ref (bd 7), .int (nI z), .ref (bd 8), .ref (bd 9), .ref (bd 10), .ref (bd 11), .int sd, .int kR, .int kH, .int kM, .int kP, .int (nI kz), .ref (bd 12), .ref (bd 13), .long hs])), (bd 2, .inl (G.2.1, 4, .inl u.2.2.2))]) (wr := [(bd 1, .inl (G.2.1, 10, .inl lg))]) (wc := [(bd 0, .inr (12, [.ref (bd 1), .int (nI ln), .ref (bd 2), .int (nI r1), .int rK1, .int (nI s1), .int (nI n), .int (nI h), .int (nI mk), .int ps, .int rr, .ref (bd 3), .ref (bd 4), .int sH, .int sM, .int sP, .ref (bd 5), .ref (bd 6), .ref (bd 7), .int (nI z), .ref (bd 8), .ref (bd 9), .ref (bd 10), .ref (bd 11), .int sd, .int kR, .int kH, .int kM, .int kP, .int (nI kz), .ref (bd 12), .ref (bd 13), .long hs])), (bd 2, .inl (G.2.1, 4, .inl rd1))]) hP hD hS hA [0, 2] [1] rfl rfl (by decide) (by decide) (va_runV (As := [.int (lg k)]) (rest := []) ⟨hx, hb, hml, hown, hts⟩ (m_go l G bd ln rK1 n h mk ps rr sH sM sP z sd kR kH kM kP kz hs r1 s1 rd1 (lg k) _ (by omega) (by omega)) (cwV 1 hts gX12_faultOf_X12_go rfl rfl rfl (by decide +kernel) ⟨Nat.le_of_ble_eq_true rfl, Nat.le_of_ble_eq_true rfl⟩) (gM.V hK (show va_P G.1 vwCl [(bd 0, .inr (12, [.ref (bd 1), .int (nI ln), .ref (bd 2), .int (nI r1), .int rK1, .int (nI s1), .int (nI n), .int (nI h), .int (nI mk), .int ps, .int rr, .ref (bd 3), .ref (bd 4), .int sH, .int sM, .int sP, .ref (bd 5), .ref (bd 6), .ref (bd 7), .int (nI z), .ref (bd 8), .ref (bd 9), .ref (bd 10), .ref (bd 11), .int sd, .int kR, .int kH, .int kM, .int kP, .int (nI kz), .ref (bd 12), .ref (bd 13), .long hs])), (bd 2, .inl (G.2.1, 4, .inl rd1))] H from (hP.sub [0, 2] rfl)) (show va_D A [(bd 0, .inr (12, [.ref (bd 1), .int (nI ln), .ref (bd 2), .int (nI r1), .int rK1, .int (nI s1), .int (nI n), .int (nI h), .int (nI mk), .int ps, .int rr, .ref (bd 3), .ref (bd 4), .int sH, .int sM, .int sP, .ref (bd 5), .ref (bd 6), .ref (bd 7), .int (nI z), .ref (bd 8), .ref (bd 9), .ref (bd 10), .ref (bd 11), .int sd, .int kR, .int kH, .int kM, .int kP, .int (nI kz), .ref (bd 12), .ref (bd 13), .long hs])), (bd 2, .inl (G.2.1, 4, .inl rd1))] from (hD.sub [0, 2] (by decide) rfl)) (ci := 12) (q0 := 0) rfl rfl) rfl rfl hl.1 rfl (lv_room (Nat.le_of_ble_eq_true rfl)) dX12_faultOf_27 ⟨Nat.le_of_ble_eq_true rfl, Nat.le_of_ble_eq_true rfl⟩) (fun r u H locs hq hP hD hS => ?_)
      obtain ⟨r2_3, s2_4, rK2_5, rd2_6⟩ := u
      obtain ⟨rfl, he_8⟩ := hq
      have he_8 : (r2_3, s2_4, rK2_5, rd2_6) = goS (lg k) r1 s1 rK1 rd1 := he_8
      have hP : va_P G.1 vwCl [(bd 1, .inl (G.2.1, 10, .inl lg)), (bd 0, .inr (12, [.ref (bd 1), .int (nI ln), .ref (bd 2), .int (nI r2_3), .int rK2_5, .int (nI s2_4), .int (nI n), .int (nI h), .int (nI mk), .int ps, .int rr, .ref (bd 3), .ref (bd 4), .int sH, .int sM, .int sP, .ref (bd 5), .ref (bd 6), .ref (bd 7), .int (nI z), .ref (bd 8), .ref (bd 9), .ref (bd 10), .ref (bd 11), .int sd, .int kR, .int kH, .int kM, .int kP, .int (nI kz), .ref (bd 12), .ref (bd 13), .long hs])), (bd 2, .inl (G.2.1, 4, .inl rd2_6))] H := hP
      have hD : va_D A [(bd 1, .inl (G.2.1, 10, .inl lg)), (bd 0, .inr (12, [.ref (bd 1), .int (nI ln), .ref (bd 2), .int (nI r2_3), .int rK2_5, .int (nI s2_4), .int (nI n), .int (nI h), .int (nI mk), .int ps, .int rr, .ref (bd 3), .ref (bd 4), .int sH, .int sM, .int sP, .ref (bd 5), .ref (bd 6), .ref (bd 7), .int (nI z), .ref (bd 8), .ref (bd 9), .ref (bd 10), .ref (bd 11), .int sd, .int kR, .int kH, .int kM, .int kP, .int (nI kz), .ref (bd 12), .ref (bd 13), .long hs])), (bd 2, .inl (G.2.1, 4, .inl rd2_6))] := hD
      refine lv_if_eq (tgt := 39) hx hb dX12_faultOf_30 (by decide) (fun c_9 => ?_) (fun c_9 => ?_)
      · skip
        have c_9 := bI_z.mp c_9
        refine lv_iload_n hx hb dX12_faultOf_39 rfl (lv_at hl 1 rfl) ?_
        have w9_r : (nI k) = (nI (faultP lg ln)) := (congrArg nI (RdI_bad hI9 (by omega) (by assumption)))
        have w9_0 : isRg lg ln → RdY lg ln r2_3 s2_4 rK2_5 rd2_6 := (fun z9 => absurd z9.2 (by rw [← (RdI_bad hI9 (by omega) (by assumption))]; omega))
        have w9_1 : ¬ isRg lg ln → ¬ (faultP lg ln = ln ∧ s2_4 = 3) := (fun _ z8 => absurd z8.1 (by rw [← (RdI_bad hI9 (by omega) (by assumption))]; omega))
        have w9_2 : s2_4 ≤ 4 := (goS_4 he_8 hs9)
        have hP9 : va_P G.1 vwCl [(bd 0, .inr (12, [.ref (bd 1), .int (nI ln), .ref (bd 2), .int (nI r2_3), .int rK2_5, .int (nI s2_4), .int (nI n), .int (nI h), .int (nI mk), .int ps, .int rr, .ref (bd 3), .ref (bd 4), .int sH, .int sM, .int sP, .ref (bd 5), .ref (bd 6), .ref (bd 7), .int (nI z), .ref (bd 8), .ref (bd 9), .ref (bd 10), .ref (bd 11), .int sd, .int kR, .int kH, .int kM, .int kP, .int (nI kz), .ref (bd 12), .ref (bd 13), .long hs])), (bd 1, .inl (G.2.1, 10, .inl lg)), (bd 2, .inl (G.2.1, 4, .inl rd2_6))] H := (hP.sub [1, 0, 2] rfl)
        have hD9 : va_D A [(bd 0, .inr (12, [.ref (bd 1), .int (nI ln), .ref (bd 2), .int (nI r2_3), .int rK2_5, .int (nI s2_4), .int (nI n), .int (nI h), .int (nI mk), .int ps, .int rr, .ref (bd 3), .ref (bd 4), .int sH, .int sM, .int sP, .ref (bd 5), .ref (bd 6), .ref (bd 7), .int (nI z), .ref (bd 8), .ref (bd 9), .ref (bd 10), .ref (bd 11), .int sd, .int kR, .int kH, .int kM, .int kP, .int (nI kz), .ref (bd 12), .ref (bd 13), .long hs])), (bd 1, .inl (G.2.1, 10, .inl lg)), (bd 2, .inl (G.2.1, 4, .inl rd2_6))] := (hD.sub [1, 0, 2] (by decide) rfl)
        exact W.iret hx hb hr (fun t9 ht9 hW9 => ⟨⟨(nI k), (r2_3, s2_4, rK2_5, rd2_6), rfl, ⟨w9_r, w9_0, w9_1, w9_2⟩, by rw [ht9]; exact hP9, hD9⟩, hS.F ht9⟩) hS.2.2 dX12_faultOf_40
      · skip
        have c_9 := bI_nz.mp c_9
        refine lv_iinc (v := (nI (k + 1))) (lv' := [(1, .int (nI (k + 1))), (0, .ref (bd 0))]) hx hb dX12_faultOf_33 hl (k := 1) rfl (nI_iinc (by decide)) (by decide) rfl (fun ls hl => ?_)
        refine lv_goto (tgt := 12) hx hb dX12_faultOf_36 (by decide) ?_
        exact L12_1 (k + 1) r2_3 s2_4 rK2_5 rd2_6 _ _ _ (by omega) ⟨(by omega), RdI_s hI9 (by omega) (by assumption) he_8, RdI_r (RdI_s hI9 (by omega) (by assumption) he_8), RdI_q (RdI_s hI9 (by omega) (by assumption) he_8), (hP.sub [1, 0, 2] rfl), (hD.sub [1, 0, 2] (by decide) rfl), hS, lv_sub hl [1, 0] rfl⟩
  · skip
    exact L12_1 0 0 0 rK rd _ _ _ ⟨(by omega), RdI_0, (by omega), (by omega), (hP.sub [0, 1, 2] rfl), (hD.sub [0, 1, 2] (by decide) rfl), hS, lv_sub hl [1, 0] rfl⟩

set_option maxHeartbeats 500000 in
set_option maxRecDepth 100000 in
theorem m_fault (l : Launch) (G : gG) (bd : Nat → Nat) (ln : Nat) (rM : Int32) (rK : Int32) (sT : Int32) (n : Nat) (h : Nat) (mk : Nat) (ps : Int32) (rr : Int32) (sH : Int32) (sM : Int32) (sP : Int32) (z : Nat) (sd : Int32) (kR : Int32) (kH : Int32) (kM : Int32) (kP : Int32) (kz : Nat) (hs : Int64) (lg : Nat → Int32) (rd : Nat → Int32) (sz : Nat) (hln : ln ≤ 10) : Met l yX12_fault wsX12_fault ({ frames := 3, cells := 0, slots := 0, locals := 69 } : Room) (gM G [.ref (bd 0)] [(bd 0, .inr (12, [.ref (bd 1), .int (nI ln), .ref (bd 2), .int rM, .int rK, .int sT, .int (nI n), .int (nI h), .int (nI mk), .int ps, .int rr, .ref (bd 3), .ref (bd 4), .int sH, .int sM, .int sP, .ref (bd 5), .ref (bd 6), .ref (bd 7), .int (nI z), .ref (bd 8), .ref (bd 9), .ref (bd 10), .ref (bd 11), .int sd, .int kR, .int kH, .int kM, .int kP, .int (nI kz), .ref (bd 12), .ref (bd 13), .long hs])), (bd 1, .inl (G.2.1, 10, .inl lg)), (bd 2, .inl (G.2.1, 4, .inl rd))] sz) (va_Qi (fun (r : Int32) (u : Nat × Nat × Int32 × (Nat → Int32)) => r = (nI (faultP lg ln))) (fun u t => va_P G.1 vwCl [(bd 0, .inr (12, [.ref (bd 1), .int (nI ln), .ref (bd 2), .int (nI u.1), .int u.2.2.1, .int (nI u.2.1), .int (nI n), .int (nI h), .int (nI mk), .int ps, .int rr, .ref (bd 3), .ref (bd 4), .int sH, .int sM, .int sP, .ref (bd 5), .ref (bd 6), .ref (bd 7), .int (nI z), .ref (bd 8), .ref (bd 9), .ref (bd 10), .ref (bd 11), .int sd, .int kR, .int kH, .int kM, .int kP, .int (nI kz), .ref (bd 12), .ref (bd 13), .long hs])), (bd 1, .inl (G.2.1, 10, .inl lg)), (bd 2, .inl (G.2.1, 4, .inl u.2.2.2))] t.heap ∧ va_D (va_A [(bd 0, .inr (12, [.ref (bd 1), .int (nI ln), .ref (bd 2), .int rM, .int rK, .int sT, .int (nI n), .int (nI h), .int (nI mk), .int ps, .int rr, .ref (bd 3), .ref (bd 4), .int sH, .int sM, .int sP, .ref (bd 5), .ref (bd 6), .ref (bd 7), .int (nI z), .ref (bd 8), .ref (bd 9), .ref (bd 10), .ref (bd 11), .int sd, .int kR, .int kH, .int kM, .int kP, .int (nI kz), .ref (bd 12), .ref (bd 13), .long hs])), (bd 1, .inl (G.2.1, 10, .inl lg)), (bd 2, .inl (G.2.1, 4, .inl rd))] sz) [(bd 0, .inr (12, [.ref (bd 1), .int (nI ln), .ref (bd 2), .int (nI u.1), .int u.2.2.1, .int (nI u.2.1), .int (nI n), .int (nI h), .int (nI mk), .int ps, .int rr, .ref (bd 3), .ref (bd 4), .int sH, .int sM, .int sP, .ref (bd 5), .ref (bd 6), .ref (bd 7), .int (nI z), .ref (bd 8), .ref (bd 9), .ref (bd 10), .ref (bd 11), .int sd, .int kR, .int kH, .int kM, .int kP, .int (nI kz), .ref (bd 12), .ref (bd 13), .long hs])), (bd 1, .inl (G.2.1, 10, .inl lg)), (bd 2, .inl (G.2.1, 4, .inl u.2.2.2))]) (va_A [(bd 0, .inr (12, [.ref (bd 1), .int (nI ln), .ref (bd 2), .int rM, .int rK, .int sT, .int (nI n), .int (nI h), .int (nI mk), .int ps, .int rr, .ref (bd 3), .ref (bd 4), .int sH, .int sM, .int sP, .ref (bd 5), .ref (bd 6), .ref (bd 7), .int (nI z), .ref (bd 8), .ref (bd 9), .ref (bd 10), .ref (bd 11), .int sd, .int kR, .int kH, .int kM, .int kP, .int (nI kz), .ref (bd 12), .ref (bd 13), .long hs])), (bd 1, .inl (G.2.1, 10, .inl lg)), (bd 2, .inl (G.2.1, 4, .inl rd))] sz)) 0 0 (va_A [(bd 0, .inr (12, [.ref (bd 1), .int (nI ln), .ref (bd 2), .int rM, .int rK, .int sT, .int (nI n), .int (nI h), .int (nI mk), .int ps, .int rr, .ref (bd 3), .ref (bd 4), .int sH, .int sM, .int sP, .ref (bd 5), .ref (bd 6), .ref (bd 7), .int (nI z), .ref (bd 8), .ref (bd 9), .ref (bd 10), .ref (bd 11), .int sd, .int kR, .int kH, .int kM, .int kP, .int (nI kz), .ref (bd 12), .ref (bd 13), .long hs])), (bd 1, .inl (G.2.1, 10, .inl lg)), (bd 2, .inl (G.2.1, 4, .inl rd))] sz) := by
  refine Met.ofW (cc := cX12_fault) (maxL := 1) (ret := (some .int)) (by decide) rfl ?_
  intro p e s m args below meth c s₁ B hml hv
  obtain ⟨rfl, hsz, hP, hK, hD0⟩ := hv
  have hx := B.exec
  have hb := B.bytes
  have hr := B.returns
  have hts := atoms_spec (ws := wsX12_fault) B.pre
  have hown : s.vm.findClass RX12 = some m.cls := findClass_of_methodNamed B.named
  have hlocks := B.notSynchronized
  subst hsz
  have hD := hD0.self (sz := s.heap.size)
  generalize hAe : va_A [(bd 0, .inr (12, [.ref (bd 1), .int (nI ln), .ref (bd 2), .int rM, .int rK, .int sT, .int (nI n), .int (nI h), .int (nI mk), .int ps, .int rr, .ref (bd 3), .ref (bd 4), .int sH, .int sM, .int sP, .ref (bd 5), .ref (bd 6), .ref (bd 7), .int (nI z), .ref (bd 8), .ref (bd 9), .ref (bd 10), .ref (bd 11), .int sd, .int kR, .int kH, .int kM, .int kP, .int (nI kz), .ref (bd 12), .ref (bd 13), .long hs])), (bd 1, .inl (G.2.1, 10, .inl lg)), (bd 2, .inl (G.2.1, 4, .inl rd))] s.heap.size = A at hD ⊢
  have hA : ∀ q : Nat, s.heap.size ≤ q → A q := fun q h => by rw [← hAe]; exact Or.inr h
  have hS : va_S A s.heap s.heap [] := va_S.rf
  clear hAe hD0
  have hl := lv_entry ([.ref (bd 0)]) (n := 1) (Nat.le_of_ble_eq_true rfl)
  rw [lg_entry_eq]
  generalize (lg_sl ([.ref (bd 0)]) ++ List.replicate (1 - (lg_sl ([.ref (bd 0)])).length) Slot.unset).toArray = ls at hl ⊢
  have hl : lv_has ls 1 [(0, .ref (bd 0))] := hl
  refine lv_aload_n hx hb dX12_fault_0 rfl (lv_at hl 0 rfl) ?_
  refine g_calli (S := Nat × Nat × Int32 × (Nat → Int32)) (w1 := fun u => [(bd 0, .inr (12, [.ref (bd 1), .int (nI ln), .ref (bd 2), .int (nI u.1), .int u.2.2.1, .int (nI u.2.1), .int (nI n), .int (nI h), .int (nI mk), .int ps, .int rr, .ref (bd 3), .ref (bd 4), .int sH, .int sM, .int sP, .ref (bd 5), .ref (bd 6), .ref (bd 7), .int (nI z), .ref (bd 8), .ref (bd 9), .ref (bd 10), .ref (bd 11), .int sd, .int kR, .int kH, .int kM, .int kP, .int (nI kz), .ref (bd 12), .ref (bd 13), .long hs])), (bd 1, .inl (G.2.1, 10, .inl lg)), (bd 2, .inl (G.2.1, 4, .inl u.2.2.2))]) (wr := []) (wc := [(bd 0, .inr (12, [.ref (bd 1), .int (nI ln), .ref (bd 2), .int rM, .int rK, .int sT, .int (nI n), .int (nI h), .int (nI mk), .int ps, .int rr, .ref (bd 3), .ref (bd 4), .int sH, .int sM, .int sP, .ref (bd 5), .ref (bd 6), .ref (bd 7), .int (nI z), .ref (bd 8), .ref (bd 9), .ref (bd 10), .ref (bd 11), .int sd, .int kR, .int kH, .int kM, .int kP, .int (nI kz), .ref (bd 12), .ref (bd 13), .long hs])), (bd 1, .inl (G.2.1, 10, .inl lg)), (bd 2, .inl (G.2.1, 4, .inl rd))]) hP hD hS hA [0, 1, 2] [] rfl rfl (by decide) (by decide) (va_runV (As := []) (rest := []) ⟨hx, hb, hml, hown, hts⟩ (m_faultOf l G bd ln rM rK sT n h mk ps rr sH sM sP z sd kR kH kM kP kz hs lg rd _ (by omega)) (cwV 0 hts gX12_fault_X12_faultOf rfl rfl rfl (by decide +kernel) ⟨Nat.le_of_ble_eq_true rfl, Nat.le_of_ble_eq_true rfl⟩) (gM.V hK (show va_P G.1 vwCl [(bd 0, .inr (12, [.ref (bd 1), .int (nI ln), .ref (bd 2), .int rM, .int rK, .int sT, .int (nI n), .int (nI h), .int (nI mk), .int ps, .int rr, .ref (bd 3), .ref (bd 4), .int sH, .int sM, .int sP, .ref (bd 5), .ref (bd 6), .ref (bd 7), .int (nI z), .ref (bd 8), .ref (bd 9), .ref (bd 10), .ref (bd 11), .int sd, .int kR, .int kH, .int kM, .int kP, .int (nI kz), .ref (bd 12), .ref (bd 13), .long hs])), (bd 1, .inl (G.2.1, 10, .inl lg)), (bd 2, .inl (G.2.1, 4, .inl rd))] s.heap from (hP.sub [0, 1, 2] rfl)) (show va_D A [(bd 0, .inr (12, [.ref (bd 1), .int (nI ln), .ref (bd 2), .int rM, .int rK, .int sT, .int (nI n), .int (nI h), .int (nI mk), .int ps, .int rr, .ref (bd 3), .ref (bd 4), .int sH, .int sM, .int sP, .ref (bd 5), .ref (bd 6), .ref (bd 7), .int (nI z), .ref (bd 8), .ref (bd 9), .ref (bd 10), .ref (bd 11), .int sd, .int kR, .int kH, .int kM, .int kP, .int (nI kz), .ref (bd 12), .ref (bd 13), .long hs])), (bd 1, .inl (G.2.1, 10, .inl lg)), (bd 2, .inl (G.2.1, 4, .inl rd))] from (hD.sub [0, 1, 2] (by decide) rfl)) (ci := 12) (q0 := 0) rfl rfl) rfl rfl hl.1 rfl (lv_room (Nat.le_of_ble_eq_true rfl)) dX12_fault_1 ⟨Nat.le_of_ble_eq_true rfl, Nat.le_of_ble_eq_true rfl⟩) (fun r u H locs hq hP hD hS => ?_)
  obtain ⟨r2_1, s2_2, rK2_3, rd2_4⟩ := u
  obtain ⟨rfl, hy_6, hno_7, hs4_8⟩ := hq
  have hy_6 : isRg lg ln → RdY lg ln r2_1 s2_2 rK2_3 rd2_4 := hy_6
  have hno_7 : ¬ isRg lg ln → ¬ (faultP lg ln = ln ∧ s2_2 = 3) := hno_7
  have hs4_8 : s2_2 ≤ 4 := hs4_8
  have hP : va_P G.1 vwCl [(bd 0, .inr (12, [.ref (bd 1), .int (nI ln), .ref (bd 2), .int (nI r2_1), .int rK2_3, .int (nI s2_2), .int (nI n), .int (nI h), .int (nI mk), .int ps, .int rr, .ref (bd 3), .ref (bd 4), .int sH, .int sM, .int sP, .ref (bd 5), .ref (bd 6), .ref (bd 7), .int (nI z), .ref (bd 8), .ref (bd 9), .ref (bd 10), .ref (bd 11), .int sd, .int kR, .int kH, .int kM, .int kP, .int (nI kz), .ref (bd 12), .ref (bd 13), .long hs])), (bd 1, .inl (G.2.1, 10, .inl lg)), (bd 2, .inl (G.2.1, 4, .inl rd2_4))] H := hP
  have hD : va_D A [(bd 0, .inr (12, [.ref (bd 1), .int (nI ln), .ref (bd 2), .int (nI r2_1), .int rK2_3, .int (nI s2_2), .int (nI n), .int (nI h), .int (nI mk), .int ps, .int rr, .ref (bd 3), .ref (bd 4), .int sH, .int sM, .int sP, .ref (bd 5), .ref (bd 6), .ref (bd 7), .int (nI z), .ref (bd 8), .ref (bd 9), .ref (bd 10), .ref (bd 11), .int sd, .int kR, .int kH, .int kM, .int kP, .int (nI kz), .ref (bd 12), .ref (bd 13), .long hs])), (bd 1, .inl (G.2.1, 10, .inl lg)), (bd 2, .inl (G.2.1, 4, .inl rd2_4))] := hD
  have hP9 : va_P G.1 vwCl [(bd 0, .inr (12, [.ref (bd 1), .int (nI ln), .ref (bd 2), .int (nI r2_1), .int rK2_3, .int (nI s2_2), .int (nI n), .int (nI h), .int (nI mk), .int ps, .int rr, .ref (bd 3), .ref (bd 4), .int sH, .int sM, .int sP, .ref (bd 5), .ref (bd 6), .ref (bd 7), .int (nI z), .ref (bd 8), .ref (bd 9), .ref (bd 10), .ref (bd 11), .int sd, .int kR, .int kH, .int kM, .int kP, .int (nI kz), .ref (bd 12), .ref (bd 13), .long hs])), (bd 1, .inl (G.2.1, 10, .inl lg)), (bd 2, .inl (G.2.1, 4, .inl rd2_4))] H := (hP.sub [0, 1, 2] rfl)
  have hD9 : va_D A [(bd 0, .inr (12, [.ref (bd 1), .int (nI ln), .ref (bd 2), .int (nI r2_1), .int rK2_3, .int (nI s2_2), .int (nI n), .int (nI h), .int (nI mk), .int ps, .int rr, .ref (bd 3), .ref (bd 4), .int sH, .int sM, .int sP, .ref (bd 5), .ref (bd 6), .ref (bd 7), .int (nI z), .ref (bd 8), .ref (bd 9), .ref (bd 10), .ref (bd 11), .int sd, .int kR, .int kH, .int kM, .int kP, .int (nI kz), .ref (bd 12), .ref (bd 13), .long hs])), (bd 1, .inl (G.2.1, 10, .inl lg)), (bd 2, .inl (G.2.1, 4, .inl rd2_4))] := (hD.sub [0, 1, 2] (by decide) rfl)
  exact W.iret hx hb hr (fun t9 ht9 hW9 => ⟨⟨(nI (faultP lg ln)), (r2_1, s2_2, rK2_3, rd2_4), rfl, rfl, by rw [ht9]; exact hP9, hD9⟩, hS.F ht9⟩) hS.2.2 dX12_fault_4

set_option maxHeartbeats 500000 in
set_option maxRecDepth 100000 in
theorem m_ring_no (l : Launch) (G : gG) (bd : Nat → Nat) (ln : Nat) (rM : Int32) (rK : Int32) (sT : Int32) (n : Nat) (h : Nat) (mk : Nat) (ps : Int32) (rr : Int32) (sH : Int32) (sM : Int32) (sP : Int32) (z : Nat) (sd : Int32) (kR : Int32) (kH : Int32) (kM : Int32) (kP : Int32) (kz : Nat) (hs : Int64) (lg : Nat → Int32) (rd : Nat → Int32) (sz : Nat) (hln : ln ≤ 10) (hno9 : ¬ isRg lg ln) : Met l yX12_ring wsX12_ring ({ frames := 3, cells := 0, slots := 0, locals := 69 } : Room) (gM G [.ref (bd 0)] [(bd 0, .inr (12, [.ref (bd 1), .int (nI ln), .ref (bd 2), .int rM, .int rK, .int sT, .int (nI n), .int (nI h), .int (nI mk), .int ps, .int rr, .ref (bd 3), .ref (bd 4), .int sH, .int sM, .int sP, .ref (bd 5), .ref (bd 6), .ref (bd 7), .int (nI z), .ref (bd 8), .ref (bd 9), .ref (bd 10), .ref (bd 11), .int sd, .int kR, .int kH, .int kM, .int kP, .int (nI kz), .ref (bd 12), .ref (bd 13), .long hs])), (bd 1, .inl (G.2.1, 10, .inl lg)), (bd 2, .inl (G.2.1, 4, .inl rd))] sz) (va_Qi (fun (r : Int32) (u : Nat × Nat × Int32 × (Nat → Int32)) => r = (-103)) (fun u t => va_P G.1 vwCl [(bd 0, .inr (12, [.ref (bd 1), .int (nI ln), .ref (bd 2), .int (nI u.1), .int u.2.2.1, .int (nI u.2.1), .int (nI n), .int (nI h), .int (nI mk), .int ps, .int rr, .ref (bd 3), .ref (bd 4), .int sH, .int sM, .int sP, .ref (bd 5), .ref (bd 6), .ref (bd 7), .int (nI z), .ref (bd 8), .ref (bd 9), .ref (bd 10), .ref (bd 11), .int sd, .int kR, .int kH, .int kM, .int kP, .int (nI kz), .ref (bd 12), .ref (bd 13), .long hs])), (bd 1, .inl (G.2.1, 10, .inl lg)), (bd 2, .inl (G.2.1, 4, .inl u.2.2.2))] t.heap ∧ va_D (va_A [(bd 0, .inr (12, [.ref (bd 1), .int (nI ln), .ref (bd 2), .int rM, .int rK, .int sT, .int (nI n), .int (nI h), .int (nI mk), .int ps, .int rr, .ref (bd 3), .ref (bd 4), .int sH, .int sM, .int sP, .ref (bd 5), .ref (bd 6), .ref (bd 7), .int (nI z), .ref (bd 8), .ref (bd 9), .ref (bd 10), .ref (bd 11), .int sd, .int kR, .int kH, .int kM, .int kP, .int (nI kz), .ref (bd 12), .ref (bd 13), .long hs])), (bd 1, .inl (G.2.1, 10, .inl lg)), (bd 2, .inl (G.2.1, 4, .inl rd))] sz) [(bd 0, .inr (12, [.ref (bd 1), .int (nI ln), .ref (bd 2), .int (nI u.1), .int u.2.2.1, .int (nI u.2.1), .int (nI n), .int (nI h), .int (nI mk), .int ps, .int rr, .ref (bd 3), .ref (bd 4), .int sH, .int sM, .int sP, .ref (bd 5), .ref (bd 6), .ref (bd 7), .int (nI z), .ref (bd 8), .ref (bd 9), .ref (bd 10), .ref (bd 11), .int sd, .int kR, .int kH, .int kM, .int kP, .int (nI kz), .ref (bd 12), .ref (bd 13), .long hs])), (bd 1, .inl (G.2.1, 10, .inl lg)), (bd 2, .inl (G.2.1, 4, .inl u.2.2.2))]) (va_A [(bd 0, .inr (12, [.ref (bd 1), .int (nI ln), .ref (bd 2), .int rM, .int rK, .int sT, .int (nI n), .int (nI h), .int (nI mk), .int ps, .int rr, .ref (bd 3), .ref (bd 4), .int sH, .int sM, .int sP, .ref (bd 5), .ref (bd 6), .ref (bd 7), .int (nI z), .ref (bd 8), .ref (bd 9), .ref (bd 10), .ref (bd 11), .int sd, .int kR, .int kH, .int kM, .int kP, .int (nI kz), .ref (bd 12), .ref (bd 13), .long hs])), (bd 1, .inl (G.2.1, 10, .inl lg)), (bd 2, .inl (G.2.1, 4, .inl rd))] sz)) 0 0 (va_A [(bd 0, .inr (12, [.ref (bd 1), .int (nI ln), .ref (bd 2), .int rM, .int rK, .int sT, .int (nI n), .int (nI h), .int (nI mk), .int ps, .int rr, .ref (bd 3), .ref (bd 4), .int sH, .int sM, .int sP, .ref (bd 5), .ref (bd 6), .ref (bd 7), .int (nI z), .ref (bd 8), .ref (bd 9), .ref (bd 10), .ref (bd 11), .int sd, .int kR, .int kH, .int kM, .int kP, .int (nI kz), .ref (bd 12), .ref (bd 13), .long hs])), (bd 1, .inl (G.2.1, 10, .inl lg)), (bd 2, .inl (G.2.1, 4, .inl rd))] sz) := by
  refine Met.ofW (cc := cX12_ring) (maxL := 2) (ret := (some .int)) (by decide) rfl ?_
  intro p e s m args below meth c s₁ B hml hv
  obtain ⟨rfl, hsz, hP, hK, hD0⟩ := hv
  have hx := B.exec
  have hb := B.bytes
  have hr := B.returns
  have hts := atoms_spec (ws := wsX12_ring) B.pre
  have hown : s.vm.findClass RX12 = some m.cls := findClass_of_methodNamed B.named
  have hlocks := B.notSynchronized
  subst hsz
  have hD := hD0.self (sz := s.heap.size)
  generalize hAe : va_A [(bd 0, .inr (12, [.ref (bd 1), .int (nI ln), .ref (bd 2), .int rM, .int rK, .int sT, .int (nI n), .int (nI h), .int (nI mk), .int ps, .int rr, .ref (bd 3), .ref (bd 4), .int sH, .int sM, .int sP, .ref (bd 5), .ref (bd 6), .ref (bd 7), .int (nI z), .ref (bd 8), .ref (bd 9), .ref (bd 10), .ref (bd 11), .int sd, .int kR, .int kH, .int kM, .int kP, .int (nI kz), .ref (bd 12), .ref (bd 13), .long hs])), (bd 1, .inl (G.2.1, 10, .inl lg)), (bd 2, .inl (G.2.1, 4, .inl rd))] s.heap.size = A at hD ⊢
  have hA : ∀ q : Nat, s.heap.size ≤ q → A q := fun q h => by rw [← hAe]; exact Or.inr h
  have hS : va_S A s.heap s.heap [] := va_S.rf
  clear hAe hD0
  have hl := lv_entry ([.ref (bd 0)]) (n := 2) (Nat.le_of_ble_eq_true rfl)
  rw [lg_entry_eq]
  generalize (lg_sl ([.ref (bd 0)]) ++ List.replicate (2 - (lg_sl ([.ref (bd 0)])).length) Slot.unset).toArray = ls at hl ⊢
  have hl : lv_has ls 2 [(0, .ref (bd 0))] := hl
  refine lv_aload_n hx hb dX12_ring_0 rfl (lv_at hl 0 rfl) ?_
  refine g_calli (S := Nat × Nat × Int32 × (Nat → Int32)) (w1 := fun u => [(bd 0, .inr (12, [.ref (bd 1), .int (nI ln), .ref (bd 2), .int (nI u.1), .int u.2.2.1, .int (nI u.2.1), .int (nI n), .int (nI h), .int (nI mk), .int ps, .int rr, .ref (bd 3), .ref (bd 4), .int sH, .int sM, .int sP, .ref (bd 5), .ref (bd 6), .ref (bd 7), .int (nI z), .ref (bd 8), .ref (bd 9), .ref (bd 10), .ref (bd 11), .int sd, .int kR, .int kH, .int kM, .int kP, .int (nI kz), .ref (bd 12), .ref (bd 13), .long hs])), (bd 1, .inl (G.2.1, 10, .inl lg)), (bd 2, .inl (G.2.1, 4, .inl u.2.2.2))]) (wr := []) (wc := [(bd 0, .inr (12, [.ref (bd 1), .int (nI ln), .ref (bd 2), .int rM, .int rK, .int sT, .int (nI n), .int (nI h), .int (nI mk), .int ps, .int rr, .ref (bd 3), .ref (bd 4), .int sH, .int sM, .int sP, .ref (bd 5), .ref (bd 6), .ref (bd 7), .int (nI z), .ref (bd 8), .ref (bd 9), .ref (bd 10), .ref (bd 11), .int sd, .int kR, .int kH, .int kM, .int kP, .int (nI kz), .ref (bd 12), .ref (bd 13), .long hs])), (bd 1, .inl (G.2.1, 10, .inl lg)), (bd 2, .inl (G.2.1, 4, .inl rd))]) hP hD hS hA [0, 1, 2] [] rfl rfl (by decide) (by decide) (va_runV (As := []) (rest := []) ⟨hx, hb, hml, hown, hts⟩ (m_faultOf l G bd ln rM rK sT n h mk ps rr sH sM sP z sd kR kH kM kP kz hs lg rd _ (by omega)) (cwV 0 hts gX12_ring_X12_faultOf rfl rfl rfl (by decide +kernel) ⟨Nat.le_of_ble_eq_true rfl, Nat.le_of_ble_eq_true rfl⟩) (gM.V hK (show va_P G.1 vwCl [(bd 0, .inr (12, [.ref (bd 1), .int (nI ln), .ref (bd 2), .int rM, .int rK, .int sT, .int (nI n), .int (nI h), .int (nI mk), .int ps, .int rr, .ref (bd 3), .ref (bd 4), .int sH, .int sM, .int sP, .ref (bd 5), .ref (bd 6), .ref (bd 7), .int (nI z), .ref (bd 8), .ref (bd 9), .ref (bd 10), .ref (bd 11), .int sd, .int kR, .int kH, .int kM, .int kP, .int (nI kz), .ref (bd 12), .ref (bd 13), .long hs])), (bd 1, .inl (G.2.1, 10, .inl lg)), (bd 2, .inl (G.2.1, 4, .inl rd))] s.heap from (hP.sub [0, 1, 2] rfl)) (show va_D A [(bd 0, .inr (12, [.ref (bd 1), .int (nI ln), .ref (bd 2), .int rM, .int rK, .int sT, .int (nI n), .int (nI h), .int (nI mk), .int ps, .int rr, .ref (bd 3), .ref (bd 4), .int sH, .int sM, .int sP, .ref (bd 5), .ref (bd 6), .ref (bd 7), .int (nI z), .ref (bd 8), .ref (bd 9), .ref (bd 10), .ref (bd 11), .int sd, .int kR, .int kH, .int kM, .int kP, .int (nI kz), .ref (bd 12), .ref (bd 13), .long hs])), (bd 1, .inl (G.2.1, 10, .inl lg)), (bd 2, .inl (G.2.1, 4, .inl rd))] from (hD.sub [0, 1, 2] (by decide) rfl)) (ci := 12) (q0 := 0) rfl rfl) rfl rfl hl.1 rfl (lv_room (Nat.le_of_ble_eq_true rfl)) dX12_ring_1 ⟨Nat.le_of_ble_eq_true rfl, Nat.le_of_ble_eq_true rfl⟩) (fun r u H locs hq hP hD hS => ?_)
  obtain ⟨r2_1, s2_2, rK2_3, rd2_4⟩ := u
  obtain ⟨rfl, hy_6, hno_7, hs4_8⟩ := hq
  have hy_6 : isRg lg ln → RdY lg ln r2_1 s2_2 rK2_3 rd2_4 := hy_6
  have hno_7 : ¬ isRg lg ln → ¬ (faultP lg ln = ln ∧ s2_2 = 3) := hno_7
  have hs4_8 : s2_2 ≤ 4 := hs4_8
  have hP : va_P G.1 vwCl [(bd 0, .inr (12, [.ref (bd 1), .int (nI ln), .ref (bd 2), .int (nI r2_1), .int rK2_3, .int (nI s2_2), .int (nI n), .int (nI h), .int (nI mk), .int ps, .int rr, .ref (bd 3), .ref (bd 4), .int sH, .int sM, .int sP, .ref (bd 5), .ref (bd 6), .ref (bd 7), .int (nI z), .ref (bd 8), .ref (bd 9), .ref (bd 10), .ref (bd 11), .int sd, .int kR, .int kH, .int kM, .int kP, .int (nI kz), .ref (bd 12), .ref (bd 13), .long hs])), (bd 1, .inl (G.2.1, 10, .inl lg)), (bd 2, .inl (G.2.1, 4, .inl rd2_4))] H := hP
  have hD : va_D A [(bd 0, .inr (12, [.ref (bd 1), .int (nI ln), .ref (bd 2), .int (nI r2_1), .int rK2_3, .int (nI s2_2), .int (nI n), .int (nI h), .int (nI mk), .int ps, .int rr, .ref (bd 3), .ref (bd 4), .int sH, .int sM, .int sP, .ref (bd 5), .ref (bd 6), .ref (bd 7), .int (nI z), .ref (bd 8), .ref (bd 9), .ref (bd 10), .ref (bd 11), .int sd, .int kR, .int kH, .int kM, .int kP, .int (nI kz), .ref (bd 12), .ref (bd 13), .long hs])), (bd 1, .inl (G.2.1, 10, .inl lg)), (bd 2, .inl (G.2.1, 4, .inl rd2_4))] := hD
  have hno8 := hno_7 hno9
  have hs8 := hs4_8
  have hf8 := faultP_le lg ln
  refine lv_aload_n hx hb dX12_ring_4 rfl (lv_at hl 0 rfl) ?_
  refine va_get (D := G.1) (ci := 12) (v := .int (nI ln)) (C := RX12) (T := TX12) (N := 33) hx hb hts (g_in wsX120 31 rfl) hown hK.1 hP 0 rfl rfl 1 (by decide) (hts _ (List.mem_of_getElem? (i := 1) rfl)) (fun _ h9 => h9) rfl dX12_ring_5 ?_
  refine lv_icmp_lt (tgt := 19) hx hb dX12_ring_8 (by decide) (fun c_9 => ?_) (fun c_9 => ?_)
  · skip
    have c_9 := (cLtNN (a := faultP lg ln) (b := ln) (by omega) (by omega)).mp c_9
    refine lv_bipush (v := (-103)) hx hb dX12_ring_19 (by decide) ?_
    have hP9 : va_P G.1 vwCl [(bd 0, .inr (12, [.ref (bd 1), .int (nI ln), .ref (bd 2), .int (nI r2_1), .int rK2_3, .int (nI s2_2), .int (nI n), .int (nI h), .int (nI mk), .int ps, .int rr, .ref (bd 3), .ref (bd 4), .int sH, .int sM, .int sP, .ref (bd 5), .ref (bd 6), .ref (bd 7), .int (nI z), .ref (bd 8), .ref (bd 9), .ref (bd 10), .ref (bd 11), .int sd, .int kR, .int kH, .int kM, .int kP, .int (nI kz), .ref (bd 12), .ref (bd 13), .long hs])), (bd 1, .inl (G.2.1, 10, .inl lg)), (bd 2, .inl (G.2.1, 4, .inl rd2_4))] H := (hP.sub [0, 1, 2] rfl)
    have hD9 : va_D A [(bd 0, .inr (12, [.ref (bd 1), .int (nI ln), .ref (bd 2), .int (nI r2_1), .int rK2_3, .int (nI s2_2), .int (nI n), .int (nI h), .int (nI mk), .int ps, .int rr, .ref (bd 3), .ref (bd 4), .int sH, .int sM, .int sP, .ref (bd 5), .ref (bd 6), .ref (bd 7), .int (nI z), .ref (bd 8), .ref (bd 9), .ref (bd 10), .ref (bd 11), .int sd, .int kR, .int kH, .int kM, .int kP, .int (nI kz), .ref (bd 12), .ref (bd 13), .long hs])), (bd 1, .inl (G.2.1, 10, .inl lg)), (bd 2, .inl (G.2.1, 4, .inl rd2_4))] := (hD.sub [0, 1, 2] (by decide) rfl)
    exact W.iret hx hb hr (fun t9 ht9 hW9 => ⟨⟨(-103), (r2_1, s2_2, rK2_3, rd2_4), rfl, rfl, by rw [ht9]; exact hP9, hD9⟩, hS.F ht9⟩) hS.2.2 dX12_ring_21
  · skip
    have c_9 := gNot (cLtNN (a := faultP lg ln) (b := ln) (by omega) (by omega)) c_9
    refine lv_aload_n hx hb dX12_ring_11 rfl (lv_at hl 0 rfl) ?_
    refine va_get (D := G.1) (ci := 12) (v := .int (nI s2_2)) (C := RX12) (T := TX12) (N := 33) hx hb hts (g_in wsX120 31 rfl) hown hK.1 hP 0 rfl rfl 5 (by decide) (hts _ (List.mem_of_getElem? (i := 2) rfl)) (fun _ h9 => h9) rfl dX12_ring_12 ?_
    refine lv_iconst (v := (nI 3)) hx hb dX12_ring_15 (by decide) ?_
    refine lv_icmp_eq (tgt := 22) hx hb dX12_ring_16 (by decide) (fun c_10 => ?_) (fun c_10 => ?_)
    · skip
      have c_10 := (cEqNN (a := s2_2) (b := 3) (by omega) (by omega)).mp c_10
      exact absurd ⟨(by omega : faultP lg ln = ln), (by omega)⟩ hno8
    · skip
      have c_10 := gNot (cEqNN (a := s2_2) (b := 3) (by omega) (by omega)) c_10
      refine lv_bipush (v := (-103)) hx hb dX12_ring_19 (by decide) ?_
      have hP9 : va_P G.1 vwCl [(bd 0, .inr (12, [.ref (bd 1), .int (nI ln), .ref (bd 2), .int (nI r2_1), .int rK2_3, .int (nI s2_2), .int (nI n), .int (nI h), .int (nI mk), .int ps, .int rr, .ref (bd 3), .ref (bd 4), .int sH, .int sM, .int sP, .ref (bd 5), .ref (bd 6), .ref (bd 7), .int (nI z), .ref (bd 8), .ref (bd 9), .ref (bd 10), .ref (bd 11), .int sd, .int kR, .int kH, .int kM, .int kP, .int (nI kz), .ref (bd 12), .ref (bd 13), .long hs])), (bd 1, .inl (G.2.1, 10, .inl lg)), (bd 2, .inl (G.2.1, 4, .inl rd2_4))] H := (hP.sub [0, 1, 2] rfl)
      have hD9 : va_D A [(bd 0, .inr (12, [.ref (bd 1), .int (nI ln), .ref (bd 2), .int (nI r2_1), .int rK2_3, .int (nI s2_2), .int (nI n), .int (nI h), .int (nI mk), .int ps, .int rr, .ref (bd 3), .ref (bd 4), .int sH, .int sM, .int sP, .ref (bd 5), .ref (bd 6), .ref (bd 7), .int (nI z), .ref (bd 8), .ref (bd 9), .ref (bd 10), .ref (bd 11), .int sd, .int kR, .int kH, .int kM, .int kP, .int (nI kz), .ref (bd 12), .ref (bd 13), .long hs])), (bd 1, .inl (G.2.1, 10, .inl lg)), (bd 2, .inl (G.2.1, 4, .inl rd2_4))] := (hD.sub [0, 1, 2] (by decide) rfl)
      exact W.iret hx hb hr (fun t9 ht9 hW9 => ⟨⟨(-103), (r2_1, s2_2, rK2_3, rd2_4), rfl, rfl, by rw [ht9]; exact hP9, hD9⟩, hS.F ht9⟩) hS.2.2 dX12_ring_21

set_option maxHeartbeats 500000 in
set_option maxRecDepth 100000 in
theorem m_ring_yes (l : Launch) (G : gG) (bd : Nat → Nat) (ln : Nat) (rM : Int32) (rK : Int32) (sT : Int32) (n : Nat) (h : Nat) (mk : Nat) (ps : Int32) (rr : Int32) (sH : Int32) (sM : Int32) (sP : Int32) (z : Nat) (sd : Int32) (kR : Int32) (kH : Int32) (kM : Int32) (kP : Int32) (kz : Nat) (hs : Int64) (lg : Nat → Int32) (rd : Nat → Int32) (kI : Nat → Int32) (me : Nat → Int32) (fl : Nat → Int32) (pd : Nat → Int32) (sz : Nat) (hln : ln ≤ 10) (hyes : isRg lg ln) : Met l yX12_ring wsX12_ring ({ frames := 3, cells := 0, slots := 0, locals := 69 } : Room) (gM G [.ref (bd 0)] [(bd 0, .inr (12, [.ref (bd 1), .int (nI ln), .ref (bd 2), .int rM, .int rK, .int sT, .int (nI n), .int (nI h), .int (nI mk), .int ps, .int rr, .ref (bd 3), .ref (bd 4), .int sH, .int sM, .int sP, .ref (bd 5), .ref (bd 6), .ref (bd 7), .int (nI z), .ref (bd 8), .ref (bd 9), .ref (bd 10), .ref (bd 11), .int sd, .int kR, .int kH, .int kM, .int kP, .int (nI kz), .ref (bd 12), .ref (bd 13), .long hs])), (bd 1, .inl (G.2.1, 10, .inl lg)), (bd 2, .inl (G.2.1, 4, .inl rd)), (bd 3, .inl (G.2.1, 16, .inl (rowsF kI me fl pd)))] sz) (va_Qi (fun (r : Int32) (u : (Nat → Int32) × (Nat → Int32) × (Nat → Int32) × (Nat → Int32) × (Nat → Int32)) => r = (nI (lead lg ln)) ∧ (∀ k, k < lead lg ln → u.2.1 k = nI (kx (lg k))) ∧ (∀ k, k < lead lg ln → u.2.2.1 k = -1) ∧ (∀ k, k < lead lg ln → u.2.2.2.1 k = nI 0) ∧ (∀ k, k < lead lg ln → u.2.2.2.2 k = nI 0)) (fun u t => va_P G.1 vwCl [(bd 0, .inr (12, [.ref (bd 1), .int (nI 0), .ref (bd 2), .int (nI (lead lg ln)), .int (nI (8 * rgD lg (lead lg ln + 1) + rgD lg (lead lg ln + 2))), .int (nI 3), .int (nI (lead lg ln)), .int (nI 0), .int (nI (8 * rgD lg (lead lg ln + 1) + rgD lg (lead lg ln + 2))), .int (nI 0), .int (rr + nI 1), .ref (bd 3), .ref (bd 4), .int sH, .int sM, .int sP, .ref (bd 5), .ref (bd 6), .ref (bd 7), .int (nI 0), .ref (bd 8), .ref (bd 9), .ref (bd 10), .ref (bd 11), .int sd, .int kR, .int kH, .int kM, .int kP, .int (nI kz), .ref (bd 12), .ref (bd 13), .long hs])), (bd 1, .inl (G.2.1, 10, .inl lg)), (bd 2, .inl (G.2.1, 4, .inl u.1)), (bd 3, .inl (G.2.1, 16, .inl (rowsF u.2.1 u.2.2.1 u.2.2.2.1 u.2.2.2.2)))] t.heap ∧ va_D (va_A [(bd 0, .inr (12, [.ref (bd 1), .int (nI ln), .ref (bd 2), .int rM, .int rK, .int sT, .int (nI n), .int (nI h), .int (nI mk), .int ps, .int rr, .ref (bd 3), .ref (bd 4), .int sH, .int sM, .int sP, .ref (bd 5), .ref (bd 6), .ref (bd 7), .int (nI z), .ref (bd 8), .ref (bd 9), .ref (bd 10), .ref (bd 11), .int sd, .int kR, .int kH, .int kM, .int kP, .int (nI kz), .ref (bd 12), .ref (bd 13), .long hs])), (bd 1, .inl (G.2.1, 10, .inl lg)), (bd 2, .inl (G.2.1, 4, .inl rd)), (bd 3, .inl (G.2.1, 16, .inl (rowsF kI me fl pd)))] sz) [(bd 0, .inr (12, [.ref (bd 1), .int (nI 0), .ref (bd 2), .int (nI (lead lg ln)), .int (nI (8 * rgD lg (lead lg ln + 1) + rgD lg (lead lg ln + 2))), .int (nI 3), .int (nI (lead lg ln)), .int (nI 0), .int (nI (8 * rgD lg (lead lg ln + 1) + rgD lg (lead lg ln + 2))), .int (nI 0), .int (rr + nI 1), .ref (bd 3), .ref (bd 4), .int sH, .int sM, .int sP, .ref (bd 5), .ref (bd 6), .ref (bd 7), .int (nI 0), .ref (bd 8), .ref (bd 9), .ref (bd 10), .ref (bd 11), .int sd, .int kR, .int kH, .int kM, .int kP, .int (nI kz), .ref (bd 12), .ref (bd 13), .long hs])), (bd 1, .inl (G.2.1, 10, .inl lg)), (bd 2, .inl (G.2.1, 4, .inl u.1)), (bd 3, .inl (G.2.1, 16, .inl (rowsF u.2.1 u.2.2.1 u.2.2.2.1 u.2.2.2.2)))]) (va_A [(bd 0, .inr (12, [.ref (bd 1), .int (nI ln), .ref (bd 2), .int rM, .int rK, .int sT, .int (nI n), .int (nI h), .int (nI mk), .int ps, .int rr, .ref (bd 3), .ref (bd 4), .int sH, .int sM, .int sP, .ref (bd 5), .ref (bd 6), .ref (bd 7), .int (nI z), .ref (bd 8), .ref (bd 9), .ref (bd 10), .ref (bd 11), .int sd, .int kR, .int kH, .int kM, .int kP, .int (nI kz), .ref (bd 12), .ref (bd 13), .long hs])), (bd 1, .inl (G.2.1, 10, .inl lg)), (bd 2, .inl (G.2.1, 4, .inl rd)), (bd 3, .inl (G.2.1, 16, .inl (rowsF kI me fl pd)))] sz)) 0 0 (va_A [(bd 0, .inr (12, [.ref (bd 1), .int (nI ln), .ref (bd 2), .int rM, .int rK, .int sT, .int (nI n), .int (nI h), .int (nI mk), .int ps, .int rr, .ref (bd 3), .ref (bd 4), .int sH, .int sM, .int sP, .ref (bd 5), .ref (bd 6), .ref (bd 7), .int (nI z), .ref (bd 8), .ref (bd 9), .ref (bd 10), .ref (bd 11), .int sd, .int kR, .int kH, .int kM, .int kP, .int (nI kz), .ref (bd 12), .ref (bd 13), .long hs])), (bd 1, .inl (G.2.1, 10, .inl lg)), (bd 2, .inl (G.2.1, 4, .inl rd)), (bd 3, .inl (G.2.1, 16, .inl (rowsF kI me fl pd)))] sz) := by
  refine Met.ofW (cc := cX12_ring) (maxL := 2) (ret := (some .int)) (by decide) rfl ?_
  intro p e s m args below meth c s₁ B hml hv
  obtain ⟨rfl, hsz, hP, hK, hD0⟩ := hv
  have hx := B.exec
  have hb := B.bytes
  have hr := B.returns
  have hts := atoms_spec (ws := wsX12_ring) B.pre
  have hown : s.vm.findClass RX12 = some m.cls := findClass_of_methodNamed B.named
  have hlocks := B.notSynchronized
  subst hsz
  have hD := hD0.self (sz := s.heap.size)
  generalize hAe : va_A [(bd 0, .inr (12, [.ref (bd 1), .int (nI ln), .ref (bd 2), .int rM, .int rK, .int sT, .int (nI n), .int (nI h), .int (nI mk), .int ps, .int rr, .ref (bd 3), .ref (bd 4), .int sH, .int sM, .int sP, .ref (bd 5), .ref (bd 6), .ref (bd 7), .int (nI z), .ref (bd 8), .ref (bd 9), .ref (bd 10), .ref (bd 11), .int sd, .int kR, .int kH, .int kM, .int kP, .int (nI kz), .ref (bd 12), .ref (bd 13), .long hs])), (bd 1, .inl (G.2.1, 10, .inl lg)), (bd 2, .inl (G.2.1, 4, .inl rd)), (bd 3, .inl (G.2.1, 16, .inl (rowsF kI me fl pd)))] s.heap.size = A at hD ⊢
  have hA : ∀ q : Nat, s.heap.size ≤ q → A q := fun q h => by rw [← hAe]; exact Or.inr h
  have hS : va_S A s.heap s.heap [] := va_S.rf
  clear hAe hD0
  have hl := lv_entry ([.ref (bd 0)]) (n := 2) (Nat.le_of_ble_eq_true rfl)
  rw [lg_entry_eq]
  generalize (lg_sl ([.ref (bd 0)]) ++ List.replicate (2 - (lg_sl ([.ref (bd 0)])).length) Slot.unset).toArray = ls at hl ⊢
  have hl : lv_has ls 2 [(0, .ref (bd 0))] := hl
  refine lv_aload_n hx hb dX12_ring_0 rfl (lv_at hl 0 rfl) ?_
  refine g_calli (S := Nat × Nat × Int32 × (Nat → Int32)) (w1 := fun u => [(bd 0, .inr (12, [.ref (bd 1), .int (nI ln), .ref (bd 2), .int (nI u.1), .int u.2.2.1, .int (nI u.2.1), .int (nI n), .int (nI h), .int (nI mk), .int ps, .int rr, .ref (bd 3), .ref (bd 4), .int sH, .int sM, .int sP, .ref (bd 5), .ref (bd 6), .ref (bd 7), .int (nI z), .ref (bd 8), .ref (bd 9), .ref (bd 10), .ref (bd 11), .int sd, .int kR, .int kH, .int kM, .int kP, .int (nI kz), .ref (bd 12), .ref (bd 13), .long hs])), (bd 1, .inl (G.2.1, 10, .inl lg)), (bd 2, .inl (G.2.1, 4, .inl u.2.2.2))]) (wr := [(bd 3, .inl (G.2.1, 16, .inl (rowsF kI me fl pd)))]) (wc := [(bd 0, .inr (12, [.ref (bd 1), .int (nI ln), .ref (bd 2), .int rM, .int rK, .int sT, .int (nI n), .int (nI h), .int (nI mk), .int ps, .int rr, .ref (bd 3), .ref (bd 4), .int sH, .int sM, .int sP, .ref (bd 5), .ref (bd 6), .ref (bd 7), .int (nI z), .ref (bd 8), .ref (bd 9), .ref (bd 10), .ref (bd 11), .int sd, .int kR, .int kH, .int kM, .int kP, .int (nI kz), .ref (bd 12), .ref (bd 13), .long hs])), (bd 1, .inl (G.2.1, 10, .inl lg)), (bd 2, .inl (G.2.1, 4, .inl rd))]) hP hD hS hA [0, 1, 2] [3] rfl rfl (by decide) (by decide) (va_runV (As := []) (rest := []) ⟨hx, hb, hml, hown, hts⟩ (m_faultOf l G bd ln rM rK sT n h mk ps rr sH sM sP z sd kR kH kM kP kz hs lg rd _ (by omega)) (cwV 0 hts gX12_ring_X12_faultOf rfl rfl rfl (by decide +kernel) ⟨Nat.le_of_ble_eq_true rfl, Nat.le_of_ble_eq_true rfl⟩) (gM.V hK (show va_P G.1 vwCl [(bd 0, .inr (12, [.ref (bd 1), .int (nI ln), .ref (bd 2), .int rM, .int rK, .int sT, .int (nI n), .int (nI h), .int (nI mk), .int ps, .int rr, .ref (bd 3), .ref (bd 4), .int sH, .int sM, .int sP, .ref (bd 5), .ref (bd 6), .ref (bd 7), .int (nI z), .ref (bd 8), .ref (bd 9), .ref (bd 10), .ref (bd 11), .int sd, .int kR, .int kH, .int kM, .int kP, .int (nI kz), .ref (bd 12), .ref (bd 13), .long hs])), (bd 1, .inl (G.2.1, 10, .inl lg)), (bd 2, .inl (G.2.1, 4, .inl rd))] s.heap from (hP.sub [0, 1, 2] rfl)) (show va_D A [(bd 0, .inr (12, [.ref (bd 1), .int (nI ln), .ref (bd 2), .int rM, .int rK, .int sT, .int (nI n), .int (nI h), .int (nI mk), .int ps, .int rr, .ref (bd 3), .ref (bd 4), .int sH, .int sM, .int sP, .ref (bd 5), .ref (bd 6), .ref (bd 7), .int (nI z), .ref (bd 8), .ref (bd 9), .ref (bd 10), .ref (bd 11), .int sd, .int kR, .int kH, .int kM, .int kP, .int (nI kz), .ref (bd 12), .ref (bd 13), .long hs])), (bd 1, .inl (G.2.1, 10, .inl lg)), (bd 2, .inl (G.2.1, 4, .inl rd))] from (hD.sub [0, 1, 2] (by decide) rfl)) (ci := 12) (q0 := 0) rfl rfl) rfl rfl hl.1 rfl (lv_room (Nat.le_of_ble_eq_true rfl)) dX12_ring_1 ⟨Nat.le_of_ble_eq_true rfl, Nat.le_of_ble_eq_true rfl⟩) (fun r u H locs hq hP hD hS => ?_)
  obtain ⟨r2_1, s2_2, rK2_3, rd2_4⟩ := u
  obtain ⟨rfl, hy_6, hno_7, hs4_8⟩ := hq
  have hy_6 : isRg lg ln → RdY lg ln r2_1 s2_2 rK2_3 rd2_4 := hy_6
  have hno_7 : ¬ isRg lg ln → ¬ (faultP lg ln = ln ∧ s2_2 = 3) := hno_7
  have hs4_8 : s2_2 ≤ 4 := hs4_8
  have hP : va_P G.1 vwCl [(bd 3, .inl (G.2.1, 16, .inl (rowsF kI me fl pd))), (bd 0, .inr (12, [.ref (bd 1), .int (nI ln), .ref (bd 2), .int (nI r2_1), .int rK2_3, .int (nI s2_2), .int (nI n), .int (nI h), .int (nI mk), .int ps, .int rr, .ref (bd 3), .ref (bd 4), .int sH, .int sM, .int sP, .ref (bd 5), .ref (bd 6), .ref (bd 7), .int (nI z), .ref (bd 8), .ref (bd 9), .ref (bd 10), .ref (bd 11), .int sd, .int kR, .int kH, .int kM, .int kP, .int (nI kz), .ref (bd 12), .ref (bd 13), .long hs])), (bd 1, .inl (G.2.1, 10, .inl lg)), (bd 2, .inl (G.2.1, 4, .inl rd2_4))] H := hP
  have hD : va_D A [(bd 3, .inl (G.2.1, 16, .inl (rowsF kI me fl pd))), (bd 0, .inr (12, [.ref (bd 1), .int (nI ln), .ref (bd 2), .int (nI r2_1), .int rK2_3, .int (nI s2_2), .int (nI n), .int (nI h), .int (nI mk), .int ps, .int rr, .ref (bd 3), .ref (bd 4), .int sH, .int sM, .int sP, .ref (bd 5), .ref (bd 6), .ref (bd 7), .int (nI z), .ref (bd 8), .ref (bd 9), .ref (bd 10), .ref (bd 11), .int sd, .int kR, .int kH, .int kM, .int kP, .int (nI kz), .ref (bd 12), .ref (bd 13), .long hs])), (bd 1, .inl (G.2.1, 10, .inl lg)), (bd 2, .inl (G.2.1, 4, .inl rd2_4))] := hD
  obtain ⟨hy1, hy2, hy3, hy4⟩ := hy_6 hyes
  have hle := lead_le lg ln
  have hf8 := faultP_le lg ln
  subst hy1
  subst hy2
  subst hy3
  refine lv_aload_n hx hb dX12_ring_4 rfl (lv_at hl 0 rfl) ?_
  refine va_get (D := G.1) (ci := 12) (v := .int (nI ln)) (C := RX12) (T := TX12) (N := 33) hx hb hts (g_in wsX120 31 rfl) hown hK.1 hP 1 rfl rfl 1 (by decide) (hts _ (List.mem_of_getElem? (i := 1) rfl)) (fun _ h9 => h9) rfl dX12_ring_5 ?_
  refine lv_icmp_lt (tgt := 19) hx hb dX12_ring_8 (by decide) (fun c_9 => ?_) (fun c_9 => ?_)
  · skip
    have c_9 := (cLtNN (a := faultP lg ln) (b := ln) (by omega) (by omega)).mp c_9
    exact absurd c_9 (by have h8 := hyes.2; omega)
  · skip
    have c_9 := gNot (cLtNN (a := faultP lg ln) (b := ln) (by omega) (by omega)) c_9
    refine lv_aload_n hx hb dX12_ring_11 rfl (lv_at hl 0 rfl) ?_
    refine va_get (D := G.1) (ci := 12) (v := .int (nI 3)) (C := RX12) (T := TX12) (N := 33) hx hb hts (g_in wsX120 31 rfl) hown hK.1 hP 1 rfl rfl 5 (by decide) (hts _ (List.mem_of_getElem? (i := 2) rfl)) (fun _ h9 => h9) rfl dX12_ring_12 ?_
    refine lv_iconst (v := (nI 3)) hx hb dX12_ring_15 (by decide) ?_
    refine lv_icmp_eq (tgt := 22) hx hb dX12_ring_16 (by decide) (fun c_10 => ?_) (fun c_10 => ?_)
    · skip
      have c_10 := (cEqNN (a := 3) (b := 3) (by omega) (by omega)).mp c_10
      refine lv_aload_n hx hb dX12_ring_22 rfl (lv_at hl 0 rfl) ?_
      refine lv_aload_n hx hb dX12_ring_23 rfl (lv_at hl 0 rfl) ?_
      refine va_get (D := G.1) (ci := 12) (v := .int (nI (lead lg ln))) (C := RX12) (T := TX12) (N := 33) hx hb hts (g_in wsX120 31 rfl) hown hK.1 hP 1 rfl rfl 3 (by decide) (hts _ (List.mem_of_getElem? (i := 3) rfl)) (fun _ h9 => h9) rfl dX12_ring_24 ?_
      refine va_put (D := G.1) (ci := 12) (v := .int (nI (lead lg ln))) (ty := .int) (C := RX12) (T := TX12) (N := 33) hx hb hts (g_in wsX120 31 rfl) tyX12 tyX12_ok nmX12 hown hK.1 hP hD hS 1 rfl rfl 6 (by decide) (hts _ (List.mem_of_getElem? (i := 4) rfl)) (fun _ h9 => h9) rfl (tyX12_ok 6 (by decide)) rfl rfl (Nat.le_of_ble_eq_true rfl) dX12_ring_27 (fun H locs hP hD hS => ?_)
      have hP : va_P G.1 vwCl [(bd 3, .inl (G.2.1, 16, .inl (rowsF kI me fl pd))), (bd 0, .inr (12, [.ref (bd 1), .int (nI ln), .ref (bd 2), .int (nI (lead lg ln)), .int (nI (8 * rgD lg (lead lg ln + 1) + rgD lg (lead lg ln + 2))), .int (nI 3), .int (nI (lead lg ln)), .int (nI h), .int (nI mk), .int ps, .int rr, .ref (bd 3), .ref (bd 4), .int sH, .int sM, .int sP, .ref (bd 5), .ref (bd 6), .ref (bd 7), .int (nI z), .ref (bd 8), .ref (bd 9), .ref (bd 10), .ref (bd 11), .int sd, .int kR, .int kH, .int kM, .int kP, .int (nI kz), .ref (bd 12), .ref (bd 13), .long hs])), (bd 1, .inl (G.2.1, 10, .inl lg)), (bd 2, .inl (G.2.1, 4, .inl rd2_4))] H := hP
      have hD : va_D A [(bd 3, .inl (G.2.1, 16, .inl (rowsF kI me fl pd))), (bd 0, .inr (12, [.ref (bd 1), .int (nI ln), .ref (bd 2), .int (nI (lead lg ln)), .int (nI (8 * rgD lg (lead lg ln + 1) + rgD lg (lead lg ln + 2))), .int (nI 3), .int (nI (lead lg ln)), .int (nI h), .int (nI mk), .int ps, .int rr, .ref (bd 3), .ref (bd 4), .int sH, .int sM, .int sP, .ref (bd 5), .ref (bd 6), .ref (bd 7), .int (nI z), .ref (bd 8), .ref (bd 9), .ref (bd 10), .ref (bd 11), .int sd, .int kR, .int kH, .int kM, .int kP, .int (nI kz), .ref (bd 12), .ref (bd 13), .long hs])), (bd 1, .inl (G.2.1, 10, .inl lg)), (bd 2, .inl (G.2.1, 4, .inl rd2_4))] := hD
      refine lv_iconst (v := (nI 0)) hx hb dX12_ring_30 (by decide) ?_
      refine lv_istore_n (lv' := [(1, .int (nI 0)), (0, .ref (bd 0))]) hx hb dX12_ring_31 rfl hl (by decide) rfl (fun ls hl => ?_)
      refine g_cutM5 (α := Nat) (β := Nat → Int32) (γ := Nat → Int32) (δ := Nat → Int32) (ε := Nat → Int32) 32 (fun i kI2 me2 fl2 pd2 => []) (fun i kI2 me2 fl2 pd2 H locs ls => (i ≤ lead lg ln) ∧ (∀ k, k < i → kI2 k = nI (kx (lg k))) ∧ (∀ k, k < i → me2 k = -1) ∧ (∀ k, k < i → fl2 k = nI 0) ∧ (∀ k, k < i → pd2 k = nI 0) ∧ va_P G.1 vwCl [(bd 0, .inr (12, [.ref (bd 1), .int (nI ln), .ref (bd 2), .int (nI (lead lg ln)), .int (nI (8 * rgD lg (lead lg ln + 1) + rgD lg (lead lg ln + 2))), .int (nI 3), .int (nI (lead lg ln)), .int (nI h), .int (nI mk), .int ps, .int rr, .ref (bd 3), .ref (bd 4), .int sH, .int sM, .int sP, .ref (bd 5), .ref (bd 6), .ref (bd 7), .int (nI z), .ref (bd 8), .ref (bd 9), .ref (bd 10), .ref (bd 11), .int sd, .int kR, .int kH, .int kM, .int kP, .int (nI kz), .ref (bd 12), .ref (bd 13), .long hs])), (bd 1, .inl (G.2.1, 10, .inl lg)), (bd 2, .inl (G.2.1, 4, .inl rd2_4)), (bd 3, .inl (G.2.1, 16, .inl (rowsF kI2 me2 fl2 pd2)))] H ∧ va_D A [(bd 0, .inr (12, [.ref (bd 1), .int (nI ln), .ref (bd 2), .int (nI (lead lg ln)), .int (nI (8 * rgD lg (lead lg ln + 1) + rgD lg (lead lg ln + 2))), .int (nI 3), .int (nI (lead lg ln)), .int (nI h), .int (nI mk), .int ps, .int rr, .ref (bd 3), .ref (bd 4), .int sH, .int sM, .int sP, .ref (bd 5), .ref (bd 6), .ref (bd 7), .int (nI z), .ref (bd 8), .ref (bd 9), .ref (bd 10), .ref (bd 11), .int sd, .int kR, .int kH, .int kM, .int kP, .int (nI kz), .ref (bd 12), .ref (bd 13), .long hs])), (bd 1, .inl (G.2.1, 10, .inl lg)), (bd 2, .inl (G.2.1, 4, .inl rd2_4)), (bd 3, .inl (G.2.1, 16, .inl (rowsF kI2 me2 fl2 pd2)))] ∧ va_S A s.heap H locs ∧ lv_has ls 2 [(0, .ref (bd 0)), (1, .int (nI i))]) (g_loopM5 (α := Nat) (β := Nat → Int32) (γ := Nat → Int32) (δ := Nat → Int32) (ε := Nat → Int32) 32 (fun i kI2 me2 fl2 pd2 => []) (fun i kI2 me2 fl2 pd2 H locs ls => (i ≤ lead lg ln) ∧ (∀ k, k < i → kI2 k = nI (kx (lg k))) ∧ (∀ k, k < i → me2 k = -1) ∧ (∀ k, k < i → fl2 k = nI 0) ∧ (∀ k, k < i → pd2 k = nI 0) ∧ va_P G.1 vwCl [(bd 0, .inr (12, [.ref (bd 1), .int (nI ln), .ref (bd 2), .int (nI (lead lg ln)), .int (nI (8 * rgD lg (lead lg ln + 1) + rgD lg (lead lg ln + 2))), .int (nI 3), .int (nI (lead lg ln)), .int (nI h), .int (nI mk), .int ps, .int rr, .ref (bd 3), .ref (bd 4), .int sH, .int sM, .int sP, .ref (bd 5), .ref (bd 6), .ref (bd 7), .int (nI z), .ref (bd 8), .ref (bd 9), .ref (bd 10), .ref (bd 11), .int sd, .int kR, .int kH, .int kM, .int kP, .int (nI kz), .ref (bd 12), .ref (bd 13), .long hs])), (bd 1, .inl (G.2.1, 10, .inl lg)), (bd 2, .inl (G.2.1, 4, .inl rd2_4)), (bd 3, .inl (G.2.1, 16, .inl (rowsF kI2 me2 fl2 pd2)))] H ∧ va_D A [(bd 0, .inr (12, [.ref (bd 1), .int (nI ln), .ref (bd 2), .int (nI (lead lg ln)), .int (nI (8 * rgD lg (lead lg ln + 1) + rgD lg (lead lg ln + 2))), .int (nI 3), .int (nI (lead lg ln)), .int (nI h), .int (nI mk), .int ps, .int rr, .ref (bd 3), .ref (bd 4), .int sH, .int sM, .int sP, .ref (bd 5), .ref (bd 6), .ref (bd 7), .int (nI z), .ref (bd 8), .ref (bd 9), .ref (bd 10), .ref (bd 11), .int sd, .int kR, .int kH, .int kM, .int kP, .int (nI kz), .ref (bd 12), .ref (bd 13), .long hs])), (bd 1, .inl (G.2.1, 10, .inl lg)), (bd 2, .inl (G.2.1, 4, .inl rd2_4)), (bd 3, .inl (G.2.1, 16, .inl (rowsF kI2 me2 fl2 pd2)))] ∧ va_S A s.heap H locs ∧ lv_has ls 2 [(0, .ref (bd 0)), (1, .int (nI i))]) (fun i kI2 me2 fl2 pd2 => lead lg ln - i) ?_) (fun L32_11 => ?_)
      · intro i kI2 me2 fl2 pd2 H locs ls hI L32_11
        obtain ⟨hi, hkI2, hme2, hfl2, hpd2, hP, hD, hS, hl⟩ := hI
        refine lv_iload_n hx hb dX12_ring_32 rfl (lv_at hl 1 rfl) ?_
        refine lv_aload_n hx hb dX12_ring_33 rfl (lv_at hl 0 rfl) ?_
        refine va_get (D := G.1) (ci := 12) (v := .int (nI (lead lg ln))) (C := RX12) (T := TX12) (N := 33) hx hb hts (g_in wsX120 31 rfl) hown hK.1 hP 0 rfl rfl 6 (by decide) (hts _ (List.mem_of_getElem? (i := 4) rfl)) (fun _ h9 => h9) rfl dX12_ring_34 ?_
        refine lv_icmp_ge (tgt := 93) hx hb dX12_ring_37 (by decide) (fun c_12 => ?_) (fun c_12 => ?_)
        · skip
          have c_12 := (cLeNN (a := (lead lg ln)) (b := i) (by omega) (by omega)).mp c_12
          obtain rfl : i = lead lg ln := by omega
          refine lv_aload_n hx hb dX12_ring_93 rfl (lv_at hl 0 rfl) ?_
          refine lv_iconst (v := (nI 0)) hx hb dX12_ring_94 (by decide) ?_
          refine va_put (D := G.1) (ci := 12) (v := .int (nI 0)) (ty := .int) (C := RX12) (T := TX12) (N := 33) hx hb hts (g_in wsX120 31 rfl) tyX12 tyX12_ok nmX12 hown hK.1 hP hD hS 0 rfl rfl 7 (by decide) (hts _ (List.mem_of_getElem? (i := 7) rfl)) (fun _ h9 => h9) rfl (tyX12_ok 7 (by decide)) rfl rfl (Nat.le_of_ble_eq_true rfl) dX12_ring_95 (fun H locs hP hD hS => ?_)
          have hP : va_P G.1 vwCl [(bd 0, .inr (12, [.ref (bd 1), .int (nI ln), .ref (bd 2), .int (nI (lead lg ln)), .int (nI (8 * rgD lg (lead lg ln + 1) + rgD lg (lead lg ln + 2))), .int (nI 3), .int (nI (lead lg ln)), .int (nI 0), .int (nI mk), .int ps, .int rr, .ref (bd 3), .ref (bd 4), .int sH, .int sM, .int sP, .ref (bd 5), .ref (bd 6), .ref (bd 7), .int (nI z), .ref (bd 8), .ref (bd 9), .ref (bd 10), .ref (bd 11), .int sd, .int kR, .int kH, .int kM, .int kP, .int (nI kz), .ref (bd 12), .ref (bd 13), .long hs])), (bd 1, .inl (G.2.1, 10, .inl lg)), (bd 2, .inl (G.2.1, 4, .inl rd2_4)), (bd 3, .inl (G.2.1, 16, .inl (rowsF kI2 me2 fl2 pd2)))] H := hP
          have hD : va_D A [(bd 0, .inr (12, [.ref (bd 1), .int (nI ln), .ref (bd 2), .int (nI (lead lg ln)), .int (nI (8 * rgD lg (lead lg ln + 1) + rgD lg (lead lg ln + 2))), .int (nI 3), .int (nI (lead lg ln)), .int (nI 0), .int (nI mk), .int ps, .int rr, .ref (bd 3), .ref (bd 4), .int sH, .int sM, .int sP, .ref (bd 5), .ref (bd 6), .ref (bd 7), .int (nI z), .ref (bd 8), .ref (bd 9), .ref (bd 10), .ref (bd 11), .int sd, .int kR, .int kH, .int kM, .int kP, .int (nI kz), .ref (bd 12), .ref (bd 13), .long hs])), (bd 1, .inl (G.2.1, 10, .inl lg)), (bd 2, .inl (G.2.1, 4, .inl rd2_4)), (bd 3, .inl (G.2.1, 16, .inl (rowsF kI2 me2 fl2 pd2)))] := hD
          refine lv_aload_n hx hb dX12_ring_98 rfl (lv_at hl 0 rfl) ?_
          refine lv_aload_n hx hb dX12_ring_99 rfl (lv_at hl 0 rfl) ?_
          refine va_get (D := G.1) (ci := 12) (v := .int (nI (8 * rgD lg (lead lg ln + 1) + rgD lg (lead lg ln + 2)))) (C := RX12) (T := TX12) (N := 33) hx hb hts (g_in wsX120 31 rfl) hown hK.1 hP 0 rfl rfl 4 (by decide) (hts _ (List.mem_of_getElem? (i := 8) rfl)) (fun _ h9 => h9) rfl dX12_ring_100 ?_
          refine va_put (D := G.1) (ci := 12) (v := .int (nI (8 * rgD lg (lead lg ln + 1) + rgD lg (lead lg ln + 2)))) (ty := .int) (C := RX12) (T := TX12) (N := 33) hx hb hts (g_in wsX120 31 rfl) tyX12 tyX12_ok nmX12 hown hK.1 hP hD hS 0 rfl rfl 8 (by decide) (hts _ (List.mem_of_getElem? (i := 9) rfl)) (fun _ h9 => h9) rfl (tyX12_ok 8 (by decide)) rfl rfl (Nat.le_of_ble_eq_true rfl) dX12_ring_103 (fun H locs hP hD hS => ?_)
          have hP : va_P G.1 vwCl [(bd 0, .inr (12, [.ref (bd 1), .int (nI ln), .ref (bd 2), .int (nI (lead lg ln)), .int (nI (8 * rgD lg (lead lg ln + 1) + rgD lg (lead lg ln + 2))), .int (nI 3), .int (nI (lead lg ln)), .int (nI 0), .int (nI (8 * rgD lg (lead lg ln + 1) + rgD lg (lead lg ln + 2))), .int ps, .int rr, .ref (bd 3), .ref (bd 4), .int sH, .int sM, .int sP, .ref (bd 5), .ref (bd 6), .ref (bd 7), .int (nI z), .ref (bd 8), .ref (bd 9), .ref (bd 10), .ref (bd 11), .int sd, .int kR, .int kH, .int kM, .int kP, .int (nI kz), .ref (bd 12), .ref (bd 13), .long hs])), (bd 1, .inl (G.2.1, 10, .inl lg)), (bd 2, .inl (G.2.1, 4, .inl rd2_4)), (bd 3, .inl (G.2.1, 16, .inl (rowsF kI2 me2 fl2 pd2)))] H := hP
          have hD : va_D A [(bd 0, .inr (12, [.ref (bd 1), .int (nI ln), .ref (bd 2), .int (nI (lead lg ln)), .int (nI (8 * rgD lg (lead lg ln + 1) + rgD lg (lead lg ln + 2))), .int (nI 3), .int (nI (lead lg ln)), .int (nI 0), .int (nI (8 * rgD lg (lead lg ln + 1) + rgD lg (lead lg ln + 2))), .int ps, .int rr, .ref (bd 3), .ref (bd 4), .int sH, .int sM, .int sP, .ref (bd 5), .ref (bd 6), .ref (bd 7), .int (nI z), .ref (bd 8), .ref (bd 9), .ref (bd 10), .ref (bd 11), .int sd, .int kR, .int kH, .int kM, .int kP, .int (nI kz), .ref (bd 12), .ref (bd 13), .long hs])), (bd 1, .inl (G.2.1, 10, .inl lg)), (bd 2, .inl (G.2.1, 4, .inl rd2_4)), (bd 3, .inl (G.2.1, 16, .inl (rowsF kI2 me2 fl2 pd2)))] := hD
          refine lv_aload_n hx hb dX12_ring_106 rfl (lv_at hl 0 rfl) ?_
          refine lv_iconst (v := (nI 0)) hx hb dX12_ring_107 (by decide) ?_
          refine va_put (D := G.1) (ci := 12) (v := .int (nI 0)) (ty := .int) (C := RX12) (T := TX12) (N := 33) hx hb hts (g_in wsX120 31 rfl) tyX12 tyX12_ok nmX12 hown hK.1 hP hD hS 0 rfl rfl 9 (by decide) (hts _ (List.mem_of_getElem? (i := 10) rfl)) (fun _ h9 => h9) rfl (tyX12_ok 9 (by decide)) rfl rfl (Nat.le_of_ble_eq_true rfl) dX12_ring_108 (fun H locs hP hD hS => ?_)
          have hP : va_P G.1 vwCl [(bd 0, .inr (12, [.ref (bd 1), .int (nI ln), .ref (bd 2), .int (nI (lead lg ln)), .int (nI (8 * rgD lg (lead lg ln + 1) + rgD lg (lead lg ln + 2))), .int (nI 3), .int (nI (lead lg ln)), .int (nI 0), .int (nI (8 * rgD lg (lead lg ln + 1) + rgD lg (lead lg ln + 2))), .int (nI 0), .int rr, .ref (bd 3), .ref (bd 4), .int sH, .int sM, .int sP, .ref (bd 5), .ref (bd 6), .ref (bd 7), .int (nI z), .ref (bd 8), .ref (bd 9), .ref (bd 10), .ref (bd 11), .int sd, .int kR, .int kH, .int kM, .int kP, .int (nI kz), .ref (bd 12), .ref (bd 13), .long hs])), (bd 1, .inl (G.2.1, 10, .inl lg)), (bd 2, .inl (G.2.1, 4, .inl rd2_4)), (bd 3, .inl (G.2.1, 16, .inl (rowsF kI2 me2 fl2 pd2)))] H := hP
          have hD : va_D A [(bd 0, .inr (12, [.ref (bd 1), .int (nI ln), .ref (bd 2), .int (nI (lead lg ln)), .int (nI (8 * rgD lg (lead lg ln + 1) + rgD lg (lead lg ln + 2))), .int (nI 3), .int (nI (lead lg ln)), .int (nI 0), .int (nI (8 * rgD lg (lead lg ln + 1) + rgD lg (lead lg ln + 2))), .int (nI 0), .int rr, .ref (bd 3), .ref (bd 4), .int sH, .int sM, .int sP, .ref (bd 5), .ref (bd 6), .ref (bd 7), .int (nI z), .ref (bd 8), .ref (bd 9), .ref (bd 10), .ref (bd 11), .int sd, .int kR, .int kH, .int kM, .int kP, .int (nI kz), .ref (bd 12), .ref (bd 13), .long hs])), (bd 1, .inl (G.2.1, 10, .inl lg)), (bd 2, .inl (G.2.1, 4, .inl rd2_4)), (bd 3, .inl (G.2.1, 16, .inl (rowsF kI2 me2 fl2 pd2)))] := hD
          refine lv_aload_n hx hb dX12_ring_111 rfl (lv_at hl 0 rfl) ?_
          refine lv_iconst (v := (nI 0)) hx hb dX12_ring_112 (by decide) ?_
          refine va_put (D := G.1) (ci := 12) (v := .int (nI 0)) (ty := .int) (C := RX12) (T := TX12) (N := 33) hx hb hts (g_in wsX120 31 rfl) tyX12 tyX12_ok nmX12 hown hK.1 hP hD hS 0 rfl rfl 19 (by decide) (hts _ (List.mem_of_getElem? (i := 11) rfl)) (fun _ h9 => h9) rfl (tyX12_ok 19 (by decide)) rfl rfl (Nat.le_of_ble_eq_true rfl) dX12_ring_113 (fun H locs hP hD hS => ?_)
          have hP : va_P G.1 vwCl [(bd 0, .inr (12, [.ref (bd 1), .int (nI ln), .ref (bd 2), .int (nI (lead lg ln)), .int (nI (8 * rgD lg (lead lg ln + 1) + rgD lg (lead lg ln + 2))), .int (nI 3), .int (nI (lead lg ln)), .int (nI 0), .int (nI (8 * rgD lg (lead lg ln + 1) + rgD lg (lead lg ln + 2))), .int (nI 0), .int rr, .ref (bd 3), .ref (bd 4), .int sH, .int sM, .int sP, .ref (bd 5), .ref (bd 6), .ref (bd 7), .int (nI 0), .ref (bd 8), .ref (bd 9), .ref (bd 10), .ref (bd 11), .int sd, .int kR, .int kH, .int kM, .int kP, .int (nI kz), .ref (bd 12), .ref (bd 13), .long hs])), (bd 1, .inl (G.2.1, 10, .inl lg)), (bd 2, .inl (G.2.1, 4, .inl rd2_4)), (bd 3, .inl (G.2.1, 16, .inl (rowsF kI2 me2 fl2 pd2)))] H := hP
          have hD : va_D A [(bd 0, .inr (12, [.ref (bd 1), .int (nI ln), .ref (bd 2), .int (nI (lead lg ln)), .int (nI (8 * rgD lg (lead lg ln + 1) + rgD lg (lead lg ln + 2))), .int (nI 3), .int (nI (lead lg ln)), .int (nI 0), .int (nI (8 * rgD lg (lead lg ln + 1) + rgD lg (lead lg ln + 2))), .int (nI 0), .int rr, .ref (bd 3), .ref (bd 4), .int sH, .int sM, .int sP, .ref (bd 5), .ref (bd 6), .ref (bd 7), .int (nI 0), .ref (bd 8), .ref (bd 9), .ref (bd 10), .ref (bd 11), .int sd, .int kR, .int kH, .int kM, .int kP, .int (nI kz), .ref (bd 12), .ref (bd 13), .long hs])), (bd 1, .inl (G.2.1, 10, .inl lg)), (bd 2, .inl (G.2.1, 4, .inl rd2_4)), (bd 3, .inl (G.2.1, 16, .inl (rowsF kI2 me2 fl2 pd2)))] := hD
          refine lv_aload_n hx hb dX12_ring_116 rfl (lv_at hl 0 rfl) ?_
          refine lv_dup hx hb dX12_ring_117 rfl ?_
          refine va_get (D := G.1) (ci := 12) (v := .int rr) (C := RX12) (T := TX12) (N := 33) hx hb hts (g_in wsX120 31 rfl) hown hK.1 hP 0 rfl rfl 10 (by decide) (hts _ (List.mem_of_getElem? (i := 12) rfl)) (fun _ h9 => h9) rfl dX12_ring_118 ?_
          refine lv_iconst (v := (nI 1)) hx hb dX12_ring_121 (by decide) ?_
          refine lv_iadd hx hb dX12_ring_122 ?_
          refine va_put (D := G.1) (ci := 12) (v := .int (rr + (nI 1))) (ty := .int) (C := RX12) (T := TX12) (N := 33) hx hb hts (g_in wsX120 31 rfl) tyX12 tyX12_ok nmX12 hown hK.1 hP hD hS 0 rfl rfl 10 (by decide) (hts _ (List.mem_of_getElem? (i := 12) rfl)) (fun _ h9 => h9) rfl (tyX12_ok 10 (by decide)) rfl rfl (Nat.le_of_ble_eq_true rfl) dX12_ring_123 (fun H locs hP hD hS => ?_)
          have hP : va_P G.1 vwCl [(bd 0, .inr (12, [.ref (bd 1), .int (nI ln), .ref (bd 2), .int (nI (lead lg ln)), .int (nI (8 * rgD lg (lead lg ln + 1) + rgD lg (lead lg ln + 2))), .int (nI 3), .int (nI (lead lg ln)), .int (nI 0), .int (nI (8 * rgD lg (lead lg ln + 1) + rgD lg (lead lg ln + 2))), .int (nI 0), .int (rr + (nI 1)), .ref (bd 3), .ref (bd 4), .int sH, .int sM, .int sP, .ref (bd 5), .ref (bd 6), .ref (bd 7), .int (nI 0), .ref (bd 8), .ref (bd 9), .ref (bd 10), .ref (bd 11), .int sd, .int kR, .int kH, .int kM, .int kP, .int (nI kz), .ref (bd 12), .ref (bd 13), .long hs])), (bd 1, .inl (G.2.1, 10, .inl lg)), (bd 2, .inl (G.2.1, 4, .inl rd2_4)), (bd 3, .inl (G.2.1, 16, .inl (rowsF kI2 me2 fl2 pd2)))] H := hP
          have hD : va_D A [(bd 0, .inr (12, [.ref (bd 1), .int (nI ln), .ref (bd 2), .int (nI (lead lg ln)), .int (nI (8 * rgD lg (lead lg ln + 1) + rgD lg (lead lg ln + 2))), .int (nI 3), .int (nI (lead lg ln)), .int (nI 0), .int (nI (8 * rgD lg (lead lg ln + 1) + rgD lg (lead lg ln + 2))), .int (nI 0), .int (rr + (nI 1)), .ref (bd 3), .ref (bd 4), .int sH, .int sM, .int sP, .ref (bd 5), .ref (bd 6), .ref (bd 7), .int (nI 0), .ref (bd 8), .ref (bd 9), .ref (bd 10), .ref (bd 11), .int sd, .int kR, .int kH, .int kM, .int kP, .int (nI kz), .ref (bd 12), .ref (bd 13), .long hs])), (bd 1, .inl (G.2.1, 10, .inl lg)), (bd 2, .inl (G.2.1, 4, .inl rd2_4)), (bd 3, .inl (G.2.1, 16, .inl (rowsF kI2 me2 fl2 pd2)))] := hD
          refine lv_aload_n hx hb dX12_ring_126 rfl (lv_at hl 0 rfl) ?_
          refine lv_iconst (v := (nI 0)) hx hb dX12_ring_127 (by decide) ?_
          refine va_put (D := G.1) (ci := 12) (v := .int (nI 0)) (ty := .int) (C := RX12) (T := TX12) (N := 33) hx hb hts (g_in wsX120 31 rfl) tyX12 tyX12_ok nmX12 hown hK.1 hP hD hS 0 rfl rfl 1 (by decide) (hts _ (List.mem_of_getElem? (i := 1) rfl)) (fun _ h9 => h9) rfl (tyX12_ok 1 (by decide)) rfl rfl (Nat.le_of_ble_eq_true rfl) dX12_ring_128 (fun H locs hP hD hS => ?_)
          have hP : va_P G.1 vwCl [(bd 0, .inr (12, [.ref (bd 1), .int (nI 0), .ref (bd 2), .int (nI (lead lg ln)), .int (nI (8 * rgD lg (lead lg ln + 1) + rgD lg (lead lg ln + 2))), .int (nI 3), .int (nI (lead lg ln)), .int (nI 0), .int (nI (8 * rgD lg (lead lg ln + 1) + rgD lg (lead lg ln + 2))), .int (nI 0), .int (rr + (nI 1)), .ref (bd 3), .ref (bd 4), .int sH, .int sM, .int sP, .ref (bd 5), .ref (bd 6), .ref (bd 7), .int (nI 0), .ref (bd 8), .ref (bd 9), .ref (bd 10), .ref (bd 11), .int sd, .int kR, .int kH, .int kM, .int kP, .int (nI kz), .ref (bd 12), .ref (bd 13), .long hs])), (bd 1, .inl (G.2.1, 10, .inl lg)), (bd 2, .inl (G.2.1, 4, .inl rd2_4)), (bd 3, .inl (G.2.1, 16, .inl (rowsF kI2 me2 fl2 pd2)))] H := hP
          have hD : va_D A [(bd 0, .inr (12, [.ref (bd 1), .int (nI 0), .ref (bd 2), .int (nI (lead lg ln)), .int (nI (8 * rgD lg (lead lg ln + 1) + rgD lg (lead lg ln + 2))), .int (nI 3), .int (nI (lead lg ln)), .int (nI 0), .int (nI (8 * rgD lg (lead lg ln + 1) + rgD lg (lead lg ln + 2))), .int (nI 0), .int (rr + (nI 1)), .ref (bd 3), .ref (bd 4), .int sH, .int sM, .int sP, .ref (bd 5), .ref (bd 6), .ref (bd 7), .int (nI 0), .ref (bd 8), .ref (bd 9), .ref (bd 10), .ref (bd 11), .int sd, .int kR, .int kH, .int kM, .int kP, .int (nI kz), .ref (bd 12), .ref (bd 13), .long hs])), (bd 1, .inl (G.2.1, 10, .inl lg)), (bd 2, .inl (G.2.1, 4, .inl rd2_4)), (bd 3, .inl (G.2.1, 16, .inl (rowsF kI2 me2 fl2 pd2)))] := hD
          refine lv_aload_n hx hb dX12_ring_131 rfl (lv_at hl 0 rfl) ?_
          refine va_get (D := G.1) (ci := 12) (v := .int (nI (lead lg ln))) (C := RX12) (T := TX12) (N := 33) hx hb hts (g_in wsX120 31 rfl) hown hK.1 hP 0 rfl rfl 6 (by decide) (hts _ (List.mem_of_getElem? (i := 4) rfl)) (fun _ h9 => h9) rfl dX12_ring_132 ?_
          have hP9 : va_P G.1 vwCl [(bd 0, .inr (12, [.ref (bd 1), .int (nI 0), .ref (bd 2), .int (nI (lead lg ln)), .int (nI (8 * rgD lg (lead lg ln + 1) + rgD lg (lead lg ln + 2))), .int (nI 3), .int (nI (lead lg ln)), .int (nI 0), .int (nI (8 * rgD lg (lead lg ln + 1) + rgD lg (lead lg ln + 2))), .int (nI 0), .int (rr + nI 1), .ref (bd 3), .ref (bd 4), .int sH, .int sM, .int sP, .ref (bd 5), .ref (bd 6), .ref (bd 7), .int (nI 0), .ref (bd 8), .ref (bd 9), .ref (bd 10), .ref (bd 11), .int sd, .int kR, .int kH, .int kM, .int kP, .int (nI kz), .ref (bd 12), .ref (bd 13), .long hs])), (bd 1, .inl (G.2.1, 10, .inl lg)), (bd 2, .inl (G.2.1, 4, .inl rd2_4)), (bd 3, .inl (G.2.1, 16, .inl (rowsF kI2 me2 fl2 pd2)))] H := (hP.sub [0, 1, 2, 3] rfl)
          have hD9 : va_D A [(bd 0, .inr (12, [.ref (bd 1), .int (nI 0), .ref (bd 2), .int (nI (lead lg ln)), .int (nI (8 * rgD lg (lead lg ln + 1) + rgD lg (lead lg ln + 2))), .int (nI 3), .int (nI (lead lg ln)), .int (nI 0), .int (nI (8 * rgD lg (lead lg ln + 1) + rgD lg (lead lg ln + 2))), .int (nI 0), .int (rr + nI 1), .ref (bd 3), .ref (bd 4), .int sH, .int sM, .int sP, .ref (bd 5), .ref (bd 6), .ref (bd 7), .int (nI 0), .ref (bd 8), .ref (bd 9), .ref (bd 10), .ref (bd 11), .int sd, .int kR, .int kH, .int kM, .int kP, .int (nI kz), .ref (bd 12), .ref (bd 13), .long hs])), (bd 1, .inl (G.2.1, 10, .inl lg)), (bd 2, .inl (G.2.1, 4, .inl rd2_4)), (bd 3, .inl (G.2.1, 16, .inl (rowsF kI2 me2 fl2 pd2)))] := (hD.sub [0, 1, 2, 3] (by decide) rfl)
          exact W.iret hx hb hr (fun t9 ht9 hW9 => ⟨⟨(nI (lead lg ln)), (rd2_4, kI2, me2, fl2, pd2), rfl, ⟨rfl, hkI2, hme2, hfl2, hpd2⟩, by rw [ht9]; exact hP9, hD9⟩, hS.F ht9⟩) hS.2.2 dX12_ring_135
        · skip
          have c_12 := gNot (cLeNN (a := (lead lg ln)) (b := i) (by omega) (by omega)) c_12
          refine lv_aload_n hx hb dX12_ring_40 rfl (lv_at hl 0 rfl) ?_
          refine va_get (D := G.1) (ci := 12) (v := .ref (bd 3)) (C := RX12) (T := TX12) (N := 33) hx hb hts (g_in wsX120 31 rfl) hown hK.1 hP 0 rfl rfl 11 (by decide) (hts _ (List.mem_of_getElem? (i := 5) rfl)) (fun _ h9 => h9) rfl dX12_ring_41 ?_
          refine lv_iconst (v := (nI 4)) hx hb dX12_ring_44 (by decide) ?_
          refine lv_iload_n hx hb dX12_ring_45 rfl (lv_at hl 1 rfl) ?_
          refine lv_imul hx hb dX12_ring_46 ?_
          refine g_top (y := (nI (4 * i))) (pk_mul _ _) ?_
          refine lv_aload_n hx hb dX12_ring_47 rfl (lv_at hl 0 rfl) ?_
          refine va_get (D := G.1) (ci := 12) (v := .ref (bd 2)) (C := RX12) (T := TX12) (N := 33) hx hb hts (g_in wsX120 31 rfl) hown hK.1 hP 0 rfl rfl 2 (by decide) (hts _ (List.mem_of_getElem? (i := 6) rfl)) (fun _ h9 => h9) rfl dX12_ring_48 ?_
          refine lv_iload_n hx hb dX12_ring_51 rfl (lv_at hl 1 rfl) ?_
          refine g_iald hx hb hK hP 2 rfl (by omega) (by decide) dX12_ring_52 ?_
          refine g_top (y := (nI (kx (lg i)))) (hy4 i (by omega)) ?_
          refine g_iast hx hb hK hP hD hS 3 rfl (by omega) (by decide) dX12_ring_53 (fun H locs hP hD hS => ?_)
          have hP : va_P G.1 vwCl [(bd 0, .inr (12, [.ref (bd 1), .int (nI ln), .ref (bd 2), .int (nI (lead lg ln)), .int (nI (8 * rgD lg (lead lg ln + 1) + rgD lg (lead lg ln + 2))), .int (nI 3), .int (nI (lead lg ln)), .int (nI h), .int (nI mk), .int ps, .int rr, .ref (bd 3), .ref (bd 4), .int sH, .int sM, .int sP, .ref (bd 5), .ref (bd 6), .ref (bd 7), .int (nI z), .ref (bd 8), .ref (bd 9), .ref (bd 10), .ref (bd 11), .int sd, .int kR, .int kH, .int kM, .int kP, .int (nI kz), .ref (bd 12), .ref (bd 13), .long hs])), (bd 1, .inl (G.2.1, 10, .inl lg)), (bd 2, .inl (G.2.1, 4, .inl rd2_4)), (bd 3, .inl (G.2.1, 16, .inl (upd (rowsF kI2 me2 fl2 pd2) (4 * i) (nI (kx (lg i))))))] H := hP
          have hD : va_D A [(bd 0, .inr (12, [.ref (bd 1), .int (nI ln), .ref (bd 2), .int (nI (lead lg ln)), .int (nI (8 * rgD lg (lead lg ln + 1) + rgD lg (lead lg ln + 2))), .int (nI 3), .int (nI (lead lg ln)), .int (nI h), .int (nI mk), .int ps, .int rr, .ref (bd 3), .ref (bd 4), .int sH, .int sM, .int sP, .ref (bd 5), .ref (bd 6), .ref (bd 7), .int (nI z), .ref (bd 8), .ref (bd 9), .ref (bd 10), .ref (bd 11), .int sd, .int kR, .int kH, .int kM, .int kP, .int (nI kz), .ref (bd 12), .ref (bd 13), .long hs])), (bd 1, .inl (G.2.1, 10, .inl lg)), (bd 2, .inl (G.2.1, 4, .inl rd2_4)), (bd 3, .inl (G.2.1, 16, .inl (upd (rowsF kI2 me2 fl2 pd2) (4 * i) (nI (kx (lg i))))))] := hD
          have hP := g_arr hP 3 rfl (show ∀ k9, k9 < 16 → (upd (rowsF kI2 me2 fl2 pd2) (4 * i) (nI (kx (lg i)))) k9 = (rowsF (upd kI2 i (nI (kx (lg i)))) me2 fl2 pd2) k9 from fun k9 _ => rowsU_0 k9)
          have hD := hD.set (p := 3) (a := bd 3) (e := .inl (G.2.1, 16, .inl (rowsF (upd kI2 i (nI (kx (lg i)))) me2 fl2 pd2))) rfl
          have hP : va_P G.1 vwCl [(bd 0, .inr (12, [.ref (bd 1), .int (nI ln), .ref (bd 2), .int (nI (lead lg ln)), .int (nI (8 * rgD lg (lead lg ln + 1) + rgD lg (lead lg ln + 2))), .int (nI 3), .int (nI (lead lg ln)), .int (nI h), .int (nI mk), .int ps, .int rr, .ref (bd 3), .ref (bd 4), .int sH, .int sM, .int sP, .ref (bd 5), .ref (bd 6), .ref (bd 7), .int (nI z), .ref (bd 8), .ref (bd 9), .ref (bd 10), .ref (bd 11), .int sd, .int kR, .int kH, .int kM, .int kP, .int (nI kz), .ref (bd 12), .ref (bd 13), .long hs])), (bd 1, .inl (G.2.1, 10, .inl lg)), (bd 2, .inl (G.2.1, 4, .inl rd2_4)), (bd 3, .inl (G.2.1, 16, .inl (rowsF (upd kI2 i (nI (kx (lg i)))) me2 fl2 pd2)))] H := hP
          have hD : va_D A [(bd 0, .inr (12, [.ref (bd 1), .int (nI ln), .ref (bd 2), .int (nI (lead lg ln)), .int (nI (8 * rgD lg (lead lg ln + 1) + rgD lg (lead lg ln + 2))), .int (nI 3), .int (nI (lead lg ln)), .int (nI h), .int (nI mk), .int ps, .int rr, .ref (bd 3), .ref (bd 4), .int sH, .int sM, .int sP, .ref (bd 5), .ref (bd 6), .ref (bd 7), .int (nI z), .ref (bd 8), .ref (bd 9), .ref (bd 10), .ref (bd 11), .int sd, .int kR, .int kH, .int kM, .int kP, .int (nI kz), .ref (bd 12), .ref (bd 13), .long hs])), (bd 1, .inl (G.2.1, 10, .inl lg)), (bd 2, .inl (G.2.1, 4, .inl rd2_4)), (bd 3, .inl (G.2.1, 16, .inl (rowsF (upd kI2 i (nI (kx (lg i)))) me2 fl2 pd2)))] := hD
          refine lv_aload_n hx hb dX12_ring_54 rfl (lv_at hl 0 rfl) ?_
          refine va_get (D := G.1) (ci := 12) (v := .ref (bd 3)) (C := RX12) (T := TX12) (N := 33) hx hb hts (g_in wsX120 31 rfl) hown hK.1 hP 0 rfl rfl 11 (by decide) (hts _ (List.mem_of_getElem? (i := 5) rfl)) (fun _ h9 => h9) rfl dX12_ring_55 ?_
          refine lv_iconst (v := (nI 4)) hx hb dX12_ring_58 (by decide) ?_
          refine lv_iload_n hx hb dX12_ring_59 rfl (lv_at hl 1 rfl) ?_
          refine lv_imul hx hb dX12_ring_60 ?_
          refine g_top (y := (nI (4 * i))) (pk_mul _ _) ?_
          refine lv_iconst (v := (nI 1)) hx hb dX12_ring_61 (by decide) ?_
          refine lv_iadd hx hb dX12_ring_62 ?_
          refine g_top (y := (nI ((4 * i) + 1))) (nI_add _ _) ?_
          refine lv_iconst (v := (-1)) hx hb dX12_ring_63 (by decide) ?_
          refine g_iast hx hb hK hP hD hS 3 rfl (by omega) (by decide) dX12_ring_64 (fun H locs hP hD hS => ?_)
          have hP : va_P G.1 vwCl [(bd 0, .inr (12, [.ref (bd 1), .int (nI ln), .ref (bd 2), .int (nI (lead lg ln)), .int (nI (8 * rgD lg (lead lg ln + 1) + rgD lg (lead lg ln + 2))), .int (nI 3), .int (nI (lead lg ln)), .int (nI h), .int (nI mk), .int ps, .int rr, .ref (bd 3), .ref (bd 4), .int sH, .int sM, .int sP, .ref (bd 5), .ref (bd 6), .ref (bd 7), .int (nI z), .ref (bd 8), .ref (bd 9), .ref (bd 10), .ref (bd 11), .int sd, .int kR, .int kH, .int kM, .int kP, .int (nI kz), .ref (bd 12), .ref (bd 13), .long hs])), (bd 1, .inl (G.2.1, 10, .inl lg)), (bd 2, .inl (G.2.1, 4, .inl rd2_4)), (bd 3, .inl (G.2.1, 16, .inl (upd (rowsF (upd kI2 i (nI (kx (lg i)))) me2 fl2 pd2) ((4 * i) + 1) (-1))))] H := hP
          have hD : va_D A [(bd 0, .inr (12, [.ref (bd 1), .int (nI ln), .ref (bd 2), .int (nI (lead lg ln)), .int (nI (8 * rgD lg (lead lg ln + 1) + rgD lg (lead lg ln + 2))), .int (nI 3), .int (nI (lead lg ln)), .int (nI h), .int (nI mk), .int ps, .int rr, .ref (bd 3), .ref (bd 4), .int sH, .int sM, .int sP, .ref (bd 5), .ref (bd 6), .ref (bd 7), .int (nI z), .ref (bd 8), .ref (bd 9), .ref (bd 10), .ref (bd 11), .int sd, .int kR, .int kH, .int kM, .int kP, .int (nI kz), .ref (bd 12), .ref (bd 13), .long hs])), (bd 1, .inl (G.2.1, 10, .inl lg)), (bd 2, .inl (G.2.1, 4, .inl rd2_4)), (bd 3, .inl (G.2.1, 16, .inl (upd (rowsF (upd kI2 i (nI (kx (lg i)))) me2 fl2 pd2) ((4 * i) + 1) (-1))))] := hD
          have hP := g_arr hP 3 rfl (show ∀ k9, k9 < 16 → (upd (rowsF (upd kI2 i (nI (kx (lg i)))) me2 fl2 pd2) ((4 * i) + 1) (-1)) k9 = (rowsF (upd kI2 i (nI (kx (lg i)))) (upd me2 i (-1)) fl2 pd2) k9 from fun k9 _ => rowsU_1 k9)
          have hD := hD.set (p := 3) (a := bd 3) (e := .inl (G.2.1, 16, .inl (rowsF (upd kI2 i (nI (kx (lg i)))) (upd me2 i (-1)) fl2 pd2))) rfl
          have hP : va_P G.1 vwCl [(bd 0, .inr (12, [.ref (bd 1), .int (nI ln), .ref (bd 2), .int (nI (lead lg ln)), .int (nI (8 * rgD lg (lead lg ln + 1) + rgD lg (lead lg ln + 2))), .int (nI 3), .int (nI (lead lg ln)), .int (nI h), .int (nI mk), .int ps, .int rr, .ref (bd 3), .ref (bd 4), .int sH, .int sM, .int sP, .ref (bd 5), .ref (bd 6), .ref (bd 7), .int (nI z), .ref (bd 8), .ref (bd 9), .ref (bd 10), .ref (bd 11), .int sd, .int kR, .int kH, .int kM, .int kP, .int (nI kz), .ref (bd 12), .ref (bd 13), .long hs])), (bd 1, .inl (G.2.1, 10, .inl lg)), (bd 2, .inl (G.2.1, 4, .inl rd2_4)), (bd 3, .inl (G.2.1, 16, .inl (rowsF (upd kI2 i (nI (kx (lg i)))) (upd me2 i (-1)) fl2 pd2)))] H := hP
          have hD : va_D A [(bd 0, .inr (12, [.ref (bd 1), .int (nI ln), .ref (bd 2), .int (nI (lead lg ln)), .int (nI (8 * rgD lg (lead lg ln + 1) + rgD lg (lead lg ln + 2))), .int (nI 3), .int (nI (lead lg ln)), .int (nI h), .int (nI mk), .int ps, .int rr, .ref (bd 3), .ref (bd 4), .int sH, .int sM, .int sP, .ref (bd 5), .ref (bd 6), .ref (bd 7), .int (nI z), .ref (bd 8), .ref (bd 9), .ref (bd 10), .ref (bd 11), .int sd, .int kR, .int kH, .int kM, .int kP, .int (nI kz), .ref (bd 12), .ref (bd 13), .long hs])), (bd 1, .inl (G.2.1, 10, .inl lg)), (bd 2, .inl (G.2.1, 4, .inl rd2_4)), (bd 3, .inl (G.2.1, 16, .inl (rowsF (upd kI2 i (nI (kx (lg i)))) (upd me2 i (-1)) fl2 pd2)))] := hD
          refine lv_aload_n hx hb dX12_ring_65 rfl (lv_at hl 0 rfl) ?_
          refine va_get (D := G.1) (ci := 12) (v := .ref (bd 3)) (C := RX12) (T := TX12) (N := 33) hx hb hts (g_in wsX120 31 rfl) hown hK.1 hP 0 rfl rfl 11 (by decide) (hts _ (List.mem_of_getElem? (i := 5) rfl)) (fun _ h9 => h9) rfl dX12_ring_66 ?_
          refine lv_iconst (v := (nI 4)) hx hb dX12_ring_69 (by decide) ?_
          refine lv_iload_n hx hb dX12_ring_70 rfl (lv_at hl 1 rfl) ?_
          refine lv_imul hx hb dX12_ring_71 ?_
          refine g_top (y := (nI (4 * i))) (pk_mul _ _) ?_
          refine lv_iconst (v := (nI 2)) hx hb dX12_ring_72 (by decide) ?_
          refine lv_iadd hx hb dX12_ring_73 ?_
          refine g_top (y := (nI ((4 * i) + 2))) (nI_add _ _) ?_
          refine lv_iconst (v := (nI 0)) hx hb dX12_ring_74 (by decide) ?_
          refine g_iast hx hb hK hP hD hS 3 rfl (by omega) (by decide) dX12_ring_75 (fun H locs hP hD hS => ?_)
          have hP : va_P G.1 vwCl [(bd 0, .inr (12, [.ref (bd 1), .int (nI ln), .ref (bd 2), .int (nI (lead lg ln)), .int (nI (8 * rgD lg (lead lg ln + 1) + rgD lg (lead lg ln + 2))), .int (nI 3), .int (nI (lead lg ln)), .int (nI h), .int (nI mk), .int ps, .int rr, .ref (bd 3), .ref (bd 4), .int sH, .int sM, .int sP, .ref (bd 5), .ref (bd 6), .ref (bd 7), .int (nI z), .ref (bd 8), .ref (bd 9), .ref (bd 10), .ref (bd 11), .int sd, .int kR, .int kH, .int kM, .int kP, .int (nI kz), .ref (bd 12), .ref (bd 13), .long hs])), (bd 1, .inl (G.2.1, 10, .inl lg)), (bd 2, .inl (G.2.1, 4, .inl rd2_4)), (bd 3, .inl (G.2.1, 16, .inl (upd (rowsF (upd kI2 i (nI (kx (lg i)))) (upd me2 i (-1)) fl2 pd2) ((4 * i) + 2) (nI 0))))] H := hP
          have hD : va_D A [(bd 0, .inr (12, [.ref (bd 1), .int (nI ln), .ref (bd 2), .int (nI (lead lg ln)), .int (nI (8 * rgD lg (lead lg ln + 1) + rgD lg (lead lg ln + 2))), .int (nI 3), .int (nI (lead lg ln)), .int (nI h), .int (nI mk), .int ps, .int rr, .ref (bd 3), .ref (bd 4), .int sH, .int sM, .int sP, .ref (bd 5), .ref (bd 6), .ref (bd 7), .int (nI z), .ref (bd 8), .ref (bd 9), .ref (bd 10), .ref (bd 11), .int sd, .int kR, .int kH, .int kM, .int kP, .int (nI kz), .ref (bd 12), .ref (bd 13), .long hs])), (bd 1, .inl (G.2.1, 10, .inl lg)), (bd 2, .inl (G.2.1, 4, .inl rd2_4)), (bd 3, .inl (G.2.1, 16, .inl (upd (rowsF (upd kI2 i (nI (kx (lg i)))) (upd me2 i (-1)) fl2 pd2) ((4 * i) + 2) (nI 0))))] := hD
          have hP := g_arr hP 3 rfl (show ∀ k9, k9 < 16 → (upd (rowsF (upd kI2 i (nI (kx (lg i)))) (upd me2 i (-1)) fl2 pd2) ((4 * i) + 2) (nI 0)) k9 = (rowsF (upd kI2 i (nI (kx (lg i)))) (upd me2 i (-1)) (upd fl2 i (nI 0)) pd2) k9 from fun k9 _ => rowsU_2 k9)
          have hD := hD.set (p := 3) (a := bd 3) (e := .inl (G.2.1, 16, .inl (rowsF (upd kI2 i (nI (kx (lg i)))) (upd me2 i (-1)) (upd fl2 i (nI 0)) pd2))) rfl
          have hP : va_P G.1 vwCl [(bd 0, .inr (12, [.ref (bd 1), .int (nI ln), .ref (bd 2), .int (nI (lead lg ln)), .int (nI (8 * rgD lg (lead lg ln + 1) + rgD lg (lead lg ln + 2))), .int (nI 3), .int (nI (lead lg ln)), .int (nI h), .int (nI mk), .int ps, .int rr, .ref (bd 3), .ref (bd 4), .int sH, .int sM, .int sP, .ref (bd 5), .ref (bd 6), .ref (bd 7), .int (nI z), .ref (bd 8), .ref (bd 9), .ref (bd 10), .ref (bd 11), .int sd, .int kR, .int kH, .int kM, .int kP, .int (nI kz), .ref (bd 12), .ref (bd 13), .long hs])), (bd 1, .inl (G.2.1, 10, .inl lg)), (bd 2, .inl (G.2.1, 4, .inl rd2_4)), (bd 3, .inl (G.2.1, 16, .inl (rowsF (upd kI2 i (nI (kx (lg i)))) (upd me2 i (-1)) (upd fl2 i (nI 0)) pd2)))] H := hP
          have hD : va_D A [(bd 0, .inr (12, [.ref (bd 1), .int (nI ln), .ref (bd 2), .int (nI (lead lg ln)), .int (nI (8 * rgD lg (lead lg ln + 1) + rgD lg (lead lg ln + 2))), .int (nI 3), .int (nI (lead lg ln)), .int (nI h), .int (nI mk), .int ps, .int rr, .ref (bd 3), .ref (bd 4), .int sH, .int sM, .int sP, .ref (bd 5), .ref (bd 6), .ref (bd 7), .int (nI z), .ref (bd 8), .ref (bd 9), .ref (bd 10), .ref (bd 11), .int sd, .int kR, .int kH, .int kM, .int kP, .int (nI kz), .ref (bd 12), .ref (bd 13), .long hs])), (bd 1, .inl (G.2.1, 10, .inl lg)), (bd 2, .inl (G.2.1, 4, .inl rd2_4)), (bd 3, .inl (G.2.1, 16, .inl (rowsF (upd kI2 i (nI (kx (lg i)))) (upd me2 i (-1)) (upd fl2 i (nI 0)) pd2)))] := hD
          refine lv_aload_n hx hb dX12_ring_76 rfl (lv_at hl 0 rfl) ?_
          refine va_get (D := G.1) (ci := 12) (v := .ref (bd 3)) (C := RX12) (T := TX12) (N := 33) hx hb hts (g_in wsX120 31 rfl) hown hK.1 hP 0 rfl rfl 11 (by decide) (hts _ (List.mem_of_getElem? (i := 5) rfl)) (fun _ h9 => h9) rfl dX12_ring_77 ?_
          refine lv_iconst (v := (nI 4)) hx hb dX12_ring_80 (by decide) ?_
          refine lv_iload_n hx hb dX12_ring_81 rfl (lv_at hl 1 rfl) ?_
          refine lv_imul hx hb dX12_ring_82 ?_
          refine g_top (y := (nI (4 * i))) (pk_mul _ _) ?_
          refine lv_iconst (v := (nI 3)) hx hb dX12_ring_83 (by decide) ?_
          refine lv_iadd hx hb dX12_ring_84 ?_
          refine g_top (y := (nI ((4 * i) + 3))) (nI_add _ _) ?_
          refine lv_iconst (v := (nI 0)) hx hb dX12_ring_85 (by decide) ?_
          refine g_iast hx hb hK hP hD hS 3 rfl (by omega) (by decide) dX12_ring_86 (fun H locs hP hD hS => ?_)
          have hP : va_P G.1 vwCl [(bd 0, .inr (12, [.ref (bd 1), .int (nI ln), .ref (bd 2), .int (nI (lead lg ln)), .int (nI (8 * rgD lg (lead lg ln + 1) + rgD lg (lead lg ln + 2))), .int (nI 3), .int (nI (lead lg ln)), .int (nI h), .int (nI mk), .int ps, .int rr, .ref (bd 3), .ref (bd 4), .int sH, .int sM, .int sP, .ref (bd 5), .ref (bd 6), .ref (bd 7), .int (nI z), .ref (bd 8), .ref (bd 9), .ref (bd 10), .ref (bd 11), .int sd, .int kR, .int kH, .int kM, .int kP, .int (nI kz), .ref (bd 12), .ref (bd 13), .long hs])), (bd 1, .inl (G.2.1, 10, .inl lg)), (bd 2, .inl (G.2.1, 4, .inl rd2_4)), (bd 3, .inl (G.2.1, 16, .inl (upd (rowsF (upd kI2 i (nI (kx (lg i)))) (upd me2 i (-1)) (upd fl2 i (nI 0)) pd2) ((4 * i) + 3) (nI 0))))] H := hP
          have hD : va_D A [(bd 0, .inr (12, [.ref (bd 1), .int (nI ln), .ref (bd 2), .int (nI (lead lg ln)), .int (nI (8 * rgD lg (lead lg ln + 1) + rgD lg (lead lg ln + 2))), .int (nI 3), .int (nI (lead lg ln)), .int (nI h), .int (nI mk), .int ps, .int rr, .ref (bd 3), .ref (bd 4), .int sH, .int sM, .int sP, .ref (bd 5), .ref (bd 6), .ref (bd 7), .int (nI z), .ref (bd 8), .ref (bd 9), .ref (bd 10), .ref (bd 11), .int sd, .int kR, .int kH, .int kM, .int kP, .int (nI kz), .ref (bd 12), .ref (bd 13), .long hs])), (bd 1, .inl (G.2.1, 10, .inl lg)), (bd 2, .inl (G.2.1, 4, .inl rd2_4)), (bd 3, .inl (G.2.1, 16, .inl (upd (rowsF (upd kI2 i (nI (kx (lg i)))) (upd me2 i (-1)) (upd fl2 i (nI 0)) pd2) ((4 * i) + 3) (nI 0))))] := hD
          have hP := g_arr hP 3 rfl (show ∀ k9, k9 < 16 → (upd (rowsF (upd kI2 i (nI (kx (lg i)))) (upd me2 i (-1)) (upd fl2 i (nI 0)) pd2) ((4 * i) + 3) (nI 0)) k9 = (rowsF (upd kI2 i (nI (kx (lg i)))) (upd me2 i (-1)) (upd fl2 i (nI 0)) (upd pd2 i (nI 0))) k9 from fun k9 _ => rowsU_3 k9)
          have hD := hD.set (p := 3) (a := bd 3) (e := .inl (G.2.1, 16, .inl (rowsF (upd kI2 i (nI (kx (lg i)))) (upd me2 i (-1)) (upd fl2 i (nI 0)) (upd pd2 i (nI 0))))) rfl
          have hP : va_P G.1 vwCl [(bd 0, .inr (12, [.ref (bd 1), .int (nI ln), .ref (bd 2), .int (nI (lead lg ln)), .int (nI (8 * rgD lg (lead lg ln + 1) + rgD lg (lead lg ln + 2))), .int (nI 3), .int (nI (lead lg ln)), .int (nI h), .int (nI mk), .int ps, .int rr, .ref (bd 3), .ref (bd 4), .int sH, .int sM, .int sP, .ref (bd 5), .ref (bd 6), .ref (bd 7), .int (nI z), .ref (bd 8), .ref (bd 9), .ref (bd 10), .ref (bd 11), .int sd, .int kR, .int kH, .int kM, .int kP, .int (nI kz), .ref (bd 12), .ref (bd 13), .long hs])), (bd 1, .inl (G.2.1, 10, .inl lg)), (bd 2, .inl (G.2.1, 4, .inl rd2_4)), (bd 3, .inl (G.2.1, 16, .inl (rowsF (upd kI2 i (nI (kx (lg i)))) (upd me2 i (-1)) (upd fl2 i (nI 0)) (upd pd2 i (nI 0)))))] H := hP
          have hD : va_D A [(bd 0, .inr (12, [.ref (bd 1), .int (nI ln), .ref (bd 2), .int (nI (lead lg ln)), .int (nI (8 * rgD lg (lead lg ln + 1) + rgD lg (lead lg ln + 2))), .int (nI 3), .int (nI (lead lg ln)), .int (nI h), .int (nI mk), .int ps, .int rr, .ref (bd 3), .ref (bd 4), .int sH, .int sM, .int sP, .ref (bd 5), .ref (bd 6), .ref (bd 7), .int (nI z), .ref (bd 8), .ref (bd 9), .ref (bd 10), .ref (bd 11), .int sd, .int kR, .int kH, .int kM, .int kP, .int (nI kz), .ref (bd 12), .ref (bd 13), .long hs])), (bd 1, .inl (G.2.1, 10, .inl lg)), (bd 2, .inl (G.2.1, 4, .inl rd2_4)), (bd 3, .inl (G.2.1, 16, .inl (rowsF (upd kI2 i (nI (kx (lg i)))) (upd me2 i (-1)) (upd fl2 i (nI 0)) (upd pd2 i (nI 0)))))] := hD
          refine lv_iinc (v := (nI (i + 1))) (lv' := [(1, .int (nI (i + 1))), (0, .ref (bd 0))]) hx hb dX12_ring_87 hl (k := 1) rfl (nI_iinc (by decide)) (by decide) rfl (fun ls hl => ?_)
          refine lv_goto (tgt := 32) hx hb dX12_ring_90 (by decide) ?_
          exact L32_11 (i + 1) (upd kI2 i (nI (kx (lg i)))) (upd me2 i (-1)) (upd fl2 i (nI 0)) (upd pd2 i (nI 0)) _ _ _ (by omega) ⟨(by omega), fun k9 hk9 => by by_cases e9 : k9 = i; (subst e9; rw [upd_s]); (rw [upd_n e9]; exact hkI2 k9 (by omega)), up_all hme2 rfl, up_all hfl2 rfl, up_all hpd2 rfl, (hP.sub [0, 1, 2, 3] rfl), (hD.sub [0, 1, 2, 3] (by decide) rfl), hS, lv_sub hl [1, 0] rfl⟩
      · skip
        exact L32_11 0 kI me fl pd _ _ _ ⟨(by omega), fun k9 hk9 => absurd hk9 (Nat.not_lt_zero k9), fun k9 hk9 => absurd hk9 (Nat.not_lt_zero k9), fun k9 hk9 => absurd hk9 (Nat.not_lt_zero k9), fun k9 hk9 => absurd hk9 (Nat.not_lt_zero k9), (hP.sub [1, 2, 3, 0] rfl), (hD.sub [1, 2, 3, 0] (by decide) rfl), hS, lv_sub hl [1, 0] rfl⟩
    · skip
      have c_10 := gNot (cEqNN (a := 3) (b := 3) (by omega) (by omega)) c_10
      exact absurd c_10 (by decide)

set_option maxHeartbeats 500000 in
set_option maxRecDepth 100000 in
theorem m_as (l : Launch) (G : gG) (bd : Nat → Nat) (ln : Nat) (rM : Int32) (rK : Int32) (sT : Int32) (n : Nat) (h : Nat) (mk : Nat) (ps : Int32) (rr : Int32) (sH : Int32) (sM : Int32) (sP : Int32) (z : Nat) (sd : Int32) (kR : Int32) (kH : Int32) (kM : Int32) (kP : Int32) (kz : Nat) (hs : Int64) (kI : Nat → Int32) (me : Nat → Int32) (fl : Nat → Int32) (pd : Nat → Int32) (kd : Nat → Nat) (x : Int32) (w : Int32) (hn : n ≤ 4) (hkI : ∀ i, i < n → kI i = nI (kd i)) (hkd : ∀ i, i < n → kd i < 5) : Met l yX12_as wsX12_as ({ frames := 2, cells := 0, slots := 0, locals := 46 } : Room) (gR G [.ref (bd 0), .int x, .int w] [(bd 0, .inr (12, [.ref (bd 1), .int (nI ln), .ref (bd 2), .int rM, .int rK, .int sT, .int (nI n), .int (nI h), .int (nI mk), .int ps, .int rr, .ref (bd 3), .ref (bd 4), .int sH, .int sM, .int sP, .ref (bd 5), .ref (bd 6), .ref (bd 7), .int (nI z), .ref (bd 8), .ref (bd 9), .ref (bd 10), .ref (bd 11), .int sd, .int kR, .int kH, .int kM, .int kP, .int (nI kz), .ref (bd 12), .ref (bd 13), .long hs])), (bd 3, .inl (G.2.1, 16, .inl (rowsF kI me fl pd)))]) (vp_Si (fun r : Int32 => r = (asR n kd x w.toInt))) 0 0 (fun _ => False) := by
  refine Met.ofW (cc := cX12_as) (maxL := 5) (ret := (some .int)) (by decide) rfl ?_
  intro p e s m args below meth c s₁ B hml hv
  obtain ⟨rfl, hP, hK⟩ := hv
  have hx := B.exec
  have hb := B.bytes
  have hr := B.returns
  have hts := atoms_spec (ws := wsX12_as) B.pre
  have hown : s.vm.findClass RX12 = some m.cls := findClass_of_methodNamed B.named
  have hlocks := B.notSynchronized
  have hl := lv_entry ([.ref (bd 0), .int x, .int w]) (n := 5) (Nat.le_of_ble_eq_true rfl)
  rw [lg_entry_eq]
  generalize (lg_sl ([.ref (bd 0), .int x, .int w]) ++ List.replicate (5 - (lg_sl ([.ref (bd 0), .int x, .int w])).length) Slot.unset).toArray = ls at hl ⊢
  have hl : lv_has ls 5 [(0, .ref (bd 0)), (1, .int x), (2, .int w)] := hl
  refine lv_aload_n hx hb dX12_as_0 rfl (lv_at hl 0 rfl) ?_
  refine lv_iload_n hx hb dX12_as_1 rfl (lv_at hl 1 rfl) ?_
  refine g_callSi (va_runV (As := [.int x]) (rest := []) ⟨hx, hb, hml, hown, hts⟩ (m_isPerson l G bd ln rM rK sT n h mk ps rr sH sM sP z sd kR kH kM kP kz hs x (by omega)) (cwV 1 hts gX12_as_X12_isPerson rfl rfl rfl (by decide +kernel) ⟨Nat.le_of_ble_eq_true rfl, Nat.le_of_ble_eq_true rfl⟩) (gR.V hK (show va_P G.1 vwCl [(bd 0, .inr (12, [.ref (bd 1), .int (nI ln), .ref (bd 2), .int rM, .int rK, .int sT, .int (nI n), .int (nI h), .int (nI mk), .int ps, .int rr, .ref (bd 3), .ref (bd 4), .int sH, .int sM, .int sP, .ref (bd 5), .ref (bd 6), .ref (bd 7), .int (nI z), .ref (bd 8), .ref (bd 9), .ref (bd 10), .ref (bd 11), .int sd, .int kR, .int kH, .int kM, .int kP, .int (nI kz), .ref (bd 12), .ref (bd 13), .long hs]))] s.heap from (hP.sub [0] rfl)) hP (ci := 12) (q0 := 0) rfl rfl) rfl rfl hl.1 rfl (lv_room (Nat.le_of_ble_eq_true rfl)) dX12_as_2 ⟨Nat.le_of_ble_eq_true rfl, Nat.le_of_ble_eq_true rfl⟩) (fun r hr0 => ?_)
  subst hr0
  refine lv_if_ne (tgt := 11) hx hb dX12_as_5 (by decide) (fun c_1 => ?_) (fun c_1 => ?_)
  · skip
    have c_1 := bI_nz.mp c_1
    obtain ⟨j, hj, rfl⟩ := inR_ex c_1 (by omega)
    refine lv_iload_n hx hb dX12_as_11 rfl (lv_at hl 2 rfl) ?_
    refine lv_i2l (v := w.toInt64) hx hb dX12_as_12 rfl ?_
    refine lv_lconst (v := (0 : Int64)) hx hb dX12_as_13 rfl ?_
    refine lv_ldc2 (v := (4 : Int64)) hx hb hown (hts _ (List.mem_of_getElem? (i := 1) rfl)) dX12_as_14 ?_
    refine g_callSi (va_runS (As := [.long w.toInt64, .long (0 : Int64), .long (4 : Int64)]) (rest := []) ⟨hx, hb, hml, hown, hts⟩ (m_in l G w.toInt64 (0 : Int64) (4 : Int64) ) (va_cwS 3 hts gX12_as_X12_in rfl rfl rfl (by decide +kernel) ⟨Nat.le_of_ble_eq_true rfl, Nat.le_of_ble_eq_true rfl⟩) (gR.S hK (show va_P G.1 vwCl [] s.heap from g_nil)) rfl rfl hl.1 rfl (lv_room (Nat.le_of_ble_eq_true rfl)) dX12_as_17 ⟨Nat.le_of_ble_eq_true rfl, Nat.le_of_ble_eq_true rfl⟩) (fun r hr0 => ?_)
    subst hr0
    refine g_top (x := (bI ((0 : Int64).toInt ≤ w.toInt64.toInt ∧ w.toInt64.toInt ≤ (4 : Int64).toInt))) (y := (bI (0 ≤ w.toInt ∧ w.toInt ≤ 4))) (bI_iff (inE (by decide) (by decide))) ?_
    refine lv_if_ne (tgt := 26) hx hb dX12_as_20 (by decide) (fun c_2 => ?_) (fun c_2 => ?_)
    · skip
      have c_2 := bI_nz.mp c_2
      obtain ⟨ww, hww, rfl⟩ := nI_ex (x := w) (n := 5) (by omega) (by omega) (by omega)
      have hwT : (nI ww).toInt = (ww : Int) := nT (by omega)
      refine lv_aload_n hx hb dX12_as_26 rfl (lv_at hl 0 rfl) ?_
      refine va_get (D := G.1) (ci := 12) (v := .ref (bd 3)) (C := RX12) (T := TX12) (N := 33) hx hb hts (g_in wsX120 12 rfl) hown hK.1 hP 0 rfl rfl 11 (by decide) (hts _ (List.mem_of_getElem? (i := 2) rfl)) (fun _ h9 => h9) rfl dX12_as_27 ?_
      refine lv_iconst (v := (nI 4)) hx hb dX12_as_30 (by decide) ?_
      refine lv_iload_n hx hb dX12_as_31 rfl (lv_at hl 1 rfl) ?_
      refine lv_imul hx hb dX12_as_32 ?_
      refine g_top (y := (nI (4 * j))) (pk_mul _ _) ?_
      refine g_iald hx hb hK hP 1 rfl (by omega) (by decide) dX12_as_33 ?_
      refine g_top (y := (nI (kd j))) (rowsF_0.trans (hkI j hj)) ?_
      have hk5 := hkd j hj
      refine lv_istore_n (lv' := [(3, .int (nI (kd j))), (0, .ref (bd 0)), (1, .int (nI j)), (2, .int (nI ww))]) hx hb dX12_as_34 rfl hl (by decide) rfl (fun ls hl => ?_)
      refine lv_iload_n hx hb dX12_as_35 rfl (lv_at hl 3 rfl) ?_
      refine lv_if_eq (tgt := 54) hx hb dX12_as_36 (by decide) (fun c_3 => ?_) (fun c_3 => ?_)
      · skip
        have c_3 := (cEqNN (a := ww) (b := 0) (by omega) (by omega)).mp c_3
        refine lv_iconst (v := (nI 1)) hx hb dX12_as_54 (by decide) ?_
        refine lv_goto (tgt := 59) hx hb dX12_as_55 (by decide) ?_
        refine lv_istore (lv' := [(4, .int (nI 1)), (3, .int (nI (kd j))), (0, .ref (bd 0)), (1, .int (nI j)), (2, .int (nI ww))]) hx hb dX12_as_59 hl (by decide) rfl (fun ls hl => ?_)
        refine lv_iload hx hb dX12_as_61 (lv_at hl 0 rfl) ?_
        refine lv_if_eq (tgt := 70) hx hb dX12_as_63 (by decide) (fun c_4 => ?_) (fun c_4 => ?_)
        · skip
          have c_4 := (cEqNN (a := 1) (b := 0) (by omega) (by omega)).mp c_4
          exact absurd c_4 (by decide)
        · skip
          have c_4 := gNot (cEqNN (a := 1) (b := 0) (by omega) (by omega)) c_4
          refine lv_iload_n hx hb dX12_as_66 rfl (lv_at hl 3 rfl) ?_
          refine lv_goto (tgt := 71) hx hb dX12_as_67 (by decide) ?_
          have w9_r : (nI j) = (asR n kd (nI j) (nI ww).toInt) := (by unfold asR; rw [if_pos (inR_N hj (by omega)), if_pos (by omega), nI_clamp (by omega)]; first | exact (if_pos (by omega)).symm | exact (if_neg (by omega)).symm)
          exact W.iret hx hb hr (fun t9 ht9 _ => ⟨(nI j), rfl, w9_r, ht9⟩) (fun _ h => absurd h List.not_mem_nil) dX12_as_71
      · skip
        have c_3 := gNot (cEqNN (a := ww) (b := 0) (by omega) (by omega)) c_3
        refine lv_iload_n hx hb dX12_as_39 rfl (lv_at hl 3 rfl) ?_
        refine lv_iload_n hx hb dX12_as_40 rfl (lv_at hl 0 rfl) ?_
        refine lv_icmp_eq (tgt := 54) hx hb dX12_as_41 (by decide) (fun c_5 => ?_) (fun c_5 => ?_)
        · skip
          have c_5 := (cEqNN (a := ww) (b := kd j) (by omega) (by omega)).mp c_5
          refine lv_iconst (v := (nI 1)) hx hb dX12_as_54 (by decide) ?_
          refine lv_goto (tgt := 59) hx hb dX12_as_55 (by decide) ?_
          refine lv_istore (lv' := [(4, .int (nI 1)), (3, .int (nI (kd j))), (0, .ref (bd 0)), (1, .int (nI j)), (2, .int (nI ww))]) hx hb dX12_as_59 hl (by decide) rfl (fun ls hl => ?_)
          refine lv_iload hx hb dX12_as_61 (lv_at hl 0 rfl) ?_
          refine lv_if_eq (tgt := 70) hx hb dX12_as_63 (by decide) (fun c_6 => ?_) (fun c_6 => ?_)
          · skip
            have c_6 := (cEqNN (a := 1) (b := 0) (by omega) (by omega)).mp c_6
            exact absurd c_6 (by decide)
          · skip
            have c_6 := gNot (cEqNN (a := 1) (b := 0) (by omega) (by omega)) c_6
            refine lv_iload_n hx hb dX12_as_66 rfl (lv_at hl 3 rfl) ?_
            refine lv_goto (tgt := 71) hx hb dX12_as_67 (by decide) ?_
            have w9_r : (nI j) = (asR n kd (nI j) (nI ww).toInt) := (by unfold asR; rw [if_pos (inR_N hj (by omega)), if_pos (by omega), nI_clamp (by omega)]; first | exact (if_pos (by omega)).symm | exact (if_neg (by omega)).symm)
            exact W.iret hx hb hr (fun t9 ht9 _ => ⟨(nI j), rfl, w9_r, ht9⟩) (fun _ h => absurd h List.not_mem_nil) dX12_as_71
        · skip
          have c_5 := gNot (cEqNN (a := ww) (b := kd j) (by omega) (by omega)) c_5
          refine lv_iload_n hx hb dX12_as_44 rfl (lv_at hl 3 rfl) ?_
          refine lv_iconst (v := (nI 1)) hx hb dX12_as_45 (by decide) ?_
          refine lv_icmp_ne (tgt := 58) hx hb dX12_as_46 (by decide) (fun c_7 => ?_) (fun c_7 => ?_)
          · skip
            have c_7 := gNot (cEqNN (a := ww) (b := 1) (by omega) (by omega)) c_7
            refine lv_iconst (v := (nI 0)) hx hb dX12_as_58 (by decide) ?_
            refine lv_istore (lv' := [(4, .int (nI 0)), (3, .int (nI (kd j))), (0, .ref (bd 0)), (1, .int (nI j)), (2, .int (nI ww))]) hx hb dX12_as_59 hl (by decide) rfl (fun ls hl => ?_)
            refine lv_iload hx hb dX12_as_61 (lv_at hl 0 rfl) ?_
            refine lv_if_eq (tgt := 70) hx hb dX12_as_63 (by decide) (fun c_8 => ?_) (fun c_8 => ?_)
            · skip
              have c_8 := (cEqNN (a := 0) (b := 0) (by omega) (by omega)).mp c_8
              refine lv_iconst (v := (-1)) hx hb dX12_as_70 (by decide) ?_
              have w9_r : (-1) = (asR n kd (nI j) (nI ww).toInt) := (by unfold asR; rw [if_pos (inR_N hj (by omega)), if_pos (by omega), nI_clamp (by omega)]; first | exact (if_pos (by omega)).symm | exact (if_neg (by omega)).symm)
              exact W.iret hx hb hr (fun t9 ht9 _ => ⟨(-1), rfl, w9_r, ht9⟩) (fun _ h => absurd h List.not_mem_nil) dX12_as_71
            · skip
              have c_8 := gNot (cEqNN (a := 0) (b := 0) (by omega) (by omega)) c_8
              exact absurd c_8 (by decide)
          · skip
            have c_7 := (cEqNN (a := ww) (b := 1) (by omega) (by omega)).mp c_7
            refine lv_iload_n hx hb dX12_as_49 rfl (lv_at hl 0 rfl) ?_
            refine lv_iconst (v := (nI 4)) hx hb dX12_as_50 (by decide) ?_
            refine lv_icmp_ne (tgt := 58) hx hb dX12_as_51 (by decide) (fun c_9 => ?_) (fun c_9 => ?_)
            · skip
              have c_9 := gNot (cEqNN (a := kd j) (b := 4) (by omega) (by omega)) c_9
              refine lv_iconst (v := (nI 0)) hx hb dX12_as_58 (by decide) ?_
              refine lv_istore (lv' := [(4, .int (nI 0)), (3, .int (nI (kd j))), (0, .ref (bd 0)), (1, .int (nI j)), (2, .int (nI ww))]) hx hb dX12_as_59 hl (by decide) rfl (fun ls hl => ?_)
              refine lv_iload hx hb dX12_as_61 (lv_at hl 0 rfl) ?_
              refine lv_if_eq (tgt := 70) hx hb dX12_as_63 (by decide) (fun c_10 => ?_) (fun c_10 => ?_)
              · skip
                have c_10 := (cEqNN (a := 0) (b := 0) (by omega) (by omega)).mp c_10
                refine lv_iconst (v := (-1)) hx hb dX12_as_70 (by decide) ?_
                have w9_r : (-1) = (asR n kd (nI j) (nI ww).toInt) := (by unfold asR; rw [if_pos (inR_N hj (by omega)), if_pos (by omega), nI_clamp (by omega)]; first | exact (if_pos (by omega)).symm | exact (if_neg (by omega)).symm)
                exact W.iret hx hb hr (fun t9 ht9 _ => ⟨(-1), rfl, w9_r, ht9⟩) (fun _ h => absurd h List.not_mem_nil) dX12_as_71
              · skip
                have c_10 := gNot (cEqNN (a := 0) (b := 0) (by omega) (by omega)) c_10
                exact absurd c_10 (by decide)
            · skip
              have c_9 := (cEqNN (a := kd j) (b := 4) (by omega) (by omega)).mp c_9
              refine lv_iconst (v := (nI 1)) hx hb dX12_as_54 (by decide) ?_
              refine lv_goto (tgt := 59) hx hb dX12_as_55 (by decide) ?_
              refine lv_istore (lv' := [(4, .int (nI 1)), (3, .int (nI (kd j))), (0, .ref (bd 0)), (1, .int (nI j)), (2, .int (nI ww))]) hx hb dX12_as_59 hl (by decide) rfl (fun ls hl => ?_)
              refine lv_iload hx hb dX12_as_61 (lv_at hl 0 rfl) ?_
              refine lv_if_eq (tgt := 70) hx hb dX12_as_63 (by decide) (fun c_11 => ?_) (fun c_11 => ?_)
              · skip
                have c_11 := (cEqNN (a := 1) (b := 0) (by omega) (by omega)).mp c_11
                exact absurd c_11 (by decide)
              · skip
                have c_11 := gNot (cEqNN (a := 1) (b := 0) (by omega) (by omega)) c_11
                refine lv_iload_n hx hb dX12_as_66 rfl (lv_at hl 3 rfl) ?_
                refine lv_goto (tgt := 71) hx hb dX12_as_67 (by decide) ?_
                have w9_r : (nI j) = (asR n kd (nI j) (nI ww).toInt) := (by unfold asR; rw [if_pos (inR_N hj (by omega)), if_pos (by omega), nI_clamp (by omega)]; first | exact (if_pos (by omega)).symm | exact (if_neg (by omega)).symm)
                exact W.iret hx hb hr (fun t9 ht9 _ => ⟨(nI j), rfl, w9_r, ht9⟩) (fun _ h => absurd h List.not_mem_nil) dX12_as_71
    · skip
      have c_2 := bI_z.mp c_2
      refine lv_bipush (v := (-102)) hx hb dX12_as_23 (by decide) ?_
      have w9_r : (-102) = (asR n kd (nI j) w.toInt) := (by unfold asR; rw [if_pos (inR_N hj (by omega)), if_neg (by omega)])
      exact W.iret hx hb hr (fun t9 ht9 _ => ⟨(-102), rfl, w9_r, ht9⟩) (fun _ h => absurd h List.not_mem_nil) dX12_as_25
  · skip
    have c_1 := bI_z.mp c_1
    refine lv_bipush (v := (-101)) hx hb dX12_as_8 (by decide) ?_
    have w9_r : (-101) = (asR n kd x w.toInt) := (by unfold asR; rw [if_neg (by assumption)])
    exact W.iret hx hb hr (fun t9 ht9 _ => ⟨(-101), rfl, w9_r, ht9⟩) (fun _ h => absurd h List.not_mem_nil) dX12_as_10
