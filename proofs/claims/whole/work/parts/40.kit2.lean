/-! more of my own rows over the kit -/
theorem pE_0 {i : Nat} : pE 0 i = .inr (6, []) := rfl
theorem pE_1 {i : Nat} : pE 1 i = .inr (1, []) := rfl
theorem pE_2 {i : Nat} : pE 2 i = .inr (7, [.int (nI i)]) := rfl
theorem pE_3 {i : Nat} : pE 3 i = .inr (9, []) := rfl
theorem pE_4 {i : Nat} : pE 4 i = .inr (2, []) := rfl
theorem g_asg {C T : String} {s : State} (h : va_Nw (.castable C T) s) : ∀ comp c0 : ClassId, s.vm.findClass T = some comp → s.vm.findClass C = some c0 → s.vm.assignable c0 comp = true := by
  obtain ⟨c0, t0, f1, f2, f3⟩ := Cond.castable_spec (va_Nw.use (A := #[]) rfl h)
  intro comp c1 h1 h2
  rw [f1] at h2; rw [f2] at h1
  cases h1; cases h2; exact f3
theorem g_any {G : gG} {s : State} {ws : va_W} {H : Heap} {a q0 k i : Nat} (hk : k < 5) (hK : gK G s) (hP : va_P G.1 vwCl ws H) (he : ws[q0]? = some (a, pE k i)) : va_Any "RingOfThirds$Person" s H a := by
  rcases (show k = 0 ∨ k = 1 ∨ k = 2 ∨ k = 3 ∨ k = 4 by omega) with rfl | rfl | rfl | rfl | rfl
  · exact va_rAny hK.1 hP he (r := (RX6, TX6, 0)) rfl (fun comp c0 h1 h2 => by
      have h3 : comp = c0 := Option.some.inj (h1.symm.trans h2)
      subst h3
      exact va_assign (hK.1.1 6 (RX6, TX6, 0) rfl).2 |> fun z => by
        have h4 : comp = G.1.1 6 := Option.some.inj (h2.symm.trans (hK.1.1 6 (RX6, TX6, 0) rfl).2.1)
        rw [h4]; exact z)
  · exact va_rAny hK.1 hP he (r := (RX1, TX1, 0)) rfl (g_asg (hK.nw 67 rfl))
  · exact va_rAny hK.1 hP he (r := (RX7, TX7, 1)) rfl (g_asg (hK.nw 68 rfl))
  · exact va_rAny hK.1 hP he (r := (RX9, TX9, 0)) rfl (g_asg (hK.nw 69 rfl))
  · exact va_rAny hK.1 hP he (r := (RX2, TX2, 0)) rfl (g_asg (hK.nw 70 rfl))
section GK2
variable {p : Program} {l : Launch} {e : Env} {R : Room} {s : State} {m : MethodId} {args : Array Value} {below : List Frame} {meth : Method} {c : Code} {H : Heap} {locs : List Loc} {cells slots : Nat} {Q : State → Prop}
variable {cc : ByteArray} {pc : Nat} {ls : Array Slot} {rest st0 : List Value} {G : gG} {A A0 : Nat → Prop} {a : Nat} {ws : va_W} {H0 : Heap}
theorem g_newq (hx : p.tables.exec = Jvm.exec) (hb : c.code = cc) {own : String} {index : Nat} (hown : s.vm.findClass own = some m.cls) (hcl : (Cond.classLink own index RX6).before args s = true) (hK : gK G s) (hP : va_P G.1 vwCl ws H) (hD : va_D A ws) (hS : va_S A H0 H locs) (hA : ∀ q, H0.size ≤ q → A q) {n : Nat} (hn : n < 65536) (hcells : cells + 1 ≤ R.cells) (hslots : slots + n ≤ R.slots) (hdg : decode cc pc = .ok (.anewarray index, 3)) (kk : ∀ (q : Nat) (H1 : Heap), va_P G.1 vwCl (ws ++ [(q, .inl (G.2.2.2, n, .inr (.inr (.inr (.inr (fun _ => none))))))]) H1 → va_D A (ws ++ [(q, .inl (G.2.2.2, n, .inr (.inr (.inr (.inr (fun _ => none))))))]) → va_S A H0 H1 locs → W p l e R s m args below meth c H1 locs (cells + 1) (slots + n) Q (F0 m (pc + 3) ls (.ref q :: rest))) : W p l e R s m args below meth c H locs cells slots Q (F0 m pc ls (.int (nI n) :: rest)) := by
  refine va_newq (C := "RingOfThirds$Person") hx hb hown hcl hK.2.2.2 hK.1 hP hD hS hA (N' := n) (nI_pos (by omega)) (nI_clamp (by omega)) (by omega) hcells hslots hdg (fun q cA H1 hK1 hP1 hD1 hS1 => ?_)
  have e : cA = G.2.2.2 := by
    obtain ⟨kA, comp, a1, a2, a3, a4⟩ := (hK.1.2 2 _ rfl).2
    obtain ⟨kB, comp2, b1, b2, b3, b4⟩ := (hK1.2 3 _ rfl).2
    exact Option.some.inj (b4.symm.trans a4)
  subst e
  exact kk q H1 hP1 hD1 hS1
theorem g_aast (hx : p.tables.exec = Jvm.exec) (hb : c.code = cc) (hK : gK G s) (hP : va_P G.1 vwCl ws H) (hD : va_D A ws) (hS : va_S A H0 H locs) (q0 : Nat) {n t v : Nat} {f : Nat → Option Nat} (ha : ws[q0]? = some (a, .inl (G.2.2.2, n, .inr (.inr (.inr (.inr f)))))) (hv : va_Any "RingOfThirds$Person" s H v) (ht : t < n) (hn : n < 2 ^ 31) (hdg : decode cc pc = .ok (.aastore, 1)) (kk : ∀ (H1 : Heap) (locs1 : List Loc), va_P G.1 vwCl (ws.set q0 (a, .inl (G.2.2.2, n, .inr (.inr (.inr (.inr (va_up f t (some v)))))))) H1 → va_D A (ws.set q0 (a, .inl (G.2.2.2, n, .inr (.inr (.inr (.inr (va_up f t (some v)))))))) → va_S A H0 H1 locs1 → W p l e R s m args below meth c H1 locs1 cells slots Q (F0 m (pc + 1) ls rest)) : W p l e R s m args below meth c H locs cells slots Q (F0 m pc ls (.ref v :: .int (nI t) :: .ref a :: rest)) := va_astqM hx hb hK.1 hP hD hS q0 2 ha rfl hv (vp_in_nI ht hn) hdg (fun H1 locs1 h1 h2 h3 => by rw [nI_clamp (Nat.lt_trans ht hn)] at h1 h2; exact kk H1 locs1 h1 h2 h3)
theorem g_callrQ {w1 : Nat → va_W} {X T : va_W} {mc ms : Nat} {av : Array Value} (hP : va_P G.1 vwCl (X ++ T) H) (hD : va_D A0 (X ++ T)) (hS : va_S A0 H0 H locs) (hA : ∀ q, H0.size ≤ q → A0 q) (isR : List Nat) (hR : isR.map (fun i => X[i]?) = X.map some) (hn : va_nd isR = true)
    (hr : va_Run p l e R s m args below meth c H locs cells slots mc ms (F0 m pc ls st0) rest (va_Qr (fun _ : Unit => True) (fun _ a t => va_P G.1 vwCl (w1 a) t.heap ∧ va_D (va_A [] H.size) (w1 a)) (va_A [] H.size) av) (va_A [] H.size))
    (kk : ∀ (a : Nat) (H1 : Heap) (locs1 : List Loc), va_P G.1 vwCl ((X ++ w1 a) ++ T) H1 → va_D A0 ((X ++ w1 a) ++ T) → va_S A0 H0 H1 locs1 → W p l e R s m args below meth c H1 locs1 (cells + mc) (slots + ms) Q (F0 m (pc + 3) ls (.ref a :: rest))) : W p l e R s m args below meth c H locs cells slots Q (F0 m pc ls st0) := by
  have hF := g_freeQ (wc := []) hD hS hA [] rfl
  refine va_callr hr hS (fun q _ h => hF q h) hF (fun u ra t H1 locs1 ht hvm hp hB hz hk hS1 => ?_)
  obtain ⟨hP1, hD1⟩ := hB
  rw [ht] at hP1
  obtain ⟨hP2, hD2⟩ := va_joinQ hP hD [] isR rfl hR hn (fun _ _ h => absurd h List.not_mem_nil) hk hF hP1 hD1
  exact kk ra H1 locs1 hP2 hD2 hS1
theorem g_calll {S : Type} {post : Int64 → S → Prop} {w1 : S → va_W} {wc wr : va_W} {mc ms : Nat} {av : Array Value} (hP : va_P G.1 vwCl ws H) (hD : va_D A0 ws) (hS : va_S A0 H0 H locs) (hA : ∀ q, H0.size ≤ q → A0 q) (isC isR : List Nat) (hC : isC.map (fun i => ws[i]?) = wc.map some) (hR : isR.map (fun i => ws[i]?) = wr.map some) (hn : va_nd isR = true) (hdis : ∀ i ∈ isR, i ∉ isC)
    (hr : va_Run p l e R s m args below meth c H locs cells slots mc ms (F0 m pc ls st0) rest (va_Ql post (fun u t => va_P G.1 vwCl (w1 u) t.heap ∧ va_D (va_A wc H.size) (w1 u)) (va_A wc H.size) av) (va_A wc H.size))
    (kk : ∀ (r : Int64) (u : S) (H1 : Heap) (locs1 : List Loc), post r u → va_P G.1 vwCl (wr ++ w1 u) H1 → va_D A0 (wr ++ w1 u) → va_S A0 H0 H1 locs1 → W p l e R s m args below meth c H1 locs1 (cells + mc) (slots + ms) Q (F0 m (pc + 3) ls (.long r :: rest))) : W p l e R s m args below meth c H locs cells slots Q (F0 m pc ls st0) := by
  have hF := va_free (wc := wc) hD hS hA isC hC
  refine va_calll hr hS (fun q _ h => hF q h) hF (fun r u t H1 locs1 ht hvm hp hB hz hk hS1 => ?_)
  obtain ⟨hP1, hD1⟩ := hB
  rw [ht] at hP1
  obtain ⟨hP2, hD2⟩ := va_join hP hD isC isR hC hR hn hdis hk hF hP1 hD1
  exact kk r u H1 locs1 hp hP2 hD2 hS1
theorem g_calllQ {S : Type} {post : Int64 → S → Prop} {w1 : S → va_W} {X T : va_W} {wc wr : va_W} {mc ms : Nat} {av : Array Value} (hP : va_P G.1 vwCl (X ++ T) H) (hD : va_D A0 (X ++ T)) (hS : va_S A0 H0 H locs) (hA : ∀ q, H0.size ≤ q → A0 q) (isC isR : List Nat) (hC : isC.map (fun i => X[i]?) = wc.map some) (hR : isR.map (fun i => X[i]?) = wr.map some) (hn : va_nd isR = true) (hdis : ∀ i ∈ isR, i ∉ isC)
    (hr : va_Run p l e R s m args below meth c H locs cells slots mc ms (F0 m pc ls st0) rest (va_Ql post (fun u t => va_P G.1 vwCl (w1 u) t.heap ∧ va_D (va_A wc H.size) (w1 u)) (va_A wc H.size) av) (va_A wc H.size))
    (kk : ∀ (r : Int64) (u : S) (H1 : Heap) (locs1 : List Loc), post r u → va_P G.1 vwCl ((wr ++ w1 u) ++ T) H1 → va_D A0 ((wr ++ w1 u) ++ T) → va_S A0 H0 H1 locs1 → W p l e R s m args below meth c H1 locs1 (cells + mc) (slots + ms) Q (F0 m (pc + 3) ls (.long r :: rest))) : W p l e R s m args below meth c H locs cells slots Q (F0 m pc ls st0) := by
  have hF := g_freeQ (wc := wc) hD hS hA isC hC
  refine va_calll hr hS (fun q _ h => hF q h) hF (fun r u t H1 locs1 ht hvm hp hB hz hk hS1 => ?_)
  obtain ⟨hP1, hD1⟩ := hB
  rw [ht] at hP1
  obtain ⟨hP2, hD2⟩ := va_joinQ hP hD isC isR hC hR hn hdis hk hF hP1 hD1
  exact kk r u H1 locs1 hp hP2 hD2 hS1
theorem g_calllP {S : Type} {post : Int64 → S → Prop} {w1 : S → va_W} {T1 : S → va_W} {X T : va_W} {wc wr : va_W} {mc ms : Nat} {av : Array Value} (hP : va_P G.1 vwCl (X ++ T) H) (hD : va_D A0 (X ++ T)) (hS : va_S A0 H0 H locs) (hA : ∀ q, H0.size ≤ q → A0 q) (isC isR : List Nat) (hC : isC.map (fun i => X[i]?) = wc.map some) (hR : isR.map (fun i => X[i]?) = wr.map some) (hn : va_nd isR = true) (hdis : ∀ i ∈ isR, i ∉ isC)
    (hr : va_Run p l e R s m args below meth c H locs cells slots mc ms (F0 m pc ls st0) rest (va_Ql post (fun u t => va_P G.1 vwCl (w1 u ++ T1 u) t.heap ∧ va_D (va_A (wc ++ T) H.size) (w1 u ++ T1 u)) (va_A (wc ++ T) H.size) av) (va_A (wc ++ T) H.size))
    (kk : ∀ (r : Int64) (u : S) (H1 : Heap) (locs1 : List Loc), post r u → va_P G.1 vwCl ((wr ++ w1 u) ++ T1 u) H1 → va_D A0 ((wr ++ w1 u) ++ T1 u) → va_S A0 H0 H1 locs1 → W p l e R s m args below meth c H1 locs1 (cells + mc) (slots + ms) Q (F0 m (pc + 3) ls (.long r :: rest))) : W p l e R s m args below meth c H locs cells slots Q (F0 m pc ls st0) := by
  have hF := va_freeP (cx := wc) hD hS hA isC hC
  refine va_calll hr hS (fun q _ h => hF q h) hF (fun r u t H1 locs1 ht hvm hp hB hz hk hS1 => ?_)
  obtain ⟨hP1, hD1⟩ := hB
  rw [ht] at hP1
  obtain ⟨hP2, hD2⟩ := va_joinP hP hD isC isR hC hR hn hdis hk hF hP1 hD1
  exact kk r u H1 locs1 hp hP2 hD2 hS1
theorem g_cutC1 {α : Type} (q : Nat) (st : α → List Value) (cf sf : α → Nat) (I : α → Heap → List Loc → Array Slot → Prop) (body : (∀ (x0 : α) (H : Heap) (locs : List Loc) (ls : Array Slot), I x0 H locs ls → W p l e R s m args below meth c H locs (cf x0) (sf x0) Q (F0 m q ls (st x0)))) (k : (∀ (x0 : α) (H : Heap) (locs : List Loc) (ls : Array Slot), I x0 H locs ls → W p l e R s m args below meth c H locs (cf x0) (sf x0) Q (F0 m q ls (st x0))) → W p l e R s m args below meth c H locs cells slots Q (F0 m pc ls st0)) : W p l e R s m args below meth c H locs cells slots Q (F0 m pc ls st0) := k body
theorem g_cutC2 {α : Type} {β : Type} (q : Nat) (st : α → β → List Value) (cf sf : α → β → Nat) (I : α → β → Heap → List Loc → Array Slot → Prop) (body : (∀ (x0 : α) (x1 : β) (H : Heap) (locs : List Loc) (ls : Array Slot), I x0 x1 H locs ls → W p l e R s m args below meth c H locs (cf x0 x1) (sf x0 x1) Q (F0 m q ls (st x0 x1)))) (k : (∀ (x0 : α) (x1 : β) (H : Heap) (locs : List Loc) (ls : Array Slot), I x0 x1 H locs ls → W p l e R s m args below meth c H locs (cf x0 x1) (sf x0 x1) Q (F0 m q ls (st x0 x1))) → W p l e R s m args below meth c H locs cells slots Q (F0 m pc ls st0)) : W p l e R s m args below meth c H locs cells slots Q (F0 m pc ls st0) := k body
theorem g_cutC3 {α : Type} {β : Type} {γ : Type} (q : Nat) (st : α → β → γ → List Value) (cf sf : α → β → γ → Nat) (I : α → β → γ → Heap → List Loc → Array Slot → Prop) (body : (∀ (x0 : α) (x1 : β) (x2 : γ) (H : Heap) (locs : List Loc) (ls : Array Slot), I x0 x1 x2 H locs ls → W p l e R s m args below meth c H locs (cf x0 x1 x2) (sf x0 x1 x2) Q (F0 m q ls (st x0 x1 x2)))) (k : (∀ (x0 : α) (x1 : β) (x2 : γ) (H : Heap) (locs : List Loc) (ls : Array Slot), I x0 x1 x2 H locs ls → W p l e R s m args below meth c H locs (cf x0 x1 x2) (sf x0 x1 x2) Q (F0 m q ls (st x0 x1 x2))) → W p l e R s m args below meth c H locs cells slots Q (F0 m pc ls st0)) : W p l e R s m args below meth c H locs cells slots Q (F0 m pc ls st0) := k body
theorem g_cutC4 {α : Type} {β : Type} {γ : Type} {δ : Type} (q : Nat) (st : α → β → γ → δ → List Value) (cf sf : α → β → γ → δ → Nat) (I : α → β → γ → δ → Heap → List Loc → Array Slot → Prop) (body : (∀ (x0 : α) (x1 : β) (x2 : γ) (x3 : δ) (H : Heap) (locs : List Loc) (ls : Array Slot), I x0 x1 x2 x3 H locs ls → W p l e R s m args below meth c H locs (cf x0 x1 x2 x3) (sf x0 x1 x2 x3) Q (F0 m q ls (st x0 x1 x2 x3)))) (k : (∀ (x0 : α) (x1 : β) (x2 : γ) (x3 : δ) (H : Heap) (locs : List Loc) (ls : Array Slot), I x0 x1 x2 x3 H locs ls → W p l e R s m args below meth c H locs (cf x0 x1 x2 x3) (sf x0 x1 x2 x3) Q (F0 m q ls (st x0 x1 x2 x3))) → W p l e R s m args below meth c H locs cells slots Q (F0 m pc ls st0)) : W p l e R s m args below meth c H locs cells slots Q (F0 m pc ls st0) := k body
theorem g_cutC5 {α : Type} {β : Type} {γ : Type} {δ : Type} {ε : Type} (q : Nat) (st : α → β → γ → δ → ε → List Value) (cf sf : α → β → γ → δ → ε → Nat) (I : α → β → γ → δ → ε → Heap → List Loc → Array Slot → Prop) (body : (∀ (x0 : α) (x1 : β) (x2 : γ) (x3 : δ) (x4 : ε) (H : Heap) (locs : List Loc) (ls : Array Slot), I x0 x1 x2 x3 x4 H locs ls → W p l e R s m args below meth c H locs (cf x0 x1 x2 x3 x4) (sf x0 x1 x2 x3 x4) Q (F0 m q ls (st x0 x1 x2 x3 x4)))) (k : (∀ (x0 : α) (x1 : β) (x2 : γ) (x3 : δ) (x4 : ε) (H : Heap) (locs : List Loc) (ls : Array Slot), I x0 x1 x2 x3 x4 H locs ls → W p l e R s m args below meth c H locs (cf x0 x1 x2 x3 x4) (sf x0 x1 x2 x3 x4) Q (F0 m q ls (st x0 x1 x2 x3 x4))) → W p l e R s m args below meth c H locs cells slots Q (F0 m pc ls st0)) : W p l e R s m args below meth c H locs cells slots Q (F0 m pc ls st0) := k body
theorem g_cutC6 {α : Type} {β : Type} {γ : Type} {δ : Type} {ε : Type} {ζ : Type} (q : Nat) (st : α → β → γ → δ → ε → ζ → List Value) (cf sf : α → β → γ → δ → ε → ζ → Nat) (I : α → β → γ → δ → ε → ζ → Heap → List Loc → Array Slot → Prop) (body : (∀ (x0 : α) (x1 : β) (x2 : γ) (x3 : δ) (x4 : ε) (x5 : ζ) (H : Heap) (locs : List Loc) (ls : Array Slot), I x0 x1 x2 x3 x4 x5 H locs ls → W p l e R s m args below meth c H locs (cf x0 x1 x2 x3 x4 x5) (sf x0 x1 x2 x3 x4 x5) Q (F0 m q ls (st x0 x1 x2 x3 x4 x5)))) (k : (∀ (x0 : α) (x1 : β) (x2 : γ) (x3 : δ) (x4 : ε) (x5 : ζ) (H : Heap) (locs : List Loc) (ls : Array Slot), I x0 x1 x2 x3 x4 x5 H locs ls → W p l e R s m args below meth c H locs (cf x0 x1 x2 x3 x4 x5) (sf x0 x1 x2 x3 x4 x5) Q (F0 m q ls (st x0 x1 x2 x3 x4 x5))) → W p l e R s m args below meth c H locs cells slots Q (F0 m pc ls st0)) : W p l e R s m args below meth c H locs cells slots Q (F0 m pc ls st0) := k body
end GK2
