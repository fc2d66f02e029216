/-! pure rows: one invocation on both sides -/
def AtA (dd ff : Nat) (x : Int32) (w : Nat) (u : SC) (t : M2) : Prop := t 25 0 = 0 ∧ t 36 0 = 1 ∧ t 37 0 = nI (cnt (fun j => kAdvises u (u.2 j) (u.1 9 dd)) ff) ∧ t 38 0 = x ∧ t 26 0 = nI (dd + 1) ∧ t 27 (dd + 1) = u.1 9 dd ∧ t 28 (dd + 1) = u.1 10 dd ∧ t 29 0 = nI w
def Kp (dd w : Nat) (t t' : M2) : Prop := (∀ i, i < w → t' 30 i = t 30 i ∧ t' 31 i = t 31 i ∧ t' 32 i = t 32 i ∧ t' 33 i = t 33 i ∧ t' 34 i = t 34 i ∧ t' 35 i = t 35 i) ∧ ∀ i, i ≤ dd + 1 → t' 27 i = t 27 i ∧ t' 28 i = t 28 i
def KpC (dd : Nat) (u u' : SC) : Prop := ∀ i, i ≤ dd → u'.1 9 i = u.1 9 i ∧ u'.1 10 i = u.1 10 i
theorem Kp.rf (dd w : Nat) (t : M2) : Kp dd w t t := ⟨fun _ _ => ⟨rfl, rfl, rfl, rfl, rfl, rfl⟩, fun _ _ => ⟨rfl, rfl⟩⟩
theorem Kp.tr {dd w : Nat} {t t' t'' : M2} (h : Kp dd w t t') (h2 : Kp dd w t' t'') : Kp dd w t t'' := by
  refine ⟨fun i hi => ?_, fun i hi => ?_⟩
  · obtain ⟨a1, a2, a3, a4, a5, a6⟩ := h.1 i hi
    obtain ⟨b1, b2, b3, b4, b5, b6⟩ := h2.1 i hi
    exact ⟨b1.trans a1, b2.trans a2, b3.trans a3, b4.trans a4, b5.trans a5, b6.trans a6⟩
  · exact ⟨(h2.2 i hi).1.trans (h.2 i hi).1, (h2.2 i hi).2.trans (h.2 i hi).2⟩
theorem Kp.less {dd w w' : Nat} {t t' : M2} (h : Kp dd w t t') (hw : w' ≤ w) : Kp dd w' t t' := ⟨fun i hi => h.1 i (by omega), h.2⟩
/-- what was written isn't in the kept part -/
theorem Kp.of {dd w : Nat} {t t' : M2} (h : ∀ k, k = 27 ∨ k = 28 ∨ (30 ≤ k ∧ k ≤ 35) → t' k = t k) : Kp dd w t t' := by
  refine ⟨fun i _ => ?_, fun i _ => ?_⟩
  · rw [h 30 (by omega), h 31 (by omega), h 32 (by omega), h 33 (by omega), h 34 (by omega), h 35 (by omega)]
    exact ⟨rfl, rfl, rfl, rfl, rfl, rfl⟩
  · rw [h 27 (by omega), h 28 (by omega)]
    exact ⟨rfl, rfl⟩
theorem KpC.rf (dd : Nat) (u : SC) : KpC dd u u := fun _ _ => ⟨rfl, rfl⟩
theorem KpC.tr {dd : Nat} {u v w : SC} (h : KpC dd u v) (h2 : KpC dd v w) : KpC dd u w := fun i hi => ⟨(h2 i hi).1.trans (h i hi).1, (h2 i hi).2.trans (h i hi).2⟩
/-- how a part of an invocation ends on both sides -/
def End (dd w : Nat) (o : Int32) (u' : SC) (t' : M2) : Prop := t' 25 0 = 0 ∧ t' 36 0 = 0 ∧ t' 39 0 = o ∧ t' 40 0 = u'.1 5 0 ∧ t' 26 0 = nI (dd + 1) ∧ t' 29 0 = nI w ∧ (o = 0 ∨ (o = 1 ∧ ∃ e, 1 ≤ e ∧ e ≤ 15 ∧ u'.1 5 0 = nI e))
def Res (T : M2) (dd w : Nat) (u : SC) (t : M2) (o : Int32) (u' : SC) (t' : M2) : Prop :=
  Rch T t' ∧ Stat u u' ∧ StatM t t' ∧ RD u' t' ∧ IC u' ∧ ((o = 2 ∧ t' 25 0 = 1 ∧ u'.1 5 0 = 0) ∨ (End dd w o u' t' ∧ Kp dd w t t' ∧ KpC dd u u'))
theorem Res.pre {T T' : M2} {dd w : Nat} {u v u' : SC} {t s t' : M2} {o : Int32} (h1 : Rch T T') (h2 : Stat u v) (h3 : StatM t s) (h4 : Kp dd w t s) (h5 : KpC dd u v) (h : Res T' dd w v s o u' t') : Res T dd w u t o u' t' := by
  obtain ⟨a1, a2, a3, a4, a5, a6⟩ := h
  refine ⟨h1.tr a1, h2.tr a2, h3.tr a3, a4, a5, a6.imp id ?_⟩
  intro ⟨b1, b2, b3⟩
  exact ⟨b1, h4.tr b2, h5.tr b3⟩
def SimOK (n : Nat) (r k : Nat → Nat) (N : Nat) (go : Go) : Prop := ∀ (dd ff : Nat) (x : Int32) (w : Nat) (u : SC) (t : M2), dd < 3 → ff ≤ n → (2 - dd) * 7 + (6 - ff) < N → SR n r k u t → IC u → RD u t → AtA dd ff x w u t → w ≤ 8 * dd + 1 + ff →
  ∃ t', Res t dd w u t (go (nI dd) (nI ff) x u).1 (go (nI dd) (nI ff) x u).2 t'
theorem qAwait_at {t : M2} {w : Nat} (h : t 29 0 = nI w) (hw : w < 900) (a b : Int32) : qAwait t a b = up2 (up2 (up2 (up2 (up2 (up2 t 30 w a) 31 w (t 37 0)) 32 w b) 33 w (t 38 0)) 35 w 0) 29 0 (nI (w + 1)) := by
  unfold qAwait
  rw [h, ixn (by omega : w < 1000), nI_1]
theorem qBack_at {t : M2} {w : Nat} (h : t 29 0 = nI (w + 1)) (hw : w < 900) : qBack t = qBackR (up2 t 29 0 (nI w)) (t 30 w) (t 32 w) := by
  unfold qBack
  rw [h, nI_pred, ixn (by omega : w < 1000)]
theorem qRun_step {t : M2} (h : t 36 0 = 1) : qRun t = qStep t := by
  unfold qRun
  rw [if_neg (by rw [h]; decide)]
theorem qRun_back {t : M2} (h : t 36 0 = 0) : qRun t = qBack t := by
  unfold qRun
  rw [if_pos h]
/-- a turn of the loop that goes along -/
theorem ok_step {n dd w : Nat} {r k : Nat → Nat} {u : SC} {t : M2} (hd : dd < 3) (hS : SR n r k u t) (hI : IC u) (hD : RD u t) (h25 : t 25 0 = 0) (h36 : t 36 0 = 1) (h26 : t 26 0 = nI (dd + 1)) (h27 : t 27 (dd + 1) = u.1 9 dd) (h28 : t 28 (dd + 1) = u.1 10 dd) (h29 : t 29 0 = nI w) (hw : w ≤ 28) : okRun t := by
  have hne : ¬ t 36 0 = 0 := by rw [h36]; decide
  refine ⟨?_, ⟨n, hS.1.1, hS.1.2.2.1⟩, ?_, fun h => absurd h hne, fun _ => ⟨dd + 1, w, by omega, by omega, h26, hw, h29, by rw [h27]; exact hI.2.2.2.1 dd hd, by rw [h28]; exact hI.2.2.2.2.1 dd hd⟩⟩
  · unfold qMore
    rw [if_pos h25, if_neg hne]
  · obtain ⟨⟨L, h1, -, h3, -⟩, -⟩ := hD
    exact ⟨L, h1, h3⟩
/-- a turn of the loop that goes back -/
theorem ok_back {n w : Nat} {r k : Nat → Nat} {u : SC} {t : M2} (hS : SR n r k u t) (hD : RD u t) (h25 : t 25 0 = 0) (h36 : t 36 0 = 0) (h29 : t 29 0 = nI (w + 1)) (hw : w < 30) (h30 : t 30 w = 9 ∨ (t 30 w = 8 ∧ ∃ j, j < 12 ∧ t 32 w = nI j) ∨ (¬ t 30 w = 9 ∧ ¬ t 30 w = 8 ∧ ∃ j, j < 6 ∧ t 32 w = nI j ∧ (¬ t 30 w = 6 → 5 ≤ t 30 w → 0 ≤ t 7 j))) : okRun t := by
  refine ⟨?_, ⟨n, hS.1.1, hS.1.2.2.1⟩, ?_, fun _ => ⟨w, hw, h29, h30⟩, fun h => absurd h36 h⟩
  · unfold qMore
    rw [if_pos h25, if_pos h36, h29, if_neg (nI_nle (by omega) (by omega))]
  · obtain ⟨⟨L, h1, -, h3, -⟩, -⟩ := hD
    exact ⟨L, h1, h3⟩
/-- an entry is laid on the stack, and the way goes on -/
def psh (t : M2) (w : Nat) (kd q f x' : Int32) : M2 := qGo (up2 (up2 (up2 (up2 (up2 (up2 t 30 w kd) 31 w (t 37 0)) 32 w q) 33 w (t 38 0)) 35 w 0) 29 0 (nI (w + 1))) f x'
theorem psh_st {t : M2} {w : Nat} {kd q f x' : Int32} : StatM t (psh t w kd q f x') := ((((((((StatM.rf t).up (by omega)).up (by omega)).up (by omega)).up (by omega)).up (by omega)).up (by omega)).up (by omega)).up (by omega) |>.up (by omega)
theorem psh_kp {dd : Nat} {t : M2} {w : Nat} {kd q f x' : Int32} : Kp dd w t (psh t w kd q f x') := by
  refine ⟨fun i hi => ?_, fun i _ => ⟨rfl, rfl⟩⟩
  have h : ¬ i = w := by omega
  show upd _ _ _ _ = _ ∧ upd _ _ _ _ = _ ∧ upd _ _ _ _ = _ ∧ upd _ _ _ _ = _ ∧ _ ∧ upd _ _ _ _ = _
  rw [pk_un h, pk_un h, pk_un h, pk_un h, pk_un h]
  exact ⟨rfl, rfl, rfl, rfl, rfl, rfl⟩
theorem psh_at {t : M2} {w : Nat} {kd q f x' : Int32} : psh t w kd q f x' 30 w = kd ∧ psh t w kd q f x' 31 w = t 37 0 ∧ psh t w kd q f x' 32 w = q ∧ psh t w kd q f x' 33 w = t 38 0 ∧ psh t w kd q f x' 35 w = 0 := ⟨pk_us, pk_us, pk_us, pk_us, pk_us⟩
theorem push_sim {n N dd pp w : Nat} {r k : Nat → Nat} {go : Go} (hG : SimOK n r k N go) (hd : dd < 3) (hpp : pp < n) (hN : (2 - dd) * 7 + (6 - (pp + 1)) < N) (hw : w ≤ 8 * dd + 1 + pp) {u : SC} {t : M2} (hS : SR n r k u t) (hI : IC u) (hD : RD u t) (h25 : t 25 0 = 0) (h26 : t 26 0 = nI (dd + 1)) (h27 : t 27 (dd + 1) = u.1 9 dd) (h28 : t 28 (dd + 1) = u.1 10 dd)
    (h37 : t 37 0 = nI (cnt (fun j => kAdvises u (u.2 j) (u.1 9 dd)) pp)) (hB : kAdvises u (u.2 pp) (u.1 9 dd) = true) (kd q x' : Int32) :
    ∃ t3, Res (psh t w kd q (t 37 0 + 1) x') dd (w + 1) u (psh t w kd q (t 37 0 + 1) x') (go (nI dd) (nI (pp + 1)) x' u).1 (go (nI dd) (nI (pp + 1)) x' u).2 t3 := by
  have hn := hS.1.1
  refine hG dd (pp + 1) x' (w + 1) u _ hd (by omega) hN (hS.stat (Stat.rf u) psh_st) hI hD ⟨h25, rfl, ?_, rfl, h26, h27, h28, rfl⟩ (by omega)
  show t 37 0 + 1 = nI (cnt _ pp + _)
  rw [h37, nI_1, if_pos hB]
/-- behind the inner part: back to the entry that was laid -/
theorem pop_ok {n dd w : Nat} {r k : Nat → Nat} {u u3 : SC} {t2 t3 : M2} {o : Int32} {T : M2} (hS : SR n r k u t2) (hR : Res T dd (w + 1) u t2 o u3 t3) (ho : ¬ o = 2) (hw : w < 30) (h30 : t2 30 w = 9 ∨ (t2 30 w = 8 ∧ ∃ j, j < 12 ∧ t2 32 w = nI j) ∨ (¬ t2 30 w = 9 ∧ ¬ t2 30 w = 8 ∧ ∃ j, j < 6 ∧ t2 32 w = nI j ∧ (¬ t2 30 w = 6 → 5 ≤ t2 30 w → 0 ≤ t2 7 j))) :
    Rch t3 (qBackR (up2 t3 29 0 (nI w)) (t2 30 w) (t2 32 w)) ∧ End dd (w + 1) o u3 t3 ∧ Kp dd (w + 1) t2 t3 ∧ KpC dd u u3 ∧ SR n r k u3 t3 := by
  obtain ⟨a1, a2, a3, a4, a5, a6⟩ := hR
  rcases a6 with ⟨b1, -⟩ | ⟨b1, b2, b3⟩
  · exact absurd b1 ho
  · obtain ⟨c1, c2, c3, c4, c5, c6, c7⟩ := b1
    have hS3 := hS.stat a2 a3
    obtain ⟨d1, -, d3, -⟩ := b2.1 w (by omega)
    have hok := ok_back hS3 a4 c1 c2 c6 hw (by rw [d1, d3, a3 7 (by omega)]; exact h30)
    have e := Rch.one hok
    rw [qRun_back c2, qBack_at c6 (by omega), d1, d3] at e
    exact ⟨e, ⟨c1, c2, c3, c4, c5, c6, c7⟩, b2, b3, hS3⟩
