/-! pure rows: what each kind of advisor does, on both sides -/
def ActCx (n : Nat) (r k : Nat → Nat) (N : Nat) (go : Go) (dd pp w : Nat) (x : Int32) (u : SC) (t : M2) : Prop :=
  SimOK n r k N go ∧ dd < 3 ∧ pp < n ∧ (2 - dd) * 7 + (6 - (pp + 1)) < N ∧ w ≤ 8 * dd + 1 + pp ∧ SR n r k u t ∧ IC u ∧ RD u t ∧ t 25 0 = 0 ∧ t 26 0 = nI (dd + 1) ∧ t 27 (dd + 1) = u.1 9 dd ∧ t 28 (dd + 1) = u.1 10 dd ∧ t 29 0 = nI w ∧
  t 37 0 = nI (cnt (fun j => kAdvises u (u.2 j) (u.1 9 dd)) pp) ∧ kAdvises u (u.2 pp) (u.1 9 dd) = true ∧ t 38 0 = x ∧ t 36 0 = 1
theorem ActCx.q {n N dd pp w : Nat} {r k : Nat → Nat} {go : Go} {x : Int32} {u : SC} {t : M2} (h : ActCx n r k N go dd pp w x u t) : r pp < 6 ∧ ix (nI (r pp)) = r pp ∧ u.1 13 (u.2 pp) = t 3 (r pp) ∧ u.1 14 (u.2 pp) = t 4 (r pp) ∧ u.1 17 (u.2 pp) = t 7 (r pp) ∧ u.1 18 (u.2 pp) = t 8 (r pp) ∧ qFits (t 4 (r pp)) (t 7 (r pp)) (t 8 (r pp)) = true := by
  obtain ⟨-, -, h1, -, -, h2, -⟩ := h
  have hn := h2.1.1
  have hr := h2.1.2.2.2.1 pp h1
  obtain ⟨a1, a2, a3, a4, a5, a6, -⟩ := h2.1.2.2.2.2.2.2.1 pp h1
  exact ⟨by omega, ixn (by omega), a1, a2, a5, a6, h2.2.2.2.2.2.2.2 _ hr⟩
theorem act_noted {n N dd pp w : Nat} {r k : Nat → Nat} {go : Go} {x : Int32} {u : SC} {t : M2} (h : ActCx n r k N go dd pp w x u t) :
    (kNote u (u.1 13 (u.2 pp)) x = (false, u) ∧ qNote t (t 3 (r pp)) (t 38 0) = up2 t 25 0 1) ∨
    ∃ u1 t1, kNote u (u.1 13 (u.2 pp)) x = (true, u1) ∧ qNote t (t 3 (r pp)) (t 38 0) = t1 ∧ ActCx n r k N go dd pp w x u1 t1 ∧ Stat u u1 ∧ StatM t t1 ∧ Kp dd w t t1 ∧ KpC dd u u1 ∧ u1.2 = u.2 := by
  have hq := h.q
  obtain ⟨g1, g2, g3, g4, g5, g6, g7, g8, g9, g10, g11, g12, g13, g14, g15, g16, g17⟩ := h
  rw [g16, ← hq.2.2.1]
  rcases note_same g8 (u.1 13 (u.2 pp)) x with ⟨a1, a2⟩ | ⟨L, a0, a1, a2, a3⟩
  · exact Or.inl ⟨a1, a2⟩
  · have hi := IC_note g7 (u.1 13 (u.2 pp)) x
    rw [a1] at hi
    have s1 : Stat u (wr (wr (wr u 11 L (u.1 13 (u.2 pp))) 12 L x) 8 0 (nI (L + 1))) := (((Stat.rf u).wr (by omega)).wr (by omega)).wr (by omega)
    have s2 : StatM t (up2 (up2 (up2 t 20 L (u.1 13 (u.2 pp))) 21 L x) 19 0 (nI (L + 1))) := (((StatM.rf t).up (by omega)).up (by omega)).up (by omega)
    exact Or.inr ⟨_, _, a1, a2, ⟨g1, g2, g3, g4, g5, g6.stat s1 s2, hi, a3, g9, g10, g11, g12, g13, g14, g15, g16, g17⟩, s1, s2, ⟨fun _ _ => ⟨rfl, rfl, rfl, rfl, rfl, rfl⟩, fun _ _ => ⟨rfl, rfl⟩⟩, fun _ _ => ⟨rfl, rfl⟩, rfl⟩
theorem stepB_lo {t : M2} {q : Nat} (hq : q < 6) {e : Nat} (he : e ≤ 3) (h : t 4 q = nI e) : qStepB t (nI q) = qStepC (qNote t (t 3 q) (t 38 0)) (nI q) := by
  unfold qStepB
  rw [ixn (by omega), h, if_pos (by rw [show (3 : Int32) = nI 3 from rfl]; exact (nle (by omega) (by omega)).mpr he)]
theorem stepB_hi {t : M2} {q : Nat} (hq : q < 6) {e : Nat} (he : 3 < e) (he2 : e < 8) (h : t 4 q = nI e) : qStepB t (nI q) = qStepC t (nI q) := by
  unfold qStepB
  rw [ixn (by omega), h, if_neg (by rw [show (3 : Int32) = nI 3 from rfl]; intro z; have := (nle (by omega) (by omega)).mp z; omega)]
theorem stepC_brk (t : M2) (k : Int32) : qStepC (up2 t 25 0 1) k = up2 t 25 0 1 := by
  unfold qStepC
  rw [if_neg (by show ¬ (1 : Int32) = 0; decide)]
theorem brk_res {dd w : Nat} {u : SC} {t : M2} (hD : RD u t) (hI : IC u) : Res (up2 t 25 0 1) dd w u t 2 (wr u 5 0 0) (up2 t 25 0 1) :=
  ⟨Rch.rf _, (Stat.rf u).wr (by omega), (StatM.rf t).up (by omega), hD, hI, Or.inl ⟨rfl, rfl, rfl⟩⟩
theorem exc_of {e : Int32} (h : qIsExc e = true) : ∃ j, 1 ≤ j ∧ j ≤ 15 ∧ e = nI j := by
  unfold qIsExc qWithin at h
  by_cases c1 : e < 1
  · rw [if_pos c1] at h; cases h
  · rw [if_neg c1] at h
    by_cases c2 : (15 : Int32) < e
    · rw [if_pos c2] at h; cases h
    · have h0 : ¬ e < 0 := by simp only [Int32.lt_iff_toInt_lt] at *; have : (1 : Int32).toInt = 1 := rfl; have : (0 : Int32).toInt = 0 := rfl; omega
      obtain ⟨j, hj, rfl⟩ := nI_of h0
      refine ⟨j, ?_, ?_, rfl⟩
      · rw [show (1 : Int32) = nI 1 from rfl, nI_ltI hj (by omega)] at c1; omega
      · rw [show (15 : Int32) = nI 15 from rfl, nI_ltI (by omega) hj] at c2; omega
/-- an answer at once -/
theorem comes_res {n dd w : Nat} {r k : Nat → Nat} {u : SC} {t : M2} (hS : SR n r k u t) (hD : RD u t) (hI : IC u) (h25 : t 25 0 = 0) (h26 : t 26 0 = nI (dd + 1)) (h29 : t 29 0 = nI w) (b : Bool) {v v' : Int32} (hv : v' = v) (he : b = true → ∃ e, 1 ≤ e ∧ e ≤ 15 ∧ v = nI e) :
    Res (qComes t b v') dd w u t (bI b) (wr u 5 0 v) (qComes t b v') := by
  subst hv
  refine ⟨Rch.rf _, (Stat.rf u).wr (by omega), (((StatM.rf t).up (by omega)).up (by omega)).up (by omega), hD, hI, Or.inr ⟨⟨h25, rfl, rfl, rfl, h26, h29, ?_⟩, ⟨fun _ _ => ⟨rfl, rfl, rfl, rfl, rfl, rfl⟩, fun _ _ => ⟨rfl, rfl⟩⟩, fun _ _ => ⟨rfl, rfl⟩⟩⟩
  cases b
  · exact Or.inl rfl
  · exact Or.inr ⟨rfl, he rfl⟩
/-- the way goes on at the next place -/
theorem next_res {n N dd pp w : Nat} {r k : Nat → Nat} {go : Go} {x : Int32} {u : SC} {t : M2} (h : ActCx n r k N go dd pp w x u t) : ∃ t', Res (up2 t 37 0 (t 37 0 + 1)) dd w u t (go (nI dd) (nI (pp + 1)) x u).1 (go (nI dd) (nI (pp + 1)) x u).2 t' := by
  obtain ⟨g1, g2, g3, g4, g5, g6, g7, g8, g9, g10, g11, g12, g13, g14, g15, g16, g17⟩ := h
  have hn := g6.1.1
  have s2 : StatM t (up2 t 37 0 (t 37 0 + 1)) := (StatM.rf t).up (by omega)
  obtain ⟨t', ht⟩ := g1 dd (pp + 1) x w u (up2 t 37 0 (t 37 0 + 1)) g2 (by omega) g4 (g6.stat (Stat.rf u) s2) g7 g8 ⟨g9, g17, by
    show t 37 0 + 1 = nI (cnt _ pp + _)
    rw [g14, nI_1, if_pos g15], g16, g10, g11, g12, g13⟩ (by omega)
  exact ⟨t', ht.pre (Rch.rf _) (Stat.rf u) s2 ⟨fun _ _ => ⟨rfl, rfl, rfl, rfl, rfl, rfl⟩, fun _ _ => ⟨rfl, rfl⟩⟩ (KpC.rf dd u)⟩
theorem fits0 {a b : Int32} (h : qFits 0 a b = true) : qIsExc b = true := h
theorem act_bef {n N dd pp w : Nat} {r k : Nat → Nat} {go : Go} {x : Int32} {u : SC} {t : M2} (h : ActCx n r k N go dd pp w x u t) (hk : t 4 (r pp) = 0) : ∃ t', Res (qStepB t (nI (r pp))) dd w u t (kBef go (u.2 pp) (nI dd) (nI (pp + 1)) x u).1 (kBef go (u.2 pp) (nI dd) (nI (pp + 1)) x u).2 t' := by
  rw [stepB_lo (e := 0) h.q.1 (by omega) hk]
  rcases act_noted h with ⟨e1, e2⟩ | ⟨u1, t1, e1, e2, h1, s1, s2, s3, s4, s5⟩
  · have e3 : kBef go (u.2 pp) (nI dd) (nI (pp + 1)) x u = (2, wr u 5 0 0) := by unfold kBef; rw [e1]; rfl
    rw [e2, e3, stepC_brk]
    exact ⟨_, brk_res h.2.2.2.2.2.2.2.1 h.2.2.2.2.2.2.1⟩
  · rw [e2]
    obtain ⟨q1, q2, q3, q4, q5, q6, q7⟩ := h1.q
    have hk1 : t1 4 (r pp) = 0 := by rw [s2 4 (by omega)]; exact hk
    have h1' := h1
    obtain ⟨g1, g2, g3, g4, g5, g6, g7, g8, g9, g10, g11, g12, g13, g14, g15, g16, g17⟩ := h1
    rw [s5] at q5 q6
    by_cases c : x = t1 7 (r pp)
    · have e3 : kBef go (u.2 pp) (nI dd) (nI (pp + 1)) x u = (1, wr u1 5 0 (t1 8 (r pp))) := by
        unfold kBef; rw [e1]; dsimp only; rw [if_neg (by decide), if_pos (by rw [q5]; exact c), q6]
      have e4 : qStepC t1 (nI (r pp)) = qComes t1 true (t1 8 (r pp)) := by
        unfold qStepC; rw [if_pos g9, q2, if_pos ⟨hk1, by rw [g16]; exact c⟩]
      rw [e3, e4]
      rw [hk1] at q7
      exact ⟨_, (comes_res g6 g8 g7 g9 g10 g13 true rfl (fun _ => exc_of (fits0 q7))).pre (Rch.rf _) s1 s2 s3 s4⟩
    · have e3 : kBef go (u.2 pp) (nI dd) (nI (pp + 1)) x u = go (nI dd) (nI (pp + 1)) x u1 := by
        unfold kBef; rw [e1]; dsimp only; rw [if_neg (by decide), if_neg (by rw [q5]; exact c)]
      have e4 : qStepC t1 (nI (r pp)) = up2 t1 37 0 (t1 37 0 + 1) := by
        unfold qStepC; rw [if_pos g9, q2, if_neg (fun z => c (by rw [← g16]; exact z.2)), if_neg (fun z => absurd (hk1.symm.trans z.1) (by decide)), if_pos (Or.inl hk1)]
      rw [e3, e4]
      obtain ⟨t', ht⟩ := next_res h1'
      exact ⟨t', ht.pre (Rch.rf _) s1 s2 s3 s4⟩
theorem act_skp {n N dd pp w : Nat} {r k : Nat → Nat} {go : Go} {x : Int32} {u : SC} {t : M2} (h : ActCx n r k N go dd pp w x u t) (hk : t 4 (r pp) = 2) : ∃ t', Res (qStepB t (nI (r pp))) dd w u t (kSkp go (u.2 pp) (nI dd) (nI (pp + 1)) x u).1 (kSkp go (u.2 pp) (nI dd) (nI (pp + 1)) x u).2 t' := by
  rw [stepB_lo (e := 2) h.q.1 (by omega) hk]
  rcases act_noted h with ⟨e1, e2⟩ | ⟨u1, t1, e1, e2, h1, s1, s2, s3, s4, s5⟩
  · have e3 : kSkp go (u.2 pp) (nI dd) (nI (pp + 1)) x u = (2, wr u 5 0 0) := by unfold kSkp; rw [e1]; rfl
    rw [e2, e3, stepC_brk]
    exact ⟨_, brk_res h.2.2.2.2.2.2.2.1 h.2.2.2.2.2.2.1⟩
  · rw [e2]
    obtain ⟨q1, q2, q3, q4, q5, q6, q7⟩ := h1.q
    have hk1 : t1 4 (r pp) = 2 := by rw [s2 4 (by omega)]; exact hk
    have h1' := h1
    obtain ⟨g1, g2, g3, g4, g5, g6, g7, g8, g9, g10, g11, g12, g13, g14, g15, g16, g17⟩ := h1
    rw [s5] at q5 q6
    by_cases c : x < t1 7 (r pp)
    · have e3 : kSkp go (u.2 pp) (nI dd) (nI (pp + 1)) x u = (0, wr u1 5 0 (t1 8 (r pp))) := by
        unfold kSkp; rw [e1]; dsimp only; rw [if_neg (by decide), if_pos (by rw [q5]; exact c), q6]
      have e4 : qStepC t1 (nI (r pp)) = qComes t1 false (t1 8 (r pp)) := by
        unfold qStepC; rw [if_pos g9, q2, if_neg (fun z => absurd (hk1.symm.trans z.1) (by decide)), if_pos ⟨hk1, by rw [g16]; exact c⟩]
      rw [e3, e4]
      exact ⟨_, (comes_res g6 g8 g7 g9 g10 g13 false rfl (fun z => by cases z)).pre (Rch.rf _) s1 s2 s3 s4⟩
    · have e3 : kSkp go (u.2 pp) (nI dd) (nI (pp + 1)) x u = go (nI dd) (nI (pp + 1)) x u1 := by
        unfold kSkp; rw [e1]; dsimp only; rw [if_neg (by decide), if_neg (by rw [q5]; exact c)]
      have e4 : qStepC t1 (nI (r pp)) = up2 t1 37 0 (t1 37 0 + 1) := by
        unfold qStepC; rw [if_pos g9, q2, if_neg (fun z => absurd (hk1.symm.trans z.1) (by decide)), if_neg (fun z => c (by rw [← g16]; exact z.2)), if_pos (Or.inr hk1)]
      rw [e3, e4]
      obtain ⟨t', ht⟩ := next_res h1'
      exact ⟨t', ht.pre (Rch.rf _) s1 s2 s3 s4⟩
/-- the stack's entry, and the way on -/
theorem stepC_psh {t : M2} {q w : Nat} {e : Nat} (hq : q < 6) (h25 : t 25 0 = 0) (h29 : t 29 0 = nI w) (hw : w < 900) (hk : t 4 q = nI e) (he : e < 8) (h0 : e ≠ 0) (h2 : e ≠ 2) : qStepC t (nI q) = psh t w (nI e) (nI q) (t 37 0 + 1) (if e = 1 then t 38 0 + t 7 q else t 38 0) := by
  have c0 : ¬ t 4 q = 0 := fun z => h0 ((neq (by omega) (by omega)).mp (hk.symm.trans z))
  have c2 : ¬ t 4 q = 2 := fun z => h2 ((neq (by omega) (by omega)).mp (hk.symm.trans z))
  unfold qStepC
  rw [if_pos h25, ixn (by omega), if_neg (fun z => c0 z.1), if_neg (fun z => c2 z.1), if_neg (fun z => z.elim c0 c2), hk, qAwait_at h29 hw]
  unfold psh
  by_cases c : e = 1
  · subst c
    rw [if_pos rfl, if_pos (show nI 1 = (1 : Int32) from rfl)]
  · rw [if_neg c, if_neg (show ¬ nI e = (1 : Int32) from fun z => c ((neq (b := 1) (by omega) (by omega)).mp z))]
