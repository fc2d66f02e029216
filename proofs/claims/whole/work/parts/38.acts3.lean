theorem kind_same : ∀ e, e < 16 → ∀ a, a < 16 → 1 ≤ e → 1 ≤ a → kKindOf (nI e) (nI a) = qIsOne (nI e) (nI a) := by decide +kernel
theorem z_nn {a : Nat} (h : a < 1000) : (0 : Int32) ≤ nI a := nI_pos' (by omega)
theorem fits5 {a b : Int32} (h : qFits 5 a b = true) : qIsExc a = true ∧ qWithin b 0 15 = true := by
  have h2 : (if qIsExc a = true then qWithin b 0 15 else false) = true := h
  by_cases c : qIsExc a = true
  · rw [if_pos c] at h2
    exact ⟨c, h2⟩
  · rw [if_neg c] at h2
    cases h2
theorem within_of {b : Int32} (h : qWithin b 0 15 = true) : ∃ j, j ≤ 15 ∧ b = nI j := by
  unfold qWithin at h
  by_cases c1 : b < 0
  · rw [if_pos c1] at h; cases h
  · rw [if_neg c1] at h
    by_cases c2 : (15 : Int32) < b
    · rw [if_pos c2] at h; cases h
    · obtain ⟨j, hj, rfl⟩ := nI_of c1
      refine ⟨j, ?_, rfl⟩
      rw [show (15 : Int32) = nI 15 from rfl, nI_ltI (by omega) hj] at c2; omega
theorem act_thr {n N dd pp w : Nat} {r k : Nat → Nat} {go : Go} {x : Int32} {u : SC} {t : M2} (h : ActCx n r k N go dd pp w x u t) (hk : t 4 (r pp) = 5) : ∃ t', Res (qStepB t (nI (r pp))) dd w u t (kThr go (u.2 pp) (nI dd) (nI (pp + 1)) x u).1 (kThr go (u.2 pp) (nI dd) (nI (pp + 1)) x u).2 t' := by
  obtain ⟨e1, t3, hR⟩ := psh_hi h (e := 5) (by omega) (by omega) hk
  rw [e1]
  obtain ⟨q1, q2, q3, q4, q5, q6, q7⟩ := h.q
  obtain ⟨g1, g2, g3, g4, g5, g6, g7, g8, g9, g10, g11, g12, g13, g14, g15, g16, g17⟩ := h
  have hn := g6.1.1
  rw [hk] at q7
  obtain ⟨ha, hb⟩ := fits5 q7
  obtain ⟨aa, ha1, ha2, ha3⟩ := exc_of ha
  obtain ⟨bb, hb1, hb2⟩ := within_of hb
  unfold kThr
  dsimp only
  generalize go (nI dd) (nI (pp + 1)) x u = rr at hR ⊢
  obtain ⟨o, u3⟩ := rr
  dsimp only at hR ⊢
  by_cases ho : o = 2
  · rw [if_neg (by rw [ho]; decide)]
    exact ⟨t3, brk_up hR psh_st ho⟩
  · have p := psh_at (t := t) (w := w) (kd := nI 5) (q := nI (r pp)) (f := t 37 0 + 1) (x' := x)
    obtain ⟨e5, E, k3, c3, S3⟩ := pop_ok (g6.stat (Stat.rf u) psh_st) hR ho (by omega) (Or.inr (Or.inr (by rw [p.1, p.2.2.1]; exact ⟨by decide, by decide, r pp, q1, rfl, fun _ _ => by rw [psh_st 7 (by omega), ha3]; exact z_nn (by omega)⟩)))
    rw [p.1, p.2.2.1] at e5
    have f3 : t3 3 (r pp) = u3.1 13 (u.2 pp) := by rw [hR.2.2.1 3 (by omega), hR.2.1.2 13 (by omega), q3]; rfl
    have f7 : t3 7 (r pp) = nI aa := by rw [hR.2.2.1 7 (by omega), ← ha3]; rfl
    have f7' : u3.1 17 (u.2 pp) = nI aa := by rw [hR.2.1.2 17 (by omega), q5, ha3]
    have f8 : t3 8 (r pp) = nI bb := by rw [hR.2.2.1 8 (by omega), ← hb2]; rfl
    have f8' : u3.1 18 (u.2 pp) = nI bb := by rw [hR.2.1.2 18 (by omega), q6, hb2]
    obtain ⟨E1, E2, E3, E4, E5, E6, E7⟩ := E
    by_cases o1 : o = 1
    · rw [if_pos o1]
      obtain ⟨ee, he1, he2, he3⟩ : ∃ e, 1 ≤ e ∧ e ≤ 15 ∧ u3.1 5 0 = nI e := by
        rcases E7 with z | z
        · rw [o1] at z; exact absurd z (by decide)
        · exact z.2
      have hks : kKindOf (u3.1 5 0) (u3.1 17 (u.2 pp)) = qIsOne (t3 40 0) (t3 7 (r pp)) := by
        rw [E4, he3, f7, f7']; exact kind_same ee (by omega) aa (by omega) he1 ha1
      rw [hks]
      by_cases hi : qIsOne (t3 40 0) (t3 7 (r pp)) = false
      · rw [if_pos hi]
        have e6 : qBackR (up2 t3 29 0 (nI w)) (nI 5) (nI (r pp)) = up2 t3 29 0 (nI w) := by
          unfold qBackR; rw [if_neg (by decide), if_neg (by decide), if_neg (by decide), if_neg (by decide), if_neg (by decide), if_neg (fun z => absurd z.1 (by decide)), q2, if_neg (fun z => by have := hi.symm.trans z.2.2; cases this)]
        rw [e6] at e5
        exact ⟨_, fin_res (t1 := t) hR psh_kp psh_st e5 k3 c3 (Stat.rf u3) ((StatM.rf t3).up (by omega)) hR.2.2.2.1 hR.2.2.2.2.1 (Or.inr ⟨⟨E1, E2, E3, E4, E5, rfl, E7⟩, Kp.of (fun k hk => by simp only [up2]; rw [if_neg (by omega)]), fun _ _ => ⟨rfl, rfl⟩⟩)⟩
      · rw [if_neg hi]
        have hi' : qIsOne (t3 40 0) (t3 7 (r pp)) = true := by simpa using hi
        have e6 : qBackR (up2 t3 29 0 (nI w)) (nI 5) (nI (r pp)) = qComes (qNote (up2 t3 29 0 (nI w)) (u3.1 13 (u.2 pp)) (u3.1 5 0)) true (if (qNote (up2 t3 29 0 (nI w)) (u3.1 13 (u.2 pp)) (u3.1 5 0)) 8 (r pp) = 0 then (qNote (up2 t3 29 0 (nI w)) (u3.1 13 (u.2 pp)) (u3.1 5 0)) 40 0 else (qNote (up2 t3 29 0 (nI w)) (u3.1 13 (u.2 pp)) (u3.1 5 0)) 8 (r pp)) := by
          unfold qBackR; rw [if_neg (by decide), if_neg (by decide), if_neg (by decide), if_neg (by decide), if_neg (by decide), if_neg (fun z => absurd z.1 (by decide)), q2, if_pos ⟨by decide, fun z => absurd ((E3.trans o1).symm.trans z) (by decide), hi'⟩, show (up2 t3 29 0 (nI w)) 3 (r pp) = u3.1 13 (u.2 pp) from f3, show (up2 t3 29 0 (nI w)) 40 0 = u3.1 5 0 from E4]
          dsimp only
          rw [if_pos (by decide)]
        rw [e6] at e5
        have hD' : RD u3 (up2 t3 29 0 (nI w)) := hR.2.2.2.1
        rcases after_note hD' hR.2.2.2.2.1 (u3.1 13 (u.2 pp)) (u3.1 5 0) with ⟨a1, a2⟩ | ⟨u4, t4, a1, a2, a3, a4, a5, a6, a7, a8, a9⟩
        · rw [a1]
          rw [a2] at e5
          dsimp only
          rw [if_pos rfl]
          exact ⟨_, fin_res (t1 := t) hR psh_kp psh_st e5 k3 c3 ((Stat.rf u3).wr (by omega)) (((((StatM.rf t3).up (by omega)).up (by omega)).up (by omega)).up (by omega) |>.up (by omega)) hR.2.2.2.1 hR.2.2.2.2.1 (Or.inl ⟨rfl, rfl, rfl⟩)⟩
        · rw [a1]
          rw [a2, a7 40 (by omega) (by omega) (by omega), a7 8 (by omega) (by omega) (by omega)] at e5
          dsimp only
          rw [if_neg (by decide), a8 18 (by omega) (by omega) (by omega)]
          have e7 : (up2 t3 29 0 (nI w)) 40 0 = u3.1 5 0 := E4
          have e9 : (up2 t3 29 0 (nI w)) 8 (r pp) = u3.1 18 (u.2 pp) := f8.trans f8'.symm
          rw [e7, e9] at e5
          have s4 : StatM t3 t4 := ((StatM.rf t3).up (by omega)).tr a6
          by_cases c : u3.1 18 (u.2 pp) = 0
          · rw [if_pos c] at e5 ⊢
            refine ⟨_, fin_res (t1 := t) (o := 1) (u4 := u4) hR psh_kp psh_st e5 k3 c3 a5 (((s4.up (by omega)).up (by omega)).up (by omega)) a3 a4 (Or.inr ⟨⟨?_, rfl, rfl, ?_, ?_, ?_, Or.inr ⟨rfl, ee, he1, he2, ?_⟩⟩, Kp.of (fun k hk => ?_), fun i _ => ⟨?_, ?_⟩⟩)⟩
            · show t4 25 0 = 0; rw [a7 25 (by omega) (by omega) (by omega)]; exact E1
            · rw [a8 5 (by omega) (by omega) (by omega)]; rfl
            · show t4 26 0 = _; rw [a7 26 (by omega) (by omega) (by omega)]; exact E5
            · show t4 29 0 = _; rw [a7 29 (by omega) (by omega) (by omega)]; rfl
            · rw [a8 5 (by omega) (by omega) (by omega)]; exact he3
            · simp only [qComes, up2]; rw [if_neg (by omega), if_neg (by omega), if_neg (by omega), a7 k (by omega) (by omega) (by omega)]; simp only [up2]; rw [if_neg (by omega)]
            · rw [a8 9 (by omega) (by omega) (by omega)]
            · rw [a8 10 (by omega) (by omega) (by omega)]
          · rw [if_neg c] at e5 ⊢
            have hbb : bb ≠ 0 := fun z => c (by rw [f8', z]; rfl)
            refine ⟨_, fin_res (t1 := t) (o := 1) (u4 := wr u4 5 0 (u3.1 18 (u.2 pp))) hR psh_kp psh_st e5 k3 c3 (a5.wr (by omega)) (((s4.up (by omega)).up (by omega)).up (by omega)) a3 a4 (Or.inr ⟨⟨?_, rfl, rfl, rfl, ?_, ?_, Or.inr ⟨rfl, bb, by omega, hb1, f8'⟩⟩, Kp.of (fun k hk => ?_), fun i _ => ⟨?_, ?_⟩⟩)⟩
            · show t4 25 0 = 0; rw [a7 25 (by omega) (by omega) (by omega)]; exact E1
            · show t4 26 0 = _; rw [a7 26 (by omega) (by omega) (by omega)]; exact E5
            · show t4 29 0 = _; rw [a7 29 (by omega) (by omega) (by omega)]; rfl
            · simp only [qComes, up2]; rw [if_neg (by omega), if_neg (by omega), if_neg (by omega), a7 k (by omega) (by omega) (by omega)]; simp only [up2]; rw [if_neg (by omega)]
            · show u4.1 9 i = _; rw [a8 9 (by omega) (by omega) (by omega)]
            · show u4.1 10 i = _; rw [a8 10 (by omega) (by omega) (by omega)]
    · rw [if_neg o1]
      have o0 : o = 0 := E7.elim id (fun z => absurd z.1 o1)
      have e6 : qBackR (up2 t3 29 0 (nI w)) (nI 5) (nI (r pp)) = up2 t3 29 0 (nI w) := by
        unfold qBackR; rw [if_neg (by decide), if_neg (by decide), if_neg (by decide), if_neg (by decide), if_neg (by decide), if_neg (fun z => absurd z.1 (by decide)), if_neg (fun z => z.2.1 (E3.trans o0))]
      rw [e6] at e5
      exact ⟨_, fin_res (t1 := t) hR psh_kp psh_st e5 k3 c3 (Stat.rf u3) ((StatM.rf t3).up (by omega)) hR.2.2.2.1 hR.2.2.2.2.1 (Or.inr ⟨⟨E1, E2, E3, E4, E5, rfl, E7⟩, Kp.of (fun k hk => by simp only [up2]; rw [if_neg (by omega)]), fun _ _ => ⟨rfl, rfl⟩⟩)⟩
