theorem act_rec {n N dd pp w : Nat} {r k : Nat → Nat} {go : Go} {x : Int32} {u : SC} {t : M2} (h : ActCx n r k N go dd pp w x u t) (hk : t 4 (r pp) = 7) : ∃ t', Res (qStepB t (nI (r pp))) dd w u t (kRec go (u.2 pp) (nI dd) (nI (pp + 1)) x u).1 (kRec go (u.2 pp) (nI dd) (nI (pp + 1)) x u).2 t' := by
  obtain ⟨e1, t3, hR⟩ := psh_hi h (e := 7) (by omega) (by omega) hk
  rw [e1]
  obtain ⟨q1, q2, q3, q4, q5, q6, q7⟩ := h.q
  obtain ⟨g1, g2, g3, g4, g5, g6, g7, g8, g9, g10, g11, g12, g13, g14, g15, g16, g17⟩ := h
  have hn := g6.1.1
  rw [hk] at q7
  obtain ⟨aa, ha1, ha2, ha3⟩ := exc_of (show qIsExc (t 7 (r pp)) = true from q7)
  unfold kRec
  dsimp only
  generalize go (nI dd) (nI (pp + 1)) x u = rr at hR ⊢
  obtain ⟨o, u3⟩ := rr
  dsimp only at hR ⊢
  by_cases ho : o = 2
  · rw [if_neg (by rw [ho]; decide)]
    exact ⟨t3, brk_up hR psh_st ho⟩
  · have p := psh_at (t := t) (w := w) (kd := nI 7) (q := nI (r pp)) (f := t 37 0 + 1) (x' := x)
    obtain ⟨e5, E, k3, c3, S3⟩ := pop_ok (g6.stat (Stat.rf u) psh_st) hR ho (by omega) (Or.inr (Or.inr (by rw [p.1, p.2.2.1]; exact ⟨by decide, by decide, r pp, q1, rfl, fun _ _ => by rw [psh_st 7 (by omega), ha3]; exact z_nn (by omega)⟩)))
    rw [p.1, p.2.2.1] at e5
    have f3 : t3 3 (r pp) = u3.1 13 (u.2 pp) := by rw [hR.2.2.1 3 (by omega), hR.2.1.2 13 (by omega), q3]; rfl
    have f7 : t3 7 (r pp) = nI aa := by rw [hR.2.2.1 7 (by omega), ← ha3]; rfl
    have f7' : u3.1 17 (u.2 pp) = nI aa := by rw [hR.2.1.2 17 (by omega), q5, ha3]
    have f8 : t3 8 (r pp) = u3.1 18 (u.2 pp) := by rw [hR.2.2.1 8 (by omega), hR.2.1.2 18 (by omega), q6]; rfl
    obtain ⟨E1, E2, E3, E4, E5, E6, E7⟩ := E
    by_cases o1 : o = 1
    · rw [if_pos o1]
      obtain ⟨ee, he1, he2, he3⟩ : ∃ e, 1 ≤ e ∧ e ≤ 15 ∧ u3.1 5 0 = nI e := by
        rcases E7 with z | z
        · rw [o1] at z; exact absurd z (by decide)
        · exact z.2
      have hks : kKindOf (u3.1 5 0) (u3.1 17 (u.2 pp)) = qIsOne (t3 40 0) (t3 7 (r pp)) := by
        rw [E4, he3, f7, f7']; exact kind_same ee (by omega) aa (by omega) he1 ha1
      rw [hks]
      by_cases hi : qIsOne (t3 40 0) (t3 7 (r pp)) = false
      · rw [if_pos hi]
        have e6 : qBackR (up2 t3 29 0 (nI w)) (nI 7) (nI (r pp)) = up2 t3 29 0 (nI w) := by
          unfold qBackR; rw [if_neg (by decide), if_neg (by decide), if_neg (by decide), if_neg (by decide), if_neg (by decide), if_neg (fun z => absurd z.1 (by decide)), q2, if_neg (fun z => by have := hi.symm.trans z.2.2; cases this)]
        rw [e6] at e5
        exact ⟨_, fin_res (t1 := t) hR psh_kp psh_st e5 k3 c3 (Stat.rf u3) ((StatM.rf t3).up (by omega)) hR.2.2.2.1 hR.2.2.2.2.1 (Or.inr ⟨⟨E1, E2, E3, E4, E5, rfl, E7⟩, Kp.of (fun k hk => by simp only [up2]; rw [if_neg (by omega)]), fun _ _ => ⟨rfl, rfl⟩⟩)⟩
      · rw [if_neg hi]
        have hi' : qIsOne (t3 40 0) (t3 7 (r pp)) = true := by simpa using hi
        have e6 : qBackR (up2 t3 29 0 (nI w)) (nI 7) (nI (r pp)) = qComes (qNote (up2 t3 29 0 (nI w)) (u3.1 13 (u.2 pp)) (u3.1 5 0)) false ((qNote (up2 t3 29 0 (nI w)) (u3.1 13 (u.2 pp)) (u3.1 5 0)) 8 (r pp)) := by
          unfold qBackR; rw [if_neg (by decide), if_neg (by decide), if_neg (by decide), if_neg (by decide), if_neg (by decide), if_neg (fun z => absurd z.1 (by decide)), q2, if_pos ⟨by decide, fun z => absurd ((E3.trans o1).symm.trans z) (by decide), hi'⟩, show (up2 t3 29 0 (nI w)) 3 (r pp) = u3.1 13 (u.2 pp) from f3, show (up2 t3 29 0 (nI w)) 40 0 = u3.1 5 0 from E4]
          dsimp only
          rw [if_neg (by decide)]
        rw [e6] at e5
        have hD' : RD u3 (up2 t3 29 0 (nI w)) := hR.2.2.2.1
        rcases after_note hD' hR.2.2.2.2.1 (u3.1 13 (u.2 pp)) (u3.1 5 0) with ⟨a1, a2⟩ | ⟨u4, t4, a1, a2, a3, a4, a5, a6, a7, a8, a9⟩
        · rw [a1]
          rw [a2] at e5
          dsimp only
          rw [if_pos rfl]
          exact ⟨_, fin_res (t1 := t) hR psh_kp psh_st e5 k3 c3 ((Stat.rf u3).wr (by omega)) (((((StatM.rf t3).up (by omega)).up (by omega)).up (by omega)).up (by omega) |>.up (by omega)) hR.2.2.2.1 hR.2.2.2.2.1 (Or.inl ⟨rfl, rfl, rfl⟩)⟩
        · rw [a1]
          rw [a2, a7 8 (by omega) (by omega) (by omega)] at e5
          dsimp only
          rw [if_neg (by decide), a8 18 (by omega) (by omega) (by omega)]
          have e9 : (up2 t3 29 0 (nI w)) 8 (r pp) = u3.1 18 (u.2 pp) := f8
          rw [e9] at e5
          have s4 : StatM t3 t4 := ((StatM.rf t3).up (by omega)).tr a6
          refine ⟨_, fin_res (t1 := t) (o := 0) (u4 := wr u4 5 0 (u3.1 18 (u.2 pp))) hR psh_kp psh_st e5 k3 c3 (a5.wr (by omega)) (((s4.up (by omega)).up (by omega)).up (by omega)) a3 a4 (Or.inr ⟨⟨?_, rfl, rfl, rfl, ?_, ?_, Or.inl rfl⟩, Kp.of (fun k hk => ?_), fun i _ => ⟨?_, ?_⟩⟩)⟩
          · show t4 25 0 = 0; rw [a7 25 (by omega) (by omega) (by omega)]; exact E1
          · show t4 26 0 = _; rw [a7 26 (by omega) (by omega) (by omega)]; exact E5
          · show t4 29 0 = _; rw [a7 29 (by omega) (by omega) (by omega)]; rfl
          · simp only [qComes, up2]; rw [if_neg (by omega), if_neg (by omega), if_neg (by omega), a7 k (by omega) (by omega) (by omega)]; simp only [up2]; rw [if_neg (by omega)]
          · show u4.1 9 i = _; rw [a8 9 (by omega) (by omega) (by omega)]
          · show u4.1 10 i = _; rw [a8 10 (by omega) (by omega) (by omega)]
    · rw [if_neg o1]
      have o0 : o = 0 := E7.elim id (fun z => absurd z.1 o1)
      have e6 : qBackR (up2 t3 29 0 (nI w)) (nI 7) (nI (r pp)) = up2 t3 29 0 (nI w) := by
        unfold qBackR; rw [if_neg (by decide), if_neg (by decide), if_neg (by decide), if_neg (by decide), if_neg (by decide), if_neg (fun z => absurd z.1 (by decide)), if_neg (fun z => z.2.1 (E3.trans o0))]
      rw [e6] at e5
      exact ⟨_, fin_res (t1 := t) hR psh_kp psh_st e5 k3 c3 (Stat.rf u3) ((StatM.rf t3).up (by omega)) hR.2.2.2.1 hR.2.2.2.2.1 (Or.inr ⟨⟨E1, E2, E3, E4, E5, rfl, E7⟩, Kp.of (fun k hk => by simp only [up2]; rw [if_neg (by omega)]), fun _ _ => ⟨rfl, rfl⟩⟩)⟩
theorem act_fin {n N dd pp w : Nat} {r k : Nat → Nat} {go : Go} {x : Int32} {u : SC} {t : M2} (h : ActCx n r k N go dd pp w x u t) (hk : t 4 (r pp) = 6) : ∃ t', Res (qStepB t (nI (r pp))) dd w u t (kFin go (u.2 pp) (nI dd) (nI (pp + 1)) x u).1 (kFin go (u.2 pp) (nI dd) (nI (pp + 1)) x u).2 t' := by
  obtain ⟨e1, t3, hR⟩ := psh_hi h (e := 6) (by omega) (by omega) hk
  rw [e1]
  obtain ⟨q1, q2, q3, q4, q5, q6, q7⟩ := h.q
  obtain ⟨g1, g2, g3, g4, g5, g6, g7, g8, g9, g10, g11, g12, g13, g14, g15, g16, g17⟩ := h
  have hn := g6.1.1
  rw [hk] at q7
  obtain ⟨bb, hb1, hb2, hb3⟩ := exc_of (show qIsExc (t 8 (r pp)) = true from q7)
  unfold kFin
  dsimp only
  generalize go (nI dd) (nI (pp + 1)) x u = rr at hR ⊢
  obtain ⟨o, u3⟩ := rr
  dsimp only at hR ⊢
  by_cases ho : o = 2
  · rw [if_pos ho]
    subst ho
    exact ⟨t3, brk_up hR psh_st rfl⟩
  · rw [if_neg ho]
    have p := psh_at (t := t) (w := w) (kd := nI 6) (q := nI (r pp)) (f := t 37 0 + 1) (x' := x)
    obtain ⟨e5, E, k3, c3, S3⟩ := pop_ok (g6.stat (Stat.rf u) psh_st) hR ho (by omega) (Or.inr (Or.inr (by rw [p.1, p.2.2.1]; exact ⟨by decide, by decide, r pp, q1, rfl, fun z => absurd (by decide) z⟩)))
    have e33 : t3 33 w = x := by rw [(k3.1 w (by omega)).2.2.2.1, p.2.2.2.1, g16]
    rw [p.1, p.2.2.1] at e5
    have f3 : t3 3 (r pp) = u3.1 13 (u.2 pp) := by rw [hR.2.2.1 3 (by omega), hR.2.1.2 13 (by omega), q3]; rfl
    have f7 : t3 7 (r pp) = u3.1 17 (u.2 pp) := by rw [hR.2.2.1 7 (by omega), hR.2.1.2 17 (by omega), q5]; rfl
    have f8 : t3 8 (r pp) = u3.1 18 (u.2 pp) := by rw [hR.2.2.1 8 (by omega), hR.2.1.2 18 (by omega), q6]; rfl
    have f8' : u3.1 18 (u.2 pp) = nI bb := by rw [hR.2.1.2 18 (by omega), q6, hb3]
    obtain ⟨E1, E2, E3, E4, E5, E6, E7⟩ := E
    have e6 : qBackR (up2 t3 29 0 (nI w)) (nI 6) (nI (r pp)) = (if (qNote (up2 t3 29 0 (nI w)) (u3.1 13 (u.2 pp)) x) 33 (ix ((qNote (up2 t3 29 0 (nI w)) (u3.1 13 (u.2 pp)) x) 29 0)) = (qNote (up2 t3 29 0 (nI w)) (u3.1 13 (u.2 pp)) x) 7 (r pp) then qComes (qNote (up2 t3 29 0 (nI w)) (u3.1 13 (u.2 pp)) x) true ((qNote (up2 t3 29 0 (nI w)) (u3.1 13 (u.2 pp)) x) 8 (r pp)) else qNote (up2 t3 29 0 (nI w)) (u3.1 13 (u.2 pp)) x) := by
      unfold qBackR; rw [if_neg (by decide), if_neg (by decide), if_neg (by decide), if_neg (by decide), if_pos (by decide), q2, show (up2 t3 29 0 (nI w)) 3 (r pp) = u3.1 13 (u.2 pp) from f3, show (up2 t3 29 0 (nI w)) 29 0 = nI w from rfl, ixn (by omega : w < 1000), show (up2 t3 29 0 (nI w)) 33 w = x from e33]
    rw [e6] at e5
    have hD' : RD u3 (up2 t3 29 0 (nI w)) := hR.2.2.2.1
    rcases after_note hD' hR.2.2.2.2.1 (u3.1 13 (u.2 pp)) x with ⟨a1, a2⟩ | ⟨u4, t4, a1, a2, a3, a4, a5, a6, a7, a8, a9⟩
    · rw [a1]
      rw [a2] at e5
      dsimp only
      rw [if_pos rfl]
      by_cases c : (up2 (up2 t3 29 0 (nI w)) 25 0 1) 33 (ix ((up2 (up2 t3 29 0 (nI w)) 25 0 1) 29 0)) = (up2 (up2 t3 29 0 (nI w)) 25 0 1) 7 (r pp)
      · rw [if_pos c] at e5
        exact ⟨_, fin_res (t1 := t) hR psh_kp psh_st e5 k3 c3 ((Stat.rf u3).wr (by omega)) (((((StatM.rf t3).up (by omega)).up (by omega)).up (by omega)).up (by omega) |>.up (by omega)) hR.2.2.2.1 hR.2.2.2.2.1 (Or.inl ⟨rfl, rfl, rfl⟩)⟩
      · rw [if_neg c] at e5
        exact ⟨_, fin_res (t1 := t) hR psh_kp psh_st e5 k3 c3 ((Stat.rf u3).wr (by omega)) (((StatM.rf t3).up (by omega)).up (by omega)) hR.2.2.2.1 hR.2.2.2.2.1 (Or.inl ⟨rfl, rfl, rfl⟩)⟩
    · rw [a1]
      rw [a2, a7 33 (by omega) (by omega) (by omega), a7 29 (by omega) (by omega) (by omega), a7 7 (by omega) (by omega) (by omega), a7 8 (by omega) (by omega) (by omega)] at e5
      dsimp only
      rw [if_neg (by decide), a8 17 (by omega) (by omega) (by omega), a8 18 (by omega) (by omega) (by omega)]
      have e7 : (up2 t3 29 0 (nI w)) 33 (ix ((up2 t3 29 0 (nI w)) 29 0)) = x := by rw [show (up2 t3 29 0 (nI w)) 29 0 = nI w from rfl, ixn (by omega : w < 1000)]; exact e33
      have e8 : (up2 t3 29 0 (nI w)) 7 (r pp) = u3.1 17 (u.2 pp) := f7
      have e9 : (up2 t3 29 0 (nI w)) 8 (r pp) = u3.1 18 (u.2 pp) := f8
      rw [e7, e8, e9] at e5
      have s4 : StatM t3 t4 := ((StatM.rf t3).up (by omega)).tr a6
      by_cases c : x = u3.1 17 (u.2 pp)
      · rw [if_pos c] at e5 ⊢
        refine ⟨_, fin_res (t1 := t) (o := 1) (u4 := wr u4 5 0 (u3.1 18 (u.2 pp))) hR psh_kp psh_st e5 k3 c3 (a5.wr (by omega)) (((s4.up (by omega)).up (by omega)).up (by omega)) a3 a4 (Or.inr ⟨⟨?_, rfl, rfl, rfl, ?_, ?_, Or.inr ⟨rfl, bb, hb1, hb2, f8'⟩⟩, Kp.of (fun k hk => ?_), fun i _ => ⟨?_, ?_⟩⟩)⟩
        · show t4 25 0 = 0; rw [a7 25 (by omega) (by omega) (by omega)]; exact E1
        · show t4 26 0 = _; rw [a7 26 (by omega) (by omega) (by omega)]; exact E5
        · show t4 29 0 = _; rw [a7 29 (by omega) (by omega) (by omega)]; rfl
        · simp only [qComes, up2]; rw [if_neg (by omega), if_neg (by omega), if_neg (by omega), a7 k (by omega) (by omega) (by omega)]; simp only [up2]; rw [if_neg (by omega)]
        · show u4.1 9 i = _; rw [a8 9 (by omega) (by omega) (by omega)]
        · show u4.1 10 i = _; rw [a8 10 (by omega) (by omega) (by omega)]
      · rw [if_neg c] at e5 ⊢
        refine ⟨_, fin_res (t1 := t) hR psh_kp psh_st e5 k3 c3 a5 s4 a3 a4 (Or.inr ⟨⟨?_, ?_, ?_, ?_, ?_, ?_, ?_⟩, Kp.of (fun k hk => ?_), fun i _ => ⟨?_, ?_⟩⟩)⟩
        · rw [a7 25 (by omega) (by omega) (by omega)]; exact E1
        · rw [a7 36 (by omega) (by omega) (by omega)]; exact E2
        · rw [a7 39 (by omega) (by omega) (by omega)]; exact E3
        · rw [a7 40 (by omega) (by omega) (by omega), a8 5 (by omega) (by omega) (by omega)]; exact E4
        · rw [a7 26 (by omega) (by omega) (by omega)]; exact E5
        · rw [a7 29 (by omega) (by omega) (by omega)]; rfl
        · rw [a8 5 (by omega) (by omega) (by omega)]; exact E7
        · rw [a7 k (by omega) (by omega) (by omega)]; simp only [up2]; rw [if_neg (by omega)]
        · rw [a8 9 (by omega) (by omega) (by omega)]
        · rw [a8 10 (by omega) (by omega) (by omega)]
/-- the entry once more: the second time along -/
def psh2 (t : M2) (w : Nat) (v f x' : Int32) : M2 := up2 (qGo (up2 (up2 t 35 w 1) 34 w v) f x') 29 0 (nI (w + 1))
theorem act_twi {n N dd pp w : Nat} {r k : Nat → Nat} {go : Go} {x : Int32} {u : SC} {t : M2} (h : ActCx n r k N go dd pp w x u t) (hk : t 4 (r pp) = 3) : ∃ t', Res (qStepB t (nI (r pp))) dd w u t (kTwi go (u.2 pp) (nI dd) (nI (pp + 1)) x u).1 (kTwi go (u.2 pp) (nI dd) (nI (pp + 1)) x u).2 t' := by
  rw [stepB_lo (e := 3) h.q.1 (by omega) hk]
  rcases act_noted h with ⟨e1, e2⟩ | ⟨u1, t1, e1, e2, h1, s1, s2, s3, s4, s5⟩
  · have e3 : kTwi go (u.2 pp) (nI dd) (nI (pp + 1)) x u = (2, wr u 5 0 0) := by unfold kTwi; rw [e1]; rfl
    rw [e2, e3, stepC_brk]
    exact ⟨_, brk_res h.2.2.2.2.2.2.2.1 h.2.2.2.2.2.2.1⟩
  · rw [e2]
    obtain ⟨q1, q2, q3, q4, q5, q6, q7⟩ := h1.q
    have hk1 : t1 4 (r pp) = nI 3 := by rw [s2 4 (by omega)]; exact hk
    obtain ⟨g1, g2, g3, g4, g5, g6, g7, g8, g9, g10, g11, g12, g13, g14, g15, g16, g17⟩ := h1
    have hn := g6.1.1
    rw [s5] at q5 q6
    rw [stepC_psh q1 g9 g13 (by omega) hk1 (by omega) (by omega) (by omega), if_neg (by omega), g16]
    obtain ⟨t3, hR⟩ := push_sim g1 g2 g3 g4 g5 g6 g7 g8 g9 g10 g11 g12 g14 g15 (nI 3) (nI (r pp)) x
    have e3 : kTwi go (u.2 pp) (nI dd) (nI (pp + 1)) x u = (let rr := go (nI dd) (nI (pp + 1)) x u1; if rr.1 = 0 then (let qq := go (nI dd) (nI (pp + 1)) (x + rr.2.1 17 (u.2 pp)) rr.2; if qq.1 = 0 then (0, wr qq.2 5 0 (rr.2.1 5 0 + qq.2.1 5 0 + qq.2.1 18 (u.2 pp))) else qq) else rr) := by
      unfold kTwi; rw [e1]; dsimp only; rw [if_neg (by decide)]
    rw [e3]
    dsimp only
    generalize go (nI dd) (nI (pp + 1)) x u1 = rr at hR ⊢
    obtain ⟨o, u3⟩ := rr
    dsimp only at hR ⊢
    by_cases ho : o = 2
    · rw [if_neg (by rw [ho]; decide)]
      exact ⟨t3, (brk_up hR psh_st ho).pre (Rch.rf _) s1 s2 s3 s4⟩
    · have p := psh_at (t := t1) (w := w) (kd := nI 3) (q := nI (r pp)) (f := t1 37 0 + 1) (x' := x)
      obtain ⟨e5, E, k3, c3, S3⟩ := pop_ok (g6.stat (Stat.rf u1) psh_st) hR ho (by omega) (Or.inr (Or.inr (by rw [p.1, p.2.2.1]; exact ⟨by decide, by decide, r pp, q1, rfl, fun _ z => absurd z (by decide)⟩)))
      rw [p.1, p.2.2.1] at e5
      have e6 : qBackR (up2 t3 29 0 (nI w)) (nI 3) (nI (r pp)) = qTwice (up2 t3 29 0 (nI w)) (nI (r pp)) := by
        unfold qBackR; rw [if_neg (by decide), if_neg (by decide), if_neg (by decide), if_pos (by decide)]
      rw [e6] at e5
      have f7 : t3 7 (r pp) = u3.1 17 (u.2 pp) := by rw [hR.2.2.1 7 (by omega), hR.2.1.2 17 (by omega), q5]; rfl
      obtain ⟨d1, d2, d3, d4, d5, d6⟩ := k3.1 w (by omega)
      obtain ⟨E1, E2, E3, E4, E5, E6, E7⟩ := E
      by_cases o0 : o = 0
      · rw [if_pos o0]
        have e7 : qTwice (up2 t3 29 0 (nI w)) (nI (r pp)) = psh2 (up2 t3 29 0 (nI w)) w (t3 40 0) (t1 37 0 + 1) (x + u3.1 17 (u.2 pp)) := by
          unfold qTwice psh2
          rw [if_pos (show (up2 t3 29 0 (nI w)) 39 0 = 0 from E3.trans o0), show (up2 t3 29 0 (nI w)) 29 0 = nI w from rfl, ixn (by omega : w < 1000), if_pos (show (up2 t3 29 0 (nI w)) 35 w = 0 from d6.trans p.2.2.2.2), q2, nI_1, show (up2 t3 29 0 (nI w)) 31 w = t1 37 0 from d2.trans p.2.1, show (up2 t3 29 0 (nI w)) 33 w = x from (d4.trans p.2.2.2.1).trans g16, show (up2 t3 29 0 (nI w)) 7 (r pp) = u3.1 17 (u.2 pp) from f7]
          rfl
        rw [e7] at e5
        have sB : StatM t3 (psh2 (up2 t3 29 0 (nI w)) w (t3 40 0) (t1 37 0 + 1) (x + u3.1 17 (u.2 pp))) := ((((((((StatM.rf t3).up (by omega)).up (by omega)).up (by omega)).up (by omega)).up (by omega)).up (by omega)).up (by omega))
        have kB : Kp dd w t3 (psh2 (up2 t3 29 0 (nI w)) w (t3 40 0) (t1 37 0 + 1) (x + u3.1 17 (u.2 pp))) := by
          refine ⟨fun i hi => ?_, fun i _ => ⟨rfl, rfl⟩⟩
          have hne : ¬ i = w := by omega
          refine ⟨rfl, rfl, rfl, rfl, ?_, ?_⟩
          · show upd (t3 34) w (t3 40 0) i = _; rw [pk_un hne]
          · show upd (t3 35) w 1 i = _; rw [pk_un hne]
        have hS5 := S3.stat (Stat.rf u3) sB
        have hB3 : (fun j => kAdvises u3 (u3.2 j) (u3.1 9 dd)) = fun j => kAdvises u1 (u1.2 j) (u1.1 9 dd) := by
          funext j
          unfold kAdvises
          rw [hR.2.1.2 16 (by omega), hR.2.1.1, (c3 dd (Nat.le_refl _)).1]
        obtain ⟨t6, hR2⟩ := g1 dd (pp + 1) (x + u3.1 17 (u.2 pp)) (w + 1) u3 _ g2 (by omega) g4 hS5 hR.2.2.2.2.1 hR.2.2.2.1 ⟨E1, rfl, by
          show t1 37 0 + 1 = _
          rw [hB3, g14, nI_1]
          show _ = nI (cnt _ pp + _)
          rw [if_pos g15], rfl, E5, by
          show t3 27 (dd + 1) = _
          rw [(k3.2 (dd + 1) (Nat.le_refl _)).1, (c3 dd (Nat.le_refl _)).1]; exact g11, by
          show t3 28 (dd + 1) = _
          rw [(k3.2 (dd + 1) (Nat.le_refl _)).2, (c3 dd (Nat.le_refl _)).2]; exact g12, rfl⟩ (by omega)
        generalize go (nI dd) (nI (pp + 1)) (x + u3.1 17 (u.2 pp)) u3 = qq at hR2 ⊢
        obtain ⟨o6, u6⟩ := qq
        dsimp only at hR2 ⊢
        have k13 : Kp dd w t1 t3 := psh_kp.tr (k3.less (by omega))
        have s13 : StatM t1 t3 := psh_st.tr hR.2.2.1
        by_cases ho6 : o6 = 2
        · rw [if_neg (by rw [ho6]; decide)]
          exact ⟨t6, (((brk_up hR2 (StatM.rf _) ho6).pre (hR.1.tr e5) hR.2.1 (s13.tr sB) (k13.tr kB) c3)).pre (Rch.rf _) s1 s2 s3 s4⟩
        · have b30 : psh2 (up2 t3 29 0 (nI w)) w (t3 40 0) (t1 37 0 + 1) (x + u3.1 17 (u.2 pp)) 30 w = nI 3 := d1.trans p.1
          have b32 : psh2 (up2 t3 29 0 (nI w)) w (t3 40 0) (t1 37 0 + 1) (x + u3.1 17 (u.2 pp)) 32 w = nI (r pp) := d3.trans p.2.2.1
          obtain ⟨e8, F, k6, c6, S6⟩ := pop_ok hS5 hR2 ho6 (by omega) (Or.inr (Or.inr (by rw [b30, b32]; exact ⟨by decide, by decide, r pp, q1, rfl, fun _ z => absurd z (by decide)⟩)))
          rw [b30, b32] at e8
          have e9 : qBackR (up2 t6 29 0 (nI w)) (nI 3) (nI (r pp)) = qTwice (up2 t6 29 0 (nI w)) (nI (r pp)) := by
            unfold qBackR; rw [if_neg (by decide), if_neg (by decide), if_neg (by decide), if_pos (by decide)]
          rw [e9] at e8
          obtain ⟨F1, F2, F3, F4, F5, F6, F7⟩ := F
          obtain ⟨m1, m2, m3, m4, m5, m6⟩ := k6.1 w (by omega)
          have f8 : t6 8 (r pp) = u6.1 18 (u.2 pp) := by rw [hR2.2.2.1 8 (by omega), sB 8 (by omega), hR2.2.1.2 18 (by omega), hR.2.2.1 8 (by omega), hR.2.1.2 18 (by omega), q6]; rfl
          by_cases o60 : o6 = 0
          · rw [if_pos o60]
            have e10 : qTwice (up2 t6 29 0 (nI w)) (nI (r pp)) = up2 (up2 t6 29 0 (nI w)) 40 0 (u3.1 5 0 + u6.1 5 0 + u6.1 18 (u.2 pp)) := by
              have b35 : (up2 t6 29 0 (nI w)) 35 w = 1 := m6.trans (by show upd (t3 35) w 1 w = 1; exact pk_us)
              have b34 : (up2 t6 29 0 (nI w)) 34 w = u3.1 5 0 := (m5.trans (by show upd (t3 34) w (t3 40 0) w = t3 40 0; exact pk_us)).trans E4
              unfold qTwice
              rw [if_pos (show (up2 t6 29 0 (nI w)) 39 0 = 0 from F3.trans o60), show (up2 t6 29 0 (nI w)) 29 0 = nI w from rfl, ixn (by omega : w < 1000), if_neg (by rw [b35]; decide), q2, b34, show (up2 t6 29 0 (nI w)) 40 0 = u6.1 5 0 from F4, show (up2 t6 29 0 (nI w)) 8 (r pp) = u6.1 18 (u.2 pp) from f8]
            rw [e10] at e8
            exact ⟨_, ((fin_res (t1 := psh2 (up2 t3 29 0 (nI w)) w (t3 40 0) (t1 37 0 + 1) (x + u3.1 17 (u.2 pp))) (o := 0) (u4 := wr u6 5 0 (u3.1 5 0 + u6.1 5 0 + u6.1 18 (u.2 pp))) hR2 (Kp.rf _ _ _) (StatM.rf _) e8 k6 c6 ((Stat.rf u6).wr (by omega)) (((StatM.rf t6).up (by omega)).up (by omega)) hR2.2.2.2.1 hR2.2.2.2.2.1 (Or.inr ⟨⟨F1, F2, F3.trans o60, rfl, F5, rfl, Or.inl rfl⟩, Kp.of (fun k hk => by simp only [up2]; rw [if_neg (by omega), if_neg (by omega)]), fun _ _ => ⟨rfl, rfl⟩⟩)).pre (hR.1.tr e5) hR.2.1 (s13.tr sB) (k13.tr kB) c3).pre (Rch.rf _) s1 s2 s3 s4⟩
          · rw [if_neg o60]
            have e10 : qTwice (up2 t6 29 0 (nI w)) (nI (r pp)) = up2 t6 29 0 (nI w) := by
              unfold qTwice
              rw [if_neg (show ¬ (up2 t6 29 0 (nI w)) 39 0 = 0 from fun z => o60 (F3.symm.trans z))]
            rw [e10] at e8
            exact ⟨_, ((fin_res (t1 := psh2 (up2 t3 29 0 (nI w)) w (t3 40 0) (t1 37 0 + 1) (x + u3.1 17 (u.2 pp))) hR2 (Kp.rf _ _ _) (StatM.rf _) e8 k6 c6 (Stat.rf u6) ((StatM.rf t6).up (by omega)) hR2.2.2.2.1 hR2.2.2.2.2.1 (Or.inr ⟨⟨F1, F2, F3, F4, F5, rfl, F7⟩, Kp.of (fun k hk => by simp only [up2]; rw [if_neg (by omega)]), fun _ _ => ⟨rfl, rfl⟩⟩)).pre (hR.1.tr e5) hR.2.1 (s13.tr sB) (k13.tr kB) c3).pre (Rch.rf _) s1 s2 s3 s4⟩
      · rw [if_neg o0]
        have e7 : qTwice (up2 t3 29 0 (nI w)) (nI (r pp)) = up2 t3 29 0 (nI w) := by
          unfold qTwice
          rw [if_neg (show ¬ (up2 t3 29 0 (nI w)) 39 0 = 0 from fun z => o0 (E3.symm.trans z))]
        rw [e7] at e5
        exact ⟨_, (fin_res (t1 := t1) hR psh_kp psh_st e5 k3 c3 (Stat.rf u3) ((StatM.rf t3).up (by omega)) hR.2.2.2.1 hR.2.2.2.2.1 (Or.inr ⟨⟨E1, E2, E3, E4, E5, rfl, E7⟩, Kp.of (fun k hk => by simp only [up2]; rw [if_neg (by omega)]), fun _ _ => ⟨rfl, rfl⟩⟩)).pre (Rch.rf _) s1 s2 s3 s4⟩
