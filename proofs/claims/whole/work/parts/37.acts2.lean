theorem fin_res {T : M2} {dd w : Nat} {t1 t2 t3 t4 : M2} {u1 u3 u4 : SC} {o3 o : Int32} (hR : Res T dd (w + 1) u1 t2 o3 u3 t3) (k12 : Kp dd w t1 t2) (s12 : StatM t1 t2) (e : Rch t3 t4) (k23 : Kp dd (w + 1) t2 t3) (c3 : KpC dd u1 u3) (sU : Stat u3 u4) (sM : StatM t3 t4) (hD : RD u4 t4) (hI : IC u4) (hE : (o = 2 ∧ t4 25 0 = 1 ∧ u4.1 5 0 = 0) ∨ (End dd w o u4 t4 ∧ Kp dd w t3 t4 ∧ KpC dd u3 u4)) : Res T dd w u1 t1 o u4 t4 :=
  ⟨hR.1.tr e, hR.2.1.tr sU, (s12.tr hR.2.2.1).tr sM, hD, hI, hE.imp id (fun ⟨a, b, c⟩ => ⟨a, (k12.tr (k23.less (by omega))).tr b, c3.tr c⟩)⟩
/-- the inner part was broken off -/
theorem brk_up {T : M2} {dd w : Nat} {t1 t2 t3 : M2} {u1 u3 : SC} {o : Int32} (hR : Res T dd (w + 1) u1 t2 o u3 t3) (s12 : StatM t1 t2) (ho : o = 2) : Res T dd w u1 t1 o u3 t3 := by
  obtain ⟨a1, a2, a3, a4, a5, a6⟩ := hR
  refine ⟨a1, a2, s12.tr a3, a4, a5, Or.inl ?_⟩
  rcases a6 with b | ⟨b, -⟩
  · exact b
  · rcases b.2.2.2.2.2.2 with c | ⟨c, -⟩
    · rw [c] at ho; exact absurd ho (by decide)
    · rw [c] at ho; exact absurd ho (by decide)
theorem kp_w {dd w : Nat} {t3 t4 : M2} (h : ∀ k, k = 27 ∨ k = 28 ∨ (30 ≤ k ∧ k ≤ 35) → t4 k = t3 k) : Kp dd w t3 t4 := Kp.of h
theorem End.o {dd w : Nat} {o : Int32} {u : SC} {t : M2} (h : End dd w o u t) : o = 0 ∨ o = 1 := h.2.2.2.2.2.2.imp id And.left
theorem act_chg {n N dd pp w : Nat} {r k : Nat → Nat} {go : Go} {x : Int32} {u : SC} {t : M2} (h : ActCx n r k N go dd pp w x u t) (hk : t 4 (r pp) = 1) : ∃ t', Res (qStepB t (nI (r pp))) dd w u t (kChg go (u.2 pp) (nI dd) (nI (pp + 1)) x u).1 (kChg go (u.2 pp) (nI dd) (nI (pp + 1)) x u).2 t' := by
  rw [stepB_lo (e := 1) h.q.1 (by omega) hk]
  rcases act_noted h with ⟨e1, e2⟩ | ⟨u1, t1, e1, e2, h1, s1, s2, s3, s4, s5⟩
  · have e3 : kChg go (u.2 pp) (nI dd) (nI (pp + 1)) x u = (2, wr u 5 0 0) := by unfold kChg; rw [e1]; rfl
    rw [e2, e3, stepC_brk]
    exact ⟨_, brk_res h.2.2.2.2.2.2.2.1 h.2.2.2.2.2.2.1⟩
  · rw [e2]
    obtain ⟨q1, q2, q3, q4, q5, q6, q7⟩ := h1.q
    have hk1 : t1 4 (r pp) = nI 1 := by rw [s2 4 (by omega)]; exact hk
    obtain ⟨g1, g2, g3, g4, g5, g6, g7, g8, g9, g10, g11, g12, g13, g14, g15, g16, g17⟩ := h1
    have hn := g6.1.1
    rw [s5] at q5 q6
    rw [stepC_psh q1 g9 g13 (by omega) hk1 (by omega) (by omega) (by omega), if_pos rfl, g16]
    obtain ⟨t3, hR⟩ := push_sim g1 g2 g3 g4 g5 g6 g7 g8 g9 g10 g11 g12 g14 g15 (nI 1) (nI (r pp)) (x + t1 7 (r pp))
    have e3 : kChg go (u.2 pp) (nI dd) (nI (pp + 1)) x u = (if (go (nI dd) (nI (pp + 1)) (x + t1 7 (r pp)) u1).1 = 0 then (0, wr (go (nI dd) (nI (pp + 1)) (x + t1 7 (r pp)) u1).2 5 0 ((go (nI dd) (nI (pp + 1)) (x + t1 7 (r pp)) u1).2.1 5 0 + (go (nI dd) (nI (pp + 1)) (x + t1 7 (r pp)) u1).2.1 18 (u.2 pp))) else go (nI dd) (nI (pp + 1)) (x + t1 7 (r pp)) u1) := by
      unfold kChg; rw [e1]; dsimp only; rw [if_neg (by decide), q5]
    rw [e3]
    generalize go (nI dd) (nI (pp + 1)) (x + t1 7 (r pp)) u1 = rr at hR ⊢
    obtain ⟨o, u3⟩ := rr
    dsimp only at hR ⊢
    by_cases ho : o = 2
    · rw [if_neg (by rw [ho]; decide)]
      exact ⟨t3, (brk_up hR psh_st ho).pre (Rch.rf _) s1 s2 s3 s4⟩
    · have p := psh_at (t := t1) (w := w) (kd := nI 1) (q := nI (r pp)) (f := t1 37 0 + 1) (x' := x + t1 7 (r pp))
      obtain ⟨e5, E, k3, c3, S3⟩ := pop_ok (g6.stat (Stat.rf u1) psh_st) hR ho (by omega) (Or.inr (Or.inr (by rw [p.1, p.2.2.1]; exact ⟨by decide, by decide, r pp, q1, rfl, fun _ z => absurd z (by decide)⟩)))
      rw [p.1, p.2.2.1] at e5
      have e6 : qBackR (up2 t3 29 0 (nI w)) (nI 1) (nI (r pp)) = up2 (up2 t3 29 0 (nI w)) 40 0 (if t3 39 0 = 0 then t3 40 0 + t3 8 (r pp) else t3 40 0) := by
        unfold qBackR; rw [if_neg (by decide), if_neg (by decide), if_pos (by decide), q2]; rfl
      rw [e6] at e5
      have f8 : t3 8 (r pp) = u3.1 18 (u.2 pp) := by rw [hR.2.2.1 8 (by omega), hR.2.1.2 18 (by omega), q6]; rfl
      obtain ⟨E1, E2, E3, E4, E5, E6, E7⟩ := E
      by_cases o0 : o = 0
      · rw [if_pos o0]
        rw [if_pos (E3.trans o0), E4, f8] at e5
        exact ⟨_, (fin_res (t1 := t1) (u4 := wr u3 5 0 (u3.1 5 0 + u3.1 18 (u.2 pp))) hR psh_kp psh_st e5 k3 c3 ((Stat.rf u3).wr (by omega)) (((StatM.rf t3).up (by omega)).up (by omega)) hR.2.2.2.1 hR.2.2.2.2.1 (Or.inr ⟨⟨E1, E2, E3.trans o0, rfl, E5, rfl, Or.inl rfl⟩, Kp.of (fun k hk => by simp only [up2]; rw [if_neg (by omega), if_neg (by omega)]), fun _ _ => ⟨rfl, rfl⟩⟩)).pre (Rch.rf _) s1 s2 s3 s4⟩
      · rw [if_neg o0]
        rw [if_neg (by rw [E3]; exact o0)] at e5
        exact ⟨_, (fin_res (t1 := t1) hR psh_kp psh_st e5 k3 c3 (Stat.rf u3) (((StatM.rf t3).up (by omega)).up (by omega)) hR.2.2.2.1 hR.2.2.2.2.1 (Or.inr ⟨⟨E1, E2, E3, E4, E5, rfl, E7⟩, Kp.of (fun k hk => by simp only [up2]; rw [if_neg (by omega), if_neg (by omega)]), fun _ _ => ⟨rfl, rfl⟩⟩)).pre (Rch.rf _) s1 s2 s3 s4⟩
theorem after_note {u : SC} {t : M2} (hD : RD u t) (hI : IC u) (a b : Int32) :
    (kNote u a b = (false, u) ∧ qNote t a b = up2 t 25 0 1) ∨ ∃ u4 t4, kNote u a b = (true, u4) ∧ qNote t a b = t4 ∧ RD u4 t4 ∧ IC u4 ∧ Stat u u4 ∧ StatM t t4 ∧ (∀ k, ¬ k = 19 → ¬ k = 20 → ¬ k = 21 → t4 k = t k) ∧ (∀ k, ¬ k = 8 → ¬ k = 11 → ¬ k = 12 → u4.1 k = u.1 k) ∧ u4.2 = u.2 := by
  rcases note_same hD a b with h | ⟨L, a0, a1, a2, a3⟩
  · exact Or.inl h
  · have hi := IC_note hI a b
    rw [a1] at hi
    refine Or.inr ⟨_, _, a1, a2, a3, hi, (((Stat.rf u).wr (by omega)).wr (by omega)).wr (by omega), (((StatM.rf t).up (by omega)).up (by omega)).up (by omega), fun k h1 h2 h3 => ?_, fun k h1 h2 h3 => ?_, rfl⟩
    · simp only [up2]
      rw [if_neg h1, if_neg h3, if_neg h2]
    · simp only [wr, up2]
      rw [if_neg h1, if_neg h3, if_neg h2]
theorem psh_hi {n N dd pp w : Nat} {r k : Nat → Nat} {go : Go} {x : Int32} {u : SC} {t : M2} (h : ActCx n r k N go dd pp w x u t) {e : Nat} (he : 3 < e) (he2 : e < 8) (hk : t 4 (r pp) = nI e) :
    qStepB t (nI (r pp)) = psh t w (nI e) (nI (r pp)) (t 37 0 + 1) x ∧ ∃ t3, Res (psh t w (nI e) (nI (r pp)) (t 37 0 + 1) x) dd (w + 1) u (psh t w (nI e) (nI (r pp)) (t 37 0 + 1) x) (go (nI dd) (nI (pp + 1)) x u).1 (go (nI dd) (nI (pp + 1)) x u).2 t3 := by
  have hq := h.q
  obtain ⟨g1, g2, g3, g4, g5, g6, g7, g8, g9, g10, g11, g12, g13, g14, g15, g16, g17⟩ := h
  have hn := g6.1.1
  refine ⟨?_, push_sim g1 g2 g3 g4 g5 g6 g7 g8 g9 g10 g11 g12 g14 g15 (nI e) (nI (r pp)) x⟩
  rw [stepB_hi hq.1 he he2 hk, stepC_psh hq.1 g9 g13 (by omega) hk he2 (by omega) (by omega), if_neg (by omega), g16]
theorem act_ret {n N dd pp w : Nat} {r k : Nat → Nat} {go : Go} {x : Int32} {u : SC} {t : M2} (h : ActCx n r k N go dd pp w x u t) (hk : t 4 (r pp) = 4) : ∃ t', Res (qStepB t (nI (r pp))) dd w u t (kRet go (u.2 pp) (nI dd) (nI (pp + 1)) x u).1 (kRet go (u.2 pp) (nI dd) (nI (pp + 1)) x u).2 t' := by
  obtain ⟨e1, t3, hR⟩ := psh_hi h (e := 4) (by omega) (by omega) hk
  rw [e1]
  obtain ⟨q1, q2, q3, q4, q5, q6, q7⟩ := h.q
  obtain ⟨g1, g2, g3, g4, g5, g6, g7, g8, g9, g10, g11, g12, g13, g14, g15, g16, g17⟩ := h
  have hn := g6.1.1
  unfold kRet
  dsimp only
  generalize go (nI dd) (nI (pp + 1)) x u = rr at hR ⊢
  obtain ⟨o, u3⟩ := rr
  dsimp only at hR ⊢
  by_cases ho : o = 2
  · rw [if_neg (by rw [ho]; decide)]
    exact ⟨t3, brk_up hR psh_st ho⟩
  · have p := psh_at (t := t) (w := w) (kd := nI 4) (q := nI (r pp)) (f := t 37 0 + 1) (x' := x)
    obtain ⟨e5, E, k3, c3, S3⟩ := pop_ok (g6.stat (Stat.rf u) psh_st) hR ho (by omega) (Or.inr (Or.inr (by rw [p.1, p.2.2.1]; exact ⟨by decide, by decide, r pp, q1, rfl, fun _ z => absurd z (by decide)⟩)))
    rw [p.1, p.2.2.1] at e5
    have f3 : t3 3 (r pp) = u3.1 13 (u.2 pp) := by rw [hR.2.2.1 3 (by omega), hR.2.1.2 13 (by omega), q3]; rfl
    have f7 : t3 7 (r pp) = u3.1 17 (u.2 pp) := by rw [hR.2.2.1 7 (by omega), hR.2.1.2 17 (by omega), q5]; rfl
    have f8 : t3 8 (r pp) = u3.1 18 (u.2 pp) := by rw [hR.2.2.1 8 (by omega), hR.2.1.2 18 (by omega), q6]; rfl
    obtain ⟨E1, E2, E3, E4, E5, E6, E7⟩ := E
    by_cases o0 : o = 0
    · rw [if_pos o0]
      have e6 : qBackR (up2 t3 29 0 (nI w)) (nI 4) (nI (r pp)) = (if (qNote (up2 t3 29 0 (nI w)) (u3.1 13 (u.2 pp)) (u3.1 5 0)) 40 0 = (qNote (up2 t3 29 0 (nI w)) (u3.1 13 (u.2 pp)) (u3.1 5 0)) 7 (r pp) then qComes (qNote (up2 t3 29 0 (nI w)) (u3.1 13 (u.2 pp)) (u3.1 5 0)) true ((qNote (up2 t3 29 0 (nI w)) (u3.1 13 (u.2 pp)) (u3.1 5 0)) 8 (r pp)) else qNote (up2 t3 29 0 (nI w)) (u3.1 13 (u.2 pp)) (u3.1 5 0)) := by
        unfold qBackR; rw [if_neg (by decide), if_neg (by decide), if_neg (by decide), if_neg (by decide), if_neg (by decide), if_pos ⟨by decide, E3.trans o0⟩, q2, show (up2 t3 29 0 (nI w)) 3 (r pp) = u3.1 13 (u.2 pp) from f3, show (up2 t3 29 0 (nI w)) 40 0 = u3.1 5 0 from E4]
      rw [e6] at e5
      have hD' : RD u3 (up2 t3 29 0 (nI w)) := hR.2.2.2.1
      rcases after_note hD' hR.2.2.2.2.1 (u3.1 13 (u.2 pp)) (u3.1 5 0) with ⟨a1, a2⟩ | ⟨u4, t4, a1, a2, a3, a4, a5, a6, a7, a8, a9⟩
      · rw [a1]
        rw [a2] at e5
        dsimp only
        rw [if_pos rfl]
        by_cases c : (up2 (up2 t3 29 0 (nI w)) 25 0 1) 40 0 = (up2 (up2 t3 29 0 (nI w)) 25 0 1) 7 (r pp)
        · rw [if_pos c] at e5
          exact ⟨_, fin_res (t1 := t) hR psh_kp psh_st e5 k3 c3 ((Stat.rf u3).wr (by omega)) (((((StatM.rf t3).up (by omega)).up (by omega)).up (by omega)).up (by omega) |>.up (by omega)) hR.2.2.2.1 hR.2.2.2.2.1 (Or.inl ⟨rfl, rfl, rfl⟩)⟩
        · rw [if_neg c] at e5
          exact ⟨_, fin_res (t1 := t) hR psh_kp psh_st e5 k3 c3 ((Stat.rf u3).wr (by omega)) (((StatM.rf t3).up (by omega)).up (by omega)) hR.2.2.2.1 hR.2.2.2.2.1 (Or.inl ⟨rfl, rfl, rfl⟩)⟩
      · rw [a1]
        rw [a2, a7 40 (by omega) (by omega) (by omega), a7 7 (by omega) (by omega) (by omega), a7 8 (by omega) (by omega) (by omega)] at e5
        dsimp only
        rw [if_neg (by decide), a8 5 (by omega) (by omega) (by omega), a8 17 (by omega) (by omega) (by omega), a8 18 (by omega) (by omega) (by omega)]
        have e7 : (up2 t3 29 0 (nI w)) 40 0 = u3.1 5 0 := E4
        have e8 : (up2 t3 29 0 (nI w)) 7 (r pp) = u3.1 17 (u.2 pp) := f7
        have e9 : (up2 t3 29 0 (nI w)) 8 (r pp) = u3.1 18 (u.2 pp) := f8
        rw [e7, e8, e9] at e5
        have s4 : StatM t3 t4 := ((StatM.rf t3).up (by omega)).tr a6
        by_cases c : u3.1 5 0 = u3.1 17 (u.2 pp)
        · rw [if_pos c] at e5 ⊢
          have hx : ∃ e, 1 ≤ e ∧ e ≤ 15 ∧ u3.1 18 (u.2 pp) = nI e := by
            rw [hk] at q7
            obtain ⟨e, h1, h2, h3⟩ := exc_of (show qIsExc (t 8 (r pp)) = true from q7)
            exact ⟨e, h1, h2, by rw [← h3, ← f8, hR.2.2.1 8 (by omega)]; rfl⟩
          refine ⟨_, fin_res (t1 := t) hR psh_kp psh_st e5 k3 c3 (a5.wr (by omega)) (((s4.up (by omega)).up (by omega)).up (by omega)) a3 a4 (Or.inr ⟨⟨?_, rfl, rfl, rfl, ?_, ?_, Or.inr ⟨rfl, hx⟩⟩, Kp.of (fun k hk => ?_), fun i _ => ⟨?_, ?_⟩⟩)⟩
          · show t4 25 0 = 0; rw [a7 25 (by omega) (by omega) (by omega)]; exact E1
          · show t4 26 0 = _; rw [a7 26 (by omega) (by omega) (by omega)]; exact E5
          · show t4 29 0 = _; rw [a7 29 (by omega) (by omega) (by omega)]; rfl
          · simp only [qComes, up2]; rw [if_neg (by omega), if_neg (by omega), if_neg (by omega), a7 k (by omega) (by omega) (by omega)]; simp only [up2]; rw [if_neg (by omega)]
          · show u4.1 9 i = _; rw [a8 9 (by omega) (by omega) (by omega)]
          · show u4.1 10 i = _; rw [a8 10 (by omega) (by omega) (by omega)]
        · rw [if_neg c] at e5 ⊢
          refine ⟨_, fin_res (t1 := t) hR psh_kp psh_st e5 k3 c3 a5 s4 a3 a4 (Or.inr ⟨⟨?_, ?_, ?_, ?_, ?_, ?_, Or.inl rfl⟩, Kp.of (fun k hk => ?_), fun i _ => ⟨?_, ?_⟩⟩)⟩
          · rw [a7 25 (by omega) (by omega) (by omega)]; exact E1
          · rw [a7 36 (by omega) (by omega) (by omega)]; exact E2
          · rw [a7 39 (by omega) (by omega) (by omega)]; exact E3.trans o0
          · rw [a7 40 (by omega) (by omega) (by omega), a8 5 (by omega) (by omega) (by omega)]; exact E4
          · rw [a7 26 (by omega) (by omega) (by omega)]; exact E5
          · rw [a7 29 (by omega) (by omega) (by omega)]; rfl
          · rw [a7 k (by omega) (by omega) (by omega)]; simp only [up2]; rw [if_neg (by omega)]
          · rw [a8 9 (by omega) (by omega) (by omega)]
          · rw [a8 10 (by omega) (by omega) (by omega)]
    · rw [if_neg o0]
      have e6 : qBackR (up2 t3 29 0 (nI w)) (nI 4) (nI (r pp)) = up2 t3 29 0 (nI w) := by
        unfold qBackR; rw [if_neg (by decide), if_neg (by decide), if_neg (by decide), if_neg (by decide), if_neg (by decide), if_neg (fun z => o0 (E3.symm.trans z.2)), if_neg (fun z => absurd z.1 (by decide))]
      rw [e6] at e5
      exact ⟨_, fin_res (t1 := t) hR psh_kp psh_st e5 k3 c3 (Stat.rf u3) ((StatM.rf t3).up (by omega)) hR.2.2.2.1 hR.2.2.2.2.1 (Or.inr ⟨⟨E1, E2, E3, E4, E5, rfl, E7⟩, Kp.of (fun k hk => by simp only [up2]; rw [if_neg (by omega)]), fun _ _ => ⟨rfl, rfl⟩⟩)⟩
