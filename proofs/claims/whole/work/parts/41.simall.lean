/-! pure rows: the end of the chain, the chain, the whole invocation -/
theorem work_sim {n N dd w : Nat} {r k : Nat → Nat} {go : Go} {x : Int32} {u : SC} {t : M2} (hG : SimOK n r k N go) (hd : dd < 3) (hN : (2 - dd) * 7 ≤ N) (hw : w ≤ 8 * dd + 7) (hS : SR n r k u t) (hI : IC u) (hD : RD u t) (h25 : t 25 0 = 0) (h36 : t 36 0 = 1) (h26 : t 26 0 = nI (dd + 1)) (h27 : t 27 (dd + 1) = u.1 9 dd) (h28 : t 28 (dd + 1) = u.1 10 dd) (h29 : t 29 0 = nI w) (h38 : t 38 0 = x) :
    ∃ t', Res (qWork t) dd w u t (kWork go (nI dd) x u).1 (kWork go (nI dd) x u).2 t' := by
  obtain ⟨mm, hmm, em⟩ := hI.2.2.2.1 dd hd
  obtain ⟨tt, htt, et⟩ := hI.2.2.2.2.1 dd hd
  obtain ⟨j, hj, ej1, ej2⟩ : ∃ j, j < 12 ∧ tt * 6 + mm = j ∧ 6 * tt + mm = j := ⟨tt * 6 + mm, by omega, rfl, by omega⟩
  have ekw : kWork go (nI dd) x u = kWorkR go j (nI dd) x (kNote u (100 + nI mm) x) := by
    unfold kWork
    rw [ixn (by omega : dd < 1000), et, em, show (6 : Int32) = nI 6 from rfl, pk_mul, nI_add, ej1, ixn (by omega)]
  have eqw : qWork t = if (qNote t (100 + nI mm) x) 25 0 = 0 then qWorkR (qNote t (100 + nI mm) x) (nI j) else qNote t (100 + nI mm) x := by
    unfold qWork
    rw [h26, ixn (by omega : dd + 1 < 1000), h27, h28, et, em, h38, show (6 : Int32) = nI 6 from rfl, pk_mul, nI_add, ej2]
  rw [ekw, eqw]
  rcases after_note hD hI (100 + nI mm) x with ⟨a1, a2⟩ | ⟨u1, t1, a1, a2, a3, a4, a5, a6, a7, a8, a9⟩
  · rw [a1, a2, if_neg (by show ¬ (1 : Int32) = 0; decide)]
    exact ⟨_, brk_res hD hI⟩
  · have b25 : t1 25 0 = 0 := by rw [a7 25 (by omega) (by omega) (by omega)]; exact h25
    have b26 : t1 26 0 = nI (dd + 1) := by rw [a7 26 (by omega) (by omega) (by omega)]; exact h26
    have b29 : t1 29 0 = nI w := by rw [a7 29 (by omega) (by omega) (by omega)]; exact h29
    have b38 : t1 38 0 = x := by rw [a7 38 (by omega) (by omega) (by omega)]; exact h38
    have b36 : t1 36 0 = 1 := by rw [a7 36 (by omega) (by omega) (by omega)]; exact h36
    have S1 := hS.stat a5 a6
    have kp1 : Kp dd w t t1 := Kp.of (fun k hk => a7 k (by omega) (by omega) (by omega))
    have kc1 : KpC dd u u1 := fun i _ => ⟨by rw [a8 9 (by omega) (by omega) (by omega)], by rw [a8 10 (by omega) (by omega) (by omega)]⟩
    obtain ⟨w1, w2, w3, w4, w5⟩ := S1.2.2.1 j hj
    obtain ⟨ee, he, e15⟩ := S1.2.2.2.1 j hj
    rw [a1, a2, if_pos b25]
    have hix : ix (nI j) = j := ixn (by omega)
    by_cases f : 0 < t1 15 j ∧ t1 14 j = t1 38 0
    · have hfo : kFailsOn u1 j x = true := by
        unfold kFailsOn
        rw [w4, w3, if_neg (fun z => z_ne f.1 z.symm), if_pos (by rw [f.2]; exact b38.symm)]
      have e1 : kWorkR go j (nI dd) x (true, u1) = (1, wr u1 5 0 (t1 15 j)) := by
        unfold kWorkR; dsimp only; rw [if_neg (by decide), if_pos hfo, w4]
      have e2 : qWorkR t1 (nI j) = qComes t1 true (t1 15 j) := by
        unfold qWorkR; rw [hix, if_pos f]
      rw [e1, e2]
      have hpos : 1 ≤ ee := by
        have := f.1
        rw [e15, show (0 : Int32) = nI 0 from rfl, nlt (by omega) (by omega)] at this
        omega
      exact ⟨_, (comes_res S1 a3 a4 b25 b26 b29 true rfl (fun _ => ⟨ee, hpos, he, e15⟩)).pre (Rch.rf _) a5 a6 kp1 kc1⟩
    · have hfo : ¬ kFailsOn u1 j x = true := by
        unfold kFailsOn
        rw [w4, w3]
        by_cases z : t1 15 j = 0
        · rw [if_pos z]; decide
        · rw [if_neg z]
          by_cases z2 : x = t1 14 j
          · exfalso
            refine f ⟨?_, by rw [b38]; exact z2.symm⟩
            rw [e15, show (0 : Int32) = nI 0 from rfl, nlt (by omega) (by omega)]
            have : ee ≠ 0 := fun q => z (by rw [e15, q]; rfl)
            omega
          · rw [if_neg z2]; decide
      by_cases g : ¬ t1 16 j = -1 ∧ 0 < t1 38 0
      · obtain ⟨g1, g2⟩ := g
        obtain ⟨m2, hm2, em2⟩ : ∃ e, e < 6 ∧ t1 16 j = nI e := (S1.2.2.2.2.1 j hj).elim (fun z => absurd z g1) id
        have hx0 : ¬ x ≤ 0 := by
          rw [← b38]; intro z
          simp only [Int32.lt_iff_toInt_lt, Int32.le_iff_toInt_le] at *; omega
        have e1 : kWorkR go j (nI dd) x (true, u1) = (if (kBegin go (nI m2) (x - 1) (nI (dd + 1)) u1).1 = 0 then (0, wr (kBegin go (nI m2) (x - 1) (nI (dd + 1)) u1).2 5 0 (kReckon (kBegin go (nI m2) (x - 1) (nI (dd + 1)) u1).2 j ((kBegin go (nI m2) (x - 1) (nI (dd + 1)) u1).2.1 5 0))) else kBegin go (nI m2) (x - 1) (nI (dd + 1)) u1) := by
          unfold kWorkR; dsimp only; rw [if_neg (by decide), if_neg hfo, w5, if_neg g1, if_neg hx0, em2, nI_1]
        have e2 : qWorkR t1 (nI j) = qEnter (qAwait t1 8 (nI j)) (nI m2) (x - 1) := by
          unfold qWorkR; rw [hix, if_neg f, if_pos ⟨g1, g2⟩, em2, b38]
        rw [e1, e2]
        have eaw := qAwait_at b29 (by omega) 8 (nI j)
        rw [eaw]
        generalize hta : up2 (up2 (up2 (up2 (up2 (up2 t1 30 w 8) 31 w (t1 37 0)) 32 w (nI j)) 33 w (t1 38 0)) 35 w 0) 29 0 (nI (w + 1)) = ta
        have sA : StatM t1 ta := by rw [← hta]; exact ((((((StatM.rf t1).up (by omega)).up (by omega)).up (by omega)).up (by omega)).up (by omega)).up (by omega)
        have hkw : ∀ i, i < w → ∀ f : Nat → Int32, ∀ v, upd f w v i = f i := fun i hi f v => pk_un (by omega)
        have kA : Kp dd w t1 ta := by
          rw [← hta]
          exact ⟨fun i hi => ⟨hkw i hi _ _, hkw i hi _ _, hkw i hi _ _, hkw i hi _ _, rfl, hkw i hi _ _⟩, fun _ _ => ⟨rfl, rfl⟩⟩
        have A30 : ta 30 w = 8 := by rw [← hta]; exact pk_us
        have A32 : ta 32 w = nI j := by rw [← hta]; exact pk_us
        have A29 : ta 29 0 = nI (w + 1) := by rw [← hta]; rfl
        have A26 : ta 26 0 = nI (dd + 1) := by rw [← hta]; exact b26
        have A25 : ta 25 0 = 0 := by rw [← hta]; exact b25
        have SA := S1.stat (Stat.rf u1) sA
        have DA : RD u1 ta := by rw [← hta]; exact a3
        by_cases d2 : dd = 2
        · have e3 : kBegin go (nI m2) (x - 1) (nI (dd + 1)) u1 = (1, wr u1 5 0 15) := by
            unfold kBegin; rw [d2, if_pos (by decide)]
          have e4 : qEnter ta (nI m2) (x - 1) = qComes ta true 15 := by
            unfold qEnter; rw [if_pos (by rw [A26, d2]; rfl)]
          rw [e3, e4, if_neg (show ¬ ((1 : Int32), wr u1 5 0 15).1 = 0 from by show ¬ (1 : Int32) = 0; decide)]
          have sC : StatM ta (qComes ta true 15) := (((StatM.rf ta).up (by omega)).up (by omega)).up (by omega)
          have hok : okRun (qComes ta true 15) := ok_back (w := w) (SA.stat (Stat.rf u1) sC) DA A25 rfl A29 (by omega) (Or.inr (Or.inl ⟨A30, j, hj, A32⟩))
          have e5 := Rch.one hok
          rw [qRun_back rfl, qBack_at (t := qComes ta true 15) (w := w) A29 (by omega), show (qComes ta true 15) 30 w = 8 from A30, show (qComes ta true 15) 32 w = nI j from A32] at e5
          have e6 : qBackR (up2 (qComes ta true 15) 29 0 (nI w)) 8 (nI j) = up2 (up2 (qComes ta true 15) 29 0 (nI w)) 40 0 15 := by
            unfold qBackR; rw [if_neg (by decide), if_pos rfl, if_neg (show ¬ (up2 (qComes ta true 15) 29 0 (nI w)) 39 0 = 0 by show ¬ (1 : Int32) = 0; decide)]; rfl
          rw [e6] at e5
          refine ⟨_, e5, a5.wr (by omega), ((a6.tr sA).tr sC).up (by omega) |>.up (by omega), DA, a4, Or.inr ⟨⟨A25, rfl, rfl, rfl, A26, rfl, Or.inr ⟨rfl, 15, by omega, by omega, rfl⟩⟩, (kp1.tr kA).tr (Kp.of (fun k hk => ?_)), fun i hi => kc1 i hi⟩⟩
          simp only [qComes, up2]; rw [if_neg (by omega), if_neg (by omega), if_neg (by omega), if_neg (by omega), if_neg (by omega)]
        · have hd1 : dd + 1 < 3 := by omega
          obtain ⟨t2, f1, f2, f3, f4, f5, f6, f7, f8, f9, f10⟩ := enter_sim (w := w + 1) hd1 hm2 (by omega) SA a4 DA A25 A26 A29 (x - 1)
          generalize hu2 : wr (kTake (wr u1 9 (dd + 1) (nI m2))).2 10 (dd + 1) (kTake (wr u1 9 (dd + 1) (nI m2))).1 = u2 at f2 f3 f4 f5 f10
          have e3 : kBegin go (nI m2) (x - 1) (nI (dd + 1)) u1 = go (nI (dd + 1)) (nI 0) (x - 1) u2 := by
            unfold kBegin
            rw [if_neg (by rw [show (3 : Int32) = nI 3 from rfl, nle (by omega) (by omega)]; omega), ixn (by omega : dd + 1 < 1000), hu2]; rfl
          have e4 : qEnter ta (nI m2) (x - 1) = t2 := by
            unfold qEnter; rw [if_neg (by rw [A26, show (3 : Int32) = nI 3 from rfl, neq (by omega) (by omega)]; omega), f1]
          rw [e3, e4]
          have S2 := SA.stat f5 f6
          obtain ⟨t3, hR⟩ := hG (dd + 1) 0 (x - 1) (w + 1 + 1) u2 t2 hd1 (by omega) (by omega) S2 f4 f3 f2 (by omega)
          generalize go (nI (dd + 1)) (nI 0) (x - 1) u2 = rr at hR ⊢
          obtain ⟨o, u3⟩ := rr
          dsimp only at hR ⊢
          have kp2 : Kp dd w ta t2 := ⟨fun i hi => f8 i (by omega), fun i hi => f9 i (by omega)⟩
          have kc2 : KpC dd u1 u2 := fun i hi => f10 i (by omega)
          have s02 : StatM t t2 := (a6.tr sA).tr f6
          have k02 : Kp dd w t t2 := (kp1.tr kA).tr kp2
          by_cases ho : o = 2
          · rw [if_neg (by rw [ho]; decide)]
            obtain ⟨z1, z2, z3, z4, z5, z6⟩ := hR
            refine ⟨t3, z1, a5.tr (f5.tr z2), s02.tr z3, z4, z5, Or.inl ?_⟩
            rcases z6 with z | ⟨z, -⟩
            · exact z
            · rcases z.o with q | q
              · rw [q] at ho; exact absurd ho (by decide)
              · rw [q] at ho; exact absurd ho (by decide)
          · obtain ⟨e5, F, k3, c3, S3⟩ := pop_ok (w := w + 1) S2 hR ho (by omega) (Or.inl f7)
            obtain ⟨F1, F2, F3, F4, F5, F6, F7⟩ := F
            rw [f7] at e5
            have e6 : qBackR (up2 t3 29 0 (nI (w + 1))) 9 (t2 32 (w + 1)) = up2 (up2 t3 29 0 (nI (w + 1))) 26 0 (nI (dd + 1)) := by
              unfold qBackR; rw [if_pos rfl, show (up2 t3 29 0 (nI (w + 1))) 26 0 = nI (dd + 1 + 1) from F5, nI_pred]
            rw [e6] at e5
            generalize ht4 : up2 (up2 t3 29 0 (nI (w + 1))) 26 0 (nI (dd + 1)) = t4 at e5
            have s34 : StatM t3 t4 := by rw [← ht4]; exact ((StatM.rf t3).up (by omega)).up (by omega)
            have G25 : t4 25 0 = 0 := by rw [← ht4]; exact F1
            have G36 : t4 36 0 = 0 := by rw [← ht4]; exact F2
            have G39 : t4 39 0 = o := by rw [← ht4]; exact F3
            have G40 : t4 40 0 = u3.1 5 0 := by rw [← ht4]; exact F4
            have G26 : t4 26 0 = nI (dd + 1) := by rw [← ht4]; rfl
            have G29 : t4 29 0 = nI (w + 1) := by rw [← ht4]; rfl
            have G30 : t4 30 w = 8 := by
              have z : t4 30 w = t3 30 w := by rw [← ht4]; rfl
              rw [z, (k3.1 w (by omega)).1, (f8 w (by omega)).1, A30]
            have G32 : t4 32 w = nI j := by
              have z : t4 32 w = t3 32 w := by rw [← ht4]; rfl
              rw [z, (k3.1 w (by omega)).2.2.1, (f8 w (by omega)).2.2.1, A32]
            have k34 : Kp dd w t3 t4 := by rw [← ht4]; exact Kp.of (fun k hk => by simp only [up2]; rw [if_neg (by omega), if_neg (by omega)])
            have D4 : RD u3 t4 := by rw [← ht4]; exact hR.2.2.2.1
            have S4 := S3.stat (Stat.rf u3) s34
            have hok : okRun t4 := ok_back S4 D4 G25 G36 G29 (by omega) (Or.inr (Or.inl ⟨G30, j, hj, G32⟩))
            have e7 := Rch.one hok
            rw [qRun_back G36, qBack_at G29 (by omega), G30, G32] at e7
            have k23 : Kp dd w t2 t3 := ⟨fun i hi => k3.1 i (by omega), fun i hi => k3.2 i (by omega)⟩
            have c23 : KpC dd u2 u3 := fun i hi => c3 i (by omega)
            obtain ⟨v1, v2, v3, v4, v5⟩ := S4.2.2.1 j hj
            by_cases o0 : o = 0
            · rw [if_pos o0]
              have e8 : qBackR (up2 t4 29 0 (nI w)) 8 (nI j) = up2 (up2 t4 29 0 (nI w)) 40 0 (kReckon u3 j (u3.1 5 0)) := by
                unfold qBackR kReckon; rw [if_neg (by decide), if_pos rfl, if_pos (show (up2 t4 29 0 (nI w)) 39 0 = 0 from G39.trans o0), hix, show (up2 t4 29 0 (nI w)) 40 0 = u3.1 5 0 from G40, show (up2 t4 29 0 (nI w)) 12 j = u3.1 22 j from v1.symm, show (up2 t4 29 0 (nI w)) 13 j = u3.1 23 j from v2.symm]
              rw [e8] at e7
              refine ⟨_, (hR.1.tr e5).tr e7, (a5.tr (f5.tr hR.2.1)).wr (by omega), (((s02.tr hR.2.2.1).tr s34).up (by omega)).up (by omega), D4, hR.2.2.2.2.1, Or.inr ⟨⟨G25, G36, G39.trans o0, rfl, G26, rfl, Or.inl rfl⟩, ((k02.tr k23).tr k34).tr (Kp.of (fun k hk => ?_)), fun i hi => ((kc1.tr kc2).tr c23) i hi⟩⟩
              simp only [up2]; rw [if_neg (by omega), if_neg (by omega)]
            · rw [if_neg o0]
              have e8 : qBackR (up2 t4 29 0 (nI w)) 8 (nI j) = up2 (up2 t4 29 0 (nI w)) 40 0 (u3.1 5 0) := by
                unfold qBackR; rw [if_neg (by decide), if_pos rfl, if_neg (show ¬ (up2 t4 29 0 (nI w)) 39 0 = 0 from fun z => o0 (G39.symm.trans z)), show (up2 t4 29 0 (nI w)) 40 0 = u3.1 5 0 from G40]
              rw [e8] at e7
              refine ⟨_, (hR.1.tr e5).tr e7, a5.tr (f5.tr hR.2.1), (((s02.tr hR.2.2.1).tr s34).up (by omega)).up (by omega), D4, hR.2.2.2.2.1, Or.inr ⟨⟨G25, G36, G39, rfl, G26, rfl, F7⟩, ((k02.tr k23).tr k34).tr (Kp.of (fun k hk => ?_)), fun i hi => ((kc1.tr kc2).tr c23) i hi⟩⟩
              simp only [up2]; rw [if_neg (by omega), if_neg (by omega)]
      · have e1 : kWorkR go j (nI dd) x (true, u1) = (0, wr u1 5 0 (t1 12 j * x + t1 13 j)) := by
          unfold kWorkR kReckon; dsimp only; rw [if_neg (by decide), if_neg hfo, w5, w1, w2]
          by_cases z : t1 16 j = -1
          · rw [if_pos z]
          · rw [if_neg z, if_pos]
            have z2 : ¬ 0 < t1 38 0 := fun q => g ⟨z, q⟩
            rw [b38] at z2
            simp only [Int32.lt_iff_toInt_lt, Int32.le_iff_toInt_le] at *; omega
        have e2 : qWorkR t1 (nI j) = qComes t1 false (t1 12 j * x + t1 13 j) := by
          unfold qWorkR; rw [hix, if_neg f, if_neg g, b38]
        rw [e1, e2]
        exact ⟨_, (comes_res S1 a3 a4 b25 b26 b29 false rfl (fun z => by cases z)).pre (Rch.rf _) a5 a6 kp1 kc1⟩
theorem along_sim {n N : Nat} {r k : Nat → Nat} {go : Go} (hG : SimOK n r k N go) : SimOK n r k (N + 1) (kAlong go) := by
  intro dd ff x w u t hd hff hN hS hI hD hA hw
  have hn := hS.1.1
  obtain ⟨mm, hmm, em⟩ := hI.2.2.2.1 dd hd
  have hb : bitsOk (u.1 9 dd) := by rw [em]; exact bits_ok mm hmm
  obtain ⟨h25, h36, h37, h38, h26, h27, h28, h29⟩ := hA
  have hok : okRun t := ok_step hd hS hI hD h25 h36 h26 h27 h28 h29 (by omega)
  have e0 := Rch.one hok
  rw [qRun_step h36] at e0
  have est : qStep t = if qLinked t (u.1 9 dd) (t 37 0) < 0 then qWork t else qStepA t (qLinked t (u.1 9 dd) (t 37 0)) := by
    unfold qStep
    rw [h26, ixn (by omega : dd + 1 < 1000), h27]
  have eal : kAlong go (nI dd) (nI ff) x u = (if kChainP u (u.1 9 dd) (nI ff) = -1 then kWork go (nI dd) x u else if u.1 19 (u.2 (ix (kChainP u (u.1 9 dd) (nI ff)))) = 0 then kAct go (u.2 (ix (kChainP u (u.1 9 dd) (nI ff)))) (nI dd) (kChainP u (u.1 9 dd) (nI ff) + 1) x u else if kInRange (wr u 3 0 (u.1 3 0 + 1)) (u.2 (ix (kChainP u (u.1 9 dd) (nI ff)))) x = true then kAct go (u.2 (ix (kChainP u (u.1 9 dd) (nI ff)))) (nI dd) (kChainP u (u.1 9 dd) (nI ff) + 1) x (wr u 3 0 (u.1 3 0 + 1)) else go (nI dd) (kChainP u (u.1 9 dd) (nI ff) + 1) x (wr u 3 0 (u.1 3 0 + 1))) := by
    unfold kAlong
    rw [ixn (by omega : dd < 1000)]
  rw [eal]
  rcases kChainL_spec u (u.1 9 dd) hn hS.1.2.1 7 ff hff (by omega) with ⟨c1, c2⟩ | ⟨pp, c1, c2, c3, c4, c5⟩
  · have c1' : kChainP u (u.1 9 dd) (nI ff) = -1 := c1
    rw [if_pos c1']
    have el : qLinked t (u.1 9 dd) (t 37 0) = -1 := by rw [h37]; exact link_none hS.1 hb hff c2
    rw [est, el, if_pos (by decide)] at e0
    obtain ⟨t', ht⟩ := work_sim hG hd (by omega) (by omega) hS hI hD h25 h36 h26 h27 h28 h29 h38
    exact ⟨t', ht.pre e0 (Stat.rf u) (StatM.rf t) (Kp.rf _ _ _) (KpC.rf _ _)⟩
  · have c3' : kChainP u (u.1 9 dd) (nI ff) = nI pp := c3
    have hcn : cnt (fun j => kAdvises u (u.2 j) (u.1 9 dd)) pp = cnt (fun j => kAdvises u (u.2 j) (u.1 9 dd)) ff := cnt_same c1 c5
    have el : qLinked t (u.1 9 dd) (t 37 0) = nI (r pp) := by rw [h37, ← hcn]; exact link_at hS.1 hb c2 c4
    have hr := hS.1.2.2.2.1 pp c2
    rw [est, el, if_neg (nI_nneg (by omega))] at e0
    rw [c3', if_neg (nI_ne_m1 (by omega)), ixn (by omega : pp < 1000), nI_1]
    obtain ⟨q1, q2, q3, q4, q5, q6, q7, q8⟩ := hS.1.2.2.2.2.2.2.1 pp c2
    have esa : qStepA t (nI (r pp)) = if t 9 (r pp) = 0 then qStepB t (nI (r pp)) else if qWithin x (t 10 (r pp)) (t 11 (r pp)) = true then qStepB (up2 t 22 0 (t 22 0 + 1)) (nI (r pp)) else up2 (up2 t 22 0 (t 22 0 + 1)) 37 0 (t 37 0 + 1) := by
      unfold qStepA
      rw [ixn (by omega), h38]
    rw [esa] at e0
    have cx0 : ActCx n r k N go dd pp w x u t := ⟨hG, hd, c2, by omega, by omega, hS, hI, hD, h25, h26, h27, h28, h29, by rw [hcn]; exact h37, c4, h38, h36⟩
    rw [q7]
    by_cases z : t 9 (r pp) = 0
    · rw [if_pos z] at e0 ⊢
      obtain ⟨t', ht⟩ := act_sim cx0
      exact ⟨t', ht.pre e0 (Stat.rf u) (StatM.rf t) (Kp.rf _ _ _) (KpC.rf _ _)⟩
    · rw [if_neg z] at e0 ⊢
      obtain ⟨r1, r2⟩ := q8 z
      have sU : Stat u (wr u 3 0 (u.1 3 0 + 1)) := (Stat.rf u).wr (by omega)
      have sM : StatM t (up2 t 22 0 (t 22 0 + 1)) := (StatM.rf t).up (by omega)
      have hD1 : RD (wr u 3 0 (u.1 3 0 + 1)) (up2 t 22 0 (t 22 0 + 1)) := ⟨hD.1, by show u.1 3 0 + 1 = t 22 0 + 1; rw [hD.2.1], hD.2.2⟩
      have cx1 : ActCx n r k N go dd pp w x (wr u 3 0 (u.1 3 0 + 1)) (up2 t 22 0 (t 22 0 + 1)) := ⟨hG, hd, c2, by omega, by omega, hS.stat sU sM, hI, hD1, h25, h26, h27, h28, h29, by
        have z : (up2 t 22 0 (t 22 0 + 1)) 37 0 = nI (cnt (fun j => kAdvises u (u.2 j) (u.1 9 dd)) pp) := by rw [hcn]; exact h37
        exact z, c4, h38, h36⟩
      have ein : kInRange (wr u 3 0 (u.1 3 0 + 1)) (u.2 pp) x = qWithin x (t 10 (r pp)) (t 11 (r pp)) := by
        rw [← r1, ← r2]; rfl
      have kp : Kp dd w t (up2 t 22 0 (t 22 0 + 1)) := ⟨fun _ _ => ⟨rfl, rfl, rfl, rfl, rfl, rfl⟩, fun _ _ => ⟨rfl, rfl⟩⟩
      have kc : KpC dd u (wr u 3 0 (u.1 3 0 + 1)) := fun _ _ => ⟨rfl, rfl⟩
      rw [ein]
      by_cases z2 : qWithin x (t 10 (r pp)) (t 11 (r pp)) = true
      · rw [if_pos z2] at e0 ⊢
        obtain ⟨t', ht⟩ := act_sim cx1
        exact ⟨t', ht.pre e0 sU sM kp kc⟩
      · rw [if_neg z2] at e0 ⊢
        obtain ⟨t', ht⟩ := next_res cx1
        exact ⟨t', ht.pre e0 sU sM kp kc⟩
theorem sim_all (n : Nat) (r k : Nat → Nat) : ∀ N, SimOK n r k N (kGo N)
  | 0 => fun dd ff x w u t _ _ h => by omega
  | N + 1 => along_sim (sim_all n r k N)
/-- a whole invoke on both sides -/
theorem invoke_sim {n m : Nat} {r k : Nat → Nat} {u : SC} {t : M2} (hm : m < 6) (hS : SR n r k u t) (hI : IC u) (hT : u.1 2 0 = t 18 0) (a : Int32) :
    ∃ N tN, (∀ i, i < N → okRun (qIt i (qStart t (nI m) a))) ∧ qIt N (qStart t (nI m) a) = tN ∧ qMore tN = false ∧ (kInvoke u (nI m) a).1 = (qEnd tN).1 ∧ Stat u (kInvoke u (nI m) a).2 ∧ StatM t tN ∧ RD (kInvoke u (nI m) a).2 tN ∧ IC (kInvoke u (nI m) a).2 ∧ (kInvoke u (nI m) a).2.1 5 0 = (qEnd tN).2 24 0 := by
  have hn := hS.1.1
  have hmt : kIsMethod (nI m) = true := by
    have : m = 0 ∨ m = 1 ∨ m = 2 ∨ m = 3 ∨ m = 4 ∨ m = 5 := by omega
    rcases this with rfl | rfl | rfl | rfl | rfl | rfl <;> rfl
  generalize hu0 : wr (wr (wr u 8 0 0) 3 0 0) 4 0 0 = u0
  generalize ht0 : up2 (up2 (up2 (up2 (up2 (up2 t 19 0 0) 22 0 0) 23 0 0) 25 0 0) 26 0 0) 29 0 0 = t0
  have sU : Stat u u0 := by rw [← hu0]; exact (((Stat.rf u).wr (by omega)).wr (by omega)).wr (by omega)
  have sM : StatM t t0 := by rw [← ht0]; exact ((((((StatM.rf t).up (by omega)).up (by omega)).up (by omega)).up (by omega)).up (by omega)).up (by omega)
  have I0 : IC u0 := by rw [← hu0]; exact ⟨hI.1, ⟨0, by omega, rfl⟩, hI.2.2⟩
  have D0 : RD u0 t0 := by rw [← hu0, ← ht0]; exact ⟨⟨0, by omega, rfl, rfl, fun i hi => absurd hi (by omega)⟩, rfl, rfl, hT⟩
  have ek : kInvoke u (nI m) a = kBegin (kGo 22) (nI m) a 0 u0 := by
    unfold kInvoke
    rw [hmt, if_neg (by decide), hu0]
  have eb : kBegin (kGo 22) (nI m) a 0 u0 = kGo 22 (nI 0) (nI 0) a (wr (kTake (wr u0 9 0 (nI m))).2 10 0 (kTake (wr u0 9 0 (nI m))).1) := by
    unfold kBegin
    rw [if_neg (by decide)]; rfl
  have h26 : t0 26 0 = nI 0 := by rw [← ht0]; rfl
  have h29 : t0 29 0 = nI 0 := by rw [← ht0]; rfl
  have h25 : t0 25 0 = 0 := by rw [← ht0]; rfl
  obtain ⟨t2, f1, f2, f3, f4, f5, f6, f7, f8, f9, f10⟩ := enter_sim (d := 0) (w := 0) (by omega) hm (by omega) (hS.stat sU sM) I0 D0 h25 h26 h29 a
  have es : qStart t (nI m) a = t2 := by
    unfold qStart
    rw [ht0]
    unfold qEnter
    rw [if_neg (by rw [h26]; decide), f1]
  have S2 := (hS.stat sU sM).stat f5 f6
  obtain ⟨t3, hR⟩ := sim_all n r k 22 0 0 a 1 _ t2 (by omega) (by omega) (by omega) S2 f4 f3 f2 (by omega)
  rw [ek, eb, es]
  generalize kGo 22 (nI 0) (nI 0) a (wr (kTake (wr u0 9 0 (nI m))).2 10 0 (kTake (wr u0 9 0 (nI m))).1) = rr at hR ⊢
  obtain ⟨o, u3⟩ := rr
  dsimp only at hR ⊢
  by_cases ho : o = 2
  · obtain ⟨⟨N, z0, z1⟩, z2, z3, z4, z5, z6⟩ := hR
    have b25 : t3 25 0 = 1 ∧ u3.1 5 0 = 0 := by
      rcases z6 with z | ⟨z, -⟩
      · exact z.2
      · rcases z.o with q | q
        · rw [q] at ho; exact absurd ho (by decide)
        · rw [q] at ho; exact absurd ho (by decide)
    refine ⟨N, t3, z0, z1, ?_, ?_, sU.tr (f5.tr z2), sM.tr (f6.tr z3), z4, z5, ?_⟩
    · unfold qMore; rw [if_neg (by rw [b25.1]; decide)]
    · unfold qEnd; dsimp only; rw [if_neg (by rw [b25.1]; decide)]; exact ho
    · unfold qEnd; dsimp only; rw [if_neg (by rw [b25.1]; decide), b25.2]; rfl
  · obtain ⟨e5, F, k3, c3, S3⟩ := pop_ok (w := 0) S2 hR ho (by omega) (Or.inl f7)
    obtain ⟨F1, F2, F3, F4, F5, F6, F7⟩ := F
    rw [f7] at e5
    have e6 : qBackR (up2 t3 29 0 (nI 0)) 9 (t2 32 0) = up2 (up2 t3 29 0 (nI 0)) 26 0 (nI 0) := by
      unfold qBackR; rw [if_pos rfl, show (up2 t3 29 0 (nI 0)) 26 0 = nI (0 + 1) from F5, nI_pred]
    rw [e6] at e5
    obtain ⟨N, z0, z1⟩ := hR.1.tr e5
    refine ⟨N, _, z0, z1, ?_, ?_, sU.tr (f5.tr hR.2.1), ((sM.tr (f6.tr hR.2.2.1)).up (by omega)).up (by omega), hR.2.2.2.1, hR.2.2.2.2.1, ?_⟩
    · unfold qMore; rw [if_pos (show (up2 (up2 t3 29 0 (nI 0)) 26 0 (nI 0)) 25 0 = 0 from F1), if_pos (show (up2 (up2 t3 29 0 (nI 0)) 26 0 (nI 0)) 36 0 = 0 from F2)]; rfl
    · unfold qEnd; dsimp only
      rw [if_pos (show (up2 (up2 t3 29 0 (nI 0)) 26 0 (nI 0)) 25 0 = 0 from F1), show (up2 (up2 t3 29 0 (nI 0)) 26 0 (nI 0)) 39 0 = o from F3]
      rcases F7 with q | ⟨q, -⟩
      · rw [q]; rfl
      · rw [q]; rfl
    · unfold qEnd; dsimp only
      rw [if_pos (show (up2 (up2 t3 29 0 (nI 0)) 26 0 (nI 0)) 25 0 = 0 from F1)]
      exact F4.symm
