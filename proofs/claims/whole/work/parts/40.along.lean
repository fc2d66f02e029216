/-! pure rows: along the chain; a whole invocation -/
theorem act_sim {n N dd pp w : Nat} {r k : Nat → Nat} {go : Go} {x : Int32} {u : SC} {t : M2} (h : ActCx n r k N go dd pp w x u t) : ∃ t', Res (qStepB t (nI (r pp))) dd w u t (kAct go (u.2 pp) (nI dd) (nI (pp + 1)) x u).1 (kAct go (u.2 pp) (nI dd) (nI (pp + 1)) x u).2 t' := by
  have hq := h.q
  have hr := h.2.2.2.2.2.1.1.2.2.2.1 pp h.2.2.1
  obtain ⟨e, he, hk⟩ := h.2.2.2.2.2.1.2.2.2.2.2.2.1 (r pp) hr
  have c : e = 0 ∨ e = 1 ∨ e = 2 ∨ e = 3 ∨ e = 4 ∨ e = 5 ∨ e = 6 ∨ e = 7 := by omega
  unfold kAct
  rw [hq.2.2.2.1, hk]
  rcases c with rfl | rfl | rfl | rfl | rfl | rfl | rfl | rfl
  · rw [if_pos (by decide)]; exact act_bef h hk
  · rw [if_neg (by decide), if_pos (by decide)]; exact act_chg h hk
  · rw [if_neg (by decide), if_neg (by decide), if_pos (by decide)]; exact act_skp h hk
  · rw [if_neg (by decide), if_neg (by decide), if_neg (by decide), if_pos (by decide)]; exact act_twi h hk
  · rw [if_neg (by decide), if_neg (by decide), if_neg (by decide), if_neg (by decide), if_pos (by decide)]; exact act_ret h hk
  · rw [if_neg (by decide), if_neg (by decide), if_neg (by decide), if_neg (by decide), if_neg (by decide), if_pos (by decide)]; exact act_thr h hk
  · rw [if_neg (by decide), if_neg (by decide), if_neg (by decide), if_neg (by decide), if_neg (by decide), if_neg (by decide), if_pos (by decide)]; exact act_fin h hk
  · rw [if_neg (by decide), if_neg (by decide), if_neg (by decide), if_neg (by decide), if_neg (by decide), if_neg (by decide), if_neg (by decide)]; exact act_rec h hk
theorem bit_0 : bitsOk (nI 0) := by
  intro x
  sorry
