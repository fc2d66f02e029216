/-! pure rows: along the chain; a whole invocation -/
theorem act_sim {n N dd pp w : Nat} {r k : Nat → Nat} {go : Go} {x : Int32} {u : SC} {t : M2} (h : ActCx n r k N go dd pp w x u t) : ∃ t', Res (qStepB t (nI (r pp))) dd w u t (kAct go (u.2 pp) (nI dd) (nI (pp + 1)) x u).1 (kAct go (u.2 pp) (nI dd) (nI (pp + 1)) x u).2 t' := by
  have hq := h.q
  have hr := h.2.2.2.2.2.1.1.2.2.2.1 pp h.2.2.1
  obtain ⟨e, he, hk⟩ := h.2.2.2.2.2.1.2.2.2.2.2.2.1 (r pp) hr
  have c : e = 0 ∨ e = 1 ∨ e = 2 ∨ e = 3 ∨ e = 4 ∨ e = 5 ∨ e = 6 ∨ e = 7 := by omega
  unfold kAct
  rw [hq.2.2.2.1, hk]
  rcases c with rfl | rfl | rfl | rfl | rfl | rfl | rfl | rfl
  · rw [if_pos (by decide)]; exact act_bef h hk
  · rw [if_neg (by decide), if_pos (by decide)]; exact act_chg h hk
  · rw [if_neg (by decide), if_neg (by decide), if_pos (by decide)]; exact act_skp h hk
  · rw [if_neg (by decide), if_neg (by decide), if_neg (by decide), if_pos (by decide)]; exact act_twi h hk
  · rw [if_neg (by decide), if_neg (by decide), if_neg (by decide), if_neg (by decide), if_pos (by decide)]; exact act_ret h hk
  · rw [if_neg (by decide), if_neg (by decide), if_neg (by decide), if_neg (by decide), if_neg (by decide), if_pos (by decide)]; exact act_thr h hk
  · rw [if_neg (by decide), if_neg (by decide), if_neg (by decide), if_neg (by decide), if_neg (by decide), if_neg (by decide), if_pos (by decide)]; exact act_fin h hk
  · rw [if_neg (by decide), if_neg (by decide), if_neg (by decide), if_neg (by decide), if_neg (by decide), if_neg (by decide), if_neg (by decide)]; exact act_rec h hk
def bt (x : Int32) (i : Nat) : Bool := x.toBitVec.getLsbD i
theorem b_ext {x y : Int32} (h : ∀ i, i < 32 → bt x i = bt y i) : x = y := Int32.toBitVec_inj.mp (BitVec.eq_of_getLsbD_eq (fun i hi => h i hi))
theorem b_and (x y : Int32) (i : Nat) : bt (x &&& y) i = (bt x i && bt y i) := by unfold bt; rw [Int32.toBitVec_and, BitVec.getLsbD_and]
theorem b_0 (i : Nat) : bt 0 i = false := BitVec.getLsbD_zero
theorem s_l : ∀ n, n < 32 → ((nI n &&& 31).toBitVec.smod 32).toNat = n := by decide +kernel
theorem b_shl (n : Nat) (hn : n < 32) (x : Int32) {i : Nat} (hi : i < 32) : bt (x <<< (nI n &&& 31)) i = (decide (n ≤ i) && bt x (i - n)) := by
  unfold bt
  rw [Int32.toBitVec_shiftLeft]
  show (x.toBitVec <<< ((nI n &&& 31).toBitVec.smod 32).toNat).getLsbD i = _
  rw [s_l n hn, BitVec.getLsbD_shiftLeft]
  rcases Nat.lt_or_ge i n with h | h
  · simp [h, Nat.not_le.mpr h]
  · simp [hi, h, Nat.not_lt.mpr h]
theorem b_sshr (n : Nat) (hn : n < 32) (x : Int32) {i : Nat} (hi : i < 32) : bt (x >>> (nI n &&& 31)) i = if n + i < 32 then bt x (n + i) else bt x 31 := by
  unfold bt
  rw [Int32.toBitVec_shiftRight]
  show (x.toBitVec.sshiftRight ((nI n &&& 31).toBitVec.smod 32).toNat).getLsbD i = _
  rw [s_l n hn, BitVec.getLsbD_sshiftRight, BitVec.msb_eq_getLsbD_last]
  simp [hi]
theorem b_1 : ∀ i, i < 32 → bt 1 i = decide (i = 0) := by decide +kernel
theorem bits_ok (m : Nat) (hm : m < 6) : bitsOk (nI m) := by
  intro x
  have h1 : (x &&& ((1 : Int32) <<< (nI m &&& 31)) = 0) ↔ bt x m = false := by
    constructor
    · intro h
      have h2 : bt (x &&& ((1 : Int32) <<< (nI m &&& 31))) m = bt 0 m := by rw [h]
      rw [b_and, b_shl m (by omega) 1 (by omega), b_0, Nat.sub_self, b_1 0 (by omega)] at h2
      simpa using h2
    · intro h
      refine b_ext (fun i hi => ?_)
      rw [b_and, b_shl m (by omega) 1 hi, b_0, b_1 _ (by omega)]
      by_cases c : i = m
      · rw [c, h]; rfl
      · by_cases c2 : m ≤ i
        · rw [decide_eq_false (by omega : ¬ i - m = 0)]; simp
        · rw [decide_eq_false c2]; simp
  have h3 : ((x >>> (nI m &&& 31)) &&& 1 = 1) ↔ bt x m = true := by
    constructor
    · intro h
      have h2 : bt ((x >>> (nI m &&& 31)) &&& 1) 0 = bt 1 0 := by rw [h]
      rw [b_and, b_sshr m (by omega) x (by omega), if_pos (by omega), b_1 0 (by omega)] at h2
      simpa using h2
    · intro h
      refine b_ext (fun i hi => ?_)
      rw [b_and, b_1 i hi]
      by_cases c : i = 0
      · subst c
        rw [b_sshr m (by omega) x (by omega), if_pos (by omega), Nat.add_zero, h]; rfl
      · rw [decide_eq_false c]; simp
  rw [h1, h3]
  cases bt x m <;> simp
def entS (t : M2) (d w m : Nat) (a : Int32) : M2 := qGo (up2 (up2 (up2 (up2 (up2 (up2 (up2 (up2 (up2 (up2 (up2 t 26 0 (nI (d + 1))) 23 0 (t 23 0 + 1)) 27 (d + 1) (nI m)) 28 (d + 1) (if t 17 0 = 2 then t 18 0 else t 17 0)) 18 0 (if t 17 0 = 2 then 1 - t 18 0 else t 18 0)) 30 w 9) 31 w (t 37 0)) 32 w (-1)) 33 w (t 38 0)) 35 w 0) 29 0 (nI (w + 1))) 0 a
/-- an invocation begins, on both sides -/
theorem enter_sim {n d w m : Nat} {r k : Nat → Nat} {u : SC} {t : M2} (hd : d < 3) (hm : m < 6) (hw : w < 800) (hS : SR n r k u t) (hI : IC u) (hD : RD u t) (h25 : t 25 0 = 0) (h26 : t 26 0 = nI d) (h29 : t 29 0 = nI w) (a : Int32) :
    ∃ t2, qGo (qAwait (qEnt t (nI m)) 9 (-1)) 0 a = t2 ∧ AtA d 0 a (w + 1) (wr (kTake (wr u 9 d (nI m))).2 10 d (kTake (wr u 9 d (nI m))).1) t2 ∧ RD (wr (kTake (wr u 9 d (nI m))).2 10 d (kTake (wr u 9 d (nI m))).1) t2 ∧ IC (wr (kTake (wr u 9 d (nI m))).2 10 d (kTake (wr u 9 d (nI m))).1) ∧ Stat u (wr (kTake (wr u 9 d (nI m))).2 10 d (kTake (wr u 9 d (nI m))).1) ∧ StatM t t2 ∧ t2 30 w = 9 ∧
      (∀ i, i < w → t2 30 i = t 30 i ∧ t2 31 i = t 31 i ∧ t2 32 i = t 32 i ∧ t2 33 i = t 33 i ∧ t2 34 i = t 34 i ∧ t2 35 i = t 35 i) ∧ (∀ i, i ≤ d → t2 27 i = t 27 i ∧ t2 28 i = t 28 i) ∧ (∀ i, i < d → (wr (kTake (wr u 9 d (nI m))).2 10 d (kTake (wr u 9 d (nI m))).1).1 9 i = u.1 9 i ∧ (wr (kTake (wr u 9 d (nI m))).2 10 d (kTake (wr u 9 d (nI m))).1).1 10 i = u.1 10 i) := by
  obtain ⟨i1, b, hb, eb⟩ := IC_take (IC_set9 hI d hm)
  have hIC : IC (wr (kTake (wr u 9 d (nI m))).2 10 d (kTake (wr u 9 d (nI m))).1) := by rw [eb]; exact IC_set10 i1 d hb
  have hent : qEnt t (nI m) = up2 (up2 (up2 (up2 (up2 t 26 0 (nI (d + 1))) 23 0 (t 23 0 + 1)) 27 (d + 1) (nI m)) 28 (d + 1) (if t 17 0 = 2 then t 18 0 else t 17 0)) 18 0 (if t 17 0 = 2 then 1 - t 18 0 else t 18 0) := by
    unfold qEnt
    rw [h26, nI_1, ixn (by omega : d + 1 < 1000)]
  have hent29 : (qEnt t (nI m)) 29 0 = nI w := by rw [hent]; exact h29
  have haw := qAwait_at hent29 (by omega) 9 (-1)
  refine ⟨entS t d w m a, by rw [haw, hent]; rfl, ?_⟩
  obtain ⟨hL, h3, h4, h2⟩ := hD
  have hsrc := hS.2.1
  have s2 : StatM t (entS t d w m a) := (((((((((((((StatM.rf t).up (by omega)).up (by omega)).up (by omega)).up (by omega)).up (by omega)).up (by omega)).up (by omega)).up (by omega)).up (by omega)).up (by omega)).up (by omega)).up (by omega)).up (by omega) |>.up (by omega)
  have hk30 : ∀ i, i < w → ∀ f : Nat → Int32, ∀ v, upd f w v i = f i := fun i hi f v => pk_un (by omega)
  have hk27 : ∀ i, i ≤ d → ∀ f : Nat → Int32, ∀ v, upd f (d + 1) v i = f i := fun i hi f v => pk_un (by omega)
  have hk9 : ∀ i, i < d → ∀ f : Nat → Int32, ∀ v, upd f d v i = f i := fun i hi f v => pk_un (by omega)
  have fin : ∀ u2 : SC, u2 = wr (kTake (wr u 9 d (nI m))).2 10 d (kTake (wr u 9 d (nI m))).1 → u2.1 9 = upd (u.1 9) d (nI m) → u2.1 10 = upd (u.1 10) d (if t 17 0 = 2 then t 18 0 else t 17 0) → u2.1 2 0 = (if t 17 0 = 2 then 1 - t 18 0 else t 18 0) → u2.1 4 0 = t 23 0 + 1 → u2.1 3 = u.1 3 → u2.1 8 = u.1 8 → u2.1 11 = u.1 11 → u2.1 12 = u.1 12 → Stat u u2 →
      AtA d 0 a (w + 1) u2 (entS t d w m a) ∧ RD u2 (entS t d w m a) ∧ (∀ i, i < d → u2.1 9 i = u.1 9 i ∧ u2.1 10 i = u.1 10 i) := by
    intro u2 _ e9 e10 e2 e4 e3 e8 e11 e12 _
    refine ⟨⟨h25, rfl, rfl, rfl, rfl, ?_, ?_, rfl⟩, ⟨?_, ?_, ?_, ?_⟩, fun i hi => ?_⟩
    · rw [e9, pk_us]; exact pk_us
    · rw [e10, pk_us]; exact pk_us
    · rw [e8, e11, e12]; exact hL
    · rw [e3]; exact h3
    · exact e4
    · exact e2
    · rw [e9, e10, hk9 i hi, hk9 i hi]; exact ⟨rfl, rfl⟩
  have key : AtA d 0 a (w + 1) (wr (kTake (wr u 9 d (nI m))).2 10 d (kTake (wr u 9 d (nI m))).1) (entS t d w m a) ∧ RD (wr (kTake (wr u 9 d (nI m))).2 10 d (kTake (wr u 9 d (nI m))).1) (entS t d w m a) ∧ (∀ i, i < d → (wr (kTake (wr u 9 d (nI m))).2 10 d (kTake (wr u 9 d (nI m))).1).1 9 i = u.1 9 i ∧ (wr (kTake (wr u 9 d (nI m))).2 10 d (kTake (wr u 9 d (nI m))).1).1 10 i = u.1 10 i) ∧ Stat u (wr (kTake (wr u 9 d (nI m))).2 10 d (kTake (wr u 9 d (nI m))).1) := by
    by_cases c : u.1 1 0 = 2
    · have ek : kTake (wr u 9 d (nI m)) = (u.1 2 0, wr (wr (wr u 9 d (nI m)) 4 0 (u.1 4 0 + 1)) 2 0 (1 - u.1 2 0)) := by
        unfold kTake
        rw [if_pos (show (wr u 9 d (nI m)).1 1 0 = 2 from c)]; rfl
      have c' : t 17 0 = 2 := by rw [← hsrc]; exact c
      have sU : Stat u (wr (wr (wr (wr u 9 d (nI m)) 4 0 (u.1 4 0 + 1)) 2 0 (1 - u.1 2 0)) 10 d (u.1 2 0)) := ((((Stat.rf u).wr (by omega)).wr (by omega)).wr (by omega)).wr (by omega)
      rw [ek]
      obtain ⟨z1, z2, z3⟩ := fin (wr (wr (wr (wr u 9 d (nI m)) 4 0 (u.1 4 0 + 1)) 2 0 (1 - u.1 2 0)) 10 d (u.1 2 0)) (by rw [ek]) rfl (by rw [if_pos c', ← h2]; rfl) (by rw [if_pos c', ← h2]; rfl) (by rw [← h4]; rfl) rfl rfl rfl rfl sU
      exact ⟨z1, z2, z3, sU⟩
    · have ek : kTake (wr u 9 d (nI m)) = (u.1 1 0, wr (wr u 9 d (nI m)) 4 0 (u.1 4 0 + 1)) := by
        unfold kTake
        rw [if_neg (show ¬ (wr u 9 d (nI m)).1 1 0 = 2 from c)]; rfl
      have c' : ¬ t 17 0 = 2 := by rw [← hsrc]; exact c
      have sU : Stat u (wr (wr (wr u 9 d (nI m)) 4 0 (u.1 4 0 + 1)) 10 d (u.1 1 0)) := (((Stat.rf u).wr (by omega)).wr (by omega)).wr (by omega)
      rw [ek]
      obtain ⟨z1, z2, z3⟩ := fin (wr (wr (wr u 9 d (nI m)) 4 0 (u.1 4 0 + 1)) 10 d (u.1 1 0)) (by rw [ek]) rfl (by rw [if_neg c', ← hsrc]; rfl) (by rw [if_neg c', ← h2]; rfl) (by rw [← h4]; rfl) rfl rfl rfl rfl sU
      exact ⟨z1, z2, z3, sU⟩
  obtain ⟨k1, k2, k3, k4⟩ := key
  refine ⟨k1, k2, hIC, k4, s2, pk_us, fun i hi => ⟨hk30 i hi _ _, hk30 i hi _ _, hk30 i hi _ _, hk30 i hi _ _, rfl, hk30 i hi _ _⟩, fun i hi => ⟨hk27 i hi _ _, hk27 i hi _ _⟩, k3⟩
