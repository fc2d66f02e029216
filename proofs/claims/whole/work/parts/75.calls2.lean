theorem RR.fld {v : Nat} {u : SC} {t : M2} (h : RR v u t) {u' : SC} {t' : M2} (hu2 : u'.2 = u.2) (hu : ∀ k, k < 22 → u'.1 k = u.1 k) (ht : ∀ k, (k < 12 ∨ 17 ≤ k) → t' k = t k) (hw : ∀ j, j < 12 → u'.1 22 j = t' 12 j ∧ u'.1 23 j = t' 13 j ∧ u'.1 24 j = t' 14 j ∧ u'.1 25 j = t' 15 j ∧ u'.1 26 j = t' 16 j) (h15 : ∀ j, j < 12 → ∃ e, e ≤ 15 ∧ t' 15 j = nI e) (h16 : ∀ j, j < 12 → t' 16 j = -1 ∨ ∃ e, e < 6 ∧ t' 16 j = nI e) : RR v u' t' := by
  obtain ⟨n, r, k, ⟨s1, s2, s3, s4, s5, s6, s7, s8⟩, hN, hP, h7, h1, h0, hD, h5, hI, hz⟩ := h
  refine ⟨n, r, k, ⟨?_, ?_, hw, h15, h16, ?_, ?_, ?_⟩, ?_, ?_, ?_, ?_, ?_, ?_, ?_, ?_, ?_⟩
  · obtain ⟨a1, a2, a3, a4, a5, a7, a8, a9⟩ := s1
    refine ⟨a1, by rw [hu 6 (by omega)]; exact a2, by rw [ht 0 (by omega)]; exact a3, a4, a5, a7, fun i hi => ?_, fun i j hij hj => ?_⟩
    · rw [hu2, hu 13 (by omega), hu 14 (by omega), hu 15 (by omega), hu 16 (by omega), hu 17 (by omega), hu 18 (by omega), hu 19 (by omega), hu 20 (by omega), hu 21 (by omega), ht 3 (by omega), ht 4 (by omega), ht 5 (by omega), ht 6 (by omega), ht 7 (by omega), ht 8 (by omega), ht 9 (by omega), ht 10 (by omega), ht 11 (by omega)]
      exact a8 i hi
    · rw [ht 5 (by omega)]
      exact a9 i j hij hj
  · rw [hu 1 (by omega), ht 17 (by omega)]; exact s2
  · rw [ht 17 (by omega)]; exact s6
  · rw [ht 4 (by omega)]; exact s7
  · rw [ht 4 (by omega), ht 7 (by omega), ht 8 (by omega)]; exact s8
  · unfold NM; rw [ht 3 (by omega)]; exact hN
  · unfold PI; rw [hu2]; exact hP
  · rw [hu 7 (by omega)]; exact h7
  · rw [ht 1 (by omega)]; exact h1
  · rw [hu 0 (by omega), ht 2 (by omega)]; exact h0
  · unfold RD; rw [hu 8 (by omega), hu 11 (by omega), hu 12 (by omega), hu 3 (by omega), hu 4 (by omega), hu 2 (by omega), ht 19 (by omega), ht 20 (by omega), ht 21 (by omega), ht 22 (by omega), ht 23 (by omega), ht 18 (by omega)]; exact hD
  · rw [hu 5 (by omega), ht 24 (by omega)]; exact h5
  · obtain ⟨i1, i2, i3, i4, i5, i6, i7, i8⟩ := hI
    refine ⟨by rw [hu 6 (by omega)]; exact i1, by rw [hu 8 (by omega)]; exact i2, by rw [hu2]; exact i3, by rw [hu 9 (by omega)]; exact i4, by rw [hu 10 (by omega)]; exact i5, by rw [hu 1 (by omega)]; exact i6, by rw [hu 2 (by omega)]; exact i7, fun j hj => ?_⟩
    rw [(hw j hj).2.2.2.2]; exact h16 j hj
  · rw [ht 9 (by omega)]; exact hz
theorem RR.wk {v : Nat} {u : SC} {t : M2} (h : RR v u t) : (∀ j, j < 12 → u.1 22 j = t 12 j ∧ u.1 23 j = t 13 j ∧ u.1 24 j = t 14 j ∧ u.1 25 j = t 15 j ∧ u.1 26 j = t 16 j) ∧ (∀ j, j < 12 → ∃ e, e ≤ 15 ∧ t 15 j = nI e) ∧ (∀ j, j < 12 → t 16 j = -1 ∨ ∃ e, e < 6 ∧ t 16 j = nI e) := by
  obtain ⟨_, _, _, ⟨_, _, s3, s4, s5, _⟩, _⟩ := h
  exact ⟨s3, s4, s5⟩
theorem up_eq {f g : Nat → Int32} {i : Nat} {x : Int32} {j : Nat} (h : f j = g j) : upd f i x j = upd g i x j := by
  by_cases c : j = i
  · rw [c, pk_us, pk_us]
  · rw [pk_un c, pk_un c]; exact h
theorem up2_ne {f : M2} {k k' i : Nat} {x : Int32} (h : ¬ k' = k) : up2 f k i x k' = f k' := by
  unfold up2
  rw [if_neg h]
theorem wr_ne {u : SC} {k k' i : Nat} {x : Int32} (h : ¬ k' = k) : (wr u k i x).1 k' = u.1 k' := up2_ne h
theorem cell_eq (x y : Int32) : x * 6 + y = 6 * x + y := by rw [Int32.mul_comm]
theorem isCell_q (x y : Int32) : qIsCell x y = (kIsTarget x && kIsMethod y) := by
  unfold qIsCell
  rw [← kT_q, ← kM_q]
  cases kIsTarget x <;> rfl
theorem plan_rr {v : Nat} {u : SC} {t : M2} (h : RR v u t) (x y f a : Int32) : (kPlan u x y f a).1 = (qPlan t x y f a).1 ∧ RR v (kPlan u x y f a).2 (qPlan t x y f a).2 := by
  unfold kPlan qPlan
  rw [isCell_q, ← cell_eq]
  cases hx : kIsTarget x
  · exact ⟨rfl, h⟩
  · cases hy : kIsMethod y
    · exact ⟨rfl, h⟩
    · obtain ⟨w, w15, w16⟩ := h.wk
      refine ⟨rfl, h.fld rfl (fun k hk => ?_) (fun k hk => ?_) (fun j hj => ?_) w15 w16⟩
      · show (wr (wr u 22 (ix (x * 6 + y)) f) 23 (ix (x * 6 + y)) a).1 k = u.1 k
        rw [wr_ne (by omega), wr_ne (by omega)]
      · show (up2 (up2 t 12 (ix (x * 6 + y)) f) 13 (ix (x * 6 + y)) a) k = t k
        rw [up2_ne (by omega), up2_ne (by omega)]
      · obtain ⟨w1, w2, w3⟩ := w j hj
        exact ⟨up_eq w1, up_eq w2, w3⟩
theorem fail_rr {v : Nat} {u : SC} {t : M2} (h : RR v u t) (x y a e : Int32) : (kFail u x y a e).1 = (qFail t x y a e).1 ∧ RR v (kFail u x y a e).2 (qFail t x y a e).2 := by
  unfold kFail qFail
  rw [isCell_q, ← cell_eq, ← kZ_q]
  cases hx : kIsTarget x
  · exact ⟨rfl, h⟩
  · cases hy : kIsMethod y
    · exact ⟨rfl, h⟩
    · cases hz : kIsExcZ e
      · exact ⟨rfl, h⟩
      · obtain ⟨w, w15, w16⟩ := h.wk
        refine ⟨rfl, h.fld rfl (fun k hk => ?_) (fun k hk => ?_) (fun j hj => ?_) (fun j hj => ?_) w16⟩
        · show (wr (wr u 24 (ix (x * 6 + y)) a) 25 (ix (x * 6 + y)) e).1 k = u.1 k
          rw [wr_ne (by omega), wr_ne (by omega)]
        · show (up2 (up2 t 14 (ix (x * 6 + y)) a) 15 (ix (x * 6 + y)) e) k = t k
          rw [up2_ne (by omega), up2_ne (by omega)]
        · obtain ⟨w1, w2, w3, w4, w5⟩ := w j hj
          exact ⟨w1, w2, up_eq w3, up_eq w4, w5⟩
        · show ∃ e', e' ≤ 15 ∧ upd (t 15) (ix (x * 6 + y)) e j = nI e'
          by_cases c : j = ix (x * 6 + y)
          · rw [c, pk_us]
            rw [kZ_q] at hz
            exact qW_nI (n := 15) rfl hz
          · rw [pk_un c]; exact w15 j hj
theorem z_m1 (x : Int32) : (x < -1 ∨ 5 < x) ↔ (¬ x = -1 ∧ (x < 0 ∨ 5 < x)) := by
  rw [← Int32.toInt_inj]
  simp only [Int32.lt_iff_toInt_lt, show (0 : Int32).toInt = 0 from rfl, show (5 : Int32).toInt = 5 from rfl, show (-1 : Int32).toInt = -1 from rfl]; omega
theorem calls_q (n : Int32) : qWithin n (-1) 5 = (decide (n = -1) || kIsMethod n) := by
  rw [kM_q]
  by_cases c : n = -1
  · subst c
    rfl
  · rw [show decide (n = -1) = false by simpa using c, Bool.false_or]
    cases h : qWithin n 0 5
    · cases h2 : qWithin n (-1) 5
      · rfl
      · exact absurd ((z_m1 n).mpr ⟨c, qW_f h⟩) (fun z => z.elim (qW_t h2).1 (qW_t h2).2)
    · cases h2 : qWithin n (-1) 5
      · exact absurd ((z_m1 n).mp (qW_f h2)).2 (fun z => z.elim (qW_t h).1 (qW_t h).2)
      · rfl
theorem calls_rr {v : Nat} {u : SC} {t : M2} (h : RR v u t) (x y n : Int32) : (kCalls u x y n).1 = (qCalls t x y n).1 ∧ RR v (kCalls u x y n).2 (qCalls t x y n).2 := by
  have key : (n = -1 ∨ ∃ e, e < 6 ∧ n = nI e) → RR v (wr u 26 (ix (x * 6 + y)) n) (up2 t 16 (ix (x * 6 + y)) n) := by
    intro hn
    obtain ⟨w, w15, w16⟩ := h.wk
    refine h.fld rfl (fun k hk => wr_ne (by omega)) (fun k hk => up2_ne (by omega)) (fun j hj => ?_) w15 (fun j hj => ?_)
    · obtain ⟨w1, w2, w3, w4, w5⟩ := w j hj
      exact ⟨w1, w2, w3, w4, up_eq w5⟩
    · show upd (t 16) (ix (x * 6 + y)) n j = -1 ∨ ∃ e, e < 6 ∧ upd (t 16) (ix (x * 6 + y)) n j = nI e
      by_cases c : j = ix (x * 6 + y)
      · rw [c, pk_us]; exact hn
      · rw [pk_un c]; exact w16 j hj
  unfold kCalls qCalls
  rw [isCell_q, ← cell_eq, calls_q]
  cases hx : kIsTarget x
  · exact ⟨rfl, h⟩
  · cases hy : kIsMethod y
    · exact ⟨rfl, h⟩
    · by_cases c : n = -1
      · rw [if_pos c, show decide (n = -1) = true by simpa using c]
        exact ⟨rfl, key (Or.inl c)⟩
      · rw [if_neg c, show decide (n = -1) = false by simpa using c]
        cases hz : kIsMethod n
        · exact ⟨rfl, h⟩
        · exact ⟨rfl, key (Or.inr (im_ok hz))⟩
theorem source_rr {v : Nat} {u : SC} {t : M2} (h : RR v u t) (x : Int32) : (kSource u x).1 = (qSource t x).1 ∧ RR v (kSource u x).2 (qSource t x).2 := by
  unfold kSource qSource
  cases hx : qWithin x 0 2
  · rw [if_pos rfl]
    rcases qW_f hx with w | w
    · rw [if_pos w]; exact ⟨rfl, h⟩
    · by_cases c : x < 0
      · rw [if_pos c]; exact ⟨rfl, h⟩
      · rw [if_neg c, if_pos w]; exact ⟨rfl, h⟩
  · obtain ⟨w1, w2⟩ := qW_t hx
    obtain ⟨e, he, ee⟩ := qW_nI (n := 2) rfl hx
    rw [if_neg w1, if_neg w2, if_neg (show ¬ true = false by decide)]
    obtain ⟨n, r, k, ⟨s1, s2, s3, s4, s5, s6, s7, s8⟩, hN, hP, h7, h1, h0, ⟨d1, d2, d3, d4⟩, h5, ⟨i1, i2, i3, i4, i5, i6, i7, i8⟩, hz⟩ := h
    exact ⟨rfl, n, r, k, ⟨s1, rfl, s3, s4, s5, ⟨e, by omega, ee⟩, s7, s8⟩, hN, hP, h7, h1, h0, ⟨d1, d2, d3, rfl⟩, h5, ⟨i1, i2, i3, i4, i5, ⟨e, by omega, ee⟩, ⟨0, by omega, rfl⟩, i8⟩, hz⟩
theorem invoke_rr {v : Nat} {u : SC} {t : M2} (h : RR v u t) (x a : Int32) (hx : qWithin x 0 5 = true) : ∃ N, (∀ i, i < N → okRun (qIt i (qStart t x a))) ∧ qMore (qIt N (qStart t x a)) = false ∧ (kInvoke u x a).1 = (qEnd (qIt N (qStart t x a))).1 ∧ RR v (kInvoke u x a).2 (qEnd (qIt N (qStart t x a))).2 := by
  obtain ⟨m, hm, rfl⟩ := im_ok ((kM_q x).trans hx)
  obtain ⟨n, r, k, hS, hN, hP, h7, h1, h0, hD, h5, hI, hz⟩ := h
  obtain ⟨N, tN, g1, g2, g3, g4, g5, g6, g7, g8, g9⟩ := invoke_sim hm hS hI hD.2.2.2 a
  refine ⟨N, g1, by rw [g2]; exact g3, by rw [g2]; exact g4, ?_⟩
  rw [g2]
  have g6' : StatM t (qEnd tN).2 := g6.up (by omega)
  refine ⟨n, r, k, hS.stat g5 g6', ?_, ?_, ?_, ?_, ?_, g7, g9, g8, ?_⟩
  · unfold NM; rw [g6' 3 (by omega)]; exact hN
  · unfold PI; rw [g5.1]; exact hP
  · rw [g5.2 7 (by omega)]; exact h7
  · rw [g6' 1 (by omega)]; exact h1
  · rw [g5.2 0 (by omega), g6' 2 (by omega)]; exact h0
  · rw [g6' 9 (by omega)]; exact hz
theorem inv_bad {u : SC} (x a : Int32) (hx : qWithin x 0 5 = false) : kInvoke u x a = (-1, u) := by
  unfold kInvoke
  rw [kM_q, hx, if_pos rfl]
theorem has_q {u : SC} {t : M2} (h : RD u t) (i : Int32) : kHas u i = qWithin i 0 (t 19 0 - 1) ∧ (kHas u i = true → ∃ L j, L ≤ 100 ∧ j < L ∧ i = nI j ∧ u.1 11 j = t 20 j ∧ u.1 12 j = t 21 j) := by
  obtain ⟨⟨L, l1, l2, l3, l4⟩, _⟩ := h
  have eL : (nI L).toInt = L := nI_toInt (by omega)
  have eM : (nI L - 1).toInt = (L : Int) - 1 := by
    by_cases c : L = 0
    · subst c; rfl
    · obtain ⟨q, rfl⟩ : ∃ q, L = q + 1 := ⟨L - 1, by omega⟩
      rw [nI_pred, nI_toInt (by omega)]; omega
  have e : (nI L ≤ i) ↔ (nI L - 1 < i) := by
    simp only [Int32.le_iff_toInt_le, Int32.lt_iff_toInt_lt, eL, eM]; omega
  constructor
  · unfold kHas qWithin
    rw [l2, l3]
    by_cases c : i < 0
    · rw [if_pos c, if_pos c]
    · rw [if_neg c, if_neg c]
      by_cases d : nI L ≤ i
      · rw [if_pos d, if_pos (e.mp d)]
      · rw [if_neg d, if_neg (fun z => d (e.mpr z))]
  · intro hk
    unfold kHas at hk
    rw [l2] at hk
    by_cases c : i < 0
    · rw [if_pos c] at hk; cases hk
    · rw [if_neg c] at hk
      by_cases d : nI L ≤ i
      · rw [if_pos d] at hk; cases hk
      · obtain ⟨j, hj, rfl⟩ := nI_of c
        have : j < L := by
          rw [nI_leI (by omega) hj] at d
          omega
        exact ⟨L, j, l1, this, rfl, l4 j this⟩
theorem who_rr {v : Nat} {u : SC} {t : M2} (h : RR v u t) (i : Int32) : kWho u i = qWho t i := by
  obtain ⟨a, b⟩ := has_q h.rd i
  unfold kWho qWho
  rw [← a]
  by_cases c : kHas u i = true
  · rw [if_pos c, if_pos c]
    obtain ⟨L, j, l1, l2, rfl, l3, l4⟩ := b c
    rw [ixn (by omega : j < 1000)]; exact l3
  · rw [if_neg c, if_neg c]
theorem what_rr {v : Nat} {u : SC} {t : M2} (h : RR v u t) (i : Int32) : kWhat u i = qWhat t i := by
  obtain ⟨a, b⟩ := has_q h.rd i
  unfold kWhat qWhat
  rw [← a]
  by_cases c : kHas u i = true
  · rw [if_pos c, if_pos c]
    obtain ⟨L, j, l1, l2, rfl, l3, l4⟩ := b c
    rw [ixn (by omega : j < 1000)]; exact l4
  · rw [if_neg c, if_neg c]
theorem chain_rr {v : Nat} {u : SC} {t : M2} (h : RR v u t) (m i : Int32) : kChain u m i = qChain t m i := by
  obtain ⟨n, r, k, hS, _⟩ := h
  unfold kChain qChain
  rw [← kM_q]
  by_cases c : kIsMethod m = true
  · rw [if_pos c, if_pos c]
    obtain ⟨q, hq, rfl⟩ := im_ok c
    exact chain_same hS.1 (bits_ok q hq) i
  · rw [if_neg c, if_neg c]
