/-! pure rows: what holds between two calls, and each call keeps it and answers the same on both sides -/
def RR (v : Nat) (u : SC) (t : M2) : Prop :=
  ∃ n r k, SR n r k u t ∧ NM n v t ∧ PI u ∧ u.1 7 0 = nI v ∧ t 1 0 = nI v ∧ u.1 0 0 = t 2 0 ∧ RD u t ∧ u.1 5 0 = t 24 0 ∧ IC u ∧ ∀ i, i < 6 → vp_nar .boolean (t 9 i) = t 9 i
theorem RR.ic {v : Nat} {u : SC} {t : M2} (h : RR v u t) : IC u := by
  obtain ⟨_, _, _, _, _, _, _, _, _, _, _, h, _⟩ := h
  exact h
theorem RR.h0 {v : Nat} {u : SC} {t : M2} (h : RR v u t) : ∃ n, n ≤ 6 ∧ t 0 0 = nI n := by
  obtain ⟨n, _, _, hS, _⟩ := h
  exact ⟨n, hS.1.1, hS.1.2.2.1⟩
theorem RR.h19 {v : Nat} {u : SC} {t : M2} (h : RR v u t) : ∃ n, n ≤ 100 ∧ t 19 0 = nI n := by
  obtain ⟨_, _, _, _, _, _, _, _, _, ⟨⟨L, hL, _, e, _⟩, _⟩, _⟩ := h
  exact ⟨L, hL, e⟩
theorem RR_0 : RR 0 u0 t0 := by
  refine ⟨0, id, id, ⟨⟨by omega, rfl, rfl, fun i h => absurd h (by omega), fun i j h => absurd h (by omega), fun q h => absurd h (by omega), fun i h => absurd h (by omega), fun i j _ h => absurd h (by omega)⟩, rfl, fun j _ => ⟨rfl, rfl, rfl, rfl, rfl⟩, fun j _ => ⟨0, by omega, rfl⟩, fun j _ => Or.inl rfl, ⟨0, by omega, rfl⟩, fun q h => absurd h (by omega), fun q h => absurd h (by omega)⟩, ⟨by omega, id, fun a h => absurd h (by omega), fun a b _ h => absurd h (by omega)⟩, ⟨fun i h => h, fun i j _ _ e => e⟩, rfl, rfl, rfl, ⟨⟨0, by omega, rfl, rfl, fun i h => absurd h (by omega)⟩, rfl, rfl, rfl⟩, rfl, ?_, fun i _ => bI_vp false⟩
  exact ⟨⟨0, by omega, rfl⟩, ⟨0, by omega, rfl⟩, fun i h => h, fun d _ => ⟨0, by omega, rfl⟩, fun d _ => ⟨0, by omega, rfl⟩, ⟨0, by omega, rfl⟩, ⟨0, by omega, rfl⟩, fun j _ => Or.inl rfl⟩
theorem RR.res {v : Nat} {u : SC} {t : M2} (h : RR v u t) : u.1 5 0 = t 24 0 := by
  obtain ⟨_, _, _, _, _, _, _, _, _, _, h, _⟩ := h
  exact h
theorem RR.rd {v : Nat} {u : SC} {t : M2} (h : RR v u t) : RD u t := by
  obtain ⟨_, _, _, _, _, _, _, _, _, h, _⟩ := h
  exact h
theorem RR.evs {v : Nat} {u : SC} {t : M2} (h : RR v u t) : u.1 8 0 = t 19 0 := by
  obtain ⟨⟨L, _, a, b, _⟩, _⟩ := h.rd
  rw [a, b]
theorem RR.ask {v : Nat} {u : SC} {t : M2} (h : RR v u t) : u.1 3 0 = t 22 0 := h.rd.2.1
theorem RR.tak {v : Nat} {u : SC} {t : M2} (h : RR v u t) : u.1 4 0 = t 23 0 := h.rd.2.2.1
theorem qW_t {x a b : Int32} (h : qWithin x a b = true) : ¬ x < a ∧ ¬ b < x := by
  unfold qWithin at h
  by_cases c : x < a
  · rw [if_pos c] at h; cases h
  · rw [if_neg c] at h
    by_cases d : b < x
    · rw [if_pos d] at h; cases h
    · exact ⟨c, d⟩
theorem qW_f {x a b : Int32} (h : qWithin x a b = false) : x < a ∨ b < x := by
  unfold qWithin at h
  by_cases c : x < a
  · exact Or.inl c
  · rw [if_neg c] at h
    by_cases d : b < x
    · exact Or.inr d
    · rw [if_neg d] at h; cases h
theorem qW_of {x a b : Int32} (h : ¬ x < a) (h2 : ¬ b < x) : qWithin x a b = true := by
  unfold qWithin
  rw [if_neg h, if_neg h2]
theorem z_gt5 (x : Int32) : (6 ≤ x) ↔ (5 < x) := by
  simp only [Int32.le_iff_toInt_le, Int32.lt_iff_toInt_lt, show (6 : Int32).toInt = 6 from rfl, show (5 : Int32).toInt = 5 from rfl]; omega
theorem z_gt1 (x : Int32) : (2 ≤ x) ↔ (1 < x) := by
  simp only [Int32.le_iff_toInt_le, Int32.lt_iff_toInt_lt, show (2 : Int32).toInt = 2 from rfl, show (1 : Int32).toInt = 1 from rfl]; omega
theorem z_lt1 (x : Int32) : (x < 1) ↔ (x < 0 ∨ x = 0) := by
  rw [← Int32.toInt_inj]
  simp only [Int32.lt_iff_toInt_lt, show (0 : Int32).toInt = 0 from rfl, show (1 : Int32).toInt = 1 from rfl]; omega
theorem kM_q (x : Int32) : kIsMethod x = qWithin x 0 5 := by
  unfold kIsMethod qWithin
  by_cases c : x < 0
  · rw [if_pos c, if_pos c]
  · rw [if_neg c, if_neg c]
    by_cases d : 6 ≤ x
    · rw [if_pos d, if_pos ((z_gt5 x).mp d)]
    · rw [if_neg d, if_neg (fun z => d ((z_gt5 x).mpr z))]
theorem kT_q (x : Int32) : kIsTarget x = qWithin x 0 1 := by
  unfold kIsTarget qWithin
  by_cases c : x < 0
  · rw [if_pos c, if_pos c]
  · rw [if_neg c, if_neg c]
    by_cases d : 2 ≤ x
    · rw [if_pos d, if_pos ((z_gt1 x).mp d)]
    · rw [if_neg d, if_neg (fun z => d ((z_gt1 x).mpr z))]
theorem kE_q (x : Int32) : kIsExc x = qIsExc x := rfl
theorem kZ_q (x : Int32) : kIsExcZ x = qWithin x 0 15 := by
  unfold kIsExcZ kIsExc qWithin
  by_cases c : x = 0
  · subst c
    rfl
  · rw [if_neg c]
    by_cases d : x < 0
    · rw [if_pos d, if_pos ((z_lt1 x).mpr (Or.inl d))]
    · rw [if_neg d, if_neg (fun z => ((z_lt1 x).mp z).elim d c)]
theorem kN_q (k a b : Int32) : kNums k a b = qFits k a b := by
  unfold kNums qFits
  rw [kZ_q]
  rfl
theorem qW_nI {x M : Int32} {n : Nat} (hM : M.toInt = n) (h : qWithin x 0 M = true) : ∃ j, j ≤ n ∧ x = nI j := by
  obtain ⟨a, b⟩ := qW_t h
  exact nI_of2 hM a (by rw [Int32.le_iff_toInt_le]; rw [Int32.lt_iff_toInt_lt] at b; omega)
theorem kSwap_1 (u : SC) (p : Int32) : (kSwap u p).1 = u.1 := rfl
theorem kUpL_1 : ∀ (f : Nat) (u : SC) (a : Int32), (kUpL f u a).1 = u.1
  | 0, _, _ => rfl
  | f + 1, u, a => by
    unfold kUpL
    split
    · rfl
    · split
      · rw [kUpL_1 f]; rfl
      · rfl
theorem kDownL_1 : ∀ (f : Nat) (u : SC) (a : Int32), (kDownL f u a).1 = u.1
  | 0, _, _ => rfl
  | f + 1, u, a => by
    unfold kDownL
    split
    · rfl
    · split
      · rw [kDownL_1 f]; rfl
      · rfl
theorem kSettle_1 (u : SC) (p : Int32) : (kSettle u p).1 = u.1 := by
  unfold kSettle
  rw [kDownL_1, kUpL_1]
theorem kMake_7 (u : SC) (kd o ms a b : Int32) : (kMake u kd o ms a b).2.1 7 0 = u.1 7 0 + 1 := by
  unfold kMake
  dsimp only
  rw [kSettle_1]
  rfl
theorem freeze_rr {v : Nat} {u : SC} {t : M2} (h : RR v u t) (b : Bool) : RR v (kFreeze u b) (qFreeze t b) := by
  obtain ⟨n, r, k, hS, hN, hP, h7, h1, h0, hD, h5, hI, hz⟩ := h
  exact ⟨n, r, k, hS, hN, hP, h7, h1, rfl, hD, h5, hI, hz⟩
theorem advise_rr {v : Nat} {u : SC} {t : M2} (h : RR v u t) (hv : v + 1 < 1000) (kd o ms a b : Int32) : (kAdvise u kd o ms a b).1 = (qAdvise t kd o ms a b).1 ∧ ∃ v', v' ≤ v + 1 ∧ RR v' (kAdvise u kd o ms a b).2 (qAdvise t kd o ms a b).2 := by
  have h' := h
  obtain ⟨n, r, k, hS, hN, hP, h7, h1, h0, hD, h5, hI, hz⟩ := h
  have hn := hS.1.1
  have e6 := hS.1.2.1
  have e0 := hS.1.2.2.1
  unfold kAdvise qAdvise
  rw [← h0]
  by_cases c0 : u.1 0 0 = 0
  · rw [if_pos c0, if_pos c0]
    by_cases c6 : n = 6
    · have x1 : kIsFull u = true := by unfold kIsFull; rw [e6, c6]; rfl
      rw [if_pos x1, if_pos (show t 0 0 = 6 by rw [e0, c6]; rfl)]
      exact ⟨rfl, v, by omega, h'⟩
    · have x0 : ¬ nI n = 6 := fun z => c6 ((neq (by omega) (by omega)).mp (z.trans (show (6 : Int32) = nI 6 from rfl)))
      have x1 : ¬ kIsFull u = true := by unfold kIsFull; rw [e6, if_neg x0]; decide
      rw [if_neg x1, if_neg (show ¬ t 0 0 = 6 by rw [e0]; exact x0)]
      by_cases c1 : qWithin kd 0 7 = true
      · obtain ⟨w1, w2⟩ := qW_t c1
        rw [if_neg w1, if_neg w2, if_neg (show ¬ qWithin kd 0 7 = false by rw [c1]; decide)]
        by_cases c2 : qWithin ms 1 63 = true
        · obtain ⟨w3, w4⟩ := qW_t c2
          rw [if_neg w3, if_neg w4, if_neg (show ¬ qWithin ms 1 63 = false by rw [c2]; decide), kN_q]
          by_cases c3 : qFits kd a b = true
          · rw [if_neg (show ¬ qFits kd a b = false by rw [c3]; decide), if_neg (show ¬ qFits kd a b = false by rw [c3]; decide)]
            obtain ⟨r', k', g1, g2, g3, g4, g5⟩ := advise_rm hS.1 hN h1 h7 hv hP (by omega) kd o ms a b
            obtain ⟨s1, s2, s3, s4, s5, s6, s7, s8⟩ := hS
            have gi := fun k0 c1 c2 c3 => congrFun (g5 k0 c1 c2 c3)
            have hix : ix (t 0 0) = n := by rw [e0]; exact ixn (by omega)
            refine ⟨by rw [g4, h1, nI_1, nI_pred], v + 1, by omega, n + 1, r', k', ⟨g1, ?_, ?_, s4, s5, s6, ?_, ?_⟩, g2, g3, ?_, ?_, ?_, ?_, ?_, ?_, ?_⟩
            · rw [gi 1 (by omega) (by omega) (by omega)]; exact s2
            · intro j hj
              rw [gi 22 (by omega) (by omega) (by omega), gi 23 (by omega) (by omega) (by omega), gi 24 (by omega) (by omega) (by omega), gi 25 (by omega) (by omega) (by omega), gi 26 (by omega) (by omega) (by omega)]
              exact s3 j hj
            · intro q hq
              show ∃ e, e < 8 ∧ upd (t 4) (ix (t 0 0)) kd q = nI e
              rw [hix]
              by_cases cq : q = n
              · rw [cq, pk_us]
                obtain ⟨j, hj, ej⟩ := qW_nI (n := 7) rfl c1
                exact ⟨j, by omega, ej⟩
              · rw [pk_un cq]; exact s7 q (by omega)
            · intro q hq
              show qFits (upd (t 4) (ix (t 0 0)) kd q) (upd (t 7) (ix (t 0 0)) a q) (upd (t 8) (ix (t 0 0)) b q) = true
              rw [hix]
              by_cases cq : q = n
              · rw [cq, pk_us, pk_us, pk_us]; exact c3
              · rw [pk_un cq, pk_un cq, pk_un cq]; exact s8 q (by omega)
            · rw [kMake_7, h7, nI_1]
            · show t 1 0 + 1 = _
              rw [h1, nI_1]
            · rw [gi 0 (by omega) (by omega) (by omega)]; exact h0
            · obtain ⟨⟨L, l1, l2, l3, l4⟩, l5, l6, l7⟩ := hD
              refine ⟨⟨L, l1, by rw [gi 8 (by omega) (by omega) (by omega)]; exact l2, l3, fun i hi => ?_⟩, by rw [gi 3 (by omega) (by omega) (by omega)]; exact l5, by rw [gi 4 (by omega) (by omega) (by omega)]; exact l6, by rw [gi 2 (by omega) (by omega) (by omega)]; exact l7⟩
              rw [gi 11 (by omega) (by omega) (by omega), gi 12 (by omega) (by omega) (by omega)]
              exact l4 i hi
            · rw [gi 5 (by omega) (by omega) (by omega)]; exact h5
            · obtain ⟨i1, i2, i3, i4, i5, i6, i7, i8⟩ := hI
              refine ⟨⟨n + 1, by omega, g1.2.1⟩, by rw [gi 8 (by omega) (by omega) (by omega)]; exact i2, g3.1, fun d hd => by rw [gi 9 (by omega) (by omega) (by omega)]; exact i4 d hd, fun d hd => by rw [gi 10 (by omega) (by omega) (by omega)]; exact i5 d hd, by rw [gi 1 (by omega) (by omega) (by omega)]; exact i6, by rw [gi 2 (by omega) (by omega) (by omega)]; exact i7, fun j hj => by rw [gi 26 (by omega) (by omega) (by omega)]; exact i8 j hj⟩
            · intro i hi
              show vp_nar .boolean (upd (t 9) (ix (t 0 0)) 0 i) = upd (t 9) (ix (t 0 0)) 0 i
              rw [hix]
              by_cases ci : i = n
              · rw [ci, pk_us]; rfl
              · rw [pk_un ci]; exact hz i hi
          · rw [if_pos (show qFits kd a b = false by simpa using c3), if_pos (show qFits kd a b = false by simpa using c3)]
            exact ⟨rfl, v, by omega, h'⟩
        · have c2' : qWithin ms 1 63 = false := by simpa using c2
          rw [if_pos c2']
          refine ⟨?_, v, by omega, ?_⟩
          · rcases qW_f c2' with w | w
            · rw [if_pos w]
            · by_cases w3 : ms < 1
              · rw [if_pos w3]
              · rw [if_neg w3, if_pos w]
          · rcases qW_f c2' with w | w
            · rw [if_pos w]; exact h'
            · by_cases w3 : ms < 1
              · rw [if_pos w3]; exact h'
              · rw [if_neg w3, if_pos w]; exact h'
      · have c1' : qWithin kd 0 7 = false := by simpa using c1
        rw [if_pos c1']
        refine ⟨?_, v, by omega, ?_⟩
        · rcases qW_f c1' with w | w
          · rw [if_pos w]
          · by_cases w3 : kd < 0
            · rw [if_pos w3]
            · rw [if_neg w3, if_pos w]
        · rcases qW_f c1' with w | w
          · rw [if_pos w]; exact h'
          · by_cases w3 : kd < 0
            · rw [if_pos w3]; exact h'
            · rw [if_neg w3, if_pos w]; exact h'
  · rw [if_neg c0, if_neg c0]
    exact ⟨rfl, v, by omega, h'⟩
theorem RA.set3 {n p : Nat} {r k : Nat → Nat} {u : SC} {t : M2} (h : RA n r k u t) (hP : PI u) (hp : p < n) (lo hi : Int32) : RA n r k (kGive u (u.2 p) lo hi) (up2 (up2 (up2 t 9 (r p) 1) 10 (r p) lo) 11 (r p) hi) := by
  obtain ⟨h1, h2, h3, h4, h5, h7, h8, h9⟩ := h
  refine ⟨h1, h2, h3, h4, h5, h7, fun i hi' => ?_, h9⟩
  obtain ⟨g1, g2, g3, g4, g5, g6, g7, g8⟩ := h8 i hi'
  have z1 : i ≠ p → u.2 i ≠ u.2 p := fun e z => e (hP.2 i p (by omega) (by omega) z)
  have z2 : i ≠ p → r i ≠ r p := fun e z => e (h5 i p hi' hp z)
  refine ⟨g1, g2, g3, g4, g5, g6, ?_, ?_⟩
  · show upd (u.1 19) (u.2 p) 1 (u.2 i) = upd (t 9) (r p) 1 (r i)
    by_cases e : i = p
    · rw [e, pk_us, pk_us]
    · rw [pk_un (z1 e), pk_un (z2 e)]; exact g7
  · show ¬ upd (t 9) (r p) 1 (r i) = 0 → upd (u.1 20) (u.2 p) lo (u.2 i) = upd (t 10) (r p) lo (r i) ∧ upd (u.1 21) (u.2 p) hi (u.2 i) = upd (t 11) (r p) hi (r i)
    by_cases e : i = p
    · rw [e]; intro _; rw [pk_us, pk_us, pk_us, pk_us]; exact ⟨rfl, rfl⟩
    · simp only [pk_un (z1 e), pk_un (z2 e)]; exact g8
theorem when_rr {v : Nat} {u : SC} {t : M2} (h : RR v u t) (x lo hi : Int32) : (kWhen u x lo hi).1 = (qWhen t x lo hi).1 ∧ RR v (kWhen u x lo hi).2 (qWhen t x lo hi).2 := by
  have h' := h
  obtain ⟨n, r, k, hS, hN, hP, h7, h1, h0, hD, h5, hI, hz⟩ := h
  unfold kWhen qWhen
  dsimp only
  rw [← h0]
  by_cases c0 : u.1 0 0 = 0
  · rw [if_pos c0, if_pos c0]
    have hn := hS.1.1
    rcases find_same hS.1.rm hN x with ⟨a1, a2⟩ | ⟨p, hp, a1, a2, a3⟩
    · rw [a1, a2, if_pos rfl, if_pos (by decide)]
      exact ⟨rfl, h'⟩
    · have hrp := hS.1.2.2.2.1 p hp
      rw [a1, a2, if_neg (nI_ne_m1 (by omega)), if_neg (nI_nneg (by omega)), ixn (by omega : p < 1000), ixn (by omega : r p < 1000)]
      by_cases c : hi < lo
      · rw [if_pos c, if_pos c]
        exact ⟨rfl, h'⟩
      · rw [if_neg c, if_neg c]
        obtain ⟨s1, s2, s3, s4, s5, s6, s7, s8⟩ := hS
        refine ⟨rfl, n, r, k, ⟨s1.set3 hP hp lo hi, s2, s3, s4, s5, s6, s7, s8⟩, hN, hP, h7, h1, h0, hD, h5, hI, fun i hi' => ?_⟩
        show vp_nar .boolean (upd (t 9) (r p) 1 i) = upd (t 9) (r p) 1 i
        by_cases e : i = r p
        · rw [e, pk_us]; rfl
        · rw [pk_un e]; exact hz i hi'
  · rw [if_neg c0, if_neg c0]
    exact ⟨rfl, h'⟩
theorem reorder_rr {v : Nat} {u : SC} {t : M2} (h : RR v u t) (x o : Int32) : (kReorder u x o).1 = (qReorder t x o).1 ∧ RR v (kReorder u x o).2 (qReorder t x o).2 := by
  have h' := h
  obtain ⟨n, r, k, hS, hN, hP, h7, h1, h0, hD, h5, hI, hz⟩ := h
  unfold kReorder qReorder
  dsimp only
  rw [← h0]
  by_cases c0 : u.1 0 0 = 0
  · rw [if_pos c0, if_pos c0]
    have hn := hS.1.1
    rcases find_same hS.1.rm hN x with ⟨a1, a2⟩ | ⟨p, hp, a1, a2, a3⟩
    · rw [a1, a2, if_pos rfl, if_pos (by decide)]
      exact ⟨rfl, h'⟩
    · have hrp := hS.1.2.2.2.1 p hp
      rw [a1, a2, if_neg (nI_ne_m1 (by omega)), if_neg (nI_nneg (by omega)), ixn (by omega : r p < 1000)]
      obtain ⟨r', k', g1, g2, g3, g4⟩ := reorder_ra hS.1 hN hP hp o
      have gi := fun k0 c => congrFun (g4 k0 c)
      obtain ⟨s1, s2, s3, s4, s5, s6, s7, s8⟩ := hS
      refine ⟨rfl, n, r', k', ⟨g1, ?_, ?_, s4, s5, s6, s7, s8⟩, g2, g3, ?_, h1, ?_, ?_, ?_, ?_, hz⟩
      · show (kMove u (nI p) o).1 1 0 = _
        rw [gi 1 (by omega)]; exact s2
      · intro j hj
        show (kMove u (nI p) o).1 22 j = _ ∧ (kMove u (nI p) o).1 23 j = _ ∧ (kMove u (nI p) o).1 24 j = _ ∧ (kMove u (nI p) o).1 25 j = _ ∧ (kMove u (nI p) o).1 26 j = _
        rw [gi 22 (by omega), gi 23 (by omega), gi 24 (by omega), gi 25 (by omega), gi 26 (by omega)]; exact s3 j hj
      · show (kMove u (nI p) o).1 7 0 = _
        rw [gi 7 (by omega)]; exact h7
      · show (kMove u (nI p) o).1 0 0 = _
        rw [gi 0 (by omega)]; exact h0
      · obtain ⟨⟨L, l1, l2, l3, l4⟩, l5, l6, l7⟩ := hD
        refine ⟨⟨L, l1, ?_, l3, fun i hi => ?_⟩, ?_, ?_, ?_⟩
        · show (kMove u (nI p) o).1 8 0 = _
          rw [gi 8 (by omega)]; exact l2
        · show (kMove u (nI p) o).1 11 i = _ ∧ (kMove u (nI p) o).1 12 i = _
          rw [gi 11 (by omega), gi 12 (by omega)]; exact l4 i hi
        · show (kMove u (nI p) o).1 3 0 = _
          rw [gi 3 (by omega)]; exact l5
        · show (kMove u (nI p) o).1 4 0 = _
          rw [gi 4 (by omega)]; exact l6
        · show (kMove u (nI p) o).1 2 0 = _
          rw [gi 2 (by omega)]; exact l7
      · show (kMove u (nI p) o).1 5 0 = _
        rw [gi 5 (by omega)]; exact h5
      · obtain ⟨i1, i2, i3, i4, i5, i6, i7, i8⟩ := hI
        refine ⟨⟨n, hn, g1.2.1⟩, by show ∃ n, n ≤ 100 ∧ (kMove u (nI p) o).1 8 0 = _; rw [gi 8 (by omega)]; exact i2, g3.1, fun d hd => by show ∃ n, n < 6 ∧ (kMove u (nI p) o).1 9 d = _; rw [gi 9 (by omega)]; exact i4 d hd, fun d hd => by show ∃ n, n < 2 ∧ (kMove u (nI p) o).1 10 d = _; rw [gi 10 (by omega)]; exact i5 d hd, by show ∃ n, n < 3 ∧ (kMove u (nI p) o).1 1 0 = _; rw [gi 1 (by omega)]; exact i6, by show ∃ n, n < 2 ∧ (kMove u (nI p) o).1 2 0 = _; rw [gi 2 (by omega)]; exact i7, fun j hj => by show (kMove u (nI p) o).1 26 j = -1 ∨ ∃ n, n < 6 ∧ (kMove u (nI p) o).1 26 j = _; rw [gi 26 (by omega)]; exact i8 j hj⟩
  · rw [if_neg c0, if_neg c0]
    exact ⟨rfl, h'⟩
theorem shf_at {a n q : Nat} (hq : q < n) : ∃ q', q' < n + 1 ∧ ∀ f : Nat → Int32, shf f a n q = f q' := by
  unfold shf
  by_cases c : q < a
  · exact ⟨q, by omega, fun f => by rw [if_pos c]⟩
  · exact ⟨q + 1, by omega, fun f => by rw [if_neg c, if_pos hq]⟩
theorem remove_rr {v : Nat} {u : SC} {t : M2} (h : RR v u t) (x : Int32) : (kRemove u x).1 = (qRemove t x).1 ∧ RR v (kRemove u x).2 (qRemove t x).2 := by
  have h' := h
  obtain ⟨n, r, k, hS, hN, hP, h7, h1, h0, hD, h5, hI, hz⟩ := h
  unfold kRemove qRemove
  dsimp only
  rw [← h0]
  by_cases c0 : u.1 0 0 = 0
  · rw [if_pos c0, if_pos c0]
    have hn := hS.1.1
    rcases find_same hS.1.rm hN x with ⟨a1, a2⟩ | ⟨p, hp, a1, a2, a3⟩
    · rw [a1, a2, if_pos rfl, if_pos (by decide)]
      exact ⟨rfl, h'⟩
    · have hrp := hS.1.2.2.2.1 p hp
      rw [a1, a2, if_neg (nI_ne_m1 (by omega)), if_neg (nI_nneg (by omega))]
      obtain ⟨n1, rfl⟩ : ∃ n1, n = n1 + 1 := ⟨n - 1, by omega⟩
      obtain ⟨r', k', g1, g2, g3, g4, g5⟩ := remove_ra hS.1 hN hP hp hz
      have gi := fun k0 c => congrFun (g4 k0 c)
      have gj := fun k0 c => congrFun (g5 k0 c)
      have et : up2 t 0 0 (t 0 0 - 1) = up2 t 0 0 (nI n1) := by rw [hS.1.2.2.1, nI_pred]
      have sp := shift_spec (n := n1) (by omega) 7 (r p) (up2 t 0 0 (nI n1)) rfl (by omega) (by omega) hz
      rw [← et] at sp
      have sk : ∀ k, 3 ≤ k → k ≤ 11 → qShiftL 7 (up2 t 0 0 (t 0 0 - 1)) (nI (r p)) k = shf (t k) (r p) n1 := by
        intro k hk1 hk2
        rw [sp]
        dsimp only
        rw [if_pos ⟨hk1, hk2⟩]
        unfold up2
        rw [if_neg (by omega)]
      obtain ⟨s1, s2, s3, s4, s5, s6, s7, s8⟩ := hS
      generalize qShiftL 7 (up2 t 0 0 (t 0 0 - 1)) (nI (r p)) = t' at *
      generalize kTakeAway u (nI p) = u' at *
      dsimp only
      refine ⟨rfl, n1, r', k', ⟨g1, ?_, ?_, ?_, ?_, ?_, ?_, ?_⟩, g2, g3, ?_, ?_, ?_, ?_, ?_, ?_, ?_⟩
      · rw [gi 1 (by omega), gj 17 (by omega)]; exact s2
      · intro j hj
        rw [gi 22 (by omega), gi 23 (by omega), gi 24 (by omega), gi 25 (by omega), gi 26 (by omega), gj 12 (by omega), gj 13 (by omega), gj 14 (by omega), gj 15 (by omega), gj 16 (by omega)]; exact s3 j hj
      · intro j hj; rw [gj 15 (by omega)]; exact s4 j hj
      · intro j hj; rw [gj 16 (by omega)]; exact s5 j hj
      · rw [gj 17 (by omega)]; exact s6
      · intro q hq
        obtain ⟨q', hq', e⟩ := shf_at (a := r p) hq
        rw [sk 4 (by omega) (by omega), e]; exact s7 q' hq'
      · intro q hq
        obtain ⟨q', hq', e⟩ := shf_at (a := r p) hq
        rw [sk 4 (by omega) (by omega), sk 7 (by omega) (by omega), sk 8 (by omega) (by omega), e, e, e]; exact s8 q' hq'
      · rw [gi 7 (by omega)]; exact h7
      · rw [gj 1 (by omega)]; exact h1
      · rw [gi 0 (by omega), gj 2 (by omega)]; exact h0
      · obtain ⟨⟨L, l1, l2, l3, l4⟩, l5, l6, l7⟩ := hD
        refine ⟨⟨L, l1, ?_, ?_, fun i hi => ?_⟩, ?_, ?_, ?_⟩
        · rw [gi 8 (by omega)]; exact l2
        · rw [gj 19 (by omega)]; exact l3
        · rw [gi 11 (by omega), gi 12 (by omega), gj 20 (by omega), gj 21 (by omega)]; exact l4 i hi
        · rw [gi 3 (by omega), gj 22 (by omega)]; exact l5
        · rw [gi 4 (by omega), gj 23 (by omega)]; exact l6
        · rw [gi 2 (by omega), gj 18 (by omega)]; exact l7
      · rw [gi 5 (by omega), gj 24 (by omega)]; exact h5
      · obtain ⟨i1, i2, i3, i4, i5, i6, i7, i8⟩ := hI
        exact ⟨⟨n1, by omega, g1.2.1⟩, by rw [gi 8 (by omega)]; exact i2, g3.1, fun d hd => by rw [gi 9 (by omega)]; exact i4 d hd, fun d hd => by rw [gi 10 (by omega)]; exact i5 d hd, by rw [gi 1 (by omega)]; exact i6, by rw [gi 2 (by omega)]; exact i7, fun j hj => by rw [gi 26 (by omega)]; exact i8 j hj⟩
      · intro i hi
        rw [sk 9 (by omega) (by omega)]
        by_cases c : i < n1
        · obtain ⟨q', hq', e⟩ := shf_at (a := r p) c
          rw [e]; exact hz q' (by omega)
        · have e : shf (t 9) (r p) n1 i = t 9 i := by
            unfold shf
            by_cases c2 : i < r p
            · rw [if_pos c2]
            · rw [if_neg c2, if_neg c]
          rw [e]; exact hz i hi
  · rw [if_neg c0, if_neg c0]
    exact ⟨rfl, h'⟩
