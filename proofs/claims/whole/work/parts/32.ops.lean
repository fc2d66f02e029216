/-! pure rows: what the calls that change advisors do to both sides -/
def RM (n : Nat) (r k : Nat → Nat) (u : SC) (t : M2) : Prop :=
  n ≤ 6 ∧ u.1 6 0 = nI n ∧ t 0 0 = nI n ∧ (∀ i, i < n → r i < n) ∧ (∀ i j, i < n → j < n → r i = r j → i = j) ∧ (∀ q, q < n → k q < n ∧ r (k q) = q) ∧
  (∀ i, i < n → (u.1 13 (u.2 i) = t 3 (r i) ∧ u.1 14 (u.2 i) = t 4 (r i) ∧ u.1 15 (u.2 i) = t 5 (r i) ∧ u.1 16 (u.2 i) = t 6 (r i) ∧ u.1 17 (u.2 i) = t 7 (r i) ∧ u.1 18 (u.2 i) = t 8 (r i) ∧ u.1 19 (u.2 i) = t 9 (r i) ∧ (¬ t 9 (r i) = 0 → u.1 20 (u.2 i) = t 10 (r i) ∧ u.1 21 (u.2 i) = t 11 (r i))))
theorem RA.rm {n : Nat} {r k : Nat → Nat} {u : SC} {t : M2} (h : RA n r k u t) : RM n r k u t := ⟨h.1, h.2.1, h.2.2.1, h.2.2.2.1, h.2.2.2.2.1, h.2.2.2.2.2.1, h.2.2.2.2.2.2.1⟩
theorem RM.ra {n : Nat} {r k : Nat → Nat} {u : SC} {t : M2} (h : RM n r k u t) (hs : ∀ i j, i < j → j < n → t 5 (r i) < t 5 (r j) ∨ (t 5 (r i) = t 5 (r j) ∧ r i < r j)) : RA n r k u t := ⟨h.1, h.2.1, h.2.2.1, h.2.2.2.1, h.2.2.2.2.1, h.2.2.2.2.2.1, h.2.2.2.2.2.2, hs⟩
theorem RM.po {n : Nat} {r k : Nat → Nat} {u u' : SC} {t : M2} (h : RM n r k u t) (hp : PO n u u') : ∃ r' k', RM n r' k' u' t := by
  obtain ⟨h1, h2, h3, h4, h5, h6, h7⟩ := h
  obtain ⟨a1, -, s, s', a3, a4⟩ := hp
  refine ⟨fun i => r (s i), fun q => s' (k q), h1, by rw [a1]; exact h2, h3, fun i hi => h4 _ (a3 i hi).1, fun i j hi hj he => ?_, fun q hq => ?_, fun i hi => ?_⟩
  · have := congrArg s' (h5 _ _ (a3 i hi).1 (a3 j hj).1 he)
    rwa [(a3 i hi).2.2.2, (a3 j hj).2.2.2] at this
  · obtain ⟨g1, g2⟩ := h6 q hq
    refine ⟨(a3 _ g1).2.1, ?_⟩
    show r (s (s' (k q))) = q
    rw [(a3 _ g1).2.2.1, g2]
  · rw [a1, a4 i hi]
    exact h7 _ (a3 i hi).1
/-- the names of the reference grow with the index, and are below v -/
def NM (n v : Nat) (t : M2) : Prop := v < 1000 ∧ ∃ nm : Nat → Nat, (∀ a, a < n → t 3 a = nI (nm a) ∧ nm a < v) ∧ ∀ a b, a < b → b < n → nm a < nm b
theorem NM.inj {n v : Nat} {t : M2} (h : NM n v t) {a b : Nat} (ha : a < n) (hb : b < n) : (t 3 a = t 3 b ↔ a = b) ∧ (t 3 a < t 3 b ↔ a < b) := by
  obtain ⟨hv, nm, h1, h2⟩ := h
  have e1 := h1 a ha
  have e2 := h1 b hb
  rw [e1.1, e2.1, neq (by omega) (by omega), nlt (by omega) (by omega)]
  rcases Nat.lt_trichotomy a b with h | h | h
  · have := h2 a b h hb
    omega
  · subst h
    omega
  · have := h2 b a h ha
    omega
theorem RM.dn {n v : Nat} {r k : Nat → Nat} {u : SC} {t : M2} (h : RM n r k u t) (hN : NM n v t) : DN n u := by
  intro i j hi hj hij he
  rw [(h.2.2.2.2.2.2 i hi).1, (h.2.2.2.2.2.2 j hj).1] at he
  exact hij (h.2.2.2.2.1 i j hi hj ((hN.inj (h.2.2.2.1 i hi) (h.2.2.2.1 j hj)).1.mp he))
theorem RM.bf {n v : Nat} {r k : Nat → Nat} {u : SC} {t : M2} (h : RM n r k u t) (hN : NM n v t) {i j : Nat} (hi : i < n) (hj : j < n) : kBefore u (u.2 i) (u.2 j) = true ↔ (t 5 (r i) < t 5 (r j) ∨ (t 5 (r i) = t 5 (r j) ∧ r i < r j)) := by
  rw [kBefore_iff, (h.2.2.2.2.2.2 i hi).1, (h.2.2.2.2.2.2 j hj).1, (h.2.2.2.2.2.2 i hi).2.2.1, (h.2.2.2.2.2.2 j hj).2.2.1, (hN.inj (h.2.2.2.1 i hi) (h.2.2.2.1 j hj)).2]
theorem RA.so {n v : Nat} {r k : Nat → Nat} {u : SC} {t : M2} (h : RA n r k u t) (hN : NM n v t) : SO n u := fun i j hij hj => (h.rm.bf hN (by omega) hj).mpr (h.2.2.2.2.2.2.2 i j hij hj)
theorem RM.ofso {n v : Nat} {r k : Nat → Nat} {u : SC} {t : M2} (h : RM n r k u t) (hN : NM n v t) (hs : SO n u) : RA n r k u t := h.ra (fun i j hij hj => (h.bf hN (by omega) hj).mp (hs i j hij hj))
/-- settling the one that may stand wrong -/
theorem RM.settle {n v a : Nat} {r k : Nat → Nat} {u : SC} {t : M2} (h : RM n r k u t) (hN : NM n v t) (ha : a < n) (hX : SX n a u) : PO n u (kSettle u (nI a)) ∧ ∃ r' k', RA n r' k' (kSettle u (nI a)) t := by
  obtain ⟨h1, h2⟩ := settle_spec h.1 h.2.1 ha hX (h.dn hN)
  obtain ⟨r', k', h3⟩ := h.po h1
  exact ⟨h1, r', k', h3.ofso hN h2⟩
/-! which place, which index -/
theorem kPlaceL_spec {n : Nat} (u : SC) (x : Int32) (hn : n ≤ 6) (h6 : u.1 6 0 = nI n) : ∀ (f p : Nat), p ≤ n → n - p < f →
    (kPlaceL u x f (nI p) = -1 ∧ ∀ j, p ≤ j → j < n → ¬ u.1 13 (u.2 j) = x) ∨ ∃ q, p ≤ q ∧ q < n ∧ kPlaceL u x f (nI p) = nI q ∧ u.1 13 (u.2 q) = x
  | 0, p, _, h => by omega
  | f + 1, p, hp, hf => by
    unfold kPlaceL
    rw [h6, ixn (by omega : p < 1000), nI_1]
    by_cases hnp : n ≤ p
    · rw [if_pos ((nle (by omega) (by omega)).mpr hnp)]
      exact Or.inl ⟨rfl, fun j h1 h2 => by omega⟩
    · rw [if_neg (fun h => hnp ((nle (by omega) (by omega)).mp h))]
      by_cases hb : u.1 13 (u.2 p) = x
      · rw [if_pos hb]
        exact Or.inr ⟨p, Nat.le_refl _, by omega, rfl, hb⟩
      · rw [if_neg hb]
        rcases kPlaceL_spec u x hn h6 f (p + 1) (by omega) (by omega) with ⟨h1, h2⟩ | ⟨q, h1, h2, h3, h4⟩
        · refine Or.inl ⟨h1, fun j h3 h4 => ?_⟩
          by_cases hj : j = p
          · rw [hj]; exact hb
          · exact h2 j (by omega) h4
        · exact Or.inr ⟨q, by omega, h2, h3, h4⟩
theorem qFindL_spec {n : Nat} (t : M2) (x : Int32) (hn : n ≤ 6) (h0 : t 0 0 = nI n) : ∀ (f q : Nat) (z : Int32), q ≤ n → n - q < f →
    (qFindL t x f (nI q) z = z ∧ ∀ j, q ≤ j → j < n → ¬ t 3 j = x) ∨ ∃ j, q ≤ j ∧ j < n ∧ qFindL t x f (nI q) z = nI j ∧ t 3 j = x
  | 0, q, z, _, h => by omega
  | f + 1, q, z, hq, hf => by
    unfold qFindL
    rw [h0, ixn (by omega : q < 1000), nI_1]
    by_cases hnq : n ≤ q
    · rw [if_pos ((nle (by omega) (by omega)).mpr hnq)]
      exact Or.inl ⟨rfl, fun j h1 h2 => by omega⟩
    · rw [if_neg (fun h => hnq ((nle (by omega) (by omega)).mp h))]
      by_cases hb : t 3 q = x
      · rw [if_pos hb]
        rcases qFindL_spec t x hn h0 f (q + 1) (nI q) (by omega) (by omega) with ⟨h1, h2⟩ | ⟨j, h1, h2, h3, h4⟩
        · exact Or.inr ⟨q, Nat.le_refl _, by omega, h1, hb⟩
        · exact Or.inr ⟨j, by omega, h2, h3, h4⟩
      · rw [if_neg hb]
        rcases qFindL_spec t x hn h0 f (q + 1) z (by omega) (by omega) with ⟨h1, h2⟩ | ⟨j, h1, h2, h3, h4⟩
        · refine Or.inl ⟨h1, fun j h3 h4 => ?_⟩
          by_cases hj : j = q
          · rw [hj]; exact hb
          · exact h2 j (by omega) h4
        · exact Or.inr ⟨j, by omega, h2, h3, h4⟩
theorem find_same {n v : Nat} {r k : Nat → Nat} {u : SC} {t : M2} (h : RM n r k u t) (hN : NM n v t) (x : Int32) :
    (kPlaceOf u x = -1 ∧ qFind t x = -1) ∨ ∃ p, p < n ∧ kPlaceOf u x = nI p ∧ qFind t x = nI (r p) ∧ u.1 13 (u.2 p) = x := by
  have hn := h.1
  have hk := kPlaceL_spec u x h.1 h.2.1 7 0 (by omega) (by omega)
  have hq := qFindL_spec t x h.1 h.2.2.1 7 0 (-1) (by omega) (by omega)
  rcases hk with ⟨a1, a2⟩ | ⟨p, a1, a2, a3, a4⟩
  · rcases hq with ⟨b1, b2⟩ | ⟨j, b1, b2, b3, b4⟩
    · exact Or.inl ⟨a1, b1⟩
    · obtain ⟨g1, g2⟩ := h.2.2.2.2.2.1 j b2
      exact absurd (((h.2.2.2.2.2.2 _ g1).1.trans (by rw [g2])).trans b4) (a2 (k j) (by omega) g1)
  · rcases hq with ⟨b1, b2⟩ | ⟨j, b1, b2, b3, b4⟩
    · exact absurd ((h.2.2.2.2.2.2 p a2).1.symm.trans a4) (b2 (r p) (by omega) (h.2.2.2.1 p a2))
    · have e : j = r p := (hN.inj b2 (h.2.2.2.1 p a2)).1.mp (b4.trans (a4.symm.trans (h.2.2.2.2.2.2 p a2).1))
      subst e
      exact Or.inr ⟨p, a2, a3, b3, a4⟩
/-- the ids in the row are apart -/
def PI (u : SC) : Prop := (∀ i, i < 6 → u.2 i < 6) ∧ ∀ i j, i < 6 → j < 6 → u.2 i = u.2 j → i = j
theorem PI.po {n : Nat} {u u' : SC} (hn : n ≤ 6) (h : PI u) (hp : PO n u u') : PI u' := by
  obtain ⟨-, a2, s, s', a3, a4⟩ := hp
  have key : ∀ i, i < 6 → ∃ j, j < 6 ∧ u'.2 i = u.2 j ∧ (i < n → j < n ∧ s' j = i) ∧ (n ≤ i → j = i) := by
    intro i hi
    by_cases hl : i < n
    · exact ⟨s i, Nat.lt_of_lt_of_le (a3 i hl).1 hn, a4 i hl, fun _ => ⟨(a3 i hl).1, (a3 i hl).2.2.2⟩, fun h => absurd h (by omega)⟩
    · exact ⟨i, hi, a2 i (by omega), fun h => absurd h hl, fun _ => rfl⟩
  refine ⟨fun i hi => ?_, fun i j hi hj he => ?_⟩
  · obtain ⟨j, h1, h2, -⟩ := key i hi
    rw [h2]; exact h.1 j h1
  · obtain ⟨a, b1, b2, b3, b4⟩ := key i hi
    obtain ⟨b, c1, c2, c3, c4⟩ := key j hj
    rw [b2, c2] at he
    have hab := h.2 a b b1 c1 he
    subst hab
    by_cases hi' : i < n
    · by_cases hj' : j < n
      · rw [← (b3 hi').2, ← (c3 hj').2]
      · have := c4 (by omega)
        have := (b3 hi').1
        omega
    · have e1 := b4 (by omega)
      by_cases hj' : j < n
      · have := (c3 hj').1
        omega
      · have := c4 (by omega)
        omega
/-! advise -/
theorem advise_rm {n v : Nat} {r k : Nat → Nat} {u : SC} {t : M2} (h : RA n r k u t) (hN : NM n v t) (hv : t 1 0 = nI v) (hv2 : u.1 7 0 = nI v) (hv3 : v + 1 < 1000) (hP : PI u) (h6 : n < 6) (kd o ms a b : Int32) :
    ∃ r' k', RA (n + 1) r' k' (kMake u kd o ms a b).2 (qPut t kd o ms a b) ∧ NM (n + 1) (v + 1) (qPut t kd o ms a b) ∧ PI (kMake u kd o ms a b).2 ∧ (kMake u kd o ms a b).1 = nI v ∧ ∀ k', k' ≠ 6 → k' ≠ 7 → (k' < 13 ∨ 22 ≤ k') → (kMake u kd o ms a b).2.1 k' = u.1 k' := by
  have hN' := hN
  obtain ⟨hvb, nm, m1, m2⟩ := hN
  obtain ⟨h1, h2, h3, h4, h5, h7, h8, h9⟩ := h
  have hid : ∀ i, i < n → u.2 i ≠ u.2 n := fun i hi e => by have := hP.2 i n (by omega) h6 e; omega
  have hq : ∀ i, i < n → ¬ r i = n := fun i hi => by have := h4 i hi; omega
  generalize hw : wr (wr (wr (wr (wr (wr (wr (wr (wr u 13 (u.2 n) (nI v)) 14 (u.2 n) kd) 15 (u.2 n) o) 16 (u.2 n) ms) 17 (u.2 n) a) 18 (u.2 n) b) 19 (u.2 n) 0) 7 0 (nI v + 1)) 6 0 (nI n + 1) = w
  have hm : kMake u kd o ms a b = ((kSettle w (nI n)).1 13 (u.2 n), kSettle w (nI n)) := by
    unfold kMake
    simp only [h2, hv2, ixn (show n < 1000 by omega), hw]
    rw [nI_1, nI_pred]
  have ht : qPut t kd o ms a b = up2 (up2 (up2 (up2 (up2 (up2 (up2 (up2 (up2 t 3 n (nI v)) 4 n kd) 5 n o) 6 n ms) 7 n a) 8 n b) 9 n 0) 0 0 (nI n + 1)) 1 0 (nI v + 1) := by
    unfold qPut
    rw [h3, hv, ixn (show n < 1000 by omega)]
  have hRM : RM (n + 1) (fun i => if i = n then n else r i) (fun i => if i = n then n else k i) w (qPut t kd o ms a b) := by
    rw [ht, ← hw]
    refine ⟨h6, by show nI n + 1 = _; rw [nI_1], by show nI n + 1 = _; rw [nI_1], fun i hi => ?_, fun i j hi hj he => ?_, fun q hq => ?_, fun i hi => ?_⟩
    · dsimp only
      by_cases e : i = n
      · simp [e]
      · have := h4 i (by omega)
        simp only [e, if_false]; omega
    · dsimp only at he
      by_cases e : i = n
      · by_cases e2 : j = n
        · omega
        · simp only [e, e2, if_true, if_false] at he
          have := h4 j (by omega); omega
      · by_cases e2 : j = n
        · simp only [e, e2, if_true, if_false] at he
          have := h4 i (by omega); omega
        · simp only [e, e2, if_false] at he
          exact h5 i j (by omega) (by omega) he
    · dsimp only
      by_cases e : q = n
      · simp [e]
      · obtain ⟨g1, g2⟩ := h7 q (by omega)
        have e2 : ¬ k q = n := by omega
        simp only [e, e2, if_false]
        exact ⟨by omega, g2⟩
    · by_cases e : i = n
      · subst e
        dsimp only
        rw [if_pos rfl]
        show upd (u.1 13) (u.2 i) (nI v) (u.2 i) = upd (t 3) i (nI v) i ∧ upd (u.1 14) (u.2 i) kd (u.2 i) = upd (t 4) i kd i ∧ upd (u.1 15) (u.2 i) o (u.2 i) = upd (t 5) i o i ∧ upd (u.1 16) (u.2 i) ms (u.2 i) = upd (t 6) i ms i ∧ upd (u.1 17) (u.2 i) a (u.2 i) = upd (t 7) i a i ∧ upd (u.1 18) (u.2 i) b (u.2 i) = upd (t 8) i b i ∧ upd (u.1 19) (u.2 i) 0 (u.2 i) = upd (t 9) i 0 i ∧ (¬ upd (t 9) i 0 i = 0 → u.1 20 (u.2 i) = t 10 i ∧ u.1 21 (u.2 i) = t 11 i)
        simp only [pk_us]
        simp
      · have e1 := hid i (by omega)
        have e2 := hq i (by omega)
        dsimp only
        rw [if_neg e]
        show upd (u.1 13) (u.2 n) (nI v) (u.2 i) = upd (t 3) n (nI v) (r i) ∧ upd (u.1 14) (u.2 n) kd (u.2 i) = upd (t 4) n kd (r i) ∧ upd (u.1 15) (u.2 n) o (u.2 i) = upd (t 5) n o (r i) ∧ upd (u.1 16) (u.2 n) ms (u.2 i) = upd (t 6) n ms (r i) ∧ upd (u.1 17) (u.2 n) a (u.2 i) = upd (t 7) n a (r i) ∧ upd (u.1 18) (u.2 n) b (u.2 i) = upd (t 8) n b (r i) ∧ upd (u.1 19) (u.2 n) 0 (u.2 i) = upd (t 9) n 0 (r i) ∧ (¬ upd (t 9) n 0 (r i) = 0 → u.1 20 (u.2 i) = t 10 (r i) ∧ u.1 21 (u.2 i) = t 11 (r i))
        simp only [pk_un e1, pk_un e2]
        exact h8 i (by omega)
  have hNM : NM (n + 1) (v + 1) (qPut t kd o ms a b) := by
    rw [ht]
    refine ⟨hv3, fun i => if i = n then v else nm i, fun i hi => ?_, fun i j hij hj => ?_⟩
    · show upd _ _ _ _ = _ ∧ _
      dsimp only
      by_cases e : i = n
      · subst e
        rw [pk_us, if_pos rfl]
        exact ⟨rfl, by omega⟩
      · rw [pk_un e, if_neg e]
        have := m1 i (by omega)
        exact ⟨this.1, by omega⟩
    · dsimp only
      rw [if_neg (by omega)]
      by_cases e : j = n
      · rw [if_pos e]; exact (m1 i (by omega)).2
      · rw [if_neg e]; exact m2 i j hij (by omega)
  have hX : SX (n + 1) n w := by
    intro i j hij hj hi' hj'
    have e1 := hid i (by omega)
    have e2 := hid j (by omega)
    have hb := ((RA.so ⟨h1, h2, h3, h4, h5, h7, h8, h9⟩ hN') i j hij (by omega))
    rw [kBefore_iff] at hb ⊢
    rw [← hw]
    show (upd (u.1 15) (u.2 n) o (u.2 i) < upd (u.1 15) (u.2 n) o (u.2 j) ∨ (upd (u.1 15) (u.2 n) o (u.2 i) = upd (u.1 15) (u.2 n) o (u.2 j) ∧ upd (u.1 13) (u.2 n) (nI v) (u.2 i) < upd (u.1 13) (u.2 n) (nI v) (u.2 j)))
    simp only [pk_un e1, pk_un e2]
    exact hb
  obtain ⟨s1, r', k', s2⟩ := hRM.settle hNM (Nat.lt_succ_self n) hX
  have hPw : PI w := by rw [← hw]; exact hP
  refine ⟨r', k', by rw [hm]; exact s2, hNM, by rw [hm]; exact hPw.po h6 s1, ?_, fun k' c1 c2 c3 => ?_⟩
  · rw [hm]
    show (kSettle w (nI n)).1 13 (u.2 n) = nI v
    rw [s1.1, ← hw]
    exact pk_us
  · rw [hm]
    show (kSettle w (nI n)).1 k' = u.1 k'
    rw [s1.1, ← hw]
    simp only [wr, up2]
    rw [if_neg c1, if_neg c2, if_neg (by omega), if_neg (by omega), if_neg (by omega), if_neg (by omega), if_neg (by omega), if_neg (by omega), if_neg (by omega)]
