/-! pure rows: the class's row is kept in order -/
def bf (u : SC) (i j : Nat) : Bool := kBefore u (u.2 i) (u.2 j)
theorem kBefore_iff (u : SC) (k j : Nat) : kBefore u k j = true ↔ (u.1 15 k < u.1 15 j ∨ (u.1 15 k = u.1 15 j ∧ u.1 13 k < u.1 13 j)) := by
  unfold kBefore
  by_cases h1 : u.1 15 k < u.1 15 j
  · simp [h1]
  · rw [if_neg h1]
    by_cases h2 : u.1 15 k = u.1 15 j
    · rw [if_pos h2]
      by_cases h3 : u.1 13 j ≤ u.1 13 k
      · rw [if_pos h3]
        have h4 : ¬ u.1 13 k < u.1 13 j := by simp only [Int32.lt_iff_toInt_lt, Int32.le_iff_toInt_le] at *; omega
        simp [h1, h4]
      · rw [if_neg h3]
        have h4 : u.1 13 k < u.1 13 j := by simp only [Int32.lt_iff_toInt_lt, Int32.le_iff_toInt_le] at *; omega
        simp [h2, h4]
    · rw [if_neg h2]
      simp [h1, h2]
theorem kb_as {u : SC} {a b : Nat} (h : kBefore u a b = true) : kBefore u b a = false := by
  cases h2 : kBefore u b a with
  | false => rfl
  | true =>
    rw [kBefore_iff] at h h2
    have hx : u.1 15 a < u.1 15 b ∨ u.1 15 a = u.1 15 b := h.imp id And.left
    simp only [Int32.lt_iff_toInt_lt, ← Int32.toInt_inj] at *
    omega
theorem kb_tr {u : SC} {a b c : Nat} (h : kBefore u a b = true) (h2 : kBefore u b c = true) : kBefore u a c = true := by
  rw [kBefore_iff] at h h2 ⊢
  simp only [Int32.lt_iff_toInt_lt, ← Int32.toInt_inj] at *
  omega
theorem kb_tot {u : SC} {a b : Nat} (hd : ¬ u.1 13 a = u.1 13 b) (h : ¬ kBefore u a b = true) : kBefore u b a = true := by
  rw [kBefore_iff] at h ⊢
  simp only [Int32.lt_iff_toInt_lt, ← Int32.toInt_inj] at *
  omega
/-- u' is u with the places below n changed about -/
def PO (n : Nat) (u u' : SC) : Prop := u'.1 = u.1 ∧ (∀ i, n ≤ i → u'.2 i = u.2 i) ∧ ∃ s s' : Nat → Nat, (∀ i, i < n → s i < n ∧ s' i < n ∧ s (s' i) = i ∧ s' (s i) = i) ∧ ∀ i, i < n → u'.2 i = u.2 (s i)
theorem PO.rf (n : Nat) (u : SC) : PO n u u := ⟨rfl, fun _ _ => rfl, id, id, fun _ h => ⟨h, h, rfl, rfl⟩, fun _ _ => rfl⟩
theorem PO.tr {n : Nat} {u v w : SC} (h : PO n u v) (h2 : PO n v w) : PO n u w := by
  obtain ⟨a1, a2, s, s', a3, a4⟩ := h
  obtain ⟨b1, b2, z, z', b3, b4⟩ := h2
  refine ⟨b1.trans a1, fun i hi => (b2 i hi).trans (a2 i hi), fun i => s (z i), fun i => z' (s' i), fun i hi => ?_, fun i hi => ?_⟩
  · obtain ⟨c1, c2, c3, c4⟩ := a3 i hi
    obtain ⟨d1, d2, d3, d4⟩ := b3 i hi
    refine ⟨(a3 _ d1).1, (b3 _ c2).2.1, ?_, ?_⟩
    · show s (z (z' (s' i))) = i
      rw [(b3 _ c2).2.2.1, c3]
    · show z' (s' (s (z i))) = i
      rw [(a3 _ d1).2.2.2, d4]
  · rw [b4 i hi, a4 _ (b3 i hi).1]
theorem swap_at (u : SC) {p : Nat} (hp : p < 900) : (kSwap u (nI p)).1 = u.1 ∧ ∀ i, (kSwap u (nI p)).2 i = u.2 (if i = p then p + 1 else if i = p + 1 then p else i) := by
  refine ⟨rfl, fun i => ?_⟩
  unfold kSwap
  rw [nI_1, ixn (by omega : p < 1000), ixn (by omega : p + 1 < 1000)]
  show va_up (va_up u.2 p (u.2 (p + 1))) (p + 1) (u.2 p) i = _
  unfold va_up
  by_cases h1 : i = p
  · subst h1
    simp
  · by_cases h2 : i = p + 1
    · simp [h2]
    · simp [h1, h2]
theorem PO.swap {n : Nat} {u : SC} {p : Nat} (hn : n ≤ 6) (hp : p + 1 < n) : PO n u (kSwap u (nI p)) := by
  obtain ⟨h1, h2⟩ := swap_at u (p := p) (by omega)
  have hs : ∀ i, i < n → (fun i => if i = p then p + 1 else if i = p + 1 then p else i) i < n ∧ (fun i => if i = p then p + 1 else if i = p + 1 then p else i) ((fun i => if i = p then p + 1 else if i = p + 1 then p else i) i) = i := by
    intro i hi
    dsimp only
    by_cases h1 : i = p
    · subst h1
      simp
      exact hp
    · by_cases h2 : i = p + 1
      · subst h2
        simp
        omega
      · simp [h1, h2, hi]
  refine ⟨h1, fun i hi => ?_, _, _, fun i hi => ⟨(hs i hi).1, (hs i hi).1, (hs i hi).2, (hs i hi).2⟩, fun i _ => h2 i⟩
  rw [h2 i, if_neg (by omega), if_neg (by omega)]
/-- in order; in order but for the place a; numbers apart -/
def SO (n : Nat) (u : SC) : Prop := ∀ i j, i < j → j < n → kBefore u (u.2 i) (u.2 j) = true
def SX (n a : Nat) (u : SC) : Prop := ∀ i j, i < j → j < n → i ≠ a → j ≠ a → kBefore u (u.2 i) (u.2 j) = true
def DN (n : Nat) (u : SC) : Prop := ∀ i j, i < n → j < n → i ≠ j → ¬ u.1 13 (u.2 i) = u.1 13 (u.2 j)
theorem DN.po {n : Nat} {u u' : SC} (h : DN n u) (hp : PO n u u') : DN n u' := by
  obtain ⟨a1, -, s, s', a3, a4⟩ := hp
  intro i j hi hj hij
  rw [a1, a4 i hi, a4 j hj]
  refine h _ _ (a3 i hi).1 (a3 j hj).1 (fun e => hij ?_)
  have := congrArg s' e
  rwa [(a3 i hi).2.2.2, (a3 j hj).2.2.2] at this
theorem kBefore_swap (u : SC) (p : Nat) (a b : Nat) : kBefore (kSwap u (nI p)) a b = kBefore u a b := rfl
theorem up_spec {n : Nat} (hn : n ≤ 6) : ∀ (f a : Nat) (u : SC), a < n → a < f → SX n a u → DN n u →
    PO n u (kUpL f u (nI a)) ∧ ((kUpL f u (nI a) = u ∧ ∀ i, i < a → kBefore u (u.2 i) (u.2 a) = true) ∨ SO n (kUpL f u (nI a)))
  | 0, a, u, _, h, _, _ => by omega
  | f + 1, a, u, ha, hf, hX, hd => by
    unfold kUpL
    by_cases h0 : a = 0
    · subst h0
      rw [if_pos (by decide)]
      exact ⟨PO.rf _ _, Or.inl ⟨rfl, fun i hi => by omega⟩⟩
    · obtain ⟨b, rfl⟩ : ∃ b, a = b + 1 := ⟨a - 1, by omega⟩
      rw [if_neg (fun z => nI_nle (n := b + 1) (by omega) (by omega) z), nI_pred, pk_m1, ixn (by omega : b + 1 < 1000), ixn (by omega : b < 1000)]
      by_cases hb : kBefore u (u.2 (b + 1)) (u.2 b) = true
      · rw [if_pos hb]
        obtain ⟨s1, s2⟩ := swap_at u (p := b) (by omega)
        have hpo := PO.swap (u := u) hn (p := b) ha
        have hX1 : SX n b (kSwap u (nI b)) := by
          intro i j hij hj h1 h2
          rw [kBefore_swap, s2 i, s2 j]
          by_cases e1 : i = b + 1
          · subst e1
            rw [if_neg (by omega), if_pos rfl, if_neg (by omega), if_neg (by omega)]
            exact hX b j (by omega) hj (by omega) (by omega)
          · by_cases e2 : j = b + 1
            · subst e2
              rw [if_neg h1, if_neg e1, if_neg (by omega), if_pos rfl]
              exact hX i b (by omega) (by omega) (by omega) (by omega)
            · rw [if_neg h1, if_neg e1, if_neg h2, if_neg e2]
              exact hX i j hij hj e1 e2
        obtain ⟨q1, q2⟩ := up_spec hn f b (kSwap u (nI b)) (by omega) (by omega) hX1 (hd.po hpo)
        refine ⟨hpo.tr q1, Or.inr ?_⟩
        rcases q2 with ⟨q2, q3⟩ | q2
        · rw [q2]
          have key : ∀ j, b < j → j < n → kBefore (kSwap u (nI b)) ((kSwap u (nI b)).2 b) ((kSwap u (nI b)).2 j) = true := by
            intro j h1 h2
            rw [kBefore_swap, s2 b, s2 j, if_pos rfl, if_neg (by omega)]
            by_cases e : j = b + 1
            · rw [if_pos e]; exact hb
            · rw [if_neg e]
              exact kb_tr hb (hX b j (by omega) h2 (by omega) e)
          intro i j hij hj
          by_cases e1 : i = b
          · subst e1; exact key j hij hj
          · by_cases e2 : j = b
            · subst e2; exact q3 i hij
            · exact hX1 i j hij hj e1 e2
        · exact q2
      · rw [if_neg hb]
        refine ⟨PO.rf _ _, Or.inl ⟨rfl, fun i hi => ?_⟩⟩
        have hb2 : kBefore u (u.2 b) (u.2 (b + 1)) = true := kb_tot (hd (b + 1) b ha (by omega) (by omega)) hb
        by_cases e : i = b
        · rw [e]; exact hb2
        · exact kb_tr (hX i b (by omega) (by omega) (by omega) (by omega)) hb2
theorem down_so {n : Nat} (hn : n ≤ 6) {u : SC} (h6 : u.1 6 0 = nI n) (h : SO n u) {a : Nat} (ha : a < n) (f : Nat) : kDownL f u (nI a) = u := by
  cases f with
  | zero => rfl
  | succ f =>
    unfold kDownL
    rw [h6, nI_1, ixn (by omega : a < 1000), ixn (by omega : a + 1 < 1000)]
    by_cases h1 : n ≤ a + 1
    · rw [if_pos ((nle (by omega) (by omega)).mpr h1)]
    · rw [if_neg (fun z => h1 ((nle (by omega) (by omega)).mp z)), kb_as (h a (a + 1) (by omega) (by omega)), if_neg (by decide)]
theorem down_spec {n : Nat} (hn : n ≤ 6) : ∀ (f a : Nat) (u : SC), u.1 6 0 = nI n → a < n → n - a ≤ f → SX n a u → DN n u → (∀ i, i < a → kBefore u (u.2 i) (u.2 a) = true) →
    PO n u (kDownL f u (nI a)) ∧ SO n (kDownL f u (nI a))
  | 0, a, u, _, _, h, _, _, _ => by omega
  | f + 1, a, u, h6, ha, hf, hX, hd, hl => by
    unfold kDownL
    rw [h6, nI_1, ixn (by omega : a < 1000), ixn (by omega : a + 1 < 1000)]
    by_cases h1 : n ≤ a + 1
    · rw [if_pos ((nle (by omega) (by omega)).mpr h1)]
      refine ⟨PO.rf _ _, fun i j hij hj => ?_⟩
      by_cases e : j = a
      · subst e; exact hl i hij
      · exact hX i j hij hj (by omega) e
    · rw [if_neg (fun z => h1 ((nle (by omega) (by omega)).mp z))]
      by_cases hb : kBefore u (u.2 (a + 1)) (u.2 a) = true
      · rw [if_pos hb]
        obtain ⟨s1, s2⟩ := swap_at u (p := a) (by omega)
        have hpo := PO.swap (u := u) hn (p := a) (by omega)
        have hX1 : SX n (a + 1) (kSwap u (nI a)) := by
          intro i j hij hj h1 h2
          rw [kBefore_swap, s2 i, s2 j]
          by_cases e1 : i = a
          · subst e1
            rw [if_pos rfl, if_neg (by omega), if_neg h2]
            exact hX (i + 1) j (by omega) hj (by omega) (by omega)
          · by_cases e2 : j = a
            · subst e2
              rw [if_neg e1, if_neg h1, if_pos rfl]
              exact hX i (j + 1) (by omega) (by omega) (by omega) (by omega)
            · rw [if_neg e1, if_neg h1, if_neg e2, if_neg h2]
              exact hX i j hij hj e1 e2
        have hl1 : ∀ i, i < a + 1 → kBefore (kSwap u (nI a)) ((kSwap u (nI a)).2 i) ((kSwap u (nI a)).2 (a + 1)) = true := by
          intro i hi
          rw [kBefore_swap, s2 i, s2 (a + 1), if_neg (by omega : ¬ a + 1 = a), if_pos rfl]
          by_cases e : i = a
          · rw [if_pos e]; exact hb
          · rw [if_neg e, if_neg (by omega)]; exact hl i (by omega)
        obtain ⟨q1, q2⟩ := down_spec hn f (a + 1) (kSwap u (nI a)) h6 (by omega) (by omega) hX1 (hd.po hpo) hl1
        exact ⟨hpo.tr q1, q2⟩
      · rw [if_neg hb]
        have hb2 : kBefore u (u.2 a) (u.2 (a + 1)) = true := kb_tot (hd (a + 1) a (by omega) ha (by omega)) hb
        refine ⟨PO.rf _ _, fun i j hij hj => ?_⟩
        by_cases e : j = a
        · subst e; exact hl i hij
        · by_cases e2 : i = a
          · subst e2
            by_cases e3 : j = i + 1
            · rw [e3]; exact hb2
            · exact kb_tr hb2 (hX (i + 1) j (by omega) hj (by omega) (by omega))
          · exact hX i j hij hj e2 e
theorem settle_spec {n a : Nat} (hn : n ≤ 6) {u : SC} (h6 : u.1 6 0 = nI n) (ha : a < n) (hX : SX n a u) (hd : DN n u) : PO n u (kSettle u (nI a)) ∧ SO n (kSettle u (nI a)) := by
  obtain ⟨h1, h2⟩ := up_spec hn 7 a u ha (by omega) hX hd
  unfold kSettle
  rcases h2 with ⟨h2, h3⟩ | h2
  · rw [h2]
    exact down_spec hn 7 a u h6 ha (by omega) hX hd h3
  · rw [down_so hn (by rw [h1.1]; exact h6) h2 ha]
    exact ⟨h1, h2⟩
