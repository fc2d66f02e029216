/-! pure rows: chains of the class and of the reference -/
theorem ixn {n : Nat} (h : n < 1000) : ix (nI n) = n := nI_clamp (by omega)
theorem nle {a b : Nat} (ha : a < 1000) (hb : b < 1000) : nI a ≤ nI b ↔ a ≤ b := nI_leI (by omega) (by omega)
theorem nlt {a b : Nat} (ha : a < 1000) (hb : b < 1000) : nI a < nI b ↔ a < b := nI_ltI (by omega) (by omega)
theorem neq {a b : Nat} (ha : a < 1000) (hb : b < 1000) : nI a = nI b ↔ a = b := nI_eq (by omega) (by omega)
theorem nI_ne_m1 {a : Nat} (ha : a < 1000) : ¬ nI a = -1 := fun h => nI_pos (n := a) (by omega) (by rw [h]; decide)
theorem nI_nneg {a : Nat} (ha : a < 1000) : ¬ nI a < 0 := nI_pos (by omega)
def cnt (b : Nat → Bool) : Nat → Nat
  | 0 => 0
  | i + 1 => cnt b i + (if b i = true then 1 else 0)
theorem cnt_le (b : Nat → Bool) : ∀ i, cnt b i ≤ i
  | 0 => Nat.le_refl _
  | i + 1 => by
    have := cnt_le b i
    unfold cnt
    split <;> omega
theorem cnt_mono {b : Nat → Bool} {i j : Nat} (h : i ≤ j) : cnt b i ≤ cnt b j := by
  induction h with
  | refl => exact Nat.le_refl _
  | step _ ih => exact Nat.le_trans ih (by show _ ≤ cnt b _ + _; omega)
theorem cnt_lt {b : Nat → Bool} {i j : Nat} (h : i < j) (hb : b i = true) : cnt b i < cnt b j := by
  have h1 : cnt b (i + 1) ≤ cnt b j := cnt_mono h
  have h2 : cnt b (i + 1) = cnt b i + 1 := by show cnt b i + _ = _; rw [if_pos hb]
  omega
theorem cnt_same {b : Nat → Bool} {i : Nat} : ∀ {j : Nat}, i ≤ j → (∀ k, i ≤ k → k < j → b k = false) → cnt b j = cnt b i
  | 0, h, _ => by rw [Nat.le_zero.mp h]
  | j + 1, h, hb => by
    by_cases hij : i = j + 1
    · rw [hij]
    · have hb1 := hb j (by omega) (by omega)
      show cnt b j + _ = _
      rw [hb1, cnt_same (by omega) (fun k h1 h2 => hb k h1 (by omega))]
      rfl
theorem cnt_congr {b c : Nat → Bool} : ∀ {n : Nat}, (∀ i, i < n → b i = c i) → cnt b n = cnt c n
  | 0, _ => rfl
  | n + 1, h => by
    show cnt b n + _ = cnt c n + _
    rw [cnt_congr (fun i hi => h i (by omega)), h n (by omega)]
theorem cnt_countP (b : Nat → Bool) : ∀ n, (List.range n).countP b = cnt b n
  | 0 => rfl
  | n + 1 => by
    rw [List.range_succ, List.countP_append, cnt_countP b n]
    show _ = cnt b n + _
    rw [List.countP_singleton]
theorem rho_perm {n : Nat} {r k : Nat → Nat} (h1 : ∀ i, i < n → r i < n) (h2 : ∀ i j, i < n → j < n → r i = r j → i = j) (h3 : ∀ q, q < n → k q < n ∧ r (k q) = q) : ((List.range n).map r).Perm (List.range n) := by
  refine (List.perm_ext_iff_of_nodup ?_ List.nodup_range).mpr ?_
  · have hn : (List.range n).Nodup := List.nodup_range
    unfold List.Nodup at hn ⊢
    rw [List.pairwise_map]
    refine List.Pairwise.imp_of_mem ?_ hn
    intro a b ha hb hab he
    exact hab (h2 a b (List.mem_range.mp ha) (List.mem_range.mp hb) he)
  · intro a
    constructor
    · intro h
      obtain ⟨i, hi, rfl⟩ := List.mem_map.mp h
      exact List.mem_range.mpr (h1 i (List.mem_range.mp hi))
    · intro h
      obtain ⟨h4, h5⟩ := h3 a (List.mem_range.mp h)
      exact List.mem_map.mpr ⟨k a, List.mem_range.mpr h4, h5⟩
theorem cnt_rho {n : Nat} {r k : Nat → Nat} (h1 : ∀ i, i < n → r i < n) (h2 : ∀ i j, i < n → j < n → r i = r j → i = j) (h3 : ∀ q, q < n → k q < n ∧ r (k q) = q) (b : Nat → Bool) : cnt b n = cnt (fun i => b (r i)) n := by
  rw [← cnt_countP, ← cnt_countP, ← (rho_perm h1 h2 h3).countP_eq, List.countP_map]
  rfl
theorem cnt_cut {b : Nat → Bool} {p n : Nat} (h : p ≤ n) : cnt (fun i => decide (i < p) && b i) n = cnt b p := by
  induction h with
  | refl => exact cnt_congr (fun i hi => by simp [hi])
  | step hm ih =>
    rename_i m
    show cnt _ m + _ = _
    rw [ih, if_neg (by simp; intro h; exact absurd h (by simpa using Nat.not_lt.mpr hm))]
    rfl
/-! the class: the next of the chain -/
theorem kChainL_spec (u : SC) (m : Int32) {n : Nat} (hn : n ≤ 6) (h6 : u.1 6 0 = nI n) : ∀ (f p : Nat), p ≤ n → n - p < f →
    (kChainL u m f (nI p) = -1 ∧ ∀ j, p ≤ j → j < n → kAdvises u (u.2 j) m = false) ∨ ∃ q, p ≤ q ∧ q < n ∧ kChainL u m f (nI p) = nI q ∧ kAdvises u (u.2 q) m = true ∧ ∀ j, p ≤ j → j < q → kAdvises u (u.2 j) m = false
  | 0, p, _, h => by omega
  | f + 1, p, hp, hf => by
    unfold kChainL
    rw [h6, ixn (by omega : p < 1000), nI_1]
    by_cases hnp : n ≤ p
    · rw [if_pos ((nle (by omega) (by omega)).mpr hnp)]
      exact Or.inl ⟨rfl, fun j h1 h2 => by omega⟩
    · rw [if_neg (fun h => hnp ((nle (by omega) (by omega)).mp h))]
      by_cases hb : kAdvises u (u.2 p) m = true
      · rw [if_pos hb]
        exact Or.inr ⟨p, Nat.le_refl _, by omega, rfl, hb, fun j h1 h2 => by omega⟩
      · rw [if_neg hb]
        have hb' : kAdvises u (u.2 p) m = false := by simpa using hb
        rcases kChainL_spec u m hn h6 f (p + 1) (by omega) (by omega) with ⟨h1, h2⟩ | ⟨q, h1, h2, h3, h4, h5⟩
        · refine Or.inl ⟨h1, fun j h3 h4 => ?_⟩
          by_cases hj : j = p
          · rw [hj]; exact hb'
          · exact h2 j (by omega) h4
        · refine Or.inr ⟨q, by omega, h2, h3, h4, fun j h6 h7 => ?_⟩
          by_cases hj : j = p
          · rw [hj]; exact hb'
          · exact h5 j (by omega) h7
/-! the class: the number at a place of the chain -/
theorem kNumL_spec (u : SC) (m i : Int32) {n : Nat} (hn : n ≤ 6) (h6 : u.1 6 0 = nI n) : ∀ (f b p : Nat), p ≤ n → n - p < f → b = cnt (fun j => kAdvises u (u.2 j) m) p →
    (kNumL u m i f (nI b) (nI p) = -1 ∧ ∀ j, p ≤ j → j < n → kAdvises u (u.2 j) m = true → ¬ nI (cnt (fun j => kAdvises u (u.2 j) m) j) = i) ∨ ∃ q, p ≤ q ∧ q < n ∧ kNumL u m i f (nI b) (nI p) = u.1 13 (u.2 q) ∧ kAdvises u (u.2 q) m = true ∧ nI (cnt (fun j => kAdvises u (u.2 j) m) q) = i
  | 0, b, p, _, h, _ => by omega
  | f + 1, b, p, hp, hf, hb0 => by
    unfold kNumL
    rw [h6, ixn (by omega : p < 1000), nI_1, nI_1]
    by_cases hnp : n ≤ p
    · rw [if_pos ((nle (by omega) (by omega)).mpr hnp)]
      exact Or.inl ⟨rfl, fun j h1 h2 => by omega⟩
    · rw [if_neg (fun h => hnp ((nle (by omega) (by omega)).mp h))]
      by_cases hb : kAdvises u (u.2 p) m = true
      · rw [if_pos hb]
        by_cases hi : nI b = i
        · rw [if_pos hi]
          exact Or.inr ⟨p, Nat.le_refl _, by omega, rfl, hb, by rw [← hb0]; exact hi⟩
        · rw [if_neg hi]
          have hc : b + 1 = cnt (fun j => kAdvises u (u.2 j) m) (p + 1) := by show _ = cnt _ p + _; rw [← hb0, if_pos hb]
          rcases kNumL_spec u m i hn h6 f (b + 1) (p + 1) (by omega) (by omega) hc with ⟨h1, h2⟩ | ⟨q, h1, h2, h3, h4⟩
          · refine Or.inl ⟨h1, fun j h3 h4 h5 => ?_⟩
            by_cases hj : j = p
            · rw [hj, ← hb0]; exact hi
            · exact h2 j (by omega) h4 h5
          · exact Or.inr ⟨q, by omega, h2, h3, h4⟩
      · rw [if_neg hb]
        have hc : b = cnt (fun j => kAdvises u (u.2 j) m) (p + 1) := by show _ = cnt _ p + _; rw [← hb0, if_neg hb]; rfl
        rcases kNumL_spec u m i hn h6 f b (p + 1) (by omega) (by omega) hc with ⟨h1, h2⟩ | ⟨q, h1, h2, h3, h4⟩
        · refine Or.inl ⟨h1, fun j h3 h4 h5 => ?_⟩
          by_cases hj : j = p
          · rw [hj] at h5; exact absurd h5 hb
          · exact h2 j (by omega) h4 h5
        · exact Or.inr ⟨q, by omega, h2, h3, h4⟩
/-! the reference: how many stand ahead -/
theorem qCntL_eq (t : M2) (m k : Int32) {n : Nat} (hn : n ≤ 6) (h0 : t 0 0 = nI n) : ∀ (f q b : Nat), q ≤ n → n - q < f → b = cnt (fun j => qAhead t (nI j) k && qBit t (nI j) m) q →
    qCntL t m k f (nI q) (nI b) = nI (cnt (fun j => qAhead t (nI j) k && qBit t (nI j) m) n)
  | 0, q, b, _, h, _ => by omega
  | f + 1, q, b, hq, hf, hb => by
    unfold qCntL
    rw [h0]
    by_cases hnq : n ≤ q
    · rw [if_pos ((nle (by omega) (by omega)).mpr hnq), hb, show q = n by omega]
    · rw [if_neg (fun h => hnq ((nle (by omega) (by omega)).mp h)), nI_1, nI_1]
      have hc : cnt (fun j => qAhead t (nI j) k && qBit t (nI j) m) (q + 1) = b + (if (qAhead t (nI q) k && qBit t (nI q) m) = true then 1 else 0) := by show cnt _ q + _ = _; rw [← hb]
      by_cases h1 : qAhead t (nI q) k = true
      · by_cases h2 : qBit t (nI q) m = true
        · rw [if_pos h1, if_pos h2]
          exact qCntL_eq t m k hn h0 f (q + 1) (b + 1) (by omega) (by omega) (by rw [hc]; simp [h1, h2])
        · rw [if_pos h1, if_neg h2]
          exact qCntL_eq t m k hn h0 f (q + 1) b (by omega) (by omega) (by rw [hc]; simp [h2])
      · rw [if_neg h1]
        exact qCntL_eq t m k hn h0 f (q + 1) b (by omega) (by omega) (by rw [hc]; simp [h1])
theorem qCnt_eq (t : M2) (m k : Int32) {n : Nat} (hn : n ≤ 6) (h0 : t 0 0 = nI n) : qCnt t m k = nI (cnt (fun j => qAhead t (nI j) k && qBit t (nI j) m) n) :=
  qCntL_eq t m k hn h0 7 0 0 (by omega) (by omega) rfl
theorem qLinkL_spec (t : M2) (m pl : Int32) {n : Nat} (hn : n ≤ 6) (h0 : t 0 0 = nI n) : ∀ (f q : Nat), q ≤ n → n - q < f →
    (qLinkL t m pl f (nI q) = -1 ∧ ∀ j, q ≤ j → j < n → qBit t (nI j) m = true → ¬ qCnt t m (nI j) = pl) ∨ ∃ j, q ≤ j ∧ j < n ∧ qLinkL t m pl f (nI q) = nI j ∧ qBit t (nI j) m = true ∧ qCnt t m (nI j) = pl
  | 0, q, _, h => by omega
  | f + 1, q, hq, hf => by
    unfold qLinkL
    rw [h0]
    by_cases hnq : n ≤ q
    · rw [if_pos ((nle (by omega) (by omega)).mpr hnq)]
      exact Or.inl ⟨rfl, fun j h1 h2 => by omega⟩
    · rw [if_neg (fun h => hnq ((nle (by omega) (by omega)).mp h)), nI_1]
      have ih := qLinkL_spec t m pl hn h0 f (q + 1) (by omega) (by omega)
      by_cases h1 : qBit t (nI q) m = true
      · rw [if_pos h1]
        by_cases h2 : qCnt t m (nI q) = pl
        · rw [if_pos h2]
          exact Or.inr ⟨q, Nat.le_refl _, by omega, rfl, h1, h2⟩
        · rw [if_neg h2]
          rcases ih with ⟨g1, g2⟩ | ⟨j, g1, g2, g3, g4⟩
          · refine Or.inl ⟨g1, fun j h3 h4 h5 => ?_⟩
            by_cases hj : j = q
            · rw [hj]; exact h2
            · exact g2 j (by omega) h4 h5
          · exact Or.inr ⟨j, by omega, g2, g3, g4⟩
      · rw [if_neg h1]
        rcases ih with ⟨g1, g2⟩ | ⟨j, g1, g2, g3, g4⟩
        · refine Or.inl ⟨g1, fun j h3 h4 h5 => ?_⟩
          by_cases hj : j = q
          · rw [hj] at h5; exact absurd h5 h1
          · exact g2 j (by omega) h4 h5
        · exact Or.inr ⟨j, by omega, g2, g3, g4⟩
theorem z_as {a b : Int32} (h : a < b) : ¬ b < a := by simp only [Int32.lt_iff_toInt_lt] at *; omega
theorem z_ne {a b : Int32} (h : a < b) : ¬ a = b := by intro e; subst e; exact z_as h h
/-- the advisors of both sides: place i of the class's row is the reference's number r i -/
def RA (n : Nat) (r k : Nat → Nat) (u : SC) (t : M2) : Prop :=
  n ≤ 6 ∧ u.1 6 0 = nI n ∧ t 0 0 = nI n ∧ (∀ i, i < n → r i < n) ∧ (∀ i j, i < n → j < n → r i = r j → i = j) ∧ (∀ q, q < n → k q < n ∧ r (k q) = q) ∧
  (∀ i, i < n → (u.1 13 (u.2 i) = t 3 (r i) ∧ u.1 14 (u.2 i) = t 4 (r i) ∧ u.1 15 (u.2 i) = t 5 (r i) ∧ u.1 16 (u.2 i) = t 6 (r i) ∧ u.1 17 (u.2 i) = t 7 (r i) ∧ u.1 18 (u.2 i) = t 8 (r i) ∧ u.1 19 (u.2 i) = t 9 (r i) ∧ (¬ t 9 (r i) = 0 → u.1 20 (u.2 i) = t 10 (r i) ∧ u.1 21 (u.2 i) = t 11 (r i)))) ∧
  (∀ i j, i < j → j < n → t 5 (r i) < t 5 (r j) ∨ (t 5 (r i) = t 5 (r j) ∧ r i < r j))
theorem ahead_iff {n : Nat} {r k : Nat → Nat} {u : SC} {t : M2} (h : RA n r k u t) {i j : Nat} (hi : i < n) (hj : j < n) : qAhead t (nI (r j)) (nI (r i)) = decide (j < i) := by
  obtain ⟨hn, h1, h2, h3, h4, h5, h6, h7⟩ := h
  have a1 := h3 i hi
  have a2 := h3 j hj
  unfold qAhead
  rw [ixn (by omega : r j < 1000), ixn (by omega : r i < 1000)]
  by_cases hlt : j < i
  · rcases h7 j i hlt hi with h | ⟨h, h'⟩
    · simp [h, hlt]
    · rw [h, if_neg (fun z => z_as z z), if_pos rfl, if_pos ((nlt (by omega) (by omega)).mpr h')]
      simp [hlt]
  · by_cases he : j = i
    · subst he
      rw [if_neg (fun z => z_as z z), if_pos rfl, if_neg (fun z => Nat.lt_irrefl _ ((nlt (by omega) (by omega)).mp z))]
      simp
    · rcases h7 i j (by omega) hj with h | ⟨h, h'⟩
      · rw [if_neg (z_as h), if_neg (fun e => z_ne h e.symm)]
        simp [hlt]
      · rw [h, if_neg (fun z => z_as z z), if_pos rfl, if_neg (fun z => by have := (nlt (by omega) (by omega)).mp z; omega)]
        simp [hlt]
/-- what is true of a bit on both sides -/
def bitsOk (m : Int32) : Prop := ∀ x : Int32, (x &&& ((1 : Int32) <<< (m &&& 31)) = 0) ↔ ¬ ((x >>> (m &&& 31)) &&& 1 = 1)
theorem bit_same {n : Nat} {r k : Nat → Nat} {u : SC} {t : M2} {m : Int32} (h : RA n r k u t) (hm : bitsOk m) {i : Nat} (hi : i < n) : qBit t (nI (r i)) m = kAdvises u (u.2 i) m := by
  have hn := h.1
  have h3 := h.2.2.2.1 i hi
  have h6 := (h.2.2.2.2.2.2.1 i hi).2.2.2.1
  unfold qBit kAdvises
  rw [ixn (by omega : r i < 1000), h6]
  by_cases hb : (t 6 (r i) >>> (m &&& 31)) &&& 1 = 1
  · rw [if_pos hb, if_neg (fun z => (hm _).mp z hb)]
  · rw [if_neg hb, if_pos ((hm _).mpr hb)]
theorem qCnt_at {n : Nat} {r k : Nat → Nat} {u : SC} {t : M2} {m : Int32} (h : RA n r k u t) (hm : bitsOk m) {i : Nat} (hi : i < n) : qCnt t m (nI (r i)) = nI (cnt (fun j => kAdvises u (u.2 j) m) i) := by
  rw [qCnt_eq t m _ h.1 h.2.2.1, cnt_rho h.2.2.2.1 h.2.2.2.2.1 h.2.2.2.2.2.1]
  congr 1
  rw [← cnt_cut (b := fun j => kAdvises u (u.2 j) m) (Nat.le_of_lt hi)]
  refine cnt_congr (fun j hj => ?_)
  rw [ahead_iff h hi hj, bit_same h hm hj]
theorem link_at {n : Nat} {r k : Nat → Nat} {u : SC} {t : M2} {m : Int32} (h : RA n r k u t) (hm : bitsOk m) {p : Nat} (hp : p < n) (hb : kAdvises u (u.2 p) m = true) : qLinked t m (nI (cnt (fun j => kAdvises u (u.2 j) m) p)) = nI (r p) := by
  have hn := h.1
  rcases qLinkL_spec t m (nI (cnt (fun j => kAdvises u (u.2 j) m) p)) h.1 h.2.2.1 7 0 (by omega) (by omega) with ⟨h1, h2⟩ | ⟨j, h1, h2, h3, h4, h5⟩
  · exact absurd (qCnt_at h hm hp) (h2 (r p) (by omega) (h.2.2.2.1 p hp) (by rw [bit_same h hm hp]; exact hb))
  · obtain ⟨g1, g2⟩ := h.2.2.2.2.2.1 j h2
    rw [← g2, qCnt_at h hm g1] at h5
    rw [← g2, bit_same h hm g1] at h4
    have c1 := cnt_le (fun j => kAdvises u (u.2 j) m) p
    have c2 := cnt_le (fun j => kAdvises u (u.2 j) m) (k j)
    have h6 := (neq (by omega) (by omega)).mp h5
    have h7 : k j = p := by
      rcases Nat.lt_trichotomy (k j) p with hlt | he | hlt
      · have := cnt_lt (b := fun j => kAdvises u (u.2 j) m) hlt h4
        omega
      · exact he
      · have := cnt_lt (b := fun j => kAdvises u (u.2 j) m) hlt hb
        omega
    show qLinkL _ _ _ 7 (nI 0) = _
    rw [h3, ← g2, h7]
theorem link_none {n : Nat} {r k : Nat → Nat} {u : SC} {t : M2} {m : Int32} (h : RA n r k u t) (hm : bitsOk m) {f : Nat} (hf : f ≤ n) (hb : ∀ j, f ≤ j → j < n → kAdvises u (u.2 j) m = false) : qLinked t m (nI (cnt (fun j => kAdvises u (u.2 j) m) f)) = -1 := by
  have hn := h.1
  rcases qLinkL_spec t m (nI (cnt (fun j => kAdvises u (u.2 j) m) f)) h.1 h.2.2.1 7 0 (by omega) (by omega) with ⟨h1, h2⟩ | ⟨j, h1, h2, h3, h4, h5⟩
  · exact h1
  · obtain ⟨g1, g2⟩ := h.2.2.2.2.2.1 j h2
    rw [← g2, qCnt_at h hm g1] at h5
    rw [← g2, bit_same h hm g1] at h4
    have c1 := cnt_le (fun j => kAdvises u (u.2 j) m) f
    have c2 := cnt_le (fun j => kAdvises u (u.2 j) m) (k j)
    have h6 := (neq (by omega) (by omega)).mp h5
    by_cases hlt : k j < f
    · have := cnt_lt (b := fun j => kAdvises u (u.2 j) m) hlt h4
      omega
    · rw [hb (k j) (by omega) g1] at h4
      cases h4
/-! chain(m, i) -/
theorem chain_same {n : Nat} {r k : Nat → Nat} {u : SC} {t : M2} {m : Int32} (h : RA n r k u t) (hm : bitsOk m) (i : Int32) : kNumIn u m i = (if qLinked t m i < 0 then -1 else t 3 (ix (qLinked t m i))) := by
  have hn := h.1
  unfold kNumIn
  rcases kNumL_spec u m i h.1 h.2.1 7 0 0 (by omega) (by omega) rfl with ⟨h1, h2⟩ | ⟨q, h1, h2, h3, h4, h5⟩
  · have e : qLinked t m i = -1 := by
      rcases qLinkL_spec t m i h.1 h.2.2.1 7 0 (by omega) (by omega) with ⟨g1, g2⟩ | ⟨j, g1, g2, g3, g4, g5⟩
      · exact g1
      · obtain ⟨f1, f2⟩ := h.2.2.2.2.2.1 j g2
        rw [← f2, qCnt_at h hm f1] at g5
        rw [← f2, bit_same h hm f1] at g4
        exact absurd g5 (h2 (k j) (by omega) f1 g4)
    rw [e, if_pos (by decide)]
    exact h1
  · have e : qLinked t m i = nI (r q) := by rw [← h5]; exact link_at h hm h2 h4
    have h8 := h.2.2.2.1 q h2
    rw [e, if_neg (nI_nneg (by omega)), ixn (by omega)]
    exact h3.trans (h.2.2.2.2.2.2.1 q h2).1
