/-! reorder -/
theorem reorder_ra {n v p : Nat} {r k : Nat → Nat} {u : SC} {t : M2} (h : RA n r k u t) (hN : NM n v t) (hP : PI u) (hp : p < n) (o : Int32) :
    ∃ r' k', RA n r' k' (kMove u (nI p) o) (up2 t 5 (r p) o) ∧ NM n v (up2 t 5 (r p) o) ∧ PI (kMove u (nI p) o) ∧ ∀ k', ¬ k' = 15 → (kMove u (nI p) o).1 k' = u.1 k' := by
  have hN' := hN
  have h' := h
  obtain ⟨h1, h2, h3, h4, h5, h7, h8, h9⟩ := h
  have hid : ∀ i, i < n → i ≠ p → u.2 i ≠ u.2 p := fun i hi hne e => hne (hP.2 i p (by omega) (by omega) e)
  have hq : ∀ i, i < n → i ≠ p → r i ≠ r p := fun i hi hne e => hne (h5 i p hi hp e)
  have hm : kMove u (nI p) o = kSettle (wr u 15 (u.2 p) o) (nI p) := by
    unfold kMove
    rw [ixn (by omega : p < 1000)]
  have hRM : RM n r k (wr u 15 (u.2 p) o) (up2 t 5 (r p) o) := by
    refine ⟨h1, h2, h3, h4, h5, h7, fun i hi => ?_⟩
    obtain ⟨g1, g2, g3, g4, g5, g6, g7, g8⟩ := h8 i hi
    refine ⟨g1, g2, ?_, g4, g5, g6, g7, g8⟩
    show upd (u.1 15) (u.2 p) o (u.2 i) = upd (t 5) (r p) o (r i)
    by_cases e : i = p
    · subst e
      rw [pk_us, pk_us]
    · rw [pk_un (hid i hi e), pk_un (hq i hi e)]
      exact g3
  have hX : SX n p (wr u 15 (u.2 p) o) := by
    intro i j hij hj hi' hj'
    have hb := (h'.so hN') i j hij hj
    rw [kBefore_iff] at hb ⊢
    show (upd (u.1 15) (u.2 p) o (u.2 i) < upd (u.1 15) (u.2 p) o (u.2 j) ∨ (upd (u.1 15) (u.2 p) o (u.2 i) = upd (u.1 15) (u.2 p) o (u.2 j) ∧ u.1 13 (u.2 i) < u.1 13 (u.2 j)))
    rw [pk_un (hid i (by omega) hi'), pk_un (hid j hj hj')]
    exact hb
  have hN1 : NM n v (up2 t 5 (r p) o) := hN'
  obtain ⟨s1, r', k', s2⟩ := hRM.settle hN1 hp hX
  refine ⟨r', k', by rw [hm]; exact s2, hN1, by rw [hm]; exact PI.po h1 (u := wr u 15 (u.2 p) o) hP s1, fun k' hk => ?_⟩
  rw [hm, s1.1]
  simp only [wr, up2]
  rw [if_neg hk]
/-! remove -/
theorem take_spec {n : Nat} (hn : n < 6) : ∀ (f a : Nat) (u : SC), u.1 6 0 = nI n → a ≤ n → n - a < f →
    (kTakeL f u (nI a)).1 = u.1 ∧ PO 6 u (kTakeL f u (nI a)) ∧ ∀ i, (kTakeL f u (nI a)).2 i = if i < a then u.2 i else if i < n then u.2 (i + 1) else if i = n then u.2 a else u.2 i
  | 0, a, u, _, _, h => by omega
  | f + 1, a, u, h6, ha, hf => by
    unfold kTakeL
    rw [h6]
    by_cases hna : n ≤ a
    · rw [if_pos ((nle (by omega) (by omega)).mpr hna)]
      refine ⟨rfl, PO.rf _ _, fun i => ?_⟩
      have : a = n := by omega
      subst this
      by_cases h1 : i < a
      · rw [if_pos h1]
      · rw [if_neg h1, if_neg h1]
        by_cases h2 : i = a
        · rw [if_pos h2, h2]
        · rw [if_neg h2]
    · rw [if_neg (fun h => hna ((nle (by omega) (by omega)).mp h)), nI_1]
      obtain ⟨s1, s2⟩ := swap_at u (p := a) (by omega)
      obtain ⟨q1, q2, q3⟩ := take_spec hn f (a + 1) (kSwap u (nI a)) h6 (by omega) (by omega)
      refine ⟨q1, (PO.swap (u := u) (n := 6) (by omega) (p := a) (by omega)).tr q2, fun i => ?_⟩
      rw [q3 i]
      by_cases c1 : i < a
      · rw [if_pos (by omega), if_pos c1, s2 i, if_neg (by omega), if_neg (by omega)]
      · by_cases c2 : i = a
        · subst c2
          rw [if_pos (by omega), if_neg (by omega), if_pos (by omega), s2 i, if_pos rfl]
        · rw [if_neg (by omega : ¬ i < a + 1), if_neg c1]
          by_cases c3 : i < n
          · rw [if_pos c3, if_pos c3, s2 (i + 1), if_neg (by omega), if_neg (by omega)]
          · rw [if_neg c3, if_neg c3]
            by_cases c4 : i = n
            · rw [if_pos c4, if_pos c4, s2 (a + 1), if_neg (by omega), if_pos rfl]
            · rw [if_neg c4, if_neg c4, s2 i, if_neg c2, if_neg (by omega)]
def shf (f : Nat → Int32) (a n : Nat) : Nat → Int32 := fun i => if i < a then f i else if i < n then f (i + 1) else f i
theorem shf_step {f : Nat → Int32} {a n : Nat} (h : a < n) : shf (upd f a (f (a + 1))) (a + 1) n = shf f a n := by
  funext i
  unfold shf
  by_cases c1 : i < a
  · rw [if_pos (by omega), if_pos c1, pk_un (by omega)]
  · rw [if_neg c1]
    by_cases c2 : i = a
    · subst c2
      rw [if_pos (by omega), if_pos h, pk_us]
    · rw [if_neg (by omega)]
      by_cases c3 : i < n
      · rw [if_pos c3, if_pos c3, pk_un (by omega)]
      · rw [if_neg c3, if_neg c3, pk_un (by omega)]
theorem shift_spec {n : Nat} (hn : n < 6) : ∀ (f a : Nat) (t : M2), t 0 0 = nI n → a ≤ n → n - a < f → (∀ i, i < 6 → vp_nar .boolean (t 9 i) = t 9 i) →
    qShiftL f t (nI a) = fun k => if 3 ≤ k ∧ k ≤ 11 then shf (t k) a n else t k
  | 0, a, t, _, _, h, _ => by omega
  | f + 1, a, t, h0, ha, hf, hz => by
    unfold qShiftL
    rw [h0]
    by_cases hna : n ≤ a
    · rw [if_pos ((nle (by omega) (by omega)).mpr hna)]
      funext k i
      by_cases hk : 3 ≤ k ∧ k ≤ 11
      · rw [if_pos hk]
        unfold shf
        by_cases c1 : i < a
        · rw [if_pos c1]
        · rw [if_neg c1, if_neg (by omega)]
      · rw [if_neg hk]
    · rw [if_neg (fun h => hna ((nle (by omega) (by omega)).mp h)), nI_1]
      have e : qShift t (nI a) = fun k => if 3 ≤ k ∧ k ≤ 11 then upd (t k) a (t k (a + 1)) else t k := by
        unfold qShift
        rw [nI_1, ixn (by omega : a < 1000), ixn (by omega : a + 1 < 1000), hz (a + 1) (by omega)]
        funext k
        by_cases hk : 3 ≤ k ∧ k ≤ 11
        · rw [if_pos hk]
          have : k = 3 ∨ k = 4 ∨ k = 5 ∨ k = 6 ∨ k = 7 ∨ k = 8 ∨ k = 9 ∨ k = 10 ∨ k = 11 := by omega
          rcases this with rfl | rfl | rfl | rfl | rfl | rfl | rfl | rfl | rfl <;> rfl
        · rw [if_neg hk]
          simp only [up2]
          rw [if_neg (by omega), if_neg (by omega), if_neg (by omega), if_neg (by omega), if_neg (by omega), if_neg (by omega), if_neg (by omega), if_neg (by omega), if_neg (by omega)]
      rw [shift_spec hn f (a + 1) (qShift t (nI a)) (by rw [e]; exact h0) (by omega) (by omega) (fun i hi => ?_), e]
      · funext k
        by_cases hk : 3 ≤ k ∧ k ≤ 11
        · simp only [if_pos hk]
          exact shf_step (by omega)
        · simp only [if_neg hk]
      · rw [e]
        show vp_nar .boolean (upd (t 9) a (t 9 (a + 1)) i) = upd (t 9) a (t 9 (a + 1)) i
        by_cases c : i = a
        · subst c
          rw [pk_us]; exact hz _ (by omega)
        · rw [pk_un c]; exact hz i hi
theorem remove_ra {n v p : Nat} {r k : Nat → Nat} {u : SC} {t : M2} (h : RA (n + 1) r k u t) (hN : NM (n + 1) v t) (hP : PI u) (hp : p < n + 1) (hz : ∀ i, i < 6 → vp_nar .boolean (t 9 i) = t 9 i) :
    ∃ r' k', RA n r' k' (kTakeAway u (nI p)) (qShiftL 7 (up2 t 0 0 (t 0 0 - 1)) (nI (r p))) ∧ NM n v (qShiftL 7 (up2 t 0 0 (t 0 0 - 1)) (nI (r p))) ∧ PI (kTakeAway u (nI p)) ∧ (∀ k', ¬ k' = 6 → (kTakeAway u (nI p)).1 k' = u.1 k') ∧ ∀ k', (k' = 1 ∨ k' = 2 ∨ 11 < k') → qShiftL 7 (up2 t 0 0 (t 0 0 - 1)) (nI (r p)) k' = t k' := by
  have hN' := hN
  have h' := h
  obtain ⟨h1, h2, h3, h4, h5, h7, h8, h9⟩ := h
  have hrp := h4 p hp
  have hkt : kTakeAway u (nI p) = kTakeL 7 (wr u 6 0 (nI n)) (nI p) := by
    unfold kTakeAway
    rw [h2, nI_pred]
  have hqt : up2 t 0 0 (t 0 0 - 1) = up2 t 0 0 (nI n) := by rw [h3, nI_pred]
  obtain ⟨t1, t2, t3⟩ := take_spec (n := n) (by omega) 7 p (wr u 6 0 (nI n)) rfl (by omega) (by omega)
  have s1 := shift_spec (n := n) (by omega) 7 (r p) (up2 t 0 0 (nI n)) rfl (by omega) (by omega) hz
  rw [hkt, hqt]
  have sk : ∀ k, 3 ≤ k → k ≤ 11 → qShiftL 7 (up2 t 0 0 (nI n)) (nI (r p)) k = shf (t k) (r p) n := by
    intro k hk1 hk2
    rw [s1]
    dsimp only
    rw [if_pos ⟨hk1, hk2⟩]
    unfold up2
    rw [if_neg (by omega)]
  have hu : ∀ i, i < n → (kTakeL 7 (wr u 6 0 (nI n)) (nI p)).2 i = u.2 (if i < p then i else i + 1) := by
    intro i hi
    rw [t3 i]
    by_cases c : i < p
    · rw [if_pos c, if_pos c]; rfl
    · rw [if_neg c, if_pos hi, if_neg c]; rfl
  have hj : ∀ i, i < n → (if i < p then i else i + 1) < n + 1 ∧ (if i < p then i else i + 1) ≠ p := by
    intro i hi
    by_cases c : i < p
    · rw [if_pos c]; omega
    · rw [if_neg c]; omega
  have hs : ∀ (f : Nat → Int32) (x : Nat), x < n + 1 → x ≠ r p → shf f (r p) n (if x < r p then x else x - 1) = f x := by
    intro f x hx hne
    unfold shf
    by_cases c : x < r p
    · rw [if_pos c, if_pos c]
    · rw [if_neg c, if_neg (by omega), if_pos (by omega), show x - 1 + 1 = x by omega]
  have hrj : ∀ i, i < n → r (if i < p then i else i + 1) < n + 1 ∧ r (if i < p then i else i + 1) ≠ r p := fun i hi => ⟨h4 _ (hj i hi).1, fun e => (hj i hi).2 (h5 _ _ (hj i hi).1 hp e)⟩
  have hmono : ∀ x y, x < n + 1 → y < n + 1 → x ≠ r p → y ≠ r p → x < y → (if x < r p then x else x - 1) < (if y < r p then y else y - 1) := by
    intro x y hx hy h1 h2 h3
    by_cases c1 : x < r p
    · by_cases c2 : y < r p
      · rw [if_pos c1, if_pos c2]; exact h3
      · rw [if_pos c1, if_neg c2]; omega
    · rw [if_neg c1, if_neg (by omega)]; omega
  have hN1 : NM n v (qShiftL 7 (up2 t 0 0 (nI n)) (nI (r p))) := by
    rw [s1]
    obtain ⟨hv, nm, m1, m2⟩ := hN'
    refine ⟨hv, fun a => nm (if a < r p then a else a + 1), fun a ha => ?_, fun a b hab hb => ?_⟩
    · dsimp only
      rw [if_pos (by omega)]
      unfold shf
      by_cases c : a < r p
      · rw [if_pos c, if_pos c]; exact m1 a (by omega)
      · rw [if_neg c, if_pos ha, if_neg c]; exact m1 (a + 1) (by omega)
    · dsimp only
      refine m2 _ _ ?_ ?_
      · by_cases c1 : a < r p
        · by_cases c2 : b < r p
          · rw [if_pos c1, if_pos c2]; exact hab
          · rw [if_pos c1, if_neg c2]; omega
        · rw [if_neg c1, if_neg (by omega)]; omega
      · by_cases c2 : b < r p
        · rw [if_pos c2]; omega
        · rw [if_neg c2]; omega
  refine ⟨fun i => if r (if i < p then i else i + 1) < r p then r (if i < p then i else i + 1) else r (if i < p then i else i + 1) - 1, fun q => if k (if q < r p then q else q + 1) < p then k (if q < r p then q else q + 1) else k (if q < r p then q else q + 1) - 1, ?_, hN1, ?_, ?_, ?_⟩
  · refine RM.ra ⟨by omega, by rw [t1]; rfl, by rw [s1]; rfl, fun i hi => ?_, fun i j hi hj' he => ?_, fun q hq => ?_, fun i hi => ?_⟩ (fun i j hij hj' => ?_)
    · obtain ⟨g1, g2⟩ := hrj i hi
      dsimp only
      by_cases c : r (if i < p then i else i + 1) < r p
      · rw [if_pos c]; omega
      · rw [if_neg c]; omega
    · obtain ⟨g1, g2⟩ := hrj i hi
      obtain ⟨g3, g4⟩ := hrj j hj'
      dsimp only at he
      have e : r (if i < p then i else i + 1) = r (if j < p then j else j + 1) := by
        rcases Nat.lt_trichotomy (r (if i < p then i else i + 1)) (r (if j < p then j else j + 1)) with c | c | c
        · have := hmono _ _ g1 g3 g2 g4 c; omega
        · exact c
        · have := hmono _ _ g3 g1 g4 g2 c; omega
      have e2 := h5 _ _ (hj i hi).1 (hj j hj').1 e
      by_cases c1 : i < p
      · by_cases c2 : j < p
        · rw [if_pos c1, if_pos c2] at e2; exact e2
        · rw [if_pos c1, if_neg c2] at e2; omega
      · by_cases c2 : j < p
        · rw [if_neg c1, if_pos c2] at e2; omega
        · rw [if_neg c1, if_neg c2] at e2; omega
    · have hq' : (if q < r p then q else q + 1) < n + 1 ∧ (if q < r p then q else q + 1) ≠ r p := by
        by_cases c : q < r p
        · rw [if_pos c]; omega
        · rw [if_neg c]; omega
      obtain ⟨g1, g2⟩ := h7 _ hq'.1
      have g3 : k (if q < r p then q else q + 1) ≠ p := fun e => hq'.2 (by rw [← g2, e])
      have e1 : (if (if k (if q < r p then q else q + 1) < p then k (if q < r p then q else q + 1) else k (if q < r p then q else q + 1) - 1) < p then (if k (if q < r p then q else q + 1) < p then k (if q < r p then q else q + 1) else k (if q < r p then q else q + 1) - 1) else (if k (if q < r p then q else q + 1) < p then k (if q < r p then q else q + 1) else k (if q < r p then q else q + 1) - 1) + 1) = k (if q < r p then q else q + 1) := by
        by_cases c : k (if q < r p then q else q + 1) < p
        · rw [if_pos c, if_pos c]
        · rw [if_neg c, if_neg (by omega)]; omega
      dsimp only
      refine ⟨?_, ?_⟩
      · by_cases c : k (if q < r p then q else q + 1) < p
        · rw [if_pos c]; omega
        · rw [if_neg c]; omega
      · rw [e1, g2]
        by_cases c : q < r p
        · rw [if_pos c, if_pos c]
        · rw [if_neg c, if_neg (by omega)]; omega
    · obtain ⟨g1, g2⟩ := hrj i hi
      rw [t1, hu i hi, sk 3 (by omega) (by omega), sk 4 (by omega) (by omega), sk 5 (by omega) (by omega), sk 6 (by omega) (by omega), sk 7 (by omega) (by omega), sk 8 (by omega) (by omega), sk 9 (by omega) (by omega), sk 10 (by omega) (by omega), sk 11 (by omega) (by omega)]
      dsimp only
      rw [hs _ _ g1 g2, hs _ _ g1 g2, hs _ _ g1 g2, hs _ _ g1 g2, hs _ _ g1 g2, hs _ _ g1 g2, hs _ _ g1 g2, hs _ _ g1 g2, hs _ _ g1 g2]
      exact h8 _ (hj i hi).1
    · obtain ⟨g1, g2⟩ := hrj i (by omega)
      obtain ⟨g3, g4⟩ := hrj j hj'
      rw [sk 5 (by omega) (by omega)]
      rw [hs _ _ g1 g2, hs _ _ g3 g4]
      have hlt : (if i < p then i else i + 1) < (if j < p then j else j + 1) := by
        by_cases c1 : i < p
        · by_cases c2 : j < p
          · rw [if_pos c1, if_pos c2]; exact hij
          · rw [if_pos c1, if_neg c2]; omega
        · rw [if_neg c1, if_neg (by omega)]; omega
      rcases h9 _ _ hlt (hj j hj').1 with c | ⟨c1, c2⟩
      · exact Or.inl c
      · exact Or.inr ⟨c1, hmono _ _ g1 g3 g2 g4 c2⟩
  · exact PI.po (n := 6) (Nat.le_refl _) (u := wr u 6 0 (nI n)) hP t2
  · intro k' hk
    rw [t1]
    simp only [wr, up2]
    rw [if_neg hk]
  · intro k' hk
    rw [s1]
    dsimp only
    rw [if_neg (by omega)]
    simp only [up2]
    rw [if_neg (by omega)]
