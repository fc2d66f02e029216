/-! pure rows: the class's recursion and the reference's loop -/
def okBack (t : M2) : Prop := ∃ w, w < 30 ∧ t 29 0 = nI (w + 1) ∧ (t 30 w = 9 ∨ (t 30 w = 8 ∧ ∃ j, j < 12 ∧ t 32 w = nI j) ∨ (¬ t 30 w = 9 ∧ ¬ t 30 w = 8 ∧ ∃ j, j < 6 ∧ t 32 w = nI j ∧ (¬ t 30 w = 6 → 5 ≤ t 30 w → 0 ≤ t 7 j)))
def okStep (t : M2) : Prop := ∃ d w, 1 ≤ d ∧ d ≤ 3 ∧ t 26 0 = nI d ∧ w ≤ 28 ∧ t 29 0 = nI w ∧ (∃ a, a < 6 ∧ t 27 d = nI a) ∧ ∃ a, a < 2 ∧ t 28 d = nI a
def okRun (t : M2) : Prop := qMore t = true ∧ (∃ n, n ≤ 6 ∧ t 0 0 = nI n) ∧ (∃ n, n ≤ 100 ∧ t 19 0 = nI n) ∧ (t 36 0 = 0 → okBack t) ∧ (¬ t 36 0 = 0 → okStep t)
theorem qIt_add : ∀ (a b : Nat) (t : M2), qIt (a + b) t = qIt b (qIt a t)
  | 0, b, t => by rw [Nat.zero_add]; rfl
  | a + 1, b, t => by rw [show a + 1 + b = (a + b) + 1 by omega]; exact qIt_add a b (qRun t)
/-- the reference's loop comes from t to t', and each turn is within its bounds -/
def Rch (t t' : M2) : Prop := ∃ N, (∀ i, i < N → okRun (qIt i t)) ∧ qIt N t = t'
theorem Rch.rf (t : M2) : Rch t t := ⟨0, fun _ h => absurd h (by omega), rfl⟩
theorem Rch.one {t : M2} (h : okRun t) : Rch t (qRun t) := ⟨1, fun i hi => by rw [show i = 0 by omega]; exact h, rfl⟩
theorem Rch.tr {t t' t'' : M2} (h : Rch t t') (h2 : Rch t' t'') : Rch t t'' := by
  obtain ⟨a, a1, a2⟩ := h
  obtain ⟨b, b1, b2⟩ := h2
  refine ⟨a + b, fun i hi => ?_, by rw [qIt_add, a2, b2]⟩
  by_cases c : i < a
  · exact a1 i c
  · rw [show i = a + (i - a) by omega, qIt_add, a2]
    exact b1 _ (by omega)
/-- what stays on the class's side, and on the reference's -/
def Stat (u u' : SC) : Prop := u'.2 = u.2 ∧ ∀ k, (k = 0 ∨ k = 1 ∨ k = 6 ∨ k = 7 ∨ 13 ≤ k) → u'.1 k = u.1 k
def StatM (t t' : M2) : Prop := ∀ k, k ≤ 17 → t' k = t k
theorem Stat.rf (u : SC) : Stat u u := ⟨rfl, fun _ _ => rfl⟩
theorem Stat.tr {u v w : SC} (h : Stat u v) (h2 : Stat v w) : Stat u w := ⟨h2.1.trans h.1, fun k hk => (h2.2 k hk).trans (h.2 k hk)⟩
theorem StatM.rf (t : M2) : StatM t t := fun _ _ => rfl
theorem StatM.tr {u v w : M2} (h : StatM u v) (h2 : StatM v w) : StatM u w := fun k hk => (h2 k hk).trans (h k hk)
theorem Stat.wr {u v : SC} (h : Stat u v) {k i : Nat} {x : Int32} (hk : k = 2 ∨ k = 3 ∨ k = 4 ∨ k = 5 ∨ (8 ≤ k ∧ k ≤ 12)) : Stat u (wr v k i x) := ⟨h.1, fun k' hk' => by
  show up2 v.1 k i x k' = _
  unfold up2
  rw [if_neg (by omega)]
  exact h.2 k' hk'⟩
theorem StatM.up {t v : M2} (h : StatM t v) {k i : Nat} {x : Int32} (hk : 18 ≤ k) : StatM t (up2 v k i x) := fun k' hk' => by
  unfold up2
  rw [if_neg (by omega)]
  exact h k' hk'
/-- the trace, the counts and the turn agree -/
def RD (u : SC) (t : M2) : Prop := (∃ L, L ≤ 100 ∧ u.1 8 0 = nI L ∧ t 19 0 = nI L ∧ ∀ i, i < L → u.1 11 i = t 20 i ∧ u.1 12 i = t 21 i) ∧ u.1 3 0 = t 22 0 ∧ u.1 4 0 = t 23 0 ∧ u.1 2 0 = t 18 0
theorem note_same {u : SC} {t : M2} (h : RD u t) (a b : Int32) :
    (kNote u a b = (false, u) ∧ qNote t a b = up2 t 25 0 1) ∨
    ∃ L, L < 100 ∧ kNote u a b = (true, wr (wr (wr u 11 L a) 12 L b) 8 0 (nI (L + 1))) ∧ qNote t a b = up2 (up2 (up2 t 20 L a) 21 L b) 19 0 (nI (L + 1)) ∧ RD (wr (wr (wr u 11 L a) 12 L b) 8 0 (nI (L + 1))) (up2 (up2 (up2 t 20 L a) 21 L b) 19 0 (nI (L + 1))) := by
  obtain ⟨⟨L, h1, h2, h3, h4⟩, h5⟩ := h
  have e1 : (100 : Int32) = nI 100 := rfl
  unfold kNote qNote
  rw [h2, h3, e1]
  by_cases c : L = 100
  · subst c
    rw [if_pos ((nle (by omega) (by omega)).mpr (Nat.le_refl _)), if_pos rfl]
    exact Or.inl ⟨rfl, rfl⟩
  · rw [if_neg (fun z => c (by have := (nle (by omega) (by omega)).mp z; omega)), if_neg (fun z => c ((neq (by omega) (by omega)).mp z)), ixn (by omega : L < 1000), nI_1]
    refine Or.inr ⟨L, by omega, rfl, rfl, ⟨L + 1, by omega, rfl, rfl, fun i hi => ?_⟩, h5⟩
    show upd (u.1 11) L a i = upd (t 20) L a i ∧ upd (u.1 12) L b i = upd (t 21) L b i
    by_cases ci : i = L
    · subst ci
      rw [pk_us, pk_us, pk_us, pk_us]
      exact ⟨rfl, rfl⟩
    · rw [pk_un ci, pk_un ci, pk_un ci, pk_un ci]
      exact h4 i (by omega)
/-- the fixed part of both sides while an invocation runs -/
def SR (n : Nat) (r k : Nat → Nat) (u : SC) (t : M2) : Prop :=
  RA n r k u t ∧ u.1 1 0 = t 17 0 ∧ (∀ j, j < 12 → u.1 22 j = t 12 j ∧ u.1 23 j = t 13 j ∧ u.1 24 j = t 14 j ∧ u.1 25 j = t 15 j ∧ u.1 26 j = t 16 j) ∧
  (∀ j, j < 12 → ∃ e, e ≤ 15 ∧ t 15 j = nI e) ∧ (∀ j, j < 12 → t 16 j = -1 ∨ ∃ e, e < 6 ∧ t 16 j = nI e) ∧ (∃ e, e < 3 ∧ t 17 0 = nI e) ∧
  (∀ q, q < n → ∃ e, e < 8 ∧ t 4 q = nI e) ∧ (∀ q, q < n → qFits (t 4 q) (t 7 q) (t 8 q) = true)
theorem RA.stat {n : Nat} {r k : Nat → Nat} {u u' : SC} {t t' : M2} (h : RA n r k u t) (hu : Stat u u') (ht : StatM t t') : RA n r k u' t' := by
  obtain ⟨h1, h2, h3, h4, h5, h7, h8, h9⟩ := h
  refine ⟨h1, by rw [hu.2 6 (by omega)]; exact h2, by rw [ht 0 (by omega)]; exact h3, h4, h5, h7, fun i hi => ?_, fun i j hij hj => ?_⟩
  · rw [hu.1, hu.2 13 (by omega), hu.2 14 (by omega), hu.2 15 (by omega), hu.2 16 (by omega), hu.2 17 (by omega), hu.2 18 (by omega), hu.2 19 (by omega), hu.2 20 (by omega), hu.2 21 (by omega), ht 3 (by omega), ht 4 (by omega), ht 5 (by omega), ht 6 (by omega), ht 7 (by omega), ht 8 (by omega), ht 9 (by omega), ht 10 (by omega), ht 11 (by omega)]
    exact h8 i hi
  · rw [ht 5 (by omega)]
    exact h9 i j hij hj
theorem SR.stat {n : Nat} {r k : Nat → Nat} {u u' : SC} {t t' : M2} (h : SR n r k u t) (hu : Stat u u') (ht : StatM t t') : SR n r k u' t' := by
  obtain ⟨h1, h2, h3, h4, h5, h6, h7, h8⟩ := h
  refine ⟨h1.stat hu ht, ?_, ?_, ?_, ?_, ?_, ?_, ?_⟩
  · rw [hu.2 1 (by omega), ht 17 (by omega)]; exact h2
  · rw [hu.2 22 (by omega), hu.2 23 (by omega), hu.2 24 (by omega), hu.2 25 (by omega), hu.2 26 (by omega), ht 12 (by omega), ht 13 (by omega), ht 14 (by omega), ht 15 (by omega), ht 16 (by omega)]; exact h3
  · rw [ht 15 (by omega)]; exact h4
  · rw [ht 16 (by omega)]; exact h5
  · rw [ht 17 (by omega)]; exact h6
  · rw [ht 4 (by omega)]; exact h7
  · rw [ht 4 (by omega), ht 7 (by omega), ht 8 (by omega)]; exact h8
def IC (u : SC) : Prop :=
  (∃ n, n ≤ 6 ∧ u.1 6 0 = nI n) ∧ (∃ n, n ≤ 100 ∧ u.1 8 0 = nI n) ∧ (∀ i, i < 6 → u.2 i < 6) ∧ (∀ d, d < 3 → ∃ n, n < 6 ∧ u.1 9 d = nI n) ∧ (∀ d, d < 3 → ∃ n, n < 2 ∧ u.1 10 d = nI n) ∧ (∃ n, n < 3 ∧ u.1 1 0 = nI n) ∧ (∃ n, n < 2 ∧ u.1 2 0 = nI n) ∧ (∀ j, j < 12 → u.1 26 j = -1 ∨ ∃ n, n < 6 ∧ u.1 26 j = nI n)
theorem IC_note {u : SC} (h : IC u) (a b : Int32) : IC (kNote u a b).2 := by
  obtain ⟨h6, ⟨n, hn, e⟩, hr⟩ := h
  unfold kNote
  by_cases c : (100 : Int32) ≤ u.1 8 0
  · rw [if_pos c]
    exact ⟨h6, ⟨n, hn, e⟩, hr⟩
  · rw [if_neg c]
    have c2 : n < 100 := by
      rw [e, show (100 : Int32) = nI 100 from rfl, nle (by omega) (by omega)] at c
      omega
    exact ⟨h6, ⟨n + 1, c2, by show u.1 8 0 + 1 = _; rw [e, nI_1]⟩, hr⟩
theorem IC_take {u : SC} (h : IC u) : IC (kTake u).2 ∧ ∃ n, n < 2 ∧ (kTake u).1 = nI n := by
  obtain ⟨h1, h2, h3, h4, h5, ⟨a, ha, ea⟩, ⟨b, hb, eb⟩, h8⟩ := h
  unfold kTake
  by_cases c : u.1 1 0 = 2
  · rw [if_pos c]
    refine ⟨⟨h1, h2, h3, h4, h5, ⟨a, ha, ea⟩, ⟨1 - b, by omega, ?_⟩, h8⟩, b, hb, eb⟩
    show 1 - u.1 2 0 = _
    rw [eb]
    have : b = 0 ∨ b = 1 := by omega
    rcases this with rfl | rfl <;> rfl
  · rw [if_neg c]
    refine ⟨⟨h1, h2, h3, h4, h5, ⟨a, ha, ea⟩, ⟨b, hb, eb⟩, h8⟩, a, ?_, ea⟩
    have : ¬ a = 2 := fun z => c (by rw [ea, z]; rfl)
    omega
theorem IC_set9 {u : SC} (h : IC u) (i : Nat) {m : Nat} (hm : m < 6) : IC (wr u 9 i (nI m)) := by
  obtain ⟨h1, h2, h3, h4, hr⟩ := h
  refine ⟨h1, h2, h3, fun d hd => ?_, hr⟩
  show ∃ n, n < 6 ∧ upd (u.1 9) i (nI m) d = nI n
  by_cases c : d = i
  · subst c
    exact ⟨m, hm, pk_us⟩
  · rw [pk_un c]; exact h4 d hd
theorem IC_set10 {u : SC} (h : IC u) (i : Nat) {m : Nat} (hm : m < 2) : IC (wr u 10 i (nI m)) := by
  obtain ⟨h1, h2, h3, h4, h5, hr⟩ := h
  refine ⟨h1, h2, h3, h4, fun d hd => ?_, hr⟩
  show ∃ n, n < 2 ∧ upd (u.1 10) i (nI m) d = nI n
  by_cases c : d = i
  · subst c
    exact ⟨m, hm, pk_us⟩
  · rw [pk_un c]; exact h5 d hd
/-- go keeps the bounds -/
def GoD (go : Go) (d : Int32) : Prop := ∀ (f x : Int32) (u : SC), IC u → IC (go d f x u).2
theorem IC_begin {go : Go} {d : Int32} (hg : ¬ 3 ≤ d → GoD go d) {m : Nat} (hm : m < 6) (a : Int32) {u : SC} (h : IC u) : IC (kBegin go (nI m) a d u).2 := by
  unfold kBegin
  by_cases c : (3 : Int32) ≤ d
  · rw [if_pos c]; exact h
  · rw [if_neg c]
    obtain ⟨h1, n, hn, e⟩ := IC_take (IC_set9 h (ix d) hm)
    refine hg c _ _ _ ?_
    rw [e]
    exact IC_set10 h1 _ hn
theorem IC_work {go : Go} {d : Int32} (hg : ¬ 3 ≤ d + 1 → GoD go (d + 1)) (x : Int32) {j : Nat} (hj : j < 12) {n : Bool × SC} (h : IC n.2) : IC (kWorkR go j d x n).2 := by
  unfold kWorkR
  split
  · exact h
  · split
    · exact h
    · split
      · exact h
      · split
        · exact h
        · rename_i c1 c2
          rcases h.2.2.2.2.2.2.2 j hj with e | ⟨m, hm, e⟩
          · exact absurd e c1
          · rw [e]
            have hb := IC_begin hg hm (x - 1) h
            split
            · exact hb
            · exact hb
theorem IC_bef {go : Go} {d : Int32} (hg : GoD go d) (k : Nat) (b x : Int32) {u : SC} (h : IC u) : IC (kBef go k d b x u).2 := by
  have hn := IC_note h (u.1 13 k) x
  unfold kBef
  dsimp only
  split
  · exact hn
  · split
    · exact hn
    · exact hg _ _ _ hn
theorem IC_chg {go : Go} {d : Int32} (hg : GoD go d) (k : Nat) (b x : Int32) {u : SC} (h : IC u) : IC (kChg go k d b x u).2 := by
  have hn := IC_note h (u.1 13 k) x
  unfold kChg
  dsimp only
  split
  · exact hn
  · have h2 := hg b (x + (kNote u (u.1 13 k) x).2.1 17 k) _ hn
    split
    · exact h2
    · exact h2
theorem IC_skp {go : Go} {d : Int32} (hg : GoD go d) (k : Nat) (b x : Int32) {u : SC} (h : IC u) : IC (kSkp go k d b x u).2 := by
  have hn := IC_note h (u.1 13 k) x
  unfold kSkp
  dsimp only
  split
  · exact hn
  · split
    · exact hn
    · exact hg _ _ _ hn
theorem IC_twi {go : Go} {d : Int32} (hg : GoD go d) (k : Nat) (b x : Int32) {u : SC} (h : IC u) : IC (kTwi go k d b x u).2 := by
  have hn := IC_note h (u.1 13 k) x
  unfold kTwi
  dsimp only
  split
  · exact hn
  · have h2 := hg b x _ hn
    split
    · have h3 := hg b (x + (go d b x (kNote u (u.1 13 k) x).2).2.1 17 k) _ h2
      split
      · exact h3
      · exact h3
    · exact h2
theorem IC_ret {go : Go} {d : Int32} (hg : GoD go d) (k : Nat) (b x : Int32) {u : SC} (h : IC u) : IC (kRet go k d b x u).2 := by
  have h2 := hg b x _ h
  unfold kRet
  dsimp only
  split
  · have hn := IC_note h2 ((go d b x u).2.1 13 k) ((go d b x u).2.1 5 0)
    split
    · exact hn
    · split
      · exact hn
      · exact hn
  · exact h2
theorem IC_thr {go : Go} {d : Int32} (hg : GoD go d) (k : Nat) (b x : Int32) {u : SC} (h : IC u) : IC (kThr go k d b x u).2 := by
  have h2 := hg b x _ h
  unfold kThr
  dsimp only
  split
  · split
    · exact h2
    · have hn := IC_note h2 ((go d b x u).2.1 13 k) ((go d b x u).2.1 5 0)
      split
      · exact hn
      · split
        · exact hn
        · exact hn
  · exact h2
theorem IC_fin {go : Go} {d : Int32} (hg : GoD go d) (k : Nat) (b x : Int32) {u : SC} (h : IC u) : IC (kFin go k d b x u).2 := by
  have h2 := hg b x _ h
  unfold kFin
  dsimp only
  split
  · exact h2
  · have hn := IC_note h2 ((go d b x u).2.1 13 k) x
    split
    · exact hn
    · split
      · exact hn
      · exact hn
theorem IC_rec {go : Go} {d : Int32} (hg : GoD go d) (k : Nat) (b x : Int32) {u : SC} (h : IC u) : IC (kRec go k d b x u).2 := by
  have h2 := hg b x _ h
  unfold kRec
  dsimp only
  split
  · split
    · exact h2
    · have hn := IC_note h2 ((go d b x u).2.1 13 k) ((go d b x u).2.1 5 0)
      split
      · exact hn
      · exact hn
  · exact h2
theorem IC_act {go : Go} {d : Int32} (hg : GoD go d) (k : Nat) (b x : Int32) {u : SC} (h : IC u) : IC (kAct go k d b x u).2 := by
  unfold kAct
  split
  · exact IC_bef hg k b x h
  · split
    · exact IC_chg hg k b x h
    · split
      · exact IC_skp hg k b x h
      · split
        · exact IC_twi hg k b x h
        · split
          · exact IC_ret hg k b x h
          · split
            · exact IC_thr hg k b x h
            · split
              · exact IC_fin hg k b x h
              · exact IC_rec hg k b x h
theorem IC_along {go : Go} {dd : Nat} (hd : dd < 3) (hg : ∀ d, d < 3 → GoD go (nI d)) (f x : Int32) {u : SC} (h : IC u) : IC (kAlong go (nI dd) f x u).2 := by
  unfold kAlong
  dsimp only
  split
  · unfold kWork
    obtain ⟨a, ha, ea⟩ := h.2.2.2.1 dd hd
    obtain ⟨b, hb, eb⟩ := h.2.2.2.2.1 dd hd
    refine IC_work (fun c => ?_) x ?_ (IC_note h _ _)
    · rw [nI_1] at c ⊢
      refine hg (dd + 1) ?_
      rw [show (3 : Int32) = nI 3 from rfl, nle (by omega) (by omega)] at c
      omega
    · rw [ixn (by omega : dd < 1000), ea, eb, show (6 : Int32) = nI 6 from rfl, pk_mul, nI_add, ixn (by omega)]
      omega
  · split
    · exact IC_act (hg dd hd) _ _ _ h
    · split
      · exact IC_act (hg dd hd) _ _ _ h
      · exact hg dd hd _ _ _ h
theorem IC_go : ∀ (n : Nat) (dd : Nat), dd < 3 → GoD (kGo n) (nI dd)
  | 0, _, _ => fun _ _ _ h => h
  | n + 1, dd, hd => fun f x _ h => IC_along hd (fun d hd => IC_go n d hd) f x h
