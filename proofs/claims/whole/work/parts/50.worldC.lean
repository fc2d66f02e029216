/-! the class's cells: 0 the object, 1 the row's object, 2 the row, 3 the works' array, 4 the trace, 5 noters, 6 words, 7 methodAt, 8 targetAt, 9 .. 14 the advisors, 15 .. 26 the works; behind them (27 ..) the reference's -/
abbrev Geo : Type := va_G × (Nat → Nat) × ClassId × ClassId × ClassId × ClassId
abbrev tyA (Γ : Geo) : List (ClassId × FieldType) := [(Γ.2.2.1, .int), (Γ.2.2.2.1, .object R0), (Γ.2.2.2.2.1, .object R3), (Γ.2.2.2.2.2, .boolean)]
def advF (u : SC) (k : Nat) : List Value := [.int (u.1 13 k), .int (u.1 14 k), .int (u.1 15 k), .int (u.1 16 k), .int (u.1 17 k), .int (u.1 18 k), .int (u.1 19 k), .int (u.1 20 k), .int (u.1 21 k)]
def wrkF (u : SC) (k : Nat) : List Value := [.int (u.1 22 k), .int (u.1 23 k), .int (u.1 24 k), .int (u.1 25 k), .int (u.1 26 k)]
def eC (Γ : Geo) (u : SC) : Nat → va_E
  | 0 => .inr (4, [.ref (Γ.2.1 1), .ref (Γ.2.1 3), .ref (Γ.2.1 4), .ref (Γ.2.1 7), .ref (Γ.2.1 8), .int (u.1 0 0), .int (u.1 1 0), .int (u.1 2 0), .int (u.1 3 0), .int (u.1 4 0), .int (u.1 5 0)])
  | 1 => .inr (1, [.ref (Γ.2.1 2), .int (u.1 6 0), .int (u.1 7 0)])
  | 2 => .inl (Γ.2.2.2.1, 6, .inr (.inr (.inr (.inr fun i => some (Γ.2.1 (u.2 i + 9))))))
  | 3 => .inl (Γ.2.2.2.2.1, 12, .inr (.inr (.inr (.inr fun i => some (Γ.2.1 (i + 15))))))
  | 4 => .inr (2, [.ref (Γ.2.1 5), .ref (Γ.2.1 6), .int (u.1 8 0)])
  | 5 => .inl (Γ.2.2.1, 100, .inl (u.1 11))
  | 6 => .inl (Γ.2.2.1, 100, .inl (u.1 12))
  | 7 => .inl (Γ.2.2.1, 3, .inl (u.1 9))
  | 8 => .inl (Γ.2.2.1, 3, .inl (u.1 10))
  | 9 => .inr (0, advF u 0)
  | 10 => .inr (0, advF u 1)
  | 11 => .inr (0, advF u 2)
  | 12 => .inr (0, advF u 3)
  | 13 => .inr (0, advF u 4)
  | 14 => .inr (0, advF u 5)
  | k + 15 => .inr (3, wrkF u k)
def wC (Γ : Geo) (u : SC) : va_W := (List.range 27).map (fun k => (Γ.2.1 k, eC Γ u k))
def inC (Γ : Geo) : Nat → Prop := fun q => ∃ k, k < 27 ∧ q = Γ.2.1 k
theorem rg_at {n k : Nat} (f : Nat → Nat × va_E) (hk : k < n) : ((List.range n).map f)[k]? = some (f k) := by
  rw [List.getElem?_map, List.getElem?_range hk]; rfl
theorem rg_set {n k : Nat} (f g : Nat → Nat × va_E) (hk : k < n) (e : Nat × va_E) (h1 : g k = e) (h2 : ∀ j, j < n → j ≠ k → g j = f j) : ((List.range n).map f).set k e = (List.range n).map g := by
  refine List.ext_getElem? (fun i => ?_)
  by_cases hi : i < n
  · by_cases c : i = k
    · subst c
      rw [List.getElem?_set_self (by simpa using hi), rg_at g hi, h1]
    · rw [List.getElem?_set_ne (Ne.symm c), rg_at f hi, rg_at g hi, h2 i hi c]
  · rw [List.getElem?_eq_none (by simpa using hi), List.getElem?_eq_none (by simpa using hi)]
theorem wC_at {Γ : Geo} {u : SC} {k : Nat} (hk : k < 27) : (wC Γ u)[k]? = some (Γ.2.1 k, eC Γ u k) := rg_at _ hk
theorem wC_set {Γ : Geo} {u u' : SC} {k : Nat} {e : va_E} (hk : k < 27) (h1 : eC Γ u' k = e) (h2 : ∀ j, j ≠ k → eC Γ u' j = eC Γ u j) : (wC Γ u).set k (Γ.2.1 k, e) = wC Γ u' := rg_set _ _ hk _ (by rw [h1]) (fun j _ hj => by rw [h2 j hj])
theorem rg_D {n : Nat} {A : Nat → Prop} {a : Nat → Nat} {f g : Nat → va_E} (h : va_D A ((List.range n).map fun k => (a k, f k))) : va_D A ((List.range n).map fun k => (a k, g k)) := by
  have key : ∀ (i : Nat) (q : Nat × va_E), ((List.range n).map fun k => (a k, g k))[i]? = some q → ((List.range n).map fun k => (a k, f k))[i]? = some (q.1, f i) := by
    intro i q hq
    by_cases hi : i < n
    · rw [rg_at _ hi] at hq ⊢
      cases hq
      rfl
    · rw [List.getElem?_eq_none (by simpa using hi)] at hq
      cases hq
  exact ⟨fun i j x y hi hj hxy => h.1 i j _ _ (key i x hi) (key j y hj) hxy, fun i x hi => h.2 i (x.1, f i) (key i x hi)⟩
theorem wC_D {A : Nat → Prop} {Γ : Geo} {u u' : SC} (h : va_D A (wC Γ u)) : va_D A (wC Γ u') := rg_D h
theorem wC_G {A : Nat → Prop} {Γ : Geo} {u : SC} (h : va_D A (wC Γ u)) : va_D (inC Γ) (wC Γ u) := by
  refine ⟨h.1, fun k q hk => ?_⟩
  by_cases hi : k < 27
  · rw [wC_at hi] at hk
    cases hk
    exact ⟨k, hi, rfl⟩
  · rw [List.getElem?_eq_none (by simpa [wC] using hi)] at hk
    cases hk
theorem wC_A {A : Nat → Prop} {Γ : Geo} {u : SC} (h : va_D A (wC Γ u)) : ∀ q, inC Γ q → A q := fun q ⟨k, hk, e⟩ => by rw [e]; exact h.2 k _ (wC_at hk)
theorem eC_adv {Γ : Geo} {u : SC} {k : Nat} (hk : k < 6) : eC Γ u (k + 9) = .inr (0, advF u k) := by
  have : k = 0 ∨ k = 1 ∨ k = 2 ∨ k = 3 ∨ k = 4 ∨ k = 5 := by omega
  rcases this with rfl | rfl | rfl | rfl | rfl | rfl <;> rfl
theorem eC_wrk {Γ : Geo} {u : SC} {k : Nat} : eC Γ u (k + 15) = .inr (3, wrkF u k) := rfl
theorem oC_0 {Γ : Geo} {u : SC} {v : Int32} : ∀ j, j ≠ 0 → eC Γ (wr u 0 0 v) j = eC Γ u j
  | 0, h => absurd rfl h
  | 1, _ => rfl
  | 2, _ => rfl
  | 3, _ => rfl
  | 4, _ => rfl
  | 5, _ => rfl
  | 6, _ => rfl
  | 7, _ => rfl
  | 8, _ => rfl
  | 9, _ => rfl
  | 10, _ => rfl
  | 11, _ => rfl
  | 12, _ => rfl
  | 13, _ => rfl
  | 14, _ => rfl
  | j + 15, _ => rfl
theorem oC_1 {Γ : Geo} {u : SC} {v : Int32} : ∀ j, j ≠ 0 → eC Γ (wr u 1 0 v) j = eC Γ u j
  | 0, h => absurd rfl h
  | 1, _ => rfl
  | 2, _ => rfl
  | 3, _ => rfl
  | 4, _ => rfl
  | 5, _ => rfl
  | 6, _ => rfl
  | 7, _ => rfl
  | 8, _ => rfl
  | 9, _ => rfl
  | 10, _ => rfl
  | 11, _ => rfl
  | 12, _ => rfl
  | 13, _ => rfl
  | 14, _ => rfl
  | j + 15, _ => rfl
theorem oC_2 {Γ : Geo} {u : SC} {v : Int32} : ∀ j, j ≠ 0 → eC Γ (wr u 2 0 v) j = eC Γ u j
  | 0, h => absurd rfl h
  | 1, _ => rfl
  | 2, _ => rfl
  | 3, _ => rfl
  | 4, _ => rfl
  | 5, _ => rfl
  | 6, _ => rfl
  | 7, _ => rfl
  | 8, _ => rfl
  | 9, _ => rfl
  | 10, _ => rfl
  | 11, _ => rfl
  | 12, _ => rfl
  | 13, _ => rfl
  | 14, _ => rfl
  | j + 15, _ => rfl
theorem oC_3 {Γ : Geo} {u : SC} {v : Int32} : ∀ j, j ≠ 0 → eC Γ (wr u 3 0 v) j = eC Γ u j
  | 0, h => absurd rfl h
  | 1, _ => rfl
  | 2, _ => rfl
  | 3, _ => rfl
  | 4, _ => rfl
  | 5, _ => rfl
  | 6, _ => rfl
  | 7, _ => rfl
  | 8, _ => rfl
  | 9, _ => rfl
  | 10, _ => rfl
  | 11, _ => rfl
  | 12, _ => rfl
  | 13, _ => rfl
  | 14, _ => rfl
  | j + 15, _ => rfl
theorem oC_4 {Γ : Geo} {u : SC} {v : Int32} : ∀ j, j ≠ 0 → eC Γ (wr u 4 0 v) j = eC Γ u j
  | 0, h => absurd rfl h
  | 1, _ => rfl
  | 2, _ => rfl
  | 3, _ => rfl
  | 4, _ => rfl
  | 5, _ => rfl
  | 6, _ => rfl
  | 7, _ => rfl
  | 8, _ => rfl
  | 9, _ => rfl
  | 10, _ => rfl
  | 11, _ => rfl
  | 12, _ => rfl
  | 13, _ => rfl
  | 14, _ => rfl
  | j + 15, _ => rfl
theorem oC_5 {Γ : Geo} {u : SC} {v : Int32} : ∀ j, j ≠ 0 → eC Γ (wr u 5 0 v) j = eC Γ u j
  | 0, h => absurd rfl h
  | 1, _ => rfl
  | 2, _ => rfl
  | 3, _ => rfl
  | 4, _ => rfl
  | 5, _ => rfl
  | 6, _ => rfl
  | 7, _ => rfl
  | 8, _ => rfl
  | 9, _ => rfl
  | 10, _ => rfl
  | 11, _ => rfl
  | 12, _ => rfl
  | 13, _ => rfl
  | 14, _ => rfl
  | j + 15, _ => rfl
theorem oC_6 {Γ : Geo} {u : SC} {v : Int32} : ∀ j, j ≠ 1 → eC Γ (wr u 6 0 v) j = eC Γ u j
  | 0, _ => rfl
  | 1, h => absurd rfl h
  | 2, _ => rfl
  | 3, _ => rfl
  | 4, _ => rfl
  | 5, _ => rfl
  | 6, _ => rfl
  | 7, _ => rfl
  | 8, _ => rfl
  | 9, _ => rfl
  | 10, _ => rfl
  | 11, _ => rfl
  | 12, _ => rfl
  | 13, _ => rfl
  | 14, _ => rfl
  | j + 15, _ => rfl
theorem oC_7 {Γ : Geo} {u : SC} {v : Int32} : ∀ j, j ≠ 1 → eC Γ (wr u 7 0 v) j = eC Γ u j
  | 0, _ => rfl
  | 1, h => absurd rfl h
  | 2, _ => rfl
  | 3, _ => rfl
  | 4, _ => rfl
  | 5, _ => rfl
  | 6, _ => rfl
  | 7, _ => rfl
  | 8, _ => rfl
  | 9, _ => rfl
  | 10, _ => rfl
  | 11, _ => rfl
  | 12, _ => rfl
  | 13, _ => rfl
  | 14, _ => rfl
  | j + 15, _ => rfl
theorem oC_8 {Γ : Geo} {u : SC} {v : Int32} : ∀ j, j ≠ 4 → eC Γ (wr u 8 0 v) j = eC Γ u j
  | 0, _ => rfl
  | 1, _ => rfl
  | 2, _ => rfl
  | 3, _ => rfl
  | 4, h => absurd rfl h
  | 5, _ => rfl
  | 6, _ => rfl
  | 7, _ => rfl
  | 8, _ => rfl
  | 9, _ => rfl
  | 10, _ => rfl
  | 11, _ => rfl
  | 12, _ => rfl
  | 13, _ => rfl
  | 14, _ => rfl
  | j + 15, _ => rfl
theorem oC_11 {Γ : Geo} {u : SC} {i : Nat} {v : Int32} : ∀ j, j ≠ 5 → eC Γ (wr u 11 i v) j = eC Γ u j
  | 0, _ => rfl
  | 1, _ => rfl
  | 2, _ => rfl
  | 3, _ => rfl
  | 4, _ => rfl
  | 5, h => absurd rfl h
  | 6, _ => rfl
  | 7, _ => rfl
  | 8, _ => rfl
  | 9, _ => rfl
  | 10, _ => rfl
  | 11, _ => rfl
  | 12, _ => rfl
  | 13, _ => rfl
  | 14, _ => rfl
  | j + 15, _ => rfl
theorem oC_12 {Γ : Geo} {u : SC} {i : Nat} {v : Int32} : ∀ j, j ≠ 6 → eC Γ (wr u 12 i v) j = eC Γ u j
  | 0, _ => rfl
  | 1, _ => rfl
  | 2, _ => rfl
  | 3, _ => rfl
  | 4, _ => rfl
  | 5, _ => rfl
  | 6, h => absurd rfl h
  | 7, _ => rfl
  | 8, _ => rfl
  | 9, _ => rfl
  | 10, _ => rfl
  | 11, _ => rfl
  | 12, _ => rfl
  | 13, _ => rfl
  | 14, _ => rfl
  | j + 15, _ => rfl
theorem oC_9 {Γ : Geo} {u : SC} {i : Nat} {v : Int32} : ∀ j, j ≠ 7 → eC Γ (wr u 9 i v) j = eC Γ u j
  | 0, _ => rfl
  | 1, _ => rfl
  | 2, _ => rfl
  | 3, _ => rfl
  | 4, _ => rfl
  | 5, _ => rfl
  | 6, _ => rfl
  | 7, h => absurd rfl h
  | 8, _ => rfl
  | 9, _ => rfl
  | 10, _ => rfl
  | 11, _ => rfl
  | 12, _ => rfl
  | 13, _ => rfl
  | 14, _ => rfl
  | j + 15, _ => rfl
theorem oC_10 {Γ : Geo} {u : SC} {i : Nat} {v : Int32} : ∀ j, j ≠ 8 → eC Γ (wr u 10 i v) j = eC Γ u j
  | 0, _ => rfl
  | 1, _ => rfl
  | 2, _ => rfl
  | 3, _ => rfl
  | 4, _ => rfl
  | 5, _ => rfl
  | 6, _ => rfl
  | 7, _ => rfl
  | 8, h => absurd rfl h
  | 9, _ => rfl
  | 10, _ => rfl
  | 11, _ => rfl
  | 12, _ => rfl
  | 13, _ => rfl
  | 14, _ => rfl
  | j + 15, _ => rfl
theorem oC_13 {Γ : Geo} {u : SC} {k : Nat} {v : Int32} : ∀ j, j ≠ k + 9 → eC Γ (wr u 13 k v) j = eC Γ u j
  | 0, _ => rfl
  | 1, _ => rfl
  | 2, _ => rfl
  | 3, _ => rfl
  | 4, _ => rfl
  | 5, _ => rfl
  | 6, _ => rfl
  | 7, _ => rfl
  | 8, _ => rfl
  | 9, h => by
    have hk : 0 ≠ k := fun z => h (by omega)
    show Sum.inr (0, advF (wr u 13 k v) 0) = Sum.inr (0, advF u 0)
    have e : (wr u 13 k v).1 13 0 = u.1 13 0 := pk_un hk
    unfold advF
    rw [e]
    rfl
  | 10, h => by
    have hk : 1 ≠ k := fun z => h (by omega)
    show Sum.inr (0, advF (wr u 13 k v) 1) = Sum.inr (0, advF u 1)
    have e : (wr u 13 k v).1 13 1 = u.1 13 1 := pk_un hk
    unfold advF
    rw [e]
    rfl
  | 11, h => by
    have hk : 2 ≠ k := fun z => h (by omega)
    show Sum.inr (0, advF (wr u 13 k v) 2) = Sum.inr (0, advF u 2)
    have e : (wr u 13 k v).1 13 2 = u.1 13 2 := pk_un hk
    unfold advF
    rw [e]
    rfl
  | 12, h => by
    have hk : 3 ≠ k := fun z => h (by omega)
    show Sum.inr (0, advF (wr u 13 k v) 3) = Sum.inr (0, advF u 3)
    have e : (wr u 13 k v).1 13 3 = u.1 13 3 := pk_un hk
    unfold advF
    rw [e]
    rfl
  | 13, h => by
    have hk : 4 ≠ k := fun z => h (by omega)
    show Sum.inr (0, advF (wr u 13 k v) 4) = Sum.inr (0, advF u 4)
    have e : (wr u 13 k v).1 13 4 = u.1 13 4 := pk_un hk
    unfold advF
    rw [e]
    rfl
  | 14, h => by
    have hk : 5 ≠ k := fun z => h (by omega)
    show Sum.inr (0, advF (wr u 13 k v) 5) = Sum.inr (0, advF u 5)
    have e : (wr u 13 k v).1 13 5 = u.1 13 5 := pk_un hk
    unfold advF
    rw [e]
    rfl
  | j + 15, _ => rfl
theorem sC_13 {u : SC} {k : Nat} {v : Int32} : advF (wr u 13 k v) k = (advF u k).set 0 (.int v) := by
  have e : (wr u 13 k v).1 13 k = v := pk_us
  unfold advF
  rw [e]
  rfl
theorem oC_14 {Γ : Geo} {u : SC} {k : Nat} {v : Int32} : ∀ j, j ≠ k + 9 → eC Γ (wr u 14 k v) j = eC Γ u j
  | 0, _ => rfl
  | 1, _ => rfl
  | 2, _ => rfl
  | 3, _ => rfl
  | 4, _ => rfl
  | 5, _ => rfl
  | 6, _ => rfl
  | 7, _ => rfl
  | 8, _ => rfl
  | 9, h => by
    have hk : 0 ≠ k := fun z => h (by omega)
    show Sum.inr (0, advF (wr u 14 k v) 0) = Sum.inr (0, advF u 0)
    have e : (wr u 14 k v).1 14 0 = u.1 14 0 := pk_un hk
    unfold advF
    rw [e]
    rfl
  | 10, h => by
    have hk : 1 ≠ k := fun z => h (by omega)
    show Sum.inr (0, advF (wr u 14 k v) 1) = Sum.inr (0, advF u 1)
    have e : (wr u 14 k v).1 14 1 = u.1 14 1 := pk_un hk
    unfold advF
    rw [e]
    rfl
  | 11, h => by
    have hk : 2 ≠ k := fun z => h (by omega)
    show Sum.inr (0, advF (wr u 14 k v) 2) = Sum.inr (0, advF u 2)
    have e : (wr u 14 k v).1 14 2 = u.1 14 2 := pk_un hk
    unfold advF
    rw [e]
    rfl
  | 12, h => by
    have hk : 3 ≠ k := fun z => h (by omega)
    show Sum.inr (0, advF (wr u 14 k v) 3) = Sum.inr (0, advF u 3)
    have e : (wr u 14 k v).1 14 3 = u.1 14 3 := pk_un hk
    unfold advF
    rw [e]
    rfl
  | 13, h => by
    have hk : 4 ≠ k := fun z => h (by omega)
    show Sum.inr (0, advF (wr u 14 k v) 4) = Sum.inr (0, advF u 4)
    have e : (wr u 14 k v).1 14 4 = u.1 14 4 := pk_un hk
    unfold advF
    rw [e]
    rfl
  | 14, h => by
    have hk : 5 ≠ k := fun z => h (by omega)
    show Sum.inr (0, advF (wr u 14 k v) 5) = Sum.inr (0, advF u 5)
    have e : (wr u 14 k v).1 14 5 = u.1 14 5 := pk_un hk
    unfold advF
    rw [e]
    rfl
  | j + 15, _ => rfl
theorem sC_14 {u : SC} {k : Nat} {v : Int32} : advF (wr u 14 k v) k = (advF u k).set 1 (.int v) := by
  have e : (wr u 14 k v).1 14 k = v := pk_us
  unfold advF
  rw [e]
  rfl
theorem oC_15 {Γ : Geo} {u : SC} {k : Nat} {v : Int32} : ∀ j, j ≠ k + 9 → eC Γ (wr u 15 k v) j = eC Γ u j
  | 0, _ => rfl
  | 1, _ => rfl
  | 2, _ => rfl
  | 3, _ => rfl
  | 4, _ => rfl
  | 5, _ => rfl
  | 6, _ => rfl
  | 7, _ => rfl
  | 8, _ => rfl
  | 9, h => by
    have hk : 0 ≠ k := fun z => h (by omega)
    show Sum.inr (0, advF (wr u 15 k v) 0) = Sum.inr (0, advF u 0)
    have e : (wr u 15 k v).1 15 0 = u.1 15 0 := pk_un hk
    unfold advF
    rw [e]
    rfl
  | 10, h => by
    have hk : 1 ≠ k := fun z => h (by omega)
    show Sum.inr (0, advF (wr u 15 k v) 1) = Sum.inr (0, advF u 1)
    have e : (wr u 15 k v).1 15 1 = u.1 15 1 := pk_un hk
    unfold advF
    rw [e]
    rfl
  | 11, h => by
    have hk : 2 ≠ k := fun z => h (by omega)
    show Sum.inr (0, advF (wr u 15 k v) 2) = Sum.inr (0, advF u 2)
    have e : (wr u 15 k v).1 15 2 = u.1 15 2 := pk_un hk
    unfold advF
    rw [e]
    rfl
  | 12, h => by
    have hk : 3 ≠ k := fun z => h (by omega)
    show Sum.inr (0, advF (wr u 15 k v) 3) = Sum.inr (0, advF u 3)
    have e : (wr u 15 k v).1 15 3 = u.1 15 3 := pk_un hk
    unfold advF
    rw [e]
    rfl
  | 13, h => by
    have hk : 4 ≠ k := fun z => h (by omega)
    show Sum.inr (0, advF (wr u 15 k v) 4) = Sum.inr (0, advF u 4)
    have e : (wr u 15 k v).1 15 4 = u.1 15 4 := pk_un hk
    unfold advF
    rw [e]
    rfl
  | 14, h => by
    have hk : 5 ≠ k := fun z => h (by omega)
    show Sum.inr (0, advF (wr u 15 k v) 5) = Sum.inr (0, advF u 5)
    have e : (wr u 15 k v).1 15 5 = u.1 15 5 := pk_un hk
    unfold advF
    rw [e]
    rfl
  | j + 15, _ => rfl
theorem sC_15 {u : SC} {k : Nat} {v : Int32} : advF (wr u 15 k v) k = (advF u k).set 2 (.int v) := by
  have e : (wr u 15 k v).1 15 k = v := pk_us
  unfold advF
  rw [e]
  rfl
theorem oC_16 {Γ : Geo} {u : SC} {k : Nat} {v : Int32} : ∀ j, j ≠ k + 9 → eC Γ (wr u 16 k v) j = eC Γ u j
  | 0, _ => rfl
  | 1, _ => rfl
  | 2, _ => rfl
  | 3, _ => rfl
  | 4, _ => rfl
  | 5, _ => rfl
  | 6, _ => rfl
  | 7, _ => rfl
  | 8, _ => rfl
  | 9, h => by
    have hk : 0 ≠ k := fun z => h (by omega)
    show Sum.inr (0, advF (wr u 16 k v) 0) = Sum.inr (0, advF u 0)
    have e : (wr u 16 k v).1 16 0 = u.1 16 0 := pk_un hk
    unfold advF
    rw [e]
    rfl
  | 10, h => by
    have hk : 1 ≠ k := fun z => h (by omega)
    show Sum.inr (0, advF (wr u 16 k v) 1) = Sum.inr (0, advF u 1)
    have e : (wr u 16 k v).1 16 1 = u.1 16 1 := pk_un hk
    unfold advF
    rw [e]
    rfl
  | 11, h => by
    have hk : 2 ≠ k := fun z => h (by omega)
    show Sum.inr (0, advF (wr u 16 k v) 2) = Sum.inr (0, advF u 2)
    have e : (wr u 16 k v).1 16 2 = u.1 16 2 := pk_un hk
    unfold advF
    rw [e]
    rfl
  | 12, h => by
    have hk : 3 ≠ k := fun z => h (by omega)
    show Sum.inr (0, advF (wr u 16 k v) 3) = Sum.inr (0, advF u 3)
    have e : (wr u 16 k v).1 16 3 = u.1 16 3 := pk_un hk
    unfold advF
    rw [e]
    rfl
  | 13, h => by
    have hk : 4 ≠ k := fun z => h (by omega)
    show Sum.inr (0, advF (wr u 16 k v) 4) = Sum.inr (0, advF u 4)
    have e : (wr u 16 k v).1 16 4 = u.1 16 4 := pk_un hk
    unfold advF
    rw [e]
    rfl
  | 14, h => by
    have hk : 5 ≠ k := fun z => h (by omega)
    show Sum.inr (0, advF (wr u 16 k v) 5) = Sum.inr (0, advF u 5)
    have e : (wr u 16 k v).1 16 5 = u.1 16 5 := pk_un hk
    unfold advF
    rw [e]
    rfl
  | j + 15, _ => rfl
theorem sC_16 {u : SC} {k : Nat} {v : Int32} : advF (wr u 16 k v) k = (advF u k).set 3 (.int v) := by
  have e : (wr u 16 k v).1 16 k = v := pk_us
  unfold advF
  rw [e]
  rfl
theorem oC_17 {Γ : Geo} {u : SC} {k : Nat} {v : Int32} : ∀ j, j ≠ k + 9 → eC Γ (wr u 17 k v) j = eC Γ u j
  | 0, _ => rfl
  | 1, _ => rfl
  | 2, _ => rfl
  | 3, _ => rfl
  | 4, _ => rfl
  | 5, _ => rfl
  | 6, _ => rfl
  | 7, _ => rfl
  | 8, _ => rfl
  | 9, h => by
    have hk : 0 ≠ k := fun z => h (by omega)
    show Sum.inr (0, advF (wr u 17 k v) 0) = Sum.inr (0, advF u 0)
    have e : (wr u 17 k v).1 17 0 = u.1 17 0 := pk_un hk
    unfold advF
    rw [e]
    rfl
  | 10, h => by
    have hk : 1 ≠ k := fun z => h (by omega)
    show Sum.inr (0, advF (wr u 17 k v) 1) = Sum.inr (0, advF u 1)
    have e : (wr u 17 k v).1 17 1 = u.1 17 1 := pk_un hk
    unfold advF
    rw [e]
    rfl
  | 11, h => by
    have hk : 2 ≠ k := fun z => h (by omega)
    show Sum.inr (0, advF (wr u 17 k v) 2) = Sum.inr (0, advF u 2)
    have e : (wr u 17 k v).1 17 2 = u.1 17 2 := pk_un hk
    unfold advF
    rw [e]
    rfl
  | 12, h => by
    have hk : 3 ≠ k := fun z => h (by omega)
    show Sum.inr (0, advF (wr u 17 k v) 3) = Sum.inr (0, advF u 3)
    have e : (wr u 17 k v).1 17 3 = u.1 17 3 := pk_un hk
    unfold advF
    rw [e]
    rfl
  | 13, h => by
    have hk : 4 ≠ k := fun z => h (by omega)
    show Sum.inr (0, advF (wr u 17 k v) 4) = Sum.inr (0, advF u 4)
    have e : (wr u 17 k v).1 17 4 = u.1 17 4 := pk_un hk
    unfold advF
    rw [e]
    rfl
  | 14, h => by
    have hk : 5 ≠ k := fun z => h (by omega)
    show Sum.inr (0, advF (wr u 17 k v) 5) = Sum.inr (0, advF u 5)
    have e : (wr u 17 k v).1 17 5 = u.1 17 5 := pk_un hk
    unfold advF
    rw [e]
    rfl
  | j + 15, _ => rfl
theorem sC_17 {u : SC} {k : Nat} {v : Int32} : advF (wr u 17 k v) k = (advF u k).set 4 (.int v) := by
  have e : (wr u 17 k v).1 17 k = v := pk_us
  unfold advF
  rw [e]
  rfl
theorem oC_18 {Γ : Geo} {u : SC} {k : Nat} {v : Int32} : ∀ j, j ≠ k + 9 → eC Γ (wr u 18 k v) j = eC Γ u j
  | 0, _ => rfl
  | 1, _ => rfl
  | 2, _ => rfl
  | 3, _ => rfl
  | 4, _ => rfl
  | 5, _ => rfl
  | 6, _ => rfl
  | 7, _ => rfl
  | 8, _ => rfl
  | 9, h => by
    have hk : 0 ≠ k := fun z => h (by omega)
    show Sum.inr (0, advF (wr u 18 k v) 0) = Sum.inr (0, advF u 0)
    have e : (wr u 18 k v).1 18 0 = u.1 18 0 := pk_un hk
    unfold advF
    rw [e]
    rfl
  | 10, h => by
    have hk : 1 ≠ k := fun z => h (by omega)
    show Sum.inr (0, advF (wr u 18 k v) 1) = Sum.inr (0, advF u 1)
    have e : (wr u 18 k v).1 18 1 = u.1 18 1 := pk_un hk
    unfold advF
    rw [e]
    rfl
  | 11, h => by
    have hk : 2 ≠ k := fun z => h (by omega)
    show Sum.inr (0, advF (wr u 18 k v) 2) = Sum.inr (0, advF u 2)
    have e : (wr u 18 k v).1 18 2 = u.1 18 2 := pk_un hk
    unfold advF
    rw [e]
    rfl
  | 12, h => by
    have hk : 3 ≠ k := fun z => h (by omega)
    show Sum.inr (0, advF (wr u 18 k v) 3) = Sum.inr (0, advF u 3)
    have e : (wr u 18 k v).1 18 3 = u.1 18 3 := pk_un hk
    unfold advF
    rw [e]
    rfl
  | 13, h => by
    have hk : 4 ≠ k := fun z => h (by omega)
    show Sum.inr (0, advF (wr u 18 k v) 4) = Sum.inr (0, advF u 4)
    have e : (wr u 18 k v).1 18 4 = u.1 18 4 := pk_un hk
    unfold advF
    rw [e]
    rfl
  | 14, h => by
    have hk : 5 ≠ k := fun z => h (by omega)
    show Sum.inr (0, advF (wr u 18 k v) 5) = Sum.inr (0, advF u 5)
    have e : (wr u 18 k v).1 18 5 = u.1 18 5 := pk_un hk
    unfold advF
    rw [e]
    rfl
  | j + 15, _ => rfl
theorem sC_18 {u : SC} {k : Nat} {v : Int32} : advF (wr u 18 k v) k = (advF u k).set 5 (.int v) := by
  have e : (wr u 18 k v).1 18 k = v := pk_us
  unfold advF
  rw [e]
  rfl
theorem oC_19 {Γ : Geo} {u : SC} {k : Nat} {v : Int32} : ∀ j, j ≠ k + 9 → eC Γ (wr u 19 k v) j = eC Γ u j
  | 0, _ => rfl
  | 1, _ => rfl
  | 2, _ => rfl
  | 3, _ => rfl
  | 4, _ => rfl
  | 5, _ => rfl
  | 6, _ => rfl
  | 7, _ => rfl
  | 8, _ => rfl
  | 9, h => by
    have hk : 0 ≠ k := fun z => h (by omega)
    show Sum.inr (0, advF (wr u 19 k v) 0) = Sum.inr (0, advF u 0)
    have e : (wr u 19 k v).1 19 0 = u.1 19 0 := pk_un hk
    unfold advF
    rw [e]
    rfl
  | 10, h => by
    have hk : 1 ≠ k := fun z => h (by omega)
    show Sum.inr (0, advF (wr u 19 k v) 1) = Sum.inr (0, advF u 1)
    have e : (wr u 19 k v).1 19 1 = u.1 19 1 := pk_un hk
    unfold advF
    rw [e]
    rfl
  | 11, h => by
    have hk : 2 ≠ k := fun z => h (by omega)
    show Sum.inr (0, advF (wr u 19 k v) 2) = Sum.inr (0, advF u 2)
    have e : (wr u 19 k v).1 19 2 = u.1 19 2 := pk_un hk
    unfold advF
    rw [e]
    rfl
  | 12, h => by
    have hk : 3 ≠ k := fun z => h (by omega)
    show Sum.inr (0, advF (wr u 19 k v) 3) = Sum.inr (0, advF u 3)
    have e : (wr u 19 k v).1 19 3 = u.1 19 3 := pk_un hk
    unfold advF
    rw [e]
    rfl
  | 13, h => by
    have hk : 4 ≠ k := fun z => h (by omega)
    show Sum.inr (0, advF (wr u 19 k v) 4) = Sum.inr (0, advF u 4)
    have e : (wr u 19 k v).1 19 4 = u.1 19 4 := pk_un hk
    unfold advF
    rw [e]
    rfl
  | 14, h => by
    have hk : 5 ≠ k := fun z => h (by omega)
    show Sum.inr (0, advF (wr u 19 k v) 5) = Sum.inr (0, advF u 5)
    have e : (wr u 19 k v).1 19 5 = u.1 19 5 := pk_un hk
    unfold advF
    rw [e]
    rfl
  | j + 15, _ => rfl
theorem sC_19 {u : SC} {k : Nat} {v : Int32} : advF (wr u 19 k v) k = (advF u k).set 6 (.int v) := by
  have e : (wr u 19 k v).1 19 k = v := pk_us
  unfold advF
  rw [e]
  rfl
theorem oC_20 {Γ : Geo} {u : SC} {k : Nat} {v : Int32} : ∀ j, j ≠ k + 9 → eC Γ (wr u 20 k v) j = eC Γ u j
  | 0, _ => rfl
  | 1, _ => rfl
  | 2, _ => rfl
  | 3, _ => rfl
  | 4, _ => rfl
  | 5, _ => rfl
  | 6, _ => rfl
  | 7, _ => rfl
  | 8, _ => rfl
  | 9, h => by
    have hk : 0 ≠ k := fun z => h (by omega)
    show Sum.inr (0, advF (wr u 20 k v) 0) = Sum.inr (0, advF u 0)
    have e : (wr u 20 k v).1 20 0 = u.1 20 0 := pk_un hk
    unfold advF
    rw [e]
    rfl
  | 10, h => by
    have hk : 1 ≠ k := fun z => h (by omega)
    show Sum.inr (0, advF (wr u 20 k v) 1) = Sum.inr (0, advF u 1)
    have e : (wr u 20 k v).1 20 1 = u.1 20 1 := pk_un hk
    unfold advF
    rw [e]
    rfl
  | 11, h => by
    have hk : 2 ≠ k := fun z => h (by omega)
    show Sum.inr (0, advF (wr u 20 k v) 2) = Sum.inr (0, advF u 2)
    have e : (wr u 20 k v).1 20 2 = u.1 20 2 := pk_un hk
    unfold advF
    rw [e]
    rfl
  | 12, h => by
    have hk : 3 ≠ k := fun z => h (by omega)
    show Sum.inr (0, advF (wr u 20 k v) 3) = Sum.inr (0, advF u 3)
    have e : (wr u 20 k v).1 20 3 = u.1 20 3 := pk_un hk
    unfold advF
    rw [e]
    rfl
  | 13, h => by
    have hk : 4 ≠ k := fun z => h (by omega)
    show Sum.inr (0, advF (wr u 20 k v) 4) = Sum.inr (0, advF u 4)
    have e : (wr u 20 k v).1 20 4 = u.1 20 4 := pk_un hk
    unfold advF
    rw [e]
    rfl
  | 14, h => by
    have hk : 5 ≠ k := fun z => h (by omega)
    show Sum.inr (0, advF (wr u 20 k v) 5) = Sum.inr (0, advF u 5)
    have e : (wr u 20 k v).1 20 5 = u.1 20 5 := pk_un hk
    unfold advF
    rw [e]
    rfl
  | j + 15, _ => rfl
theorem sC_20 {u : SC} {k : Nat} {v : Int32} : advF (wr u 20 k v) k = (advF u k).set 7 (.int v) := by
  have e : (wr u 20 k v).1 20 k = v := pk_us
  unfold advF
  rw [e]
  rfl
theorem oC_21 {Γ : Geo} {u : SC} {k : Nat} {v : Int32} : ∀ j, j ≠ k + 9 → eC Γ (wr u 21 k v) j = eC Γ u j
  | 0, _ => rfl
  | 1, _ => rfl
  | 2, _ => rfl
  | 3, _ => rfl
  | 4, _ => rfl
  | 5, _ => rfl
  | 6, _ => rfl
  | 7, _ => rfl
  | 8, _ => rfl
  | 9, h => by
    have hk : 0 ≠ k := fun z => h (by omega)
    show Sum.inr (0, advF (wr u 21 k v) 0) = Sum.inr (0, advF u 0)
    have e : (wr u 21 k v).1 21 0 = u.1 21 0 := pk_un hk
    unfold advF
    rw [e]
    rfl
  | 10, h => by
    have hk : 1 ≠ k := fun z => h (by omega)
    show Sum.inr (0, advF (wr u 21 k v) 1) = Sum.inr (0, advF u 1)
    have e : (wr u 21 k v).1 21 1 = u.1 21 1 := pk_un hk
    unfold advF
    rw [e]
    rfl
  | 11, h => by
    have hk : 2 ≠ k := fun z => h (by omega)
    show Sum.inr (0, advF (wr u 21 k v) 2) = Sum.inr (0, advF u 2)
    have e : (wr u 21 k v).1 21 2 = u.1 21 2 := pk_un hk
    unfold advF
    rw [e]
    rfl
  | 12, h => by
    have hk : 3 ≠ k := fun z => h (by omega)
    show Sum.inr (0, advF (wr u 21 k v) 3) = Sum.inr (0, advF u 3)
    have e : (wr u 21 k v).1 21 3 = u.1 21 3 := pk_un hk
    unfold advF
    rw [e]
    rfl
  | 13, h => by
    have hk : 4 ≠ k := fun z => h (by omega)
    show Sum.inr (0, advF (wr u 21 k v) 4) = Sum.inr (0, advF u 4)
    have e : (wr u 21 k v).1 21 4 = u.1 21 4 := pk_un hk
    unfold advF
    rw [e]
    rfl
  | 14, h => by
    have hk : 5 ≠ k := fun z => h (by omega)
    show Sum.inr (0, advF (wr u 21 k v) 5) = Sum.inr (0, advF u 5)
    have e : (wr u 21 k v).1 21 5 = u.1 21 5 := pk_un hk
    unfold advF
    rw [e]
    rfl
  | j + 15, _ => rfl
theorem sC_21 {u : SC} {k : Nat} {v : Int32} : advF (wr u 21 k v) k = (advF u k).set 8 (.int v) := by
  have e : (wr u 21 k v).1 21 k = v := pk_us
  unfold advF
  rw [e]
  rfl
theorem oC_22 {Γ : Geo} {u : SC} {k : Nat} {v : Int32} : ∀ j, j ≠ k + 15 → eC Γ (wr u 22 k v) j = eC Γ u j
  | 0, _ => rfl
  | 1, _ => rfl
  | 2, _ => rfl
  | 3, _ => rfl
  | 4, _ => rfl
  | 5, _ => rfl
  | 6, _ => rfl
  | 7, _ => rfl
  | 8, _ => rfl
  | 9, _ => rfl
  | 10, _ => rfl
  | 11, _ => rfl
  | 12, _ => rfl
  | 13, _ => rfl
  | 14, _ => rfl
  | a + 15, h => by
    have hk : a ≠ k := fun z => h (by omega)
    show Sum.inr (3, wrkF (wr u 22 k v) a) = Sum.inr (3, wrkF u a)
    have e : (wr u 22 k v).1 22 a = u.1 22 a := pk_un hk
    unfold wrkF
    rw [e]
    rfl
theorem sC_22 {u : SC} {k : Nat} {v : Int32} : wrkF (wr u 22 k v) k = (wrkF u k).set 0 (.int v) := by
  have e : (wr u 22 k v).1 22 k = v := pk_us
  unfold wrkF
  rw [e]
  rfl
theorem oC_23 {Γ : Geo} {u : SC} {k : Nat} {v : Int32} : ∀ j, j ≠ k + 15 → eC Γ (wr u 23 k v) j = eC Γ u j
  | 0, _ => rfl
  | 1, _ => rfl
  | 2, _ => rfl
  | 3, _ => rfl
  | 4, _ => rfl
  | 5, _ => rfl
  | 6, _ => rfl
  | 7, _ => rfl
  | 8, _ => rfl
  | 9, _ => rfl
  | 10, _ => rfl
  | 11, _ => rfl
  | 12, _ => rfl
  | 13, _ => rfl
  | 14, _ => rfl
  | a + 15, h => by
    have hk : a ≠ k := fun z => h (by omega)
    show Sum.inr (3, wrkF (wr u 23 k v) a) = Sum.inr (3, wrkF u a)
    have e : (wr u 23 k v).1 23 a = u.1 23 a := pk_un hk
    unfold wrkF
    rw [e]
    rfl
theorem sC_23 {u : SC} {k : Nat} {v : Int32} : wrkF (wr u 23 k v) k = (wrkF u k).set 1 (.int v) := by
  have e : (wr u 23 k v).1 23 k = v := pk_us
  unfold wrkF
  rw [e]
  rfl
theorem oC_24 {Γ : Geo} {u : SC} {k : Nat} {v : Int32} : ∀ j, j ≠ k + 15 → eC Γ (wr u 24 k v) j = eC Γ u j
  | 0, _ => rfl
  | 1, _ => rfl
  | 2, _ => rfl
  | 3, _ => rfl
  | 4, _ => rfl
  | 5, _ => rfl
  | 6, _ => rfl
  | 7, _ => rfl
  | 8, _ => rfl
  | 9, _ => rfl
  | 10, _ => rfl
  | 11, _ => rfl
  | 12, _ => rfl
  | 13, _ => rfl
  | 14, _ => rfl
  | a + 15, h => by
    have hk : a ≠ k := fun z => h (by omega)
    show Sum.inr (3, wrkF (wr u 24 k v) a) = Sum.inr (3, wrkF u a)
    have e : (wr u 24 k v).1 24 a = u.1 24 a := pk_un hk
    unfold wrkF
    rw [e]
    rfl
theorem sC_24 {u : SC} {k : Nat} {v : Int32} : wrkF (wr u 24 k v) k = (wrkF u k).set 2 (.int v) := by
  have e : (wr u 24 k v).1 24 k = v := pk_us
  unfold wrkF
  rw [e]
  rfl
theorem oC_25 {Γ : Geo} {u : SC} {k : Nat} {v : Int32} : ∀ j, j ≠ k + 15 → eC Γ (wr u 25 k v) j = eC Γ u j
  | 0, _ => rfl
  | 1, _ => rfl
  | 2, _ => rfl
  | 3, _ => rfl
  | 4, _ => rfl
  | 5, _ => rfl
  | 6, _ => rfl
  | 7, _ => rfl
  | 8, _ => rfl
  | 9, _ => rfl
  | 10, _ => rfl
  | 11, _ => rfl
  | 12, _ => rfl
  | 13, _ => rfl
  | 14, _ => rfl
  | a + 15, h => by
    have hk : a ≠ k := fun z => h (by omega)
    show Sum.inr (3, wrkF (wr u 25 k v) a) = Sum.inr (3, wrkF u a)
    have e : (wr u 25 k v).1 25 a = u.1 25 a := pk_un hk
    unfold wrkF
    rw [e]
    rfl
theorem sC_25 {u : SC} {k : Nat} {v : Int32} : wrkF (wr u 25 k v) k = (wrkF u k).set 3 (.int v) := by
  have e : (wr u 25 k v).1 25 k = v := pk_us
  unfold wrkF
  rw [e]
  rfl
theorem oC_26 {Γ : Geo} {u : SC} {k : Nat} {v : Int32} : ∀ j, j ≠ k + 15 → eC Γ (wr u 26 k v) j = eC Γ u j
  | 0, _ => rfl
  | 1, _ => rfl
  | 2, _ => rfl
  | 3, _ => rfl
  | 4, _ => rfl
  | 5, _ => rfl
  | 6, _ => rfl
  | 7, _ => rfl
  | 8, _ => rfl
  | 9, _ => rfl
  | 10, _ => rfl
  | 11, _ => rfl
  | 12, _ => rfl
  | 13, _ => rfl
  | 14, _ => rfl
  | a + 15, h => by
    have hk : a ≠ k := fun z => h (by omega)
    show Sum.inr (3, wrkF (wr u 26 k v) a) = Sum.inr (3, wrkF u a)
    have e : (wr u 26 k v).1 26 a = u.1 26 a := pk_un hk
    unfold wrkF
    rw [e]
    rfl
theorem sC_26 {u : SC} {k : Nat} {v : Int32} : wrkF (wr u 26 k v) k = (wrkF u k).set 4 (.int v) := by
  have e : (wr u 26 k v).1 26 k = v := pk_us
  unfold wrkF
  rw [e]
  rfl
section FC
variable {p : Program} {l : Launch} {e : Env} {R : Room} {s : State} {m : MethodId} {args : Array Value} {below : List Frame} {meth : Method} {c : Code} {cells slots : Nat} {Q : State → Prop}
variable {cc : ByteArray} {nL : Nat} {A : Nat → Prop} {H0 : Heap} {pc : Nat} {lv : List (Nat × Value)} {st : List Value} {Γ : Geo}
variable {u : SC}
theorem g_L_L_advisors (C : cx p s m args c cc R4 wA nL Γ.1 clA (tyA Γ)) (hdg : decode cc pc = .ok (.getfield 12, 3)) (kk : VV p l e R s m args below meth c cells slots Q nL Γ.1 clA A H0 (wC Γ u) (pc + 3) lv (.ref (Γ.2.1 1) :: st)) : VV p l e R s m args below meth c cells slots Q nL Γ.1 clA A H0 (wC Γ u) pc lv (.ref (Γ.2.1 0) :: st) :=
  vv_get (N := 11) C inC4 0 (wC_at (by decide)) rfl 0 (by decide) (in_wA (by decide +kernel) rfl) rfl rfl hdg kk
theorem g_L_L_works (C : cx p s m args c cc R4 wA nL Γ.1 clA (tyA Γ)) (hdg : decode cc pc = .ok (.getfield 18, 3)) (kk : VV p l e R s m args below meth c cells slots Q nL Γ.1 clA A H0 (wC Γ u) (pc + 3) lv (.ref (Γ.2.1 3) :: st)) : VV p l e R s m args below meth c cells slots Q nL Γ.1 clA A H0 (wC Γ u) pc lv (.ref (Γ.2.1 0) :: st) :=
  vv_get (N := 11) C inC4 0 (wC_at (by decide)) rfl 1 (by decide) (in_wA (by decide +kernel) rfl) rfl rfl hdg kk
theorem g_L_L_trace (C : cx p s m args c cc R4 wA nL Γ.1 clA (tyA Γ)) (hdg : decode cc pc = .ok (.getfield 25, 3)) (kk : VV p l e R s m args below meth c cells slots Q nL Γ.1 clA A H0 (wC Γ u) (pc + 3) lv (.ref (Γ.2.1 4) :: st)) : VV p l e R s m args below meth c cells slots Q nL Γ.1 clA A H0 (wC Γ u) pc lv (.ref (Γ.2.1 0) :: st) :=
  vv_get (N := 11) C inC4 0 (wC_at (by decide)) rfl 2 (by decide) (in_wA (by decide +kernel) rfl) rfl rfl hdg kk
theorem g_L_L_methodAt (C : cx p s m args c cc R4 wA nL Γ.1 clA (tyA Γ)) (hdg : decode cc pc = .ok (.getfield 29, 3)) (kk : VV p l e R s m args below meth c cells slots Q nL Γ.1 clA A H0 (wC Γ u) (pc + 3) lv (.ref (Γ.2.1 7) :: st)) : VV p l e R s m args below meth c cells slots Q nL Γ.1 clA A H0 (wC Γ u) pc lv (.ref (Γ.2.1 0) :: st) :=
  vv_get (N := 11) C inC4 0 (wC_at (by decide)) rfl 3 (by decide) (in_wA (by decide +kernel) rfl) rfl rfl hdg kk
theorem g_L_L_targetAt (C : cx p s m args c cc R4 wA nL Γ.1 clA (tyA Γ)) (hdg : decode cc pc = .ok (.getfield 33, 3)) (kk : VV p l e R s m args below meth c cells slots Q nL Γ.1 clA A H0 (wC Γ u) (pc + 3) lv (.ref (Γ.2.1 8) :: st)) : VV p l e R s m args below meth c cells slots Q nL Γ.1 clA A H0 (wC Γ u) pc lv (.ref (Γ.2.1 0) :: st) :=
  vv_get (N := 11) C inC4 0 (wC_at (by decide)) rfl 4 (by decide) (in_wA (by decide +kernel) rfl) rfl rfl hdg kk
theorem g_L_L_frozen (C : cx p s m args c cc R4 wA nL Γ.1 clA (tyA Γ)) (hdg : decode cc pc = .ok (.getfield 36, 3)) (kk : VV p l e R s m args below meth c cells slots Q nL Γ.1 clA A H0 (wC Γ u) (pc + 3) lv (.int (u.1 0 0) :: st)) : VV p l e R s m args below meth c cells slots Q nL Γ.1 clA A H0 (wC Γ u) pc lv (.ref (Γ.2.1 0) :: st) :=
  vv_get (N := 11) C inC4 0 (wC_at (by decide)) rfl 5 (by decide) (in_wA (by decide +kernel) rfl) rfl rfl hdg kk
theorem p_L_L_frozen (C : cx p s m args c cc R4 wA nL Γ.1 clA (tyA Γ)) {v : Int32} (hn : narrow .boolean (.int v) = .int v) (hf : fits .boolean (.int v) = true) (hdg : decode cc pc = .ok (.putfield 36, 3)) (kk : VV p l e R s m args below meth c cells slots Q nL Γ.1 clA A H0 (wC Γ (wr u 0 0 v)) (pc + 3) lv st) : VV p l e R s m args below meth c cells slots Q nL Γ.1 clA A H0 (wC Γ u) pc lv (.int v :: .ref (Γ.2.1 0) :: st) :=
  vv_put (N := 11) C inC4 ty4 ty4_ok nm4 0 (wC_at (by decide)) rfl 5 (by decide) (in_wA (by decide +kernel) rfl) rfl rfl (ty4_ok 5 (by decide)) hn hf (Nat.le_of_ble_eq_true rfl) (wC_set (by decide) rfl oC_0) hdg kk
theorem g_L_L_targetSource (C : cx p s m args c cc R4 wA nL Γ.1 clA (tyA Γ)) (hdg : decode cc pc = .ok (.getfield 40, 3)) (kk : VV p l e R s m args below meth c cells slots Q nL Γ.1 clA A H0 (wC Γ u) (pc + 3) lv (.int (u.1 1 0) :: st)) : VV p l e R s m args below meth c cells slots Q nL Γ.1 clA A H0 (wC Γ u) pc lv (.ref (Γ.2.1 0) :: st) :=
  vv_get (N := 11) C inC4 0 (wC_at (by decide)) rfl 6 (by decide) (in_wA (by decide +kernel) rfl) rfl rfl hdg kk
theorem p_L_L_targetSource (C : cx p s m args c cc R4 wA nL Γ.1 clA (tyA Γ)) {v : Int32} (hdg : decode cc pc = .ok (.putfield 40, 3)) (kk : VV p l e R s m args below meth c cells slots Q nL Γ.1 clA A H0 (wC Γ (wr u 1 0 v)) (pc + 3) lv st) : VV p l e R s m args below meth c cells slots Q nL Γ.1 clA A H0 (wC Γ u) pc lv (.int v :: .ref (Γ.2.1 0) :: st) :=
  vv_put (N := 11) C inC4 ty4 ty4_ok nm4 0 (wC_at (by decide)) rfl 6 (by decide) (in_wA (by decide +kernel) rfl) rfl rfl (ty4_ok 6 (by decide)) rfl rfl (Nat.le_of_ble_eq_true rfl) (wC_set (by decide) rfl oC_1) hdg kk
theorem g_L_L_nextInTurn (C : cx p s m args c cc R4 wA nL Γ.1 clA (tyA Γ)) (hdg : decode cc pc = .ok (.getfield 44, 3)) (kk : VV p l e R s m args below meth c cells slots Q nL Γ.1 clA A H0 (wC Γ u) (pc + 3) lv (.int (u.1 2 0) :: st)) : VV p l e R s m args below meth c cells slots Q nL Γ.1 clA A H0 (wC Γ u) pc lv (.ref (Γ.2.1 0) :: st) :=
  vv_get (N := 11) C inC4 0 (wC_at (by decide)) rfl 7 (by decide) (in_wA (by decide +kernel) rfl) rfl rfl hdg kk
theorem p_L_L_nextInTurn (C : cx p s m args c cc R4 wA nL Γ.1 clA (tyA Γ)) {v : Int32} (hdg : decode cc pc = .ok (.putfield 44, 3)) (kk : VV p l e R s m args below meth c cells slots Q nL Γ.1 clA A H0 (wC Γ (wr u 2 0 v)) (pc + 3) lv st) : VV p l e R s m args below meth c cells slots Q nL Γ.1 clA A H0 (wC Γ u) pc lv (.int v :: .ref (Γ.2.1 0) :: st) :=
  vv_put (N := 11) C inC4 ty4 ty4_ok nm4 0 (wC_at (by decide)) rfl 7 (by decide) (in_wA (by decide +kernel) rfl) rfl rfl (ty4_ok 7 (by decide)) rfl rfl (Nat.le_of_ble_eq_true rfl) (wC_set (by decide) rfl oC_2) hdg kk
theorem g_L_L_timesAsked (C : cx p s m args c cc R4 wA nL Γ.1 clA (tyA Γ)) (hdg : decode cc pc = .ok (.getfield 47, 3)) (kk : VV p l e R s m args below meth c cells slots Q nL Γ.1 clA A H0 (wC Γ u) (pc + 3) lv (.int (u.1 3 0) :: st)) : VV p l e R s m args below meth c cells slots Q nL Γ.1 clA A H0 (wC Γ u) pc lv (.ref (Γ.2.1 0) :: st) :=
  vv_get (N := 11) C inC4 0 (wC_at (by decide)) rfl 8 (by decide) (in_wA (by decide +kernel) rfl) rfl rfl hdg kk
theorem p_L_L_timesAsked (C : cx p s m args c cc R4 wA nL Γ.1 clA (tyA Γ)) {v : Int32} (hdg : decode cc pc = .ok (.putfield 47, 3)) (kk : VV p l e R s m args below meth c cells slots Q nL Γ.1 clA A H0 (wC Γ (wr u 3 0 v)) (pc + 3) lv st) : VV p l e R s m args below meth c cells slots Q nL Γ.1 clA A H0 (wC Γ u) pc lv (.int v :: .ref (Γ.2.1 0) :: st) :=
  vv_put (N := 11) C inC4 ty4 ty4_ok nm4 0 (wC_at (by decide)) rfl 8 (by decide) (in_wA (by decide +kernel) rfl) rfl rfl (ty4_ok 8 (by decide)) rfl rfl (Nat.le_of_ble_eq_true rfl) (wC_set (by decide) rfl oC_3) hdg kk
theorem g_L_L_targetsTaken (C : cx p s m args c cc R4 wA nL Γ.1 clA (tyA Γ)) (hdg : decode cc pc = .ok (.getfield 50, 3)) (kk : VV p l e R s m args below meth c cells slots Q nL Γ.1 clA A H0 (wC Γ u) (pc + 3) lv (.int (u.1 4 0) :: st)) : VV p l e R s m args below meth c cells slots Q nL Γ.1 clA A H0 (wC Γ u) pc lv (.ref (Γ.2.1 0) :: st) :=
  vv_get (N := 11) C inC4 0 (wC_at (by decide)) rfl 9 (by decide) (in_wA (by decide +kernel) rfl) rfl rfl hdg kk
theorem p_L_L_targetsTaken (C : cx p s m args c cc R4 wA nL Γ.1 clA (tyA Γ)) {v : Int32} (hdg : decode cc pc = .ok (.putfield 50, 3)) (kk : VV p l e R s m args below meth c cells slots Q nL Γ.1 clA A H0 (wC Γ (wr u 4 0 v)) (pc + 3) lv st) : VV p l e R s m args below meth c cells slots Q nL Γ.1 clA A H0 (wC Γ u) pc lv (.int v :: .ref (Γ.2.1 0) :: st) :=
  vv_put (N := 11) C inC4 ty4 ty4_ok nm4 0 (wC_at (by decide)) rfl 9 (by decide) (in_wA (by decide +kernel) rfl) rfl rfl (ty4_ok 9 (by decide)) rfl rfl (Nat.le_of_ble_eq_true rfl) (wC_set (by decide) rfl oC_4) hdg kk
theorem g_L_L_value (C : cx p s m args c cc R4 wA nL Γ.1 clA (tyA Γ)) (hdg : decode cc pc = .ok (.getfield 53, 3)) (kk : VV p l e R s m args below meth c cells slots Q nL Γ.1 clA A H0 (wC Γ u) (pc + 3) lv (.int (u.1 5 0) :: st)) : VV p l e R s m args below meth c cells slots Q nL Γ.1 clA A H0 (wC Γ u) pc lv (.ref (Γ.2.1 0) :: st) :=
  vv_get (N := 11) C inC4 0 (wC_at (by decide)) rfl 10 (by decide) (in_wA (by decide +kernel) rfl) rfl rfl hdg kk
theorem p_L_L_value (C : cx p s m args c cc R4 wA nL Γ.1 clA (tyA Γ)) {v : Int32} (hdg : decode cc pc = .ok (.putfield 53, 3)) (kk : VV p l e R s m args below meth c cells slots Q nL Γ.1 clA A H0 (wC Γ (wr u 5 0 v)) (pc + 3) lv st) : VV p l e R s m args below meth c cells slots Q nL Γ.1 clA A H0 (wC Γ u) pc lv (.int v :: .ref (Γ.2.1 0) :: st) :=
  vv_put (N := 11) C inC4 ty4 ty4_ok nm4 0 (wC_at (by decide)) rfl 10 (by decide) (in_wA (by decide +kernel) rfl) rfl rfl (ty4_ok 10 (by decide)) rfl rfl (Nat.le_of_ble_eq_true rfl) (wC_set (by decide) rfl oC_5) hdg kk
theorem g_L_K_factor (C : cx p s m args c cc R4 wA nL Γ.1 clA (tyA Γ)) {k : Nat} (hk : k < 12) (hdg : decode cc pc = .ok (.getfield 101, 3)) (kk : VV p l e R s m args below meth c cells slots Q nL Γ.1 clA A H0 (wC Γ u) (pc + 3) lv (.int (u.1 22 k) :: st)) : VV p l e R s m args below meth c cells slots Q nL Γ.1 clA A H0 (wC Γ u) pc lv (.ref (Γ.2.1 (k + 15)) :: st) :=
  vv_get (N := 5) C inC3 (k + 15) ((wC_at (by omega)).trans (by rw [eC_wrk])) rfl 0 (by decide) (in_wA (by decide +kernel) rfl) rfl rfl hdg kk
theorem p_L_K_factor (C : cx p s m args c cc R4 wA nL Γ.1 clA (tyA Γ)) {k : Nat} {v : Int32} (hk : k < 12) (hdg : decode cc pc = .ok (.putfield 101, 3)) (kk : VV p l e R s m args below meth c cells slots Q nL Γ.1 clA A H0 (wC Γ (wr u 22 k v)) (pc + 3) lv st) : VV p l e R s m args below meth c cells slots Q nL Γ.1 clA A H0 (wC Γ u) pc lv (.int v :: .ref (Γ.2.1 (k + 15)) :: st) :=
  vv_put (N := 5) C inC3 ty3 ty3_ok nm3 (k + 15) ((wC_at (by omega)).trans (by rw [eC_wrk])) rfl 0 (by decide) (in_wA (by decide +kernel) rfl) rfl rfl (ty3_ok 0 (by decide)) rfl rfl (Nat.le_of_ble_eq_true rfl) (wC_set (by omega) (by rw [eC_wrk, sC_22]) oC_22) hdg kk
theorem g_L_K_addend (C : cx p s m args c cc R4 wA nL Γ.1 clA (tyA Γ)) {k : Nat} (hk : k < 12) (hdg : decode cc pc = .ok (.getfield 104, 3)) (kk : VV p l e R s m args below meth c cells slots Q nL Γ.1 clA A H0 (wC Γ u) (pc + 3) lv (.int (u.1 23 k) :: st)) : VV p l e R s m args below meth c cells slots Q nL Γ.1 clA A H0 (wC Γ u) pc lv (.ref (Γ.2.1 (k + 15)) :: st) :=
  vv_get (N := 5) C inC3 (k + 15) ((wC_at (by omega)).trans (by rw [eC_wrk])) rfl 1 (by decide) (in_wA (by decide +kernel) rfl) rfl rfl hdg kk
theorem p_L_K_addend (C : cx p s m args c cc R4 wA nL Γ.1 clA (tyA Γ)) {k : Nat} {v : Int32} (hk : k < 12) (hdg : decode cc pc = .ok (.putfield 104, 3)) (kk : VV p l e R s m args below meth c cells slots Q nL Γ.1 clA A H0 (wC Γ (wr u 23 k v)) (pc + 3) lv st) : VV p l e R s m args below meth c cells slots Q nL Γ.1 clA A H0 (wC Γ u) pc lv (.int v :: .ref (Γ.2.1 (k + 15)) :: st) :=
  vv_put (N := 5) C inC3 ty3 ty3_ok nm3 (k + 15) ((wC_at (by omega)).trans (by rw [eC_wrk])) rfl 1 (by decide) (in_wA (by decide +kernel) rfl) rfl rfl (ty3_ok 1 (by decide)) rfl rfl (Nat.le_of_ble_eq_true rfl) (wC_set (by omega) (by rw [eC_wrk, sC_23]) oC_23) hdg kk
theorem g_L_K_failsAt (C : cx p s m args c cc R4 wA nL Γ.1 clA (tyA Γ)) {k : Nat} (hk : k < 12) (hdg : decode cc pc = .ok (.getfield 110, 3)) (kk : VV p l e R s m args below meth c cells slots Q nL Γ.1 clA A H0 (wC Γ u) (pc + 3) lv (.int (u.1 24 k) :: st)) : VV p l e R s m args below meth c cells slots Q nL Γ.1 clA A H0 (wC Γ u) pc lv (.ref (Γ.2.1 (k + 15)) :: st) :=
  vv_get (N := 5) C inC3 (k + 15) ((wC_at (by omega)).trans (by rw [eC_wrk])) rfl 2 (by decide) (in_wA (by decide +kernel) rfl) rfl rfl hdg kk
theorem p_L_K_failsAt (C : cx p s m args c cc R4 wA nL Γ.1 clA (tyA Γ)) {k : Nat} {v : Int32} (hk : k < 12) (hdg : decode cc pc = .ok (.putfield 110, 3)) (kk : VV p l e R s m args below meth c cells slots Q nL Γ.1 clA A H0 (wC Γ (wr u 24 k v)) (pc + 3) lv st) : VV p l e R s m args below meth c cells slots Q nL Γ.1 clA A H0 (wC Γ u) pc lv (.int v :: .ref (Γ.2.1 (k + 15)) :: st) :=
  vv_put (N := 5) C inC3 ty3 ty3_ok nm3 (k + 15) ((wC_at (by omega)).trans (by rw [eC_wrk])) rfl 2 (by decide) (in_wA (by decide +kernel) rfl) rfl rfl (ty3_ok 2 (by decide)) rfl rfl (Nat.le_of_ble_eq_true rfl) (wC_set (by omega) (by rw [eC_wrk, sC_24]) oC_24) hdg kk
theorem g_L_K_exception (C : cx p s m args c cc R4 wA nL Γ.1 clA (tyA Γ)) {k : Nat} (hk : k < 12) (hdg : decode cc pc = .ok (.getfield 113, 3)) (kk : VV p l e R s m args below meth c cells slots Q nL Γ.1 clA A H0 (wC Γ u) (pc + 3) lv (.int (u.1 25 k) :: st)) : VV p l e R s m args below meth c cells slots Q nL Γ.1 clA A H0 (wC Γ u) pc lv (.ref (Γ.2.1 (k + 15)) :: st) :=
  vv_get (N := 5) C inC3 (k + 15) ((wC_at (by omega)).trans (by rw [eC_wrk])) rfl 3 (by decide) (in_wA (by decide +kernel) rfl) rfl rfl hdg kk
theorem p_L_K_exception (C : cx p s m args c cc R4 wA nL Γ.1 clA (tyA Γ)) {k : Nat} {v : Int32} (hk : k < 12) (hdg : decode cc pc = .ok (.putfield 113, 3)) (kk : VV p l e R s m args below meth c cells slots Q nL Γ.1 clA A H0 (wC Γ (wr u 25 k v)) (pc + 3) lv st) : VV p l e R s m args below meth c cells slots Q nL Γ.1 clA A H0 (wC Γ u) pc lv (.int v :: .ref (Γ.2.1 (k + 15)) :: st) :=
  vv_put (N := 5) C inC3 ty3 ty3_ok nm3 (k + 15) ((wC_at (by omega)).trans (by rw [eC_wrk])) rfl 3 (by decide) (in_wA (by decide +kernel) rfl) rfl rfl (ty3_ok 3 (by decide)) rfl rfl (Nat.le_of_ble_eq_true rfl) (wC_set (by omega) (by rw [eC_wrk, sC_25]) oC_25) hdg kk
theorem g_L_K_next (C : cx p s m args c cc R4 wA nL Γ.1 clA (tyA Γ)) {k : Nat} (hk : k < 12) (hdg : decode cc pc = .ok (.getfield 116, 3)) (kk : VV p l e R s m args below meth c cells slots Q nL Γ.1 clA A H0 (wC Γ u) (pc + 3) lv (.int (u.1 26 k) :: st)) : VV p l e R s m args below meth c cells slots Q nL Γ.1 clA A H0 (wC Γ u) pc lv (.ref (Γ.2.1 (k + 15)) :: st) :=
  vv_get (N := 5) C inC3 (k + 15) ((wC_at (by omega)).trans (by rw [eC_wrk])) rfl 4 (by decide) (in_wA (by decide +kernel) rfl) rfl rfl hdg kk
theorem p_L_K_next (C : cx p s m args c cc R4 wA nL Γ.1 clA (tyA Γ)) {k : Nat} {v : Int32} (hk : k < 12) (hdg : decode cc pc = .ok (.putfield 116, 3)) (kk : VV p l e R s m args below meth c cells slots Q nL Γ.1 clA A H0 (wC Γ (wr u 26 k v)) (pc + 3) lv st) : VV p l e R s m args below meth c cells slots Q nL Γ.1 clA A H0 (wC Γ u) pc lv (.int v :: .ref (Γ.2.1 (k + 15)) :: st) :=
  vv_put (N := 5) C inC3 ty3 ty3_ok nm3 (k + 15) ((wC_at (by omega)).trans (by rw [eC_wrk])) rfl 4 (by decide) (in_wA (by decide +kernel) rfl) rfl rfl (ty3_ok 4 (by decide)) rfl rfl (Nat.le_of_ble_eq_true rfl) (wC_set (by omega) (by rw [eC_wrk, sC_26]) oC_26) hdg kk
theorem g_L_T_length (C : cx p s m args c cc R4 wA nL Γ.1 clA (tyA Γ)) (hdg : decode cc pc = .ok (.getfield 126, 3)) (kk : VV p l e R s m args below meth c cells slots Q nL Γ.1 clA A H0 (wC Γ u) (pc + 3) lv (.int (u.1 8 0) :: st)) : VV p l e R s m args below meth c cells slots Q nL Γ.1 clA A H0 (wC Γ u) pc lv (.ref (Γ.2.1 4) :: st) :=
  vv_get (N := 3) C inC2 4 (wC_at (by decide)) rfl 2 (by decide) (in_wA (by decide +kernel) rfl) rfl rfl hdg kk
theorem p_L_T_length (C : cx p s m args c cc R4 wA nL Γ.1 clA (tyA Γ)) {v : Int32} (hdg : decode cc pc = .ok (.putfield 126, 3)) (kk : VV p l e R s m args below meth c cells slots Q nL Γ.1 clA A H0 (wC Γ (wr u 8 0 v)) (pc + 3) lv st) : VV p l e R s m args below meth c cells slots Q nL Γ.1 clA A H0 (wC Γ u) pc lv (.int v :: .ref (Γ.2.1 4) :: st) :=
  vv_put (N := 3) C inC2 ty2 ty2_ok nm2 4 (wC_at (by decide)) rfl 2 (by decide) (in_wA (by decide +kernel) rfl) rfl rfl (ty2_ok 2 (by decide)) rfl rfl (Nat.le_of_ble_eq_true rfl) (wC_set (by decide) rfl oC_8) hdg kk
theorem g_L_T_noters (C : cx p s m args c cc R4 wA nL Γ.1 clA (tyA Γ)) (hdg : decode cc pc = .ok (.getfield 132, 3)) (kk : VV p l e R s m args below meth c cells slots Q nL Γ.1 clA A H0 (wC Γ u) (pc + 3) lv (.ref (Γ.2.1 5) :: st)) : VV p l e R s m args below meth c cells slots Q nL Γ.1 clA A H0 (wC Γ u) pc lv (.ref (Γ.2.1 4) :: st) :=
  vv_get (N := 3) C inC2 4 (wC_at (by decide)) rfl 0 (by decide) (in_wA (by decide +kernel) rfl) rfl rfl hdg kk
theorem g_L_T_words (C : cx p s m args c cc R4 wA nL Γ.1 clA (tyA Γ)) (hdg : decode cc pc = .ok (.getfield 135, 3)) (kk : VV p l e R s m args below meth c cells slots Q nL Γ.1 clA A H0 (wC Γ u) (pc + 3) lv (.ref (Γ.2.1 6) :: st)) : VV p l e R s m args below meth c cells slots Q nL Γ.1 clA A H0 (wC Γ u) pc lv (.ref (Γ.2.1 4) :: st) :=
  vv_get (N := 3) C inC2 4 (wC_at (by decide)) rfl 1 (by decide) (in_wA (by decide +kernel) rfl) rfl rfl hdg kk
theorem g_L_A_hasRange (C : cx p s m args c cc R4 wA nL Γ.1 clA (tyA Γ)) {k : Nat} (hk : k < 6) (hdg : decode cc pc = .ok (.getfield 161, 3)) (kk : VV p l e R s m args below meth c cells slots Q nL Γ.1 clA A H0 (wC Γ u) (pc + 3) lv (.int (u.1 19 k) :: st)) : VV p l e R s m args below meth c cells slots Q nL Γ.1 clA A H0 (wC Γ u) pc lv (.ref (Γ.2.1 (k + 9)) :: st) :=
  vv_get (N := 9) C inC0 (k + 9) ((wC_at (by omega)).trans (by rw [eC_adv hk])) rfl 6 (by decide) (in_wA (by decide +kernel) rfl) rfl rfl hdg kk
theorem p_L_A_hasRange (C : cx p s m args c cc R4 wA nL Γ.1 clA (tyA Γ)) {k : Nat} {v : Int32} (hk : k < 6) (hn : narrow .boolean (.int v) = .int v) (hf : fits .boolean (.int v) = true) (hdg : decode cc pc = .ok (.putfield 161, 3)) (kk : VV p l e R s m args below meth c cells slots Q nL Γ.1 clA A H0 (wC Γ (wr u 19 k v)) (pc + 3) lv st) : VV p l e R s m args below meth c cells slots Q nL Γ.1 clA A H0 (wC Γ u) pc lv (.int v :: .ref (Γ.2.1 (k + 9)) :: st) :=
  vv_put (N := 9) C inC0 ty0 ty0_ok nm0 (k + 9) ((wC_at (by omega)).trans (by rw [eC_adv hk])) rfl 6 (by decide) (in_wA (by decide +kernel) rfl) rfl rfl (ty0_ok 6 (by decide)) hn hf (Nat.le_of_ble_eq_true rfl) (wC_set (by omega) (by rw [eC_adv hk, sC_19]) oC_19) hdg kk
theorem g_L_A_kind (C : cx p s m args c cc R4 wA nL Γ.1 clA (tyA Γ)) {k : Nat} (hk : k < 6) (hdg : decode cc pc = .ok (.getfield 187, 3)) (kk : VV p l e R s m args below meth c cells slots Q nL Γ.1 clA A H0 (wC Γ u) (pc + 3) lv (.int (u.1 14 k) :: st)) : VV p l e R s m args below meth c cells slots Q nL Γ.1 clA A H0 (wC Γ u) pc lv (.ref (Γ.2.1 (k + 9)) :: st) :=
  vv_get (N := 9) C inC0 (k + 9) ((wC_at (by omega)).trans (by rw [eC_adv hk])) rfl 1 (by decide) (in_wA (by decide +kernel) rfl) rfl rfl hdg kk
theorem p_L_A_kind (C : cx p s m args c cc R4 wA nL Γ.1 clA (tyA Γ)) {k : Nat} {v : Int32} (hk : k < 6) (hdg : decode cc pc = .ok (.putfield 187, 3)) (kk : VV p l e R s m args below meth c cells slots Q nL Γ.1 clA A H0 (wC Γ (wr u 14 k v)) (pc + 3) lv st) : VV p l e R s m args below meth c cells slots Q nL Γ.1 clA A H0 (wC Γ u) pc lv (.int v :: .ref (Γ.2.1 (k + 9)) :: st) :=
  vv_put (N := 9) C inC0 ty0 ty0_ok nm0 (k + 9) ((wC_at (by omega)).trans (by rw [eC_adv hk])) rfl 1 (by decide) (in_wA (by decide +kernel) rfl) rfl rfl (ty0_ok 1 (by decide)) rfl rfl (Nat.le_of_ble_eq_true rfl) (wC_set (by omega) (by rw [eC_adv hk, sC_14]) oC_14) hdg kk
theorem g_L_A_number (C : cx p s m args c cc R4 wA nL Γ.1 clA (tyA Γ)) {k : Nat} (hk : k < 6) (hdg : decode cc pc = .ok (.getfield 214, 3)) (kk : VV p l e R s m args below meth c cells slots Q nL Γ.1 clA A H0 (wC Γ u) (pc + 3) lv (.int (u.1 13 k) :: st)) : VV p l e R s m args below meth c cells slots Q nL Γ.1 clA A H0 (wC Γ u) pc lv (.ref (Γ.2.1 (k + 9)) :: st) :=
  vv_get (N := 9) C inC0 (k + 9) ((wC_at (by omega)).trans (by rw [eC_adv hk])) rfl 0 (by decide) (in_wA (by decide +kernel) rfl) rfl rfl hdg kk
theorem p_L_A_number (C : cx p s m args c cc R4 wA nL Γ.1 clA (tyA Γ)) {k : Nat} {v : Int32} (hk : k < 6) (hdg : decode cc pc = .ok (.putfield 214, 3)) (kk : VV p l e R s m args below meth c cells slots Q nL Γ.1 clA A H0 (wC Γ (wr u 13 k v)) (pc + 3) lv st) : VV p l e R s m args below meth c cells slots Q nL Γ.1 clA A H0 (wC Γ u) pc lv (.int v :: .ref (Γ.2.1 (k + 9)) :: st) :=
  vv_put (N := 9) C inC0 ty0 ty0_ok nm0 (k + 9) ((wC_at (by omega)).trans (by rw [eC_adv hk])) rfl 0 (by decide) (in_wA (by decide +kernel) rfl) rfl rfl (ty0_ok 0 (by decide)) rfl rfl (Nat.le_of_ble_eq_true rfl) (wC_set (by omega) (by rw [eC_adv hk, sC_13]) oC_13) hdg kk
theorem g_L_A_a (C : cx p s m args c cc R4 wA nL Γ.1 clA (tyA Γ)) {k : Nat} (hk : k < 6) (hdg : decode cc pc = .ok (.getfield 217, 3)) (kk : VV p l e R s m args below meth c cells slots Q nL Γ.1 clA A H0 (wC Γ u) (pc + 3) lv (.int (u.1 17 k) :: st)) : VV p l e R s m args below meth c cells slots Q nL Γ.1 clA A H0 (wC Γ u) pc lv (.ref (Γ.2.1 (k + 9)) :: st) :=
  vv_get (N := 9) C inC0 (k + 9) ((wC_at (by omega)).trans (by rw [eC_adv hk])) rfl 4 (by decide) (in_wA (by decide +kernel) rfl) rfl rfl hdg kk
theorem p_L_A_a (C : cx p s m args c cc R4 wA nL Γ.1 clA (tyA Γ)) {k : Nat} {v : Int32} (hk : k < 6) (hdg : decode cc pc = .ok (.putfield 217, 3)) (kk : VV p l e R s m args below meth c cells slots Q nL Γ.1 clA A H0 (wC Γ (wr u 17 k v)) (pc + 3) lv st) : VV p l e R s m args below meth c cells slots Q nL Γ.1 clA A H0 (wC Γ u) pc lv (.int v :: .ref (Γ.2.1 (k + 9)) :: st) :=
  vv_put (N := 9) C inC0 ty0 ty0_ok nm0 (k + 9) ((wC_at (by omega)).trans (by rw [eC_adv hk])) rfl 4 (by decide) (in_wA (by decide +kernel) rfl) rfl rfl (ty0_ok 4 (by decide)) rfl rfl (Nat.le_of_ble_eq_true rfl) (wC_set (by omega) (by rw [eC_adv hk, sC_17]) oC_17) hdg kk
theorem g_L_A_b (C : cx p s m args c cc R4 wA nL Γ.1 clA (tyA Γ)) {k : Nat} (hk : k < 6) (hdg : decode cc pc = .ok (.getfield 220, 3)) (kk : VV p l e R s m args below meth c cells slots Q nL Γ.1 clA A H0 (wC Γ u) (pc + 3) lv (.int (u.1 18 k) :: st)) : VV p l e R s m args below meth c cells slots Q nL Γ.1 clA A H0 (wC Γ u) pc lv (.ref (Γ.2.1 (k + 9)) :: st) :=
  vv_get (N := 9) C inC0 (k + 9) ((wC_at (by omega)).trans (by rw [eC_adv hk])) rfl 5 (by decide) (in_wA (by decide +kernel) rfl) rfl rfl hdg kk
theorem p_L_A_b (C : cx p s m args c cc R4 wA nL Γ.1 clA (tyA Γ)) {k : Nat} {v : Int32} (hk : k < 6) (hdg : decode cc pc = .ok (.putfield 220, 3)) (kk : VV p l e R s m args below meth c cells slots Q nL Γ.1 clA A H0 (wC Γ (wr u 18 k v)) (pc + 3) lv st) : VV p l e R s m args below meth c cells slots Q nL Γ.1 clA A H0 (wC Γ u) pc lv (.int v :: .ref (Γ.2.1 (k + 9)) :: st) :=
  vv_put (N := 9) C inC0 ty0 ty0_ok nm0 (k + 9) ((wC_at (by omega)).trans (by rw [eC_adv hk])) rfl 5 (by decide) (in_wA (by decide +kernel) rfl) rfl rfl (ty0_ok 5 (by decide)) rfl rfl (Nat.le_of_ble_eq_true rfl) (wC_set (by omega) (by rw [eC_adv hk, sC_18]) oC_18) hdg kk
theorem g_A_A_number (C : cx p s m args c cc R0 wA nL Γ.1 clA (tyA Γ)) {k : Nat} (hk : k < 6) (hdg : decode cc pc = .ok (.getfield 9, 3)) (kk : VV p l e R s m args below meth c cells slots Q nL Γ.1 clA A H0 (wC Γ u) (pc + 3) lv (.int (u.1 13 k) :: st)) : VV p l e R s m args below meth c cells slots Q nL Γ.1 clA A H0 (wC Γ u) pc lv (.ref (Γ.2.1 (k + 9)) :: st) :=
  vv_get (N := 9) C inC0 (k + 9) ((wC_at (by omega)).trans (by rw [eC_adv hk])) rfl 0 (by decide) (in_wA (by decide +kernel) rfl) rfl rfl hdg kk
theorem p_A_A_number (C : cx p s m args c cc R0 wA nL Γ.1 clA (tyA Γ)) {k : Nat} {v : Int32} (hk : k < 6) (hdg : decode cc pc = .ok (.putfield 9, 3)) (kk : VV p l e R s m args below meth c cells slots Q nL Γ.1 clA A H0 (wC Γ (wr u 13 k v)) (pc + 3) lv st) : VV p l e R s m args below meth c cells slots Q nL Γ.1 clA A H0 (wC Γ u) pc lv (.int v :: .ref (Γ.2.1 (k + 9)) :: st) :=
  vv_put (N := 9) C inC0 ty0 ty0_ok nm0 (k + 9) ((wC_at (by omega)).trans (by rw [eC_adv hk])) rfl 0 (by decide) (in_wA (by decide +kernel) rfl) rfl rfl (ty0_ok 0 (by decide)) rfl rfl (Nat.le_of_ble_eq_true rfl) (wC_set (by omega) (by rw [eC_adv hk, sC_13]) oC_13) hdg kk
theorem g_A_A_kind (C : cx p s m args c cc R0 wA nL Γ.1 clA (tyA Γ)) {k : Nat} (hk : k < 6) (hdg : decode cc pc = .ok (.getfield 15, 3)) (kk : VV p l e R s m args below meth c cells slots Q nL Γ.1 clA A H0 (wC Γ u) (pc + 3) lv (.int (u.1 14 k) :: st)) : VV p l e R s m args below meth c cells slots Q nL Γ.1 clA A H0 (wC Γ u) pc lv (.ref (Γ.2.1 (k + 9)) :: st) :=
  vv_get (N := 9) C inC0 (k + 9) ((wC_at (by omega)).trans (by rw [eC_adv hk])) rfl 1 (by decide) (in_wA (by decide +kernel) rfl) rfl rfl hdg kk
theorem p_A_A_kind (C : cx p s m args c cc R0 wA nL Γ.1 clA (tyA Γ)) {k : Nat} {v : Int32} (hk : k < 6) (hdg : decode cc pc = .ok (.putfield 15, 3)) (kk : VV p l e R s m args below meth c cells slots Q nL Γ.1 clA A H0 (wC Γ (wr u 14 k v)) (pc + 3) lv st) : VV p l e R s m args below meth c cells slots Q nL Γ.1 clA A H0 (wC Γ u) pc lv (.int v :: .ref (Γ.2.1 (k + 9)) :: st) :=
  vv_put (N := 9) C inC0 ty0 ty0_ok nm0 (k + 9) ((wC_at (by omega)).trans (by rw [eC_adv hk])) rfl 1 (by decide) (in_wA (by decide +kernel) rfl) rfl rfl (ty0_ok 1 (by decide)) rfl rfl (Nat.le_of_ble_eq_true rfl) (wC_set (by omega) (by rw [eC_adv hk, sC_14]) oC_14) hdg kk
theorem g_A_A_order (C : cx p s m args c cc R0 wA nL Γ.1 clA (tyA Γ)) {k : Nat} (hk : k < 6) (hdg : decode cc pc = .ok (.getfield 18, 3)) (kk : VV p l e R s m args below meth c cells slots Q nL Γ.1 clA A H0 (wC Γ u) (pc + 3) lv (.int (u.1 15 k) :: st)) : VV p l e R s m args below meth c cells slots Q nL Γ.1 clA A H0 (wC Γ u) pc lv (.ref (Γ.2.1 (k + 9)) :: st) :=
  vv_get (N := 9) C inC0 (k + 9) ((wC_at (by omega)).trans (by rw [eC_adv hk])) rfl 2 (by decide) (in_wA (by decide +kernel) rfl) rfl rfl hdg kk
theorem p_A_A_order (C : cx p s m args c cc R0 wA nL Γ.1 clA (tyA Γ)) {k : Nat} {v : Int32} (hk : k < 6) (hdg : decode cc pc = .ok (.putfield 18, 3)) (kk : VV p l e R s m args below meth c cells slots Q nL Γ.1 clA A H0 (wC Γ (wr u 15 k v)) (pc + 3) lv st) : VV p l e R s m args below meth c cells slots Q nL Γ.1 clA A H0 (wC Γ u) pc lv (.int v :: .ref (Γ.2.1 (k + 9)) :: st) :=
  vv_put (N := 9) C inC0 ty0 ty0_ok nm0 (k + 9) ((wC_at (by omega)).trans (by rw [eC_adv hk])) rfl 2 (by decide) (in_wA (by decide +kernel) rfl) rfl rfl (ty0_ok 2 (by decide)) rfl rfl (Nat.le_of_ble_eq_true rfl) (wC_set (by omega) (by rw [eC_adv hk, sC_15]) oC_15) hdg kk
theorem g_A_A_methods (C : cx p s m args c cc R0 wA nL Γ.1 clA (tyA Γ)) {k : Nat} (hk : k < 6) (hdg : decode cc pc = .ok (.getfield 21, 3)) (kk : VV p l e R s m args below meth c cells slots Q nL Γ.1 clA A H0 (wC Γ u) (pc + 3) lv (.int (u.1 16 k) :: st)) : VV p l e R s m args below meth c cells slots Q nL Γ.1 clA A H0 (wC Γ u) pc lv (.ref (Γ.2.1 (k + 9)) :: st) :=
  vv_get (N := 9) C inC0 (k + 9) ((wC_at (by omega)).trans (by rw [eC_adv hk])) rfl 3 (by decide) (in_wA (by decide +kernel) rfl) rfl rfl hdg kk
theorem p_A_A_methods (C : cx p s m args c cc R0 wA nL Γ.1 clA (tyA Γ)) {k : Nat} {v : Int32} (hk : k < 6) (hdg : decode cc pc = .ok (.putfield 21, 3)) (kk : VV p l e R s m args below meth c cells slots Q nL Γ.1 clA A H0 (wC Γ (wr u 16 k v)) (pc + 3) lv st) : VV p l e R s m args below meth c cells slots Q nL Γ.1 clA A H0 (wC Γ u) pc lv (.int v :: .ref (Γ.2.1 (k + 9)) :: st) :=
  vv_put (N := 9) C inC0 ty0 ty0_ok nm0 (k + 9) ((wC_at (by omega)).trans (by rw [eC_adv hk])) rfl 3 (by decide) (in_wA (by decide +kernel) rfl) rfl rfl (ty0_ok 3 (by decide)) rfl rfl (Nat.le_of_ble_eq_true rfl) (wC_set (by omega) (by rw [eC_adv hk, sC_16]) oC_16) hdg kk
theorem g_A_A_a (C : cx p s m args c cc R0 wA nL Γ.1 clA (tyA Γ)) {k : Nat} (hk : k < 6) (hdg : decode cc pc = .ok (.getfield 24, 3)) (kk : VV p l e R s m args below meth c cells slots Q nL Γ.1 clA A H0 (wC Γ u) (pc + 3) lv (.int (u.1 17 k) :: st)) : VV p l e R s m args below meth c cells slots Q nL Γ.1 clA A H0 (wC Γ u) pc lv (.ref (Γ.2.1 (k + 9)) :: st) :=
  vv_get (N := 9) C inC0 (k + 9) ((wC_at (by omega)).trans (by rw [eC_adv hk])) rfl 4 (by decide) (in_wA (by decide +kernel) rfl) rfl rfl hdg kk
theorem p_A_A_a (C : cx p s m args c cc R0 wA nL Γ.1 clA (tyA Γ)) {k : Nat} {v : Int32} (hk : k < 6) (hdg : decode cc pc = .ok (.putfield 24, 3)) (kk : VV p l e R s m args below meth c cells slots Q nL Γ.1 clA A H0 (wC Γ (wr u 17 k v)) (pc + 3) lv st) : VV p l e R s m args below meth c cells slots Q nL Γ.1 clA A H0 (wC Γ u) pc lv (.int v :: .ref (Γ.2.1 (k + 9)) :: st) :=
  vv_put (N := 9) C inC0 ty0 ty0_ok nm0 (k + 9) ((wC_at (by omega)).trans (by rw [eC_adv hk])) rfl 4 (by decide) (in_wA (by decide +kernel) rfl) rfl rfl (ty0_ok 4 (by decide)) rfl rfl (Nat.le_of_ble_eq_true rfl) (wC_set (by omega) (by rw [eC_adv hk, sC_17]) oC_17) hdg kk
theorem g_A_A_b (C : cx p s m args c cc R0 wA nL Γ.1 clA (tyA Γ)) {k : Nat} (hk : k < 6) (hdg : decode cc pc = .ok (.getfield 27, 3)) (kk : VV p l e R s m args below meth c cells slots Q nL Γ.1 clA A H0 (wC Γ u) (pc + 3) lv (.int (u.1 18 k) :: st)) : VV p l e R s m args below meth c cells slots Q nL Γ.1 clA A H0 (wC Γ u) pc lv (.ref (Γ.2.1 (k + 9)) :: st) :=
  vv_get (N := 9) C inC0 (k + 9) ((wC_at (by omega)).trans (by rw [eC_adv hk])) rfl 5 (by decide) (in_wA (by decide +kernel) rfl) rfl rfl hdg kk
theorem p_A_A_b (C : cx p s m args c cc R0 wA nL Γ.1 clA (tyA Γ)) {k : Nat} {v : Int32} (hk : k < 6) (hdg : decode cc pc = .ok (.putfield 27, 3)) (kk : VV p l e R s m args below meth c cells slots Q nL Γ.1 clA A H0 (wC Γ (wr u 18 k v)) (pc + 3) lv st) : VV p l e R s m args below meth c cells slots Q nL Γ.1 clA A H0 (wC Γ u) pc lv (.int v :: .ref (Γ.2.1 (k + 9)) :: st) :=
  vv_put (N := 9) C inC0 ty0 ty0_ok nm0 (k + 9) ((wC_at (by omega)).trans (by rw [eC_adv hk])) rfl 5 (by decide) (in_wA (by decide +kernel) rfl) rfl rfl (ty0_ok 5 (by decide)) rfl rfl (Nat.le_of_ble_eq_true rfl) (wC_set (by omega) (by rw [eC_adv hk, sC_18]) oC_18) hdg kk
theorem g_A_A_hasRange (C : cx p s m args c cc R0 wA nL Γ.1 clA (tyA Γ)) {k : Nat} (hk : k < 6) (hdg : decode cc pc = .ok (.getfield 30, 3)) (kk : VV p l e R s m args below meth c cells slots Q nL Γ.1 clA A H0 (wC Γ u) (pc + 3) lv (.int (u.1 19 k) :: st)) : VV p l e R s m args below meth c cells slots Q nL Γ.1 clA A H0 (wC Γ u) pc lv (.ref (Γ.2.1 (k + 9)) :: st) :=
  vv_get (N := 9) C inC0 (k + 9) ((wC_at (by omega)).trans (by rw [eC_adv hk])) rfl 6 (by decide) (in_wA (by decide +kernel) rfl) rfl rfl hdg kk
theorem p_A_A_hasRange (C : cx p s m args c cc R0 wA nL Γ.1 clA (tyA Γ)) {k : Nat} {v : Int32} (hk : k < 6) (hn : narrow .boolean (.int v) = .int v) (hf : fits .boolean (.int v) = true) (hdg : decode cc pc = .ok (.putfield 30, 3)) (kk : VV p l e R s m args below meth c cells slots Q nL Γ.1 clA A H0 (wC Γ (wr u 19 k v)) (pc + 3) lv st) : VV p l e R s m args below meth c cells slots Q nL Γ.1 clA A H0 (wC Γ u) pc lv (.int v :: .ref (Γ.2.1 (k + 9)) :: st) :=
  vv_put (N := 9) C inC0 ty0 ty0_ok nm0 (k + 9) ((wC_at (by omega)).trans (by rw [eC_adv hk])) rfl 6 (by decide) (in_wA (by decide +kernel) rfl) rfl rfl (ty0_ok 6 (by decide)) hn hf (Nat.le_of_ble_eq_true rfl) (wC_set (by omega) (by rw [eC_adv hk, sC_19]) oC_19) hdg kk
theorem g_A_A_low (C : cx p s m args c cc R0 wA nL Γ.1 clA (tyA Γ)) {k : Nat} (hk : k < 6) (hdg : decode cc pc = .ok (.getfield 34, 3)) (kk : VV p l e R s m args below meth c cells slots Q nL Γ.1 clA A H0 (wC Γ u) (pc + 3) lv (.int (u.1 20 k) :: st)) : VV p l e R s m args below meth c cells slots Q nL Γ.1 clA A H0 (wC Γ u) pc lv (.ref (Γ.2.1 (k + 9)) :: st) :=
  vv_get (N := 9) C inC0 (k + 9) ((wC_at (by omega)).trans (by rw [eC_adv hk])) rfl 7 (by decide) (in_wA (by decide +kernel) rfl) rfl rfl hdg kk
theorem p_A_A_low (C : cx p s m args c cc R0 wA nL Γ.1 clA (tyA Γ)) {k : Nat} {v : Int32} (hk : k < 6) (hdg : decode cc pc = .ok (.putfield 34, 3)) (kk : VV p l e R s m args below meth c cells slots Q nL Γ.1 clA A H0 (wC Γ (wr u 20 k v)) (pc + 3) lv st) : VV p l e R s m args below meth c cells slots Q nL Γ.1 clA A H0 (wC Γ u) pc lv (.int v :: .ref (Γ.2.1 (k + 9)) :: st) :=
  vv_put (N := 9) C inC0 ty0 ty0_ok nm0 (k + 9) ((wC_at (by omega)).trans (by rw [eC_adv hk])) rfl 7 (by decide) (in_wA (by decide +kernel) rfl) rfl rfl (ty0_ok 7 (by decide)) rfl rfl (Nat.le_of_ble_eq_true rfl) (wC_set (by omega) (by rw [eC_adv hk, sC_20]) oC_20) hdg kk
theorem g_A_A_high (C : cx p s m args c cc R0 wA nL Γ.1 clA (tyA Γ)) {k : Nat} (hk : k < 6) (hdg : decode cc pc = .ok (.getfield 37, 3)) (kk : VV p l e R s m args below meth c cells slots Q nL Γ.1 clA A H0 (wC Γ u) (pc + 3) lv (.int (u.1 21 k) :: st)) : VV p l e R s m args below meth c cells slots Q nL Γ.1 clA A H0 (wC Γ u) pc lv (.ref (Γ.2.1 (k + 9)) :: st) :=
  vv_get (N := 9) C inC0 (k + 9) ((wC_at (by omega)).trans (by rw [eC_adv hk])) rfl 8 (by decide) (in_wA (by decide +kernel) rfl) rfl rfl hdg kk
theorem p_A_A_high (C : cx p s m args c cc R0 wA nL Γ.1 clA (tyA Γ)) {k : Nat} {v : Int32} (hk : k < 6) (hdg : decode cc pc = .ok (.putfield 37, 3)) (kk : VV p l e R s m args below meth c cells slots Q nL Γ.1 clA A H0 (wC Γ (wr u 21 k v)) (pc + 3) lv st) : VV p l e R s m args below meth c cells slots Q nL Γ.1 clA A H0 (wC Γ u) pc lv (.int v :: .ref (Γ.2.1 (k + 9)) :: st) :=
  vv_put (N := 9) C inC0 ty0 ty0_ok nm0 (k + 9) ((wC_at (by omega)).trans (by rw [eC_adv hk])) rfl 8 (by decide) (in_wA (by decide +kernel) rfl) rfl rfl (ty0_ok 8 (by decide)) rfl rfl (Nat.le_of_ble_eq_true rfl) (wC_set (by omega) (by rw [eC_adv hk, sC_21]) oC_21) hdg kk
theorem g_R_R_row (C : cx p s m args c cc R1 wA nL Γ.1 clA (tyA Γ)) (hdg : decode cc pc = .ok (.getfield 11, 3)) (kk : VV p l e R s m args below meth c cells slots Q nL Γ.1 clA A H0 (wC Γ u) (pc + 3) lv (.ref (Γ.2.1 2) :: st)) : VV p l e R s m args below meth c cells slots Q nL Γ.1 clA A H0 (wC Γ u) pc lv (.ref (Γ.2.1 1) :: st) :=
  vv_get (N := 3) C inC1 1 (wC_at (by decide)) rfl 0 (by decide) (in_wA (by decide +kernel) rfl) rfl rfl hdg kk
theorem g_R_R_there (C : cx p s m args c cc R1 wA nL Γ.1 clA (tyA Γ)) (hdg : decode cc pc = .ok (.getfield 17, 3)) (kk : VV p l e R s m args below meth c cells slots Q nL Γ.1 clA A H0 (wC Γ u) (pc + 3) lv (.int (u.1 6 0) :: st)) : VV p l e R s m args below meth c cells slots Q nL Γ.1 clA A H0 (wC Γ u) pc lv (.ref (Γ.2.1 1) :: st) :=
  vv_get (N := 3) C inC1 1 (wC_at (by decide)) rfl 1 (by decide) (in_wA (by decide +kernel) rfl) rfl rfl hdg kk
theorem p_R_R_there (C : cx p s m args c cc R1 wA nL Γ.1 clA (tyA Γ)) {v : Int32} (hdg : decode cc pc = .ok (.putfield 17, 3)) (kk : VV p l e R s m args below meth c cells slots Q nL Γ.1 clA A H0 (wC Γ (wr u 6 0 v)) (pc + 3) lv st) : VV p l e R s m args below meth c cells slots Q nL Γ.1 clA A H0 (wC Γ u) pc lv (.int v :: .ref (Γ.2.1 1) :: st) :=
  vv_put (N := 3) C inC1 ty1 ty1_ok nm1 1 (wC_at (by decide)) rfl 1 (by decide) (in_wA (by decide +kernel) rfl) rfl rfl (ty1_ok 1 (by decide)) rfl rfl (Nat.le_of_ble_eq_true rfl) (wC_set (by decide) rfl oC_6) hdg kk
theorem g_R_R_nextNumber (C : cx p s m args c cc R1 wA nL Γ.1 clA (tyA Γ)) (hdg : decode cc pc = .ok (.getfield 21, 3)) (kk : VV p l e R s m args below meth c cells slots Q nL Γ.1 clA A H0 (wC Γ u) (pc + 3) lv (.int (u.1 7 0) :: st)) : VV p l e R s m args below meth c cells slots Q nL Γ.1 clA A H0 (wC Γ u) pc lv (.ref (Γ.2.1 1) :: st) :=
  vv_get (N := 3) C inC1 1 (wC_at (by decide)) rfl 2 (by decide) (in_wA (by decide +kernel) rfl) rfl rfl hdg kk
theorem p_R_R_nextNumber (C : cx p s m args c cc R1 wA nL Γ.1 clA (tyA Γ)) {v : Int32} (hdg : decode cc pc = .ok (.putfield 21, 3)) (kk : VV p l e R s m args below meth c cells slots Q nL Γ.1 clA A H0 (wC Γ (wr u 7 0 v)) (pc + 3) lv st) : VV p l e R s m args below meth c cells slots Q nL Γ.1 clA A H0 (wC Γ u) pc lv (.int v :: .ref (Γ.2.1 1) :: st) :=
  vv_put (N := 3) C inC1 ty1 ty1_ok nm1 1 (wC_at (by decide)) rfl 2 (by decide) (in_wA (by decide +kernel) rfl) rfl rfl (ty1_ok 2 (by decide)) rfl rfl (Nat.le_of_ble_eq_true rfl) (wC_set (by decide) rfl oC_7) hdg kk
theorem g_R_A_number (C : cx p s m args c cc R1 wA nL Γ.1 clA (tyA Γ)) {k : Nat} (hk : k < 6) (hdg : decode cc pc = .ok (.getfield 25, 3)) (kk : VV p l e R s m args below meth c cells slots Q nL Γ.1 clA A H0 (wC Γ u) (pc + 3) lv (.int (u.1 13 k) :: st)) : VV p l e R s m args below meth c cells slots Q nL Γ.1 clA A H0 (wC Γ u) pc lv (.ref (Γ.2.1 (k + 9)) :: st) :=
  vv_get (N := 9) C inC0 (k + 9) ((wC_at (by omega)).trans (by rw [eC_adv hk])) rfl 0 (by decide) (in_wA (by decide +kernel) rfl) rfl rfl hdg kk
theorem p_R_A_number (C : cx p s m args c cc R1 wA nL Γ.1 clA (tyA Γ)) {k : Nat} {v : Int32} (hk : k < 6) (hdg : decode cc pc = .ok (.putfield 25, 3)) (kk : VV p l e R s m args below meth c cells slots Q nL Γ.1 clA A H0 (wC Γ (wr u 13 k v)) (pc + 3) lv st) : VV p l e R s m args below meth c cells slots Q nL Γ.1 clA A H0 (wC Γ u) pc lv (.int v :: .ref (Γ.2.1 (k + 9)) :: st) :=
  vv_put (N := 9) C inC0 ty0 ty0_ok nm0 (k + 9) ((wC_at (by omega)).trans (by rw [eC_adv hk])) rfl 0 (by decide) (in_wA (by decide +kernel) rfl) rfl rfl (ty0_ok 0 (by decide)) rfl rfl (Nat.le_of_ble_eq_true rfl) (wC_set (by omega) (by rw [eC_adv hk, sC_13]) oC_13) hdg kk
theorem g_R_A_kind (C : cx p s m args c cc R1 wA nL Γ.1 clA (tyA Γ)) {k : Nat} (hk : k < 6) (hdg : decode cc pc = .ok (.getfield 32, 3)) (kk : VV p l e R s m args below meth c cells slots Q nL Γ.1 clA A H0 (wC Γ u) (pc + 3) lv (.int (u.1 14 k) :: st)) : VV p l e R s m args below meth c cells slots Q nL Γ.1 clA A H0 (wC Γ u) pc lv (.ref (Γ.2.1 (k + 9)) :: st) :=
  vv_get (N := 9) C inC0 (k + 9) ((wC_at (by omega)).trans (by rw [eC_adv hk])) rfl 1 (by decide) (in_wA (by decide +kernel) rfl) rfl rfl hdg kk
theorem p_R_A_kind (C : cx p s m args c cc R1 wA nL Γ.1 clA (tyA Γ)) {k : Nat} {v : Int32} (hk : k < 6) (hdg : decode cc pc = .ok (.putfield 32, 3)) (kk : VV p l e R s m args below meth c cells slots Q nL Γ.1 clA A H0 (wC Γ (wr u 14 k v)) (pc + 3) lv st) : VV p l e R s m args below meth c cells slots Q nL Γ.1 clA A H0 (wC Γ u) pc lv (.int v :: .ref (Γ.2.1 (k + 9)) :: st) :=
  vv_put (N := 9) C inC0 ty0 ty0_ok nm0 (k + 9) ((wC_at (by omega)).trans (by rw [eC_adv hk])) rfl 1 (by decide) (in_wA (by decide +kernel) rfl) rfl rfl (ty0_ok 1 (by decide)) rfl rfl (Nat.le_of_ble_eq_true rfl) (wC_set (by omega) (by rw [eC_adv hk, sC_14]) oC_14) hdg kk
theorem g_R_A_order (C : cx p s m args c cc R1 wA nL Γ.1 clA (tyA Γ)) {k : Nat} (hk : k < 6) (hdg : decode cc pc = .ok (.getfield 35, 3)) (kk : VV p l e R s m args below meth c cells slots Q nL Γ.1 clA A H0 (wC Γ u) (pc + 3) lv (.int (u.1 15 k) :: st)) : VV p l e R s m args below meth c cells slots Q nL Γ.1 clA A H0 (wC Γ u) pc lv (.ref (Γ.2.1 (k + 9)) :: st) :=
  vv_get (N := 9) C inC0 (k + 9) ((wC_at (by omega)).trans (by rw [eC_adv hk])) rfl 2 (by decide) (in_wA (by decide +kernel) rfl) rfl rfl hdg kk
theorem p_R_A_order (C : cx p s m args c cc R1 wA nL Γ.1 clA (tyA Γ)) {k : Nat} {v : Int32} (hk : k < 6) (hdg : decode cc pc = .ok (.putfield 35, 3)) (kk : VV p l e R s m args below meth c cells slots Q nL Γ.1 clA A H0 (wC Γ (wr u 15 k v)) (pc + 3) lv st) : VV p l e R s m args below meth c cells slots Q nL Γ.1 clA A H0 (wC Γ u) pc lv (.int v :: .ref (Γ.2.1 (k + 9)) :: st) :=
  vv_put (N := 9) C inC0 ty0 ty0_ok nm0 (k + 9) ((wC_at (by omega)).trans (by rw [eC_adv hk])) rfl 2 (by decide) (in_wA (by decide +kernel) rfl) rfl rfl (ty0_ok 2 (by decide)) rfl rfl (Nat.le_of_ble_eq_true rfl) (wC_set (by omega) (by rw [eC_adv hk, sC_15]) oC_15) hdg kk
theorem g_R_A_methods (C : cx p s m args c cc R1 wA nL Γ.1 clA (tyA Γ)) {k : Nat} (hk : k < 6) (hdg : decode cc pc = .ok (.getfield 38, 3)) (kk : VV p l e R s m args below meth c cells slots Q nL Γ.1 clA A H0 (wC Γ u) (pc + 3) lv (.int (u.1 16 k) :: st)) : VV p l e R s m args below meth c cells slots Q nL Γ.1 clA A H0 (wC Γ u) pc lv (.ref (Γ.2.1 (k + 9)) :: st) :=
  vv_get (N := 9) C inC0 (k + 9) ((wC_at (by omega)).trans (by rw [eC_adv hk])) rfl 3 (by decide) (in_wA (by decide +kernel) rfl) rfl rfl hdg kk
theorem p_R_A_methods (C : cx p s m args c cc R1 wA nL Γ.1 clA (tyA Γ)) {k : Nat} {v : Int32} (hk : k < 6) (hdg : decode cc pc = .ok (.putfield 38, 3)) (kk : VV p l e R s m args below meth c cells slots Q nL Γ.1 clA A H0 (wC Γ (wr u 16 k v)) (pc + 3) lv st) : VV p l e R s m args below meth c cells slots Q nL Γ.1 clA A H0 (wC Γ u) pc lv (.int v :: .ref (Γ.2.1 (k + 9)) :: st) :=
  vv_put (N := 9) C inC0 ty0 ty0_ok nm0 (k + 9) ((wC_at (by omega)).trans (by rw [eC_adv hk])) rfl 3 (by decide) (in_wA (by decide +kernel) rfl) rfl rfl (ty0_ok 3 (by decide)) rfl rfl (Nat.le_of_ble_eq_true rfl) (wC_set (by omega) (by rw [eC_adv hk, sC_16]) oC_16) hdg kk
theorem g_R_A_a (C : cx p s m args c cc R1 wA nL Γ.1 clA (tyA Γ)) {k : Nat} (hk : k < 6) (hdg : decode cc pc = .ok (.getfield 41, 3)) (kk : VV p l e R s m args below meth c cells slots Q nL Γ.1 clA A H0 (wC Γ u) (pc + 3) lv (.int (u.1 17 k) :: st)) : VV p l e R s m args below meth c cells slots Q nL Γ.1 clA A H0 (wC Γ u) pc lv (.ref (Γ.2.1 (k + 9)) :: st) :=
  vv_get (N := 9) C inC0 (k + 9) ((wC_at (by omega)).trans (by rw [eC_adv hk])) rfl 4 (by decide) (in_wA (by decide +kernel) rfl) rfl rfl hdg kk
theorem p_R_A_a (C : cx p s m args c cc R1 wA nL Γ.1 clA (tyA Γ)) {k : Nat} {v : Int32} (hk : k < 6) (hdg : decode cc pc = .ok (.putfield 41, 3)) (kk : VV p l e R s m args below meth c cells slots Q nL Γ.1 clA A H0 (wC Γ (wr u 17 k v)) (pc + 3) lv st) : VV p l e R s m args below meth c cells slots Q nL Γ.1 clA A H0 (wC Γ u) pc lv (.int v :: .ref (Γ.2.1 (k + 9)) :: st) :=
  vv_put (N := 9) C inC0 ty0 ty0_ok nm0 (k + 9) ((wC_at (by omega)).trans (by rw [eC_adv hk])) rfl 4 (by decide) (in_wA (by decide +kernel) rfl) rfl rfl (ty0_ok 4 (by decide)) rfl rfl (Nat.le_of_ble_eq_true rfl) (wC_set (by omega) (by rw [eC_adv hk, sC_17]) oC_17) hdg kk
theorem g_R_A_b (C : cx p s m args c cc R1 wA nL Γ.1 clA (tyA Γ)) {k : Nat} (hk : k < 6) (hdg : decode cc pc = .ok (.getfield 44, 3)) (kk : VV p l e R s m args below meth c cells slots Q nL Γ.1 clA A H0 (wC Γ u) (pc + 3) lv (.int (u.1 18 k) :: st)) : VV p l e R s m args below meth c cells slots Q nL Γ.1 clA A H0 (wC Γ u) pc lv (.ref (Γ.2.1 (k + 9)) :: st) :=
  vv_get (N := 9) C inC0 (k + 9) ((wC_at (by omega)).trans (by rw [eC_adv hk])) rfl 5 (by decide) (in_wA (by decide +kernel) rfl) rfl rfl hdg kk
theorem p_R_A_b (C : cx p s m args c cc R1 wA nL Γ.1 clA (tyA Γ)) {k : Nat} {v : Int32} (hk : k < 6) (hdg : decode cc pc = .ok (.putfield 44, 3)) (kk : VV p l e R s m args below meth c cells slots Q nL Γ.1 clA A H0 (wC Γ (wr u 18 k v)) (pc + 3) lv st) : VV p l e R s m args below meth c cells slots Q nL Γ.1 clA A H0 (wC Γ u) pc lv (.int v :: .ref (Γ.2.1 (k + 9)) :: st) :=
  vv_put (N := 9) C inC0 ty0 ty0_ok nm0 (k + 9) ((wC_at (by omega)).trans (by rw [eC_adv hk])) rfl 5 (by decide) (in_wA (by decide +kernel) rfl) rfl rfl (ty0_ok 5 (by decide)) rfl rfl (Nat.le_of_ble_eq_true rfl) (wC_set (by omega) (by rw [eC_adv hk, sC_18]) oC_18) hdg kk
theorem g_R_A_hasRange (C : cx p s m args c cc R1 wA nL Γ.1 clA (tyA Γ)) {k : Nat} (hk : k < 6) (hdg : decode cc pc = .ok (.getfield 47, 3)) (kk : VV p l e R s m args below meth c cells slots Q nL Γ.1 clA A H0 (wC Γ u) (pc + 3) lv (.int (u.1 19 k) :: st)) : VV p l e R s m args below meth c cells slots Q nL Γ.1 clA A H0 (wC Γ u) pc lv (.ref (Γ.2.1 (k + 9)) :: st) :=
  vv_get (N := 9) C inC0 (k + 9) ((wC_at (by omega)).trans (by rw [eC_adv hk])) rfl 6 (by decide) (in_wA (by decide +kernel) rfl) rfl rfl hdg kk
theorem p_R_A_hasRange (C : cx p s m args c cc R1 wA nL Γ.1 clA (tyA Γ)) {k : Nat} {v : Int32} (hk : k < 6) (hn : narrow .boolean (.int v) = .int v) (hf : fits .boolean (.int v) = true) (hdg : decode cc pc = .ok (.putfield 47, 3)) (kk : VV p l e R s m args below meth c cells slots Q nL Γ.1 clA A H0 (wC Γ (wr u 19 k v)) (pc + 3) lv st) : VV p l e R s m args below meth c cells slots Q nL Γ.1 clA A H0 (wC Γ u) pc lv (.int v :: .ref (Γ.2.1 (k + 9)) :: st) :=
  vv_put (N := 9) C inC0 ty0 ty0_ok nm0 (k + 9) ((wC_at (by omega)).trans (by rw [eC_adv hk])) rfl 6 (by decide) (in_wA (by decide +kernel) rfl) rfl rfl (ty0_ok 6 (by decide)) hn hf (Nat.le_of_ble_eq_true rfl) (wC_set (by omega) (by rw [eC_adv hk, sC_19]) oC_19) hdg kk
theorem g_T_T_noters (C : cx p s m args c cc R2 wA nL Γ.1 clA (tyA Γ)) (hdg : decode cc pc = .ok (.getfield 9, 3)) (kk : VV p l e R s m args below meth c cells slots Q nL Γ.1 clA A H0 (wC Γ u) (pc + 3) lv (.ref (Γ.2.1 5) :: st)) : VV p l e R s m args below meth c cells slots Q nL Γ.1 clA A H0 (wC Γ u) pc lv (.ref (Γ.2.1 4) :: st) :=
  vv_get (N := 3) C inC2 4 (wC_at (by decide)) rfl 0 (by decide) (in_wA (by decide +kernel) rfl) rfl rfl hdg kk
theorem g_T_T_words (C : cx p s m args c cc R2 wA nL Γ.1 clA (tyA Γ)) (hdg : decode cc pc = .ok (.getfield 15, 3)) (kk : VV p l e R s m args below meth c cells slots Q nL Γ.1 clA A H0 (wC Γ u) (pc + 3) lv (.ref (Γ.2.1 6) :: st)) : VV p l e R s m args below meth c cells slots Q nL Γ.1 clA A H0 (wC Γ u) pc lv (.ref (Γ.2.1 4) :: st) :=
  vv_get (N := 3) C inC2 4 (wC_at (by decide)) rfl 1 (by decide) (in_wA (by decide +kernel) rfl) rfl rfl hdg kk
theorem g_T_T_length (C : cx p s m args c cc R2 wA nL Γ.1 clA (tyA Γ)) (hdg : decode cc pc = .ok (.getfield 18, 3)) (kk : VV p l e R s m args below meth c cells slots Q nL Γ.1 clA A H0 (wC Γ u) (pc + 3) lv (.int (u.1 8 0) :: st)) : VV p l e R s m args below meth c cells slots Q nL Γ.1 clA A H0 (wC Γ u) pc lv (.ref (Γ.2.1 4) :: st) :=
  vv_get (N := 3) C inC2 4 (wC_at (by decide)) rfl 2 (by decide) (in_wA (by decide +kernel) rfl) rfl rfl hdg kk
theorem p_T_T_length (C : cx p s m args c cc R2 wA nL Γ.1 clA (tyA Γ)) {v : Int32} (hdg : decode cc pc = .ok (.putfield 18, 3)) (kk : VV p l e R s m args below meth c cells slots Q nL Γ.1 clA A H0 (wC Γ (wr u 8 0 v)) (pc + 3) lv st) : VV p l e R s m args below meth c cells slots Q nL Γ.1 clA A H0 (wC Γ u) pc lv (.int v :: .ref (Γ.2.1 4) :: st) :=
  vv_put (N := 3) C inC2 ty2 ty2_ok nm2 4 (wC_at (by decide)) rfl 2 (by decide) (in_wA (by decide +kernel) rfl) rfl rfl (ty2_ok 2 (by decide)) rfl rfl (Nat.le_of_ble_eq_true rfl) (wC_set (by decide) rfl oC_8) hdg kk
theorem g_K_K_factor (C : cx p s m args c cc R3 wA nL Γ.1 clA (tyA Γ)) {k : Nat} (hk : k < 12) (hdg : decode cc pc = .ok (.getfield 9, 3)) (kk : VV p l e R s m args below meth c cells slots Q nL Γ.1 clA A H0 (wC Γ u) (pc + 3) lv (.int (u.1 22 k) :: st)) : VV p l e R s m args below meth c cells slots Q nL Γ.1 clA A H0 (wC Γ u) pc lv (.ref (Γ.2.1 (k + 15)) :: st) :=
  vv_get (N := 5) C inC3 (k + 15) ((wC_at (by omega)).trans (by rw [eC_wrk])) rfl 0 (by decide) (in_wA (by decide +kernel) rfl) rfl rfl hdg kk
theorem p_K_K_factor (C : cx p s m args c cc R3 wA nL Γ.1 clA (tyA Γ)) {k : Nat} {v : Int32} (hk : k < 12) (hdg : decode cc pc = .ok (.putfield 9, 3)) (kk : VV p l e R s m args below meth c cells slots Q nL Γ.1 clA A H0 (wC Γ (wr u 22 k v)) (pc + 3) lv st) : VV p l e R s m args below meth c cells slots Q nL Γ.1 clA A H0 (wC Γ u) pc lv (.int v :: .ref (Γ.2.1 (k + 15)) :: st) :=
  vv_put (N := 5) C inC3 ty3 ty3_ok nm3 (k + 15) ((wC_at (by omega)).trans (by rw [eC_wrk])) rfl 0 (by decide) (in_wA (by decide +kernel) rfl) rfl rfl (ty3_ok 0 (by decide)) rfl rfl (Nat.le_of_ble_eq_true rfl) (wC_set (by omega) (by rw [eC_wrk, sC_22]) oC_22) hdg kk
theorem g_K_K_addend (C : cx p s m args c cc R3 wA nL Γ.1 clA (tyA Γ)) {k : Nat} (hk : k < 12) (hdg : decode cc pc = .ok (.getfield 15, 3)) (kk : VV p l e R s m args below meth c cells slots Q nL Γ.1 clA A H0 (wC Γ u) (pc + 3) lv (.int (u.1 23 k) :: st)) : VV p l e R s m args below meth c cells slots Q nL Γ.1 clA A H0 (wC Γ u) pc lv (.ref (Γ.2.1 (k + 15)) :: st) :=
  vv_get (N := 5) C inC3 (k + 15) ((wC_at (by omega)).trans (by rw [eC_wrk])) rfl 1 (by decide) (in_wA (by decide +kernel) rfl) rfl rfl hdg kk
theorem p_K_K_addend (C : cx p s m args c cc R3 wA nL Γ.1 clA (tyA Γ)) {k : Nat} {v : Int32} (hk : k < 12) (hdg : decode cc pc = .ok (.putfield 15, 3)) (kk : VV p l e R s m args below meth c cells slots Q nL Γ.1 clA A H0 (wC Γ (wr u 23 k v)) (pc + 3) lv st) : VV p l e R s m args below meth c cells slots Q nL Γ.1 clA A H0 (wC Γ u) pc lv (.int v :: .ref (Γ.2.1 (k + 15)) :: st) :=
  vv_put (N := 5) C inC3 ty3 ty3_ok nm3 (k + 15) ((wC_at (by omega)).trans (by rw [eC_wrk])) rfl 1 (by decide) (in_wA (by decide +kernel) rfl) rfl rfl (ty3_ok 1 (by decide)) rfl rfl (Nat.le_of_ble_eq_true rfl) (wC_set (by omega) (by rw [eC_wrk, sC_23]) oC_23) hdg kk
theorem g_K_K_failsAt (C : cx p s m args c cc R3 wA nL Γ.1 clA (tyA Γ)) {k : Nat} (hk : k < 12) (hdg : decode cc pc = .ok (.getfield 18, 3)) (kk : VV p l e R s m args below meth c cells slots Q nL Γ.1 clA A H0 (wC Γ u) (pc + 3) lv (.int (u.1 24 k) :: st)) : VV p l e R s m args below meth c cells slots Q nL Γ.1 clA A H0 (wC Γ u) pc lv (.ref (Γ.2.1 (k + 15)) :: st) :=
  vv_get (N := 5) C inC3 (k + 15) ((wC_at (by omega)).trans (by rw [eC_wrk])) rfl 2 (by decide) (in_wA (by decide +kernel) rfl) rfl rfl hdg kk
theorem p_K_K_failsAt (C : cx p s m args c cc R3 wA nL Γ.1 clA (tyA Γ)) {k : Nat} {v : Int32} (hk : k < 12) (hdg : decode cc pc = .ok (.putfield 18, 3)) (kk : VV p l e R s m args below meth c cells slots Q nL Γ.1 clA A H0 (wC Γ (wr u 24 k v)) (pc + 3) lv st) : VV p l e R s m args below meth c cells slots Q nL Γ.1 clA A H0 (wC Γ u) pc lv (.int v :: .ref (Γ.2.1 (k + 15)) :: st) :=
  vv_put (N := 5) C inC3 ty3 ty3_ok nm3 (k + 15) ((wC_at (by omega)).trans (by rw [eC_wrk])) rfl 2 (by decide) (in_wA (by decide +kernel) rfl) rfl rfl (ty3_ok 2 (by decide)) rfl rfl (Nat.le_of_ble_eq_true rfl) (wC_set (by omega) (by rw [eC_wrk, sC_24]) oC_24) hdg kk
theorem g_K_K_exception (C : cx p s m args c cc R3 wA nL Γ.1 clA (tyA Γ)) {k : Nat} (hk : k < 12) (hdg : decode cc pc = .ok (.getfield 21, 3)) (kk : VV p l e R s m args below meth c cells slots Q nL Γ.1 clA A H0 (wC Γ u) (pc + 3) lv (.int (u.1 25 k) :: st)) : VV p l e R s m args below meth c cells slots Q nL Γ.1 clA A H0 (wC Γ u) pc lv (.ref (Γ.2.1 (k + 15)) :: st) :=
  vv_get (N := 5) C inC3 (k + 15) ((wC_at (by omega)).trans (by rw [eC_wrk])) rfl 3 (by decide) (in_wA (by decide +kernel) rfl) rfl rfl hdg kk
theorem p_K_K_exception (C : cx p s m args c cc R3 wA nL Γ.1 clA (tyA Γ)) {k : Nat} {v : Int32} (hk : k < 12) (hdg : decode cc pc = .ok (.putfield 21, 3)) (kk : VV p l e R s m args below meth c cells slots Q nL Γ.1 clA A H0 (wC Γ (wr u 25 k v)) (pc + 3) lv st) : VV p l e R s m args below meth c cells slots Q nL Γ.1 clA A H0 (wC Γ u) pc lv (.int v :: .ref (Γ.2.1 (k + 15)) :: st) :=
  vv_put (N := 5) C inC3 ty3 ty3_ok nm3 (k + 15) ((wC_at (by omega)).trans (by rw [eC_wrk])) rfl 3 (by decide) (in_wA (by decide +kernel) rfl) rfl rfl (ty3_ok 3 (by decide)) rfl rfl (Nat.le_of_ble_eq_true rfl) (wC_set (by omega) (by rw [eC_wrk, sC_25]) oC_25) hdg kk
theorem g_K_K_next (C : cx p s m args c cc R3 wA nL Γ.1 clA (tyA Γ)) {k : Nat} (hk : k < 12) (hdg : decode cc pc = .ok (.getfield 24, 3)) (kk : VV p l e R s m args below meth c cells slots Q nL Γ.1 clA A H0 (wC Γ u) (pc + 3) lv (.int (u.1 26 k) :: st)) : VV p l e R s m args below meth c cells slots Q nL Γ.1 clA A H0 (wC Γ u) pc lv (.ref (Γ.2.1 (k + 15)) :: st) :=
  vv_get (N := 5) C inC3 (k + 15) ((wC_at (by omega)).trans (by rw [eC_wrk])) rfl 4 (by decide) (in_wA (by decide +kernel) rfl) rfl rfl hdg kk
theorem p_K_K_next (C : cx p s m args c cc R3 wA nL Γ.1 clA (tyA Γ)) {k : Nat} {v : Int32} (hk : k < 12) (hdg : decode cc pc = .ok (.putfield 24, 3)) (kk : VV p l e R s m args below meth c cells slots Q nL Γ.1 clA A H0 (wC Γ (wr u 26 k v)) (pc + 3) lv st) : VV p l e R s m args below meth c cells slots Q nL Γ.1 clA A H0 (wC Γ u) pc lv (.int v :: .ref (Γ.2.1 (k + 15)) :: st) :=
  vv_put (N := 5) C inC3 ty3 ty3_ok nm3 (k + 15) ((wC_at (by omega)).trans (by rw [eC_wrk])) rfl 4 (by decide) (in_wA (by decide +kernel) rfl) rfl rfl (ty3_ok 4 (by decide)) rfl rfl (Nat.le_of_ble_eq_true rfl) (wC_set (by omega) (by rw [eC_wrk, sC_26]) oC_26) hdg kk
theorem ld_4_5 (C : cx p s m args c cc R4 wA nL Γ.1 clA (tyA Γ)) {i : Int32} (hin : vp_in i 100) (hdg : decode cc pc = .ok (.iaload, 1)) (kk : VV p l e R s m args below meth c cells slots Q nL Γ.1 clA A H0 (wC Γ u) (pc + 1) lv (.int (u.1 11 i.toNatClampNeg) :: st)) : VV p l e R s m args below meth c cells slots Q nL Γ.1 clA A H0 (wC Γ u) pc lv (.int i :: .ref (Γ.2.1 5) :: st) :=
  vv_iald C 5 0 (wC_at (by decide)) rfl hin hdg kk
theorem sr_4_5 (C : cx p s m args c cc R4 wA nL Γ.1 clA (tyA Γ)) {i v : Int32} (hin : vp_in i 100) (hdg : decode cc pc = .ok (.iastore, 1)) (kk : VV p l e R s m args below meth c cells slots Q nL Γ.1 clA A H0 (wC Γ (wr u 11 i.toNatClampNeg v)) (pc + 1) lv st) : VV p l e R s m args below meth c cells slots Q nL Γ.1 clA A H0 (wC Γ u) pc lv (.int v :: .int i :: .ref (Γ.2.1 5) :: st) :=
  vv_iast C 5 0 (wC_at (by decide)) rfl hin (wC_set (by decide) rfl oC_11) hdg kk
theorem ld_2_5 (C : cx p s m args c cc R2 wA nL Γ.1 clA (tyA Γ)) {i : Int32} (hin : vp_in i 100) (hdg : decode cc pc = .ok (.iaload, 1)) (kk : VV p l e R s m args below meth c cells slots Q nL Γ.1 clA A H0 (wC Γ u) (pc + 1) lv (.int (u.1 11 i.toNatClampNeg) :: st)) : VV p l e R s m args below meth c cells slots Q nL Γ.1 clA A H0 (wC Γ u) pc lv (.int i :: .ref (Γ.2.1 5) :: st) :=
  vv_iald C 5 0 (wC_at (by decide)) rfl hin hdg kk
theorem sr_2_5 (C : cx p s m args c cc R2 wA nL Γ.1 clA (tyA Γ)) {i v : Int32} (hin : vp_in i 100) (hdg : decode cc pc = .ok (.iastore, 1)) (kk : VV p l e R s m args below meth c cells slots Q nL Γ.1 clA A H0 (wC Γ (wr u 11 i.toNatClampNeg v)) (pc + 1) lv st) : VV p l e R s m args below meth c cells slots Q nL Γ.1 clA A H0 (wC Γ u) pc lv (.int v :: .int i :: .ref (Γ.2.1 5) :: st) :=
  vv_iast C 5 0 (wC_at (by decide)) rfl hin (wC_set (by decide) rfl oC_11) hdg kk
theorem ld_4_6 (C : cx p s m args c cc R4 wA nL Γ.1 clA (tyA Γ)) {i : Int32} (hin : vp_in i 100) (hdg : decode cc pc = .ok (.iaload, 1)) (kk : VV p l e R s m args below meth c cells slots Q nL Γ.1 clA A H0 (wC Γ u) (pc + 1) lv (.int (u.1 12 i.toNatClampNeg) :: st)) : VV p l e R s m args below meth c cells slots Q nL Γ.1 clA A H0 (wC Γ u) pc lv (.int i :: .ref (Γ.2.1 6) :: st) :=
  vv_iald C 6 0 (wC_at (by decide)) rfl hin hdg kk
theorem sr_4_6 (C : cx p s m args c cc R4 wA nL Γ.1 clA (tyA Γ)) {i v : Int32} (hin : vp_in i 100) (hdg : decode cc pc = .ok (.iastore, 1)) (kk : VV p l e R s m args below meth c cells slots Q nL Γ.1 clA A H0 (wC Γ (wr u 12 i.toNatClampNeg v)) (pc + 1) lv st) : VV p l e R s m args below meth c cells slots Q nL Γ.1 clA A H0 (wC Γ u) pc lv (.int v :: .int i :: .ref (Γ.2.1 6) :: st) :=
  vv_iast C 6 0 (wC_at (by decide)) rfl hin (wC_set (by decide) rfl oC_12) hdg kk
theorem ld_2_6 (C : cx p s m args c cc R2 wA nL Γ.1 clA (tyA Γ)) {i : Int32} (hin : vp_in i 100) (hdg : decode cc pc = .ok (.iaload, 1)) (kk : VV p l e R s m args below meth c cells slots Q nL Γ.1 clA A H0 (wC Γ u) (pc + 1) lv (.int (u.1 12 i.toNatClampNeg) :: st)) : VV p l e R s m args below meth c cells slots Q nL Γ.1 clA A H0 (wC Γ u) pc lv (.int i :: .ref (Γ.2.1 6) :: st) :=
  vv_iald C 6 0 (wC_at (by decide)) rfl hin hdg kk
theorem sr_2_6 (C : cx p s m args c cc R2 wA nL Γ.1 clA (tyA Γ)) {i v : Int32} (hin : vp_in i 100) (hdg : decode cc pc = .ok (.iastore, 1)) (kk : VV p l e R s m args below meth c cells slots Q nL Γ.1 clA A H0 (wC Γ (wr u 12 i.toNatClampNeg v)) (pc + 1) lv st) : VV p l e R s m args below meth c cells slots Q nL Γ.1 clA A H0 (wC Γ u) pc lv (.int v :: .int i :: .ref (Γ.2.1 6) :: st) :=
  vv_iast C 6 0 (wC_at (by decide)) rfl hin (wC_set (by decide) rfl oC_12) hdg kk
theorem ld_4_7 (C : cx p s m args c cc R4 wA nL Γ.1 clA (tyA Γ)) {i : Int32} (hin : vp_in i 3) (hdg : decode cc pc = .ok (.iaload, 1)) (kk : VV p l e R s m args below meth c cells slots Q nL Γ.1 clA A H0 (wC Γ u) (pc + 1) lv (.int (u.1 9 i.toNatClampNeg) :: st)) : VV p l e R s m args below meth c cells slots Q nL Γ.1 clA A H0 (wC Γ u) pc lv (.int i :: .ref (Γ.2.1 7) :: st) :=
  vv_iald C 7 0 (wC_at (by decide)) rfl hin hdg kk
theorem sr_4_7 (C : cx p s m args c cc R4 wA nL Γ.1 clA (tyA Γ)) {i v : Int32} (hin : vp_in i 3) (hdg : decode cc pc = .ok (.iastore, 1)) (kk : VV p l e R s m args below meth c cells slots Q nL Γ.1 clA A H0 (wC Γ (wr u 9 i.toNatClampNeg v)) (pc + 1) lv st) : VV p l e R s m args below meth c cells slots Q nL Γ.1 clA A H0 (wC Γ u) pc lv (.int v :: .int i :: .ref (Γ.2.1 7) :: st) :=
  vv_iast C 7 0 (wC_at (by decide)) rfl hin (wC_set (by decide) rfl oC_9) hdg kk
theorem ld_4_8 (C : cx p s m args c cc R4 wA nL Γ.1 clA (tyA Γ)) {i : Int32} (hin : vp_in i 3) (hdg : decode cc pc = .ok (.iaload, 1)) (kk : VV p l e R s m args below meth c cells slots Q nL Γ.1 clA A H0 (wC Γ u) (pc + 1) lv (.int (u.1 10 i.toNatClampNeg) :: st)) : VV p l e R s m args below meth c cells slots Q nL Γ.1 clA A H0 (wC Γ u) pc lv (.int i :: .ref (Γ.2.1 8) :: st) :=
  vv_iald C 8 0 (wC_at (by decide)) rfl hin hdg kk
theorem sr_4_8 (C : cx p s m args c cc R4 wA nL Γ.1 clA (tyA Γ)) {i v : Int32} (hin : vp_in i 3) (hdg : decode cc pc = .ok (.iastore, 1)) (kk : VV p l e R s m args below meth c cells slots Q nL Γ.1 clA A H0 (wC Γ (wr u 10 i.toNatClampNeg v)) (pc + 1) lv st) : VV p l e R s m args below meth c cells slots Q nL Γ.1 clA A H0 (wC Γ u) pc lv (.int v :: .int i :: .ref (Γ.2.1 8) :: st) :=
  vv_iast C 8 0 (wC_at (by decide)) rfl hin (wC_set (by decide) rfl oC_10) hdg kk
theorem ld_1_2 (C : cx p s m args c cc R1 wA nL Γ.1 clA (tyA Γ)) {i : Int32} (hin : vp_in i 6) (hdg : decode cc pc = .ok (.aaload, 1)) (kk : VV p l e R s m args below meth c cells slots Q nL Γ.1 clA A H0 (wC Γ u) (pc + 1) lv (.ref (Γ.2.1 (u.2 i.toNatClampNeg + 9)) :: st)) : VV p l e R s m args below meth c cells slots Q nL Γ.1 clA A H0 (wC Γ u) pc lv (.int i :: .ref (Γ.2.1 2) :: st) :=
  vv_aldq C 2 1 (wC_at (by decide)) rfl hin rfl hdg kk
theorem ld_4_3 (C : cx p s m args c cc R4 wA nL Γ.1 clA (tyA Γ)) {i : Int32} (hin : vp_in i 12) (hdg : decode cc pc = .ok (.aaload, 1)) (kk : VV p l e R s m args below meth c cells slots Q nL Γ.1 clA A H0 (wC Γ u) (pc + 1) lv (.ref (Γ.2.1 (i.toNatClampNeg + 15)) :: st)) : VV p l e R s m args below meth c cells slots Q nL Γ.1 clA A H0 (wC Γ u) pc lv (.int i :: .ref (Γ.2.1 3) :: st) :=
  vv_aldq C 3 2 (wC_at (by decide)) rfl hin rfl hdg kk
theorem oC_row {Γ : Geo} {u : SC} {f : Nat → Nat} : ∀ j, j ≠ 2 → eC Γ (u.1, f) j = eC Γ u j
  | 0, _ => rfl
  | 1, _ => rfl
  | 2, h => absurd rfl h
  | 3, _ => rfl
  | 4, _ => rfl
  | 5, _ => rfl
  | 6, _ => rfl
  | 7, _ => rfl
  | 8, _ => rfl
  | 9, _ => rfl
  | 10, _ => rfl
  | 11, _ => rfl
  | 12, _ => rfl
  | 13, _ => rfl
  | 14, _ => rfl
  | j + 15, _ => rfl
theorem sC_row {Γ : Geo} {u : SC} {i k : Nat} : eC Γ (u.1, va_up u.2 i k) 2 = .inl (Γ.2.2.2.1, 6, .inr (.inr (.inr (.inr (va_up (fun i => some (Γ.2.1 (u.2 i + 9))) i (some (Γ.2.1 (k + 9)))))))) := by
  show Sum.inl (Γ.2.2.2.1, 6, Sum.inr (Sum.inr (Sum.inr (Sum.inr fun j => some (Γ.2.1 (va_up u.2 i k j + 9)))))) = _
  have e : (fun j => some (Γ.2.1 (va_up u.2 i k j + 9))) = va_up (fun i => some (Γ.2.1 (u.2 i + 9))) i (some (Γ.2.1 (k + 9))) := by
    funext j
    unfold va_up
    by_cases c : j = i
    · rw [if_pos c, if_pos c]
    · rw [if_neg c, if_neg c]
  rw [e]
theorem sr_1_2 (C : cx p s m args c cc R1 wA nL Γ.1 clA (tyA Γ)) {i : Int32} {k : Nat} (hk : k < 6) (hin : vp_in i 6) (hdg : decode cc pc = .ok (.aastore, 1)) (kk : VV p l e R s m args below meth c cells slots Q nL Γ.1 clA A H0 (wC Γ (u.1, va_up u.2 i.toNatClampNeg k)) (pc + 1) lv st) : VV p l e R s m args below meth c cells slots Q nL Γ.1 clA A H0 (wC Γ u) pc lv (.ref (Γ.2.1 (k + 9)) :: .int i :: .ref (Γ.2.1 2) :: st) :=
  vv_astq (r := (R0, T0, 9)) C 2 1 (k + 9) 0 (wC_at (by decide)) rfl ((wC_at (by omega)).trans (by rw [eC_adv hk])) rfl hin (wC_set (by decide) sC_row oC_row) hdg kk
end FC
/-- a contract of a method over the class's cells -/
abbrev CtC (l : Launch) (Γ : Geo) (y : MethodName) (bytes : ByteArray) (maxL : Nat) (ret : Option FieldType) (d : Nat) (av : List Value) (u : SC) (rv : Option Value) (u' : SC) : Prop :=
  Ct l y (Cond.code y bytes maxL ret :: wA) (rmD d) Γ.1 clA (tyA Γ) (inC Γ) av (wC Γ u) rv (wC Γ u')
theorem good_V {own K : String} {idx : Nat} {y : MethodName} {cd : Cond} (h : ∀ w ∈ ([.methodLink own idx y, .instanceMethod y, .selects K y y, .initialized K] : List Cond), w ∈ wA) (h5 : cd ∈ wA) : GoodIn wA (wsV own idx K y (cd :: wA)) := by
  intro w hw
  rcases List.mem_append.mp hw with h1 | h1
  · exact wA_good w (h w h1)
  · rcases List.mem_cons.mp h1 with rfl | h2
    · exact wA_good _ h5
    · exact wA_good _ h2
theorem good_S {own : String} {idx : Nat} {y : MethodName} {cd : Cond} (h : ∀ w ∈ ([.methodLink own idx y, .static y, .initialized own] : List Cond), w ∈ wA) (h5 : cd ∈ wA) : GoodIn wA (wsS own idx y (cd :: wA)) := by
  intro w hw
  rcases List.mem_append.mp hw with h1 | h1
  · exact wA_good w (h w h1)
  · rcases List.mem_cons.mp h1 with rfl | h2
    · exact wA_good _ h5
    · exact wA_good _ h2
section CC
variable {p : Program} {l : Launch} {e : Env} {d : Nat} {s : State} {m : MethodId} {args : Array Value} {below : List Frame} {meth : Method} {c : Code} {Q : State → Prop}
variable {cc : ByteArray} {own : String} {nL : Nat} {H0 : Heap} {pc : Nat} {lv : List (Nat × Value)} {st : List Value} {Γ : Geo} {u u' : SC}
theorem callC (C : cx p s m args c cc own wA nL Γ.1 clA (tyA Γ)) {index maxL n d' : Nat} {K : String} {y : MethodName} {bytes : ByteArray} {ret : Option FieldType} {b : Nat} {As rest : List Value} {rv : Option Value}
    (hM : CtC l Γ y bytes maxL ret d' (.ref b :: As) u rv u') (cw : callVw own index K y bytes maxL ret wA wA n) (hn : As.length = n) (k0 : Nat) (hk0 : k0 < 27) (hb : Γ.2.1 k0 = b) {ci N : Nat} {T : u_T} {fs : List Value} (he : eC Γ u k0 = .inr (ci, fs)) (hc : clA[ci]? = some (K, T, N))
    (hst : st = As.reverse ++ .ref b :: rest) (hW : (rest.map fun v => v.category).sum ≤ 8) (hm : maxL ≤ 21) (hd : d' + 1 ≤ d) (hdg : decode cc pc = .ok (.invokevirtual index, 3))
    (kk : VV p l e (rmD d) s m args below meth c 0 0 Q nL Γ.1 clA (inC Γ) H0 (wC Γ u') (pc + 3) lv (rv.toList ++ rest)) : VV p l e (rmD d) s m args below meth c 0 0 Q nL Γ.1 clA (inC Γ) H0 (wC Γ u) pc lv st := by
  subst hb
  exact vv_callV C hM cw hn k0 ((wC_at hk0).trans (by rw [he])) hc hst hW (fitsIn_D hm hd) ⟨Nat.le_refl _, Nat.le_refl _⟩ hdg (fun _ h => h) (fun h => h) wC_D kk
theorem callCS (C : cx p s m args c cc own wA nL Γ.1 clA (tyA Γ)) {index maxL n d' : Nat} {y : MethodName} {bytes : ByteArray} {ret : Option FieldType} {As rest : List Value} {rv : Option Value}
    (hM : CtC l Γ y bytes maxL ret d' As u rv u') (cw : callSw own index y bytes maxL ret wA wA n) (hn : As.length = n)
    (hst : st = As.reverse ++ rest) (hW : (rest.map fun v => v.category).sum ≤ 8) (hm : maxL ≤ 21) (hd : d' + 1 ≤ d) (hdg : decode cc pc = .ok (.invokestatic index, 3))
    (kk : VV p l e (rmD d) s m args below meth c 0 0 Q nL Γ.1 clA (inC Γ) H0 (wC Γ u') (pc + 3) lv (rv.toList ++ rest)) : VV p l e (rmD d) s m args below meth c 0 0 Q nL Γ.1 clA (inC Γ) H0 (wC Γ u) pc lv st :=
  vv_callS C hM cw hn hst hW (fitsIn_D hm hd) ⟨Nat.le_refl _, Nat.le_refl _⟩ hdg (fun _ h => h) (fun h => h) wC_D kk
end CC
theorem cw_L_R_isFull : callVw R4 57 R1 y_R_isFull b_R_isFull 1 (some .boolean) wA wA 0 := ⟨good_V (wA_all _ (by decide +kernel)) cd_R_isFull, rfl, by decide +kernel, by decide +kernel, by decide +kernel⟩
theorem cw_L_L_areNumbersOf : callSw R4 61 y_L_areNumbersOf b_L_areNumbersOf 3 (some .boolean) wA wA 3 := ⟨good_S (wA_all _ (by decide +kernel)) cd_L_areNumbersOf, rfl, by decide +kernel, by decide +kernel, by decide +kernel⟩
theorem cw_L_R_make : callVw R4 65 R1 y_R_make b_R_make 7 (some .int) wA wA 5 := ⟨good_V (wA_all _ (by decide +kernel)) cd_R_make, rfl, by decide +kernel, by decide +kernel, by decide +kernel⟩
theorem cw_L_R_placeOf : callVw R4 69 R1 y_R_placeOf b_R_placeOf 3 (some .int) wA wA 1 := ⟨good_V (wA_all _ (by decide +kernel)) cd_R_placeOf, rfl, by decide +kernel, by decide +kernel, by decide +kernel⟩
theorem cw_L_R_at : callVw R4 73 R1 y_R_at b_R_at 2 (some (.object "AdviceLinks$Advisor")) wA wA 1 := ⟨good_V (wA_all _ (by decide +kernel)) cd_R_at, rfl, by decide +kernel, by decide +kernel, by decide +kernel⟩
theorem cw_L_A_giveRange : callVw R4 77 R0 y_A_giveRange b_A_giveRange 3 none wA wA 2 := ⟨good_V (wA_all _ (by decide +kernel)) cd_A_giveRange, rfl, by decide +kernel, by decide +kernel, by decide +kernel⟩
theorem cw_L_R_move : callVw R4 83 R1 y_R_move b_R_move 3 none wA wA 2 := ⟨good_V (wA_all _ (by decide +kernel)) cd_R_move, rfl, by decide +kernel, by decide +kernel, by decide +kernel⟩
theorem cw_L_R_takeAway : callVw R4 86 R1 y_R_takeAway b_R_takeAway 3 none wA wA 1 := ⟨good_V (wA_all _ (by decide +kernel)) cd_R_takeAway, rfl, by decide +kernel, by decide +kernel, by decide +kernel⟩
theorem cw_L_L_isTarget : callSw R4 90 y_L_isTarget b_L_isTarget 1 (some .boolean) wA wA 1 := ⟨good_S (wA_all _ (by decide +kernel)) cd_L_isTarget, rfl, by decide +kernel, by decide +kernel, by decide +kernel⟩
theorem cw_L_L_isMethod : callSw R4 94 y_L_isMethod b_L_isMethod 1 (some .boolean) wA wA 1 := ⟨good_S (wA_all _ (by decide +kernel)) cd_L_isMethod, rfl, by decide +kernel, by decide +kernel, by decide +kernel⟩
theorem cw_L_L_workOf : callVw R4 97 R4 y_L_workOf b_L_workOf 3 (some (.object "AdviceLinks$Work")) wA wA 2 := ⟨good_V (wA_all _ (by decide +kernel)) cd_L_workOf, rfl, by decide +kernel, by decide +kernel, by decide +kernel⟩
theorem cw_L_L_isExceptionOrZero : callSw R4 107 y_L_isExceptionOrZero b_L_isExceptionOrZero 1 (some .boolean) wA wA 1 := ⟨good_S (wA_all _ (by decide +kernel)) cd_L_isExceptionOrZero, rfl, by decide +kernel, by decide +kernel, by decide +kernel⟩
theorem cw_L_T_clear : callVw R4 119 R2 y_T_clear b_T_clear 1 none wA wA 0 := ⟨good_V (wA_all _ (by decide +kernel)) cd_T_clear, rfl, by decide +kernel, by decide +kernel, by decide +kernel⟩
theorem cw_L_L_begin : callVw R4 122 R4 y_L_begin b_L_begin 4 (some .int) wA wA 3 := ⟨good_V (wA_all _ (by decide +kernel)) cd_L_begin, rfl, by decide +kernel, by decide +kernel, by decide +kernel⟩
theorem cw_L_T_has : callVw R4 129 R2 y_T_has b_T_has 2 (some .boolean) wA wA 1 := ⟨good_V (wA_all _ (by decide +kernel)) cd_T_has, rfl, by decide +kernel, by decide +kernel, by decide +kernel⟩
theorem cw_L_R_numberInChain : callVw R4 138 R1 y_R_numberInChain b_R_numberInChain 5 (some .int) wA wA 2 := ⟨good_V (wA_all _ (by decide +kernel)) cd_R_numberInChain, rfl, by decide +kernel, by decide +kernel, by decide +kernel⟩
theorem cw_L_L_isException : callSw R4 142 y_L_isException b_L_isException 1 (some .boolean) wA wA 1 := ⟨good_S (wA_all _ (by decide +kernel)) cd_L_isException, rfl, by decide +kernel, by decide +kernel, by decide +kernel⟩
theorem cw_L_L_thrown : callVw R4 145 R4 y_L_thrown b_L_thrown 2 (some .int) wA wA 1 := ⟨good_V (wA_all _ (by decide +kernel)) cd_L_thrown, rfl, by decide +kernel, by decide +kernel, by decide +kernel⟩
theorem cw_L_L_takeTarget : callVw R4 148 R4 y_L_takeTarget b_L_takeTarget 2 (some .int) wA wA 0 := ⟨good_V (wA_all _ (by decide +kernel)) cd_L_takeTarget, rfl, by decide +kernel, by decide +kernel, by decide +kernel⟩
theorem cw_L_L_goAlong : callVw R4 152 R4 y_L_goAlong b_L_goAlong 6 (some .int) wA wA 3 := ⟨good_V (wA_all _ (by decide +kernel)) cd_L_goAlong, rfl, by decide +kernel, by decide +kernel, by decide +kernel⟩
theorem cw_L_R_placeInChain : callVw R4 155 R1 y_R_placeInChain b_R_placeInChain 4 (some .int) wA wA 2 := ⟨good_V (wA_all _ (by decide +kernel)) cd_R_placeInChain, rfl, by decide +kernel, by decide +kernel, by decide +kernel⟩
theorem cw_L_L_workOn : callVw R4 158 R4 y_L_workOn b_L_workOn 6 (some .int) wA wA 2 := ⟨good_V (wA_all _ (by decide +kernel)) cd_L_workOn, rfl, by decide +kernel, by decide +kernel, by decide +kernel⟩
theorem cw_L_A_isInRange : callVw R4 164 R0 y_A_isInRange b_A_isInRange 2 (some .boolean) wA wA 1 := ⟨good_V (wA_all _ (by decide +kernel)) cd_A_isInRange, rfl, by decide +kernel, by decide +kernel, by decide +kernel⟩
theorem cw_L_L_act : callVw R4 167 R4 y_L_act b_L_act 5 (some .int) wA wA 4 := ⟨good_V (wA_all _ (by decide +kernel)) cd_L_act, rfl, by decide +kernel, by decide +kernel, by decide +kernel⟩
theorem cw_L_T_note : callVw R4 171 R2 y_T_note b_T_note 3 (some .boolean) wA wA 2 := ⟨good_V (wA_all _ (by decide +kernel)) cd_T_note, rfl, by decide +kernel, by decide +kernel, by decide +kernel⟩
theorem cw_L_L_brokenOff : callVw R4 175 R4 y_L_brokenOff b_L_brokenOff 1 (some .int) wA wA 0 := ⟨good_V (wA_all _ (by decide +kernel)) cd_L_brokenOff, rfl, by decide +kernel, by decide +kernel, by decide +kernel⟩
theorem cw_L_K_failsOn : callVw R4 178 R3 y_K_failsOn b_K_failsOn 2 (some .boolean) wA wA 1 := ⟨good_V (wA_all _ (by decide +kernel)) cd_K_failsOn, rfl, by decide +kernel, by decide +kernel, by decide +kernel⟩
theorem cw_L_K_reckon : callVw R4 181 R3 y_K_reckon b_K_reckon 2 (some .int) wA wA 1 := ⟨good_V (wA_all _ (by decide +kernel)) cd_K_reckon, rfl, by decide +kernel, by decide +kernel, by decide +kernel⟩
theorem cw_L_L_returned : callVw R4 184 R4 y_L_returned b_L_returned 2 (some .int) wA wA 1 := ⟨good_V (wA_all _ (by decide +kernel)) cd_L_returned, rfl, by decide +kernel, by decide +kernel, by decide +kernel⟩
theorem cw_L_L_actBefore : callVw R4 190 R4 y_L_actBefore b_L_actBefore 5 (some .int) wA wA 4 := ⟨good_V (wA_all _ (by decide +kernel)) cd_L_actBefore, rfl, by decide +kernel, by decide +kernel, by decide +kernel⟩
theorem cw_L_L_actChange : callVw R4 193 R4 y_L_actChange b_L_actChange 6 (some .int) wA wA 4 := ⟨good_V (wA_all _ (by decide +kernel)) cd_L_actChange, rfl, by decide +kernel, by decide +kernel, by decide +kernel⟩
theorem cw_L_L_actSkip : callVw R4 196 R4 y_L_actSkip b_L_actSkip 5 (some .int) wA wA 4 := ⟨good_V (wA_all _ (by decide +kernel)) cd_L_actSkip, rfl, by decide +kernel, by decide +kernel, by decide +kernel⟩
theorem cw_L_L_actTwice : callVw R4 199 R4 y_L_actTwice b_L_actTwice 8 (some .int) wA wA 4 := ⟨good_V (wA_all _ (by decide +kernel)) cd_L_actTwice, rfl, by decide +kernel, by decide +kernel, by decide +kernel⟩
theorem cw_L_L_actReturning : callVw R4 202 R4 y_L_actReturning b_L_actReturning 6 (some .int) wA wA 4 := ⟨good_V (wA_all _ (by decide +kernel)) cd_L_actReturning, rfl, by decide +kernel, by decide +kernel, by decide +kernel⟩
theorem cw_L_L_actThrowing : callVw R4 205 R4 y_L_actThrowing b_L_actThrowing 6 (some .int) wA wA 4 := ⟨good_V (wA_all _ (by decide +kernel)) cd_L_actThrowing, rfl, by decide +kernel, by decide +kernel, by decide +kernel⟩
theorem cw_L_L_actFinally : callVw R4 208 R4 y_L_actFinally b_L_actFinally 6 (some .int) wA wA 4 := ⟨good_V (wA_all _ (by decide +kernel)) cd_L_actFinally, rfl, by decide +kernel, by decide +kernel, by decide +kernel⟩
theorem cw_L_L_actRecover : callVw R4 211 R4 y_L_actRecover b_L_actRecover 6 (some .int) wA wA 4 := ⟨good_V (wA_all _ (by decide +kernel)) cd_L_actRecover, rfl, by decide +kernel, by decide +kernel, by decide +kernel⟩
theorem cw_L_L_isKindOf : callSw R4 223 y_L_isKindOf b_L_isKindOf 3 (some .boolean) wA wA 2 := ⟨good_S (wA_all _ (by decide +kernel)) cd_L_isKindOf, rfl, by decide +kernel, by decide +kernel, by decide +kernel⟩
theorem cw_R_A_advises : callVw R1 28 R0 y_A_advises b_A_advises 2 (some .boolean) wA wA 1 := ⟨good_V (wA_all _ (by decide +kernel)) cd_A_advises, rfl, by decide +kernel, by decide +kernel, by decide +kernel⟩
theorem cw_R_R_settle : callVw R1 51 R1 y_R_settle b_R_settle 3 none wA wA 1 := ⟨good_V (wA_all _ (by decide +kernel)) cd_R_settle, rfl, by decide +kernel, by decide +kernel, by decide +kernel⟩
theorem cw_R_R_swapWithNext : callVw R1 55 R1 y_R_swapWithNext b_R_swapWithNext 3 none wA wA 1 := ⟨good_V (wA_all _ (by decide +kernel)) cd_R_swapWithNext, rfl, by decide +kernel, by decide +kernel, by decide +kernel⟩
theorem cw_R_A_standsBefore : callVw R1 58 R0 y_A_standsBefore b_A_standsBefore 2 (some .boolean) wA wA 1 := ⟨good_V (wA_all _ (by decide +kernel)) cd_A_standsBefore, rfl, by decide +kernel, by decide +kernel, by decide +kernel⟩
theorem cw_W_L_advise : callVw R6 13 R4 y_L_advise b_L_advise 6 (some .int) wA wA 5 := ⟨good_V (wA_all _ (by decide +kernel)) cd_L_advise, rfl, by decide +kernel, by decide +kernel, by decide +kernel⟩
theorem cw_W_M_advise : callVw R6 17 R5 y_M_advise b_M_advise 6 (some .int) wA wA 5 := ⟨good_V (wA_all _ (by decide +kernel)) cd_M_advise, rfl, by decide +kernel, by decide +kernel, by decide +kernel⟩
theorem cw_W_L_when : callVw R6 18 R4 y_L_when b_L_when 5 (some .boolean) wA wA 3 := ⟨good_V (wA_all _ (by decide +kernel)) cd_L_when, rfl, by decide +kernel, by decide +kernel, by decide +kernel⟩
theorem cw_W_M_when : callVw R6 22 R5 y_M_when b_M_when 5 (some .boolean) wA wA 3 := ⟨good_V (wA_all _ (by decide +kernel)) cd_M_when, rfl, by decide +kernel, by decide +kernel, by decide +kernel⟩
theorem cw_W_L_reorder : callVw R6 23 R4 y_L_reorder b_L_reorder 4 (some .boolean) wA wA 2 := ⟨good_V (wA_all _ (by decide +kernel)) cd_L_reorder, rfl, by decide +kernel, by decide +kernel, by decide +kernel⟩
theorem cw_W_M_reorder : callVw R6 27 R5 y_M_reorder b_M_reorder 4 (some .boolean) wA wA 2 := ⟨good_V (wA_all _ (by decide +kernel)) cd_M_reorder, rfl, by decide +kernel, by decide +kernel, by decide +kernel⟩
theorem cw_W_L_remove : callVw R6 28 R4 y_L_remove b_L_remove 3 (some .boolean) wA wA 1 := ⟨good_V (wA_all _ (by decide +kernel)) cd_L_remove, rfl, by decide +kernel, by decide +kernel, by decide +kernel⟩
theorem cw_W_M_remove : callVw R6 32 R5 y_M_remove b_M_remove 4 (some .boolean) wA wA 1 := ⟨good_V (wA_all _ (by decide +kernel)) cd_M_remove, rfl, by decide +kernel, by decide +kernel, by decide +kernel⟩
theorem cw_W_L_freeze : callVw R6 33 R4 y_L_freeze b_L_freeze 2 none wA wA 1 := ⟨good_V (wA_all _ (by decide +kernel)) cd_L_freeze, rfl, by decide +kernel, by decide +kernel, by decide +kernel⟩
theorem cw_W_M_freeze : callVw R6 37 R5 y_M_freeze b_M_freeze 2 none wA wA 1 := ⟨good_V (wA_all _ (by decide +kernel)) cd_M_freeze, rfl, by decide +kernel, by decide +kernel, by decide +kernel⟩
theorem cw_W_L_plan : callVw R6 38 R4 y_L_plan b_L_plan 6 (some .boolean) wA wA 4 := ⟨good_V (wA_all _ (by decide +kernel)) cd_L_plan, rfl, by decide +kernel, by decide +kernel, by decide +kernel⟩
theorem cw_W_M_plan : callVw R6 42 R5 y_M_plan b_M_plan 5 (some .boolean) wA wA 4 := ⟨good_V (wA_all _ (by decide +kernel)) cd_M_plan, rfl, by decide +kernel, by decide +kernel, by decide +kernel⟩
theorem cw_W_L_fail : callVw R6 43 R4 y_L_fail b_L_fail 6 (some .boolean) wA wA 4 := ⟨good_V (wA_all _ (by decide +kernel)) cd_L_fail, rfl, by decide +kernel, by decide +kernel, by decide +kernel⟩
theorem cw_W_M_fail : callVw R6 46 R5 y_M_fail b_M_fail 5 (some .boolean) wA wA 4 := ⟨good_V (wA_all _ (by decide +kernel)) cd_M_fail, rfl, by decide +kernel, by decide +kernel, by decide +kernel⟩
theorem cw_W_L_calls : callVw R6 47 R4 y_L_calls b_L_calls 4 (some .boolean) wA wA 3 := ⟨good_V (wA_all _ (by decide +kernel)) cd_L_calls, rfl, by decide +kernel, by decide +kernel, by decide +kernel⟩
theorem cw_W_M_calls : callVw R6 50 R5 y_M_calls b_M_calls 4 (some .boolean) wA wA 3 := ⟨good_V (wA_all _ (by decide +kernel)) cd_M_calls, rfl, by decide +kernel, by decide +kernel, by decide +kernel⟩
theorem cw_W_L_source : callVw R6 51 R4 y_L_source b_L_source 2 (some .boolean) wA wA 1 := ⟨good_V (wA_all _ (by decide +kernel)) cd_L_source, rfl, by decide +kernel, by decide +kernel, by decide +kernel⟩
theorem cw_W_M_source : callVw R6 54 R5 y_M_source b_M_source 2 (some .boolean) wA wA 1 := ⟨good_V (wA_all _ (by decide +kernel)) cd_M_source, rfl, by decide +kernel, by decide +kernel, by decide +kernel⟩
theorem cw_W_L_invoke : callVw R6 55 R4 y_L_invoke b_L_invoke 3 (some .int) wA wA 2 := ⟨good_V (wA_all _ (by decide +kernel)) cd_L_invoke, rfl, by decide +kernel, by decide +kernel, by decide +kernel⟩
theorem cw_W_M_invoke : callVw R6 59 R5 y_M_invoke b_M_invoke 3 (some .int) wA wA 2 := ⟨good_V (wA_all _ (by decide +kernel)) cd_M_invoke, rfl, by decide +kernel, by decide +kernel, by decide +kernel⟩
theorem cw_W_L_result : callVw R6 60 R4 y_L_result b_L_result 1 (some .int) wA wA 0 := ⟨good_V (wA_all _ (by decide +kernel)) cd_L_result, rfl, by decide +kernel, by decide +kernel, by decide +kernel⟩
theorem cw_W_M_result : callVw R6 64 R5 y_M_result b_M_result 1 (some .int) wA wA 0 := ⟨good_V (wA_all _ (by decide +kernel)) cd_M_result, rfl, by decide +kernel, by decide +kernel, by decide +kernel⟩
theorem cw_W_L_events : callVw R6 65 R4 y_L_events b_L_events 1 (some .int) wA wA 0 := ⟨good_V (wA_all _ (by decide +kernel)) cd_L_events, rfl, by decide +kernel, by decide +kernel, by decide +kernel⟩
theorem cw_W_M_events : callVw R6 68 R5 y_M_events b_M_events 1 (some .int) wA wA 0 := ⟨good_V (wA_all _ (by decide +kernel)) cd_M_events, rfl, by decide +kernel, by decide +kernel, by decide +kernel⟩
theorem cw_W_L_who : callVw R6 69 R4 y_L_who b_L_who 2 (some .int) wA wA 1 := ⟨good_V (wA_all _ (by decide +kernel)) cd_L_who, rfl, by decide +kernel, by decide +kernel, by decide +kernel⟩
theorem cw_W_M_who : callVw R6 73 R5 y_M_who b_M_who 2 (some .int) wA wA 1 := ⟨good_V (wA_all _ (by decide +kernel)) cd_M_who, rfl, by decide +kernel, by decide +kernel, by decide +kernel⟩
theorem cw_W_L_what : callVw R6 74 R4 y_L_what b_L_what 2 (some .int) wA wA 1 := ⟨good_V (wA_all _ (by decide +kernel)) cd_L_what, rfl, by decide +kernel, by decide +kernel, by decide +kernel⟩
theorem cw_W_M_what : callVw R6 77 R5 y_M_what b_M_what 2 (some .int) wA wA 1 := ⟨good_V (wA_all _ (by decide +kernel)) cd_M_what, rfl, by decide +kernel, by decide +kernel, by decide +kernel⟩
theorem cw_W_L_asked : callVw R6 78 R4 y_L_asked b_L_asked 1 (some .int) wA wA 0 := ⟨good_V (wA_all _ (by decide +kernel)) cd_L_asked, rfl, by decide +kernel, by decide +kernel, by decide +kernel⟩
theorem cw_W_M_asked : callVw R6 81 R5 y_M_asked b_M_asked 1 (some .int) wA wA 0 := ⟨good_V (wA_all _ (by decide +kernel)) cd_M_asked, rfl, by decide +kernel, by decide +kernel, by decide +kernel⟩
theorem cw_W_L_taken : callVw R6 82 R4 y_L_taken b_L_taken 1 (some .int) wA wA 0 := ⟨good_V (wA_all _ (by decide +kernel)) cd_L_taken, rfl, by decide +kernel, by decide +kernel, by decide +kernel⟩
theorem cw_W_M_taken : callVw R6 85 R5 y_M_taken b_M_taken 1 (some .int) wA wA 0 := ⟨good_V (wA_all _ (by decide +kernel)) cd_M_taken, rfl, by decide +kernel, by decide +kernel, by decide +kernel⟩
theorem cw_W_L_chain : callVw R6 86 R4 y_L_chain b_L_chain 3 (some .int) wA wA 2 := ⟨good_V (wA_all _ (by decide +kernel)) cd_L_chain, rfl, by decide +kernel, by decide +kernel, by decide +kernel⟩
theorem cw_W_M_chain : callVw R6 89 R5 y_M_chain b_M_chain 4 (some .int) wA wA 2 := ⟨good_V (wA_all _ (by decide +kernel)) cd_M_chain, rfl, by decide +kernel, by decide +kernel, by decide +kernel⟩
