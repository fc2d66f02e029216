/-! the reference's cells: 0 the object, then its arrays in the order of the fields; at the addresses 27 .. -/
def eM (Γ : Geo) (t : M2) : Nat → va_E
  | 0 => .inr (5, [.int (t 0 0), .int (t 1 0), .int (t 2 0), .ref (Γ.2.1 28), .ref (Γ.2.1 29), .ref (Γ.2.1 30), .ref (Γ.2.1 31), .ref (Γ.2.1 32), .ref (Γ.2.1 33), .ref (Γ.2.1 34), .ref (Γ.2.1 35), .ref (Γ.2.1 36), .ref (Γ.2.1 37), .ref (Γ.2.1 38), .ref (Γ.2.1 39), .ref (Γ.2.1 40), .ref (Γ.2.1 41), .int (t 17 0), .int (t 18 0), .int (t 19 0), .ref (Γ.2.1 42), .ref (Γ.2.1 43), .int (t 22 0), .int (t 23 0), .int (t 24 0), .int (t 25 0), .int (t 26 0), .ref (Γ.2.1 44), .ref (Γ.2.1 45), .int (t 29 0), .ref (Γ.2.1 46), .ref (Γ.2.1 47), .ref (Γ.2.1 48), .ref (Γ.2.1 49), .ref (Γ.2.1 50), .ref (Γ.2.1 51), .int (t 36 0), .int (t 37 0), .int (t 38 0), .int (t 39 0), .int (t 40 0)])
  | 1 => .inl (Γ.2.2.1, 6, .inl (t 3))
  | 2 => .inl (Γ.2.2.1, 6, .inl (t 4))
  | 3 => .inl (Γ.2.2.1, 6, .inl (t 5))
  | 4 => .inl (Γ.2.2.1, 6, .inl (t 6))
  | 5 => .inl (Γ.2.2.1, 6, .inl (t 7))
  | 6 => .inl (Γ.2.2.1, 6, .inl (t 8))
  | 7 => .inl (Γ.2.2.2.2.2, 6, .inl (t 9))
  | 8 => .inl (Γ.2.2.1, 6, .inl (t 10))
  | 9 => .inl (Γ.2.2.1, 6, .inl (t 11))
  | 10 => .inl (Γ.2.2.1, 12, .inl (t 12))
  | 11 => .inl (Γ.2.2.1, 12, .inl (t 13))
  | 12 => .inl (Γ.2.2.1, 12, .inl (t 14))
  | 13 => .inl (Γ.2.2.1, 12, .inl (t 15))
  | 14 => .inl (Γ.2.2.1, 12, .inl (t 16))
  | 15 => .inl (Γ.2.2.1, 100, .inl (t 20))
  | 16 => .inl (Γ.2.2.1, 100, .inl (t 21))
  | 17 => .inl (Γ.2.2.1, 4, .inl (t 27))
  | 18 => .inl (Γ.2.2.1, 4, .inl (t 28))
  | 19 => .inl (Γ.2.2.1, 30, .inl (t 30))
  | 20 => .inl (Γ.2.2.1, 30, .inl (t 31))
  | 21 => .inl (Γ.2.2.1, 30, .inl (t 32))
  | 22 => .inl (Γ.2.2.1, 30, .inl (t 33))
  | 23 => .inl (Γ.2.2.1, 30, .inl (t 34))
  | 24 => .inl (Γ.2.2.2.2.2, 30, .inl (t 35))
  | _ => .inr (5, [])
def wM (Γ : Geo) (t : M2) : va_W := (List.range 25).map (fun k => (Γ.2.1 (k + 27), eM Γ t k))
def inM (Γ : Geo) : Nat → Prop := fun q => ∃ k, k < 25 ∧ q = Γ.2.1 (k + 27)
theorem wM_at {Γ : Geo} {t : M2} {k : Nat} (hk : k < 25) : (wM Γ t)[k]? = some (Γ.2.1 (k + 27), eM Γ t k) := rg_at _ hk
theorem wM_set {Γ : Geo} {t t' : M2} {k : Nat} {e : va_E} (hk : k < 25) (h1 : eM Γ t' k = e) (h2 : ∀ j, j < 25 → j ≠ k → eM Γ t' j = eM Γ t j) : (wM Γ t).set k (Γ.2.1 (k + 27), e) = wM Γ t' := rg_set _ _ hk _ (by rw [h1]) (fun j hj1 hj => by rw [h2 j hj1 hj])
theorem wM_D {A : Nat → Prop} {Γ : Geo} {t t' : M2} (h : va_D A (wM Γ t)) : va_D A (wM Γ t') := rg_D h
theorem wM_G {A : Nat → Prop} {Γ : Geo} {t : M2} (h : va_D A (wM Γ t)) : va_D (inM Γ) (wM Γ t) := by
  refine ⟨h.1, fun k q hk => ?_⟩
  by_cases hi : k < 25
  · rw [wM_at hi] at hk
    cases hk
    exact ⟨k, hi, rfl⟩
  · rw [List.getElem?_eq_none (by simpa [wM] using hi)] at hk
    cases hk
theorem wM_A {A : Nat → Prop} {Γ : Geo} {t : M2} (h : va_D A (wM Γ t)) : ∀ q, inM Γ q → A q := fun q ⟨k, hk, e⟩ => by rw [e]; exact h.2 k _ (wM_at hk)
/-- which cell holds a key -/
def clM : Nat → Nat
  | 3 => 1
  | 4 => 2
  | 5 => 3
  | 6 => 4
  | 7 => 5
  | 8 => 6
  | 9 => 7
  | 10 => 8
  | 11 => 9
  | 12 => 10
  | 13 => 11
  | 14 => 12
  | 15 => 13
  | 16 => 14
  | 20 => 15
  | 21 => 16
  | 27 => 17
  | 28 => 18
  | 30 => 19
  | 31 => 20
  | 32 => 21
  | 33 => 22
  | 34 => 23
  | 35 => 24
  | _ => 0
theorem oM_0 {Γ : Geo} {t : M2} {i : Nat} {v : Int32} : ∀ j, j < 25 → j ≠ 0 → eM Γ (up2 t 0 i v) j = eM Γ t j
  | 0, _, h => absurd rfl h
  | 1, _, _ => rfl
  | 2, _, _ => rfl
  | 3, _, _ => rfl
  | 4, _, _ => rfl
  | 5, _, _ => rfl
  | 6, _, _ => rfl
  | 7, _, _ => rfl
  | 8, _, _ => rfl
  | 9, _, _ => rfl
  | 10, _, _ => rfl
  | 11, _, _ => rfl
  | 12, _, _ => rfl
  | 13, _, _ => rfl
  | 14, _, _ => rfl
  | 15, _, _ => rfl
  | 16, _, _ => rfl
  | 17, _, _ => rfl
  | 18, _, _ => rfl
  | 19, _, _ => rfl
  | 20, _, _ => rfl
  | 21, _, _ => rfl
  | 22, _, _ => rfl
  | 23, _, _ => rfl
  | 24, _, _ => rfl
  | j + 25, h, _ => absurd h (by omega)
theorem oM_1 {Γ : Geo} {t : M2} {i : Nat} {v : Int32} : ∀ j, j < 25 → j ≠ 0 → eM Γ (up2 t 1 i v) j = eM Γ t j
  | 0, _, h => absurd rfl h
  | 1, _, _ => rfl
  | 2, _, _ => rfl
  | 3, _, _ => rfl
  | 4, _, _ => rfl
  | 5, _, _ => rfl
  | 6, _, _ => rfl
  | 7, _, _ => rfl
  | 8, _, _ => rfl
  | 9, _, _ => rfl
  | 10, _, _ => rfl
  | 11, _, _ => rfl
  | 12, _, _ => rfl
  | 13, _, _ => rfl
  | 14, _, _ => rfl
  | 15, _, _ => rfl
  | 16, _, _ => rfl
  | 17, _, _ => rfl
  | 18, _, _ => rfl
  | 19, _, _ => rfl
  | 20, _, _ => rfl
  | 21, _, _ => rfl
  | 22, _, _ => rfl
  | 23, _, _ => rfl
  | 24, _, _ => rfl
  | j + 25, h, _ => absurd h (by omega)
theorem oM_2 {Γ : Geo} {t : M2} {i : Nat} {v : Int32} : ∀ j, j < 25 → j ≠ 0 → eM Γ (up2 t 2 i v) j = eM Γ t j
  | 0, _, h => absurd rfl h
  | 1, _, _ => rfl
  | 2, _, _ => rfl
  | 3, _, _ => rfl
  | 4, _, _ => rfl
  | 5, _, _ => rfl
  | 6, _, _ => rfl
  | 7, _, _ => rfl
  | 8, _, _ => rfl
  | 9, _, _ => rfl
  | 10, _, _ => rfl
  | 11, _, _ => rfl
  | 12, _, _ => rfl
  | 13, _, _ => rfl
  | 14, _, _ => rfl
  | 15, _, _ => rfl
  | 16, _, _ => rfl
  | 17, _, _ => rfl
  | 18, _, _ => rfl
  | 19, _, _ => rfl
  | 20, _, _ => rfl
  | 21, _, _ => rfl
  | 22, _, _ => rfl
  | 23, _, _ => rfl
  | 24, _, _ => rfl
  | j + 25, h, _ => absurd h (by omega)
theorem oM_3 {Γ : Geo} {t : M2} {i : Nat} {v : Int32} : ∀ j, j < 25 → j ≠ 1 → eM Γ (up2 t 3 i v) j = eM Γ t j
  | 0, _, _ => rfl
  | 1, _, h => absurd rfl h
  | 2, _, _ => rfl
  | 3, _, _ => rfl
  | 4, _, _ => rfl
  | 5, _, _ => rfl
  | 6, _, _ => rfl
  | 7, _, _ => rfl
  | 8, _, _ => rfl
  | 9, _, _ => rfl
  | 10, _, _ => rfl
  | 11, _, _ => rfl
  | 12, _, _ => rfl
  | 13, _, _ => rfl
  | 14, _, _ => rfl
  | 15, _, _ => rfl
  | 16, _, _ => rfl
  | 17, _, _ => rfl
  | 18, _, _ => rfl
  | 19, _, _ => rfl
  | 20, _, _ => rfl
  | 21, _, _ => rfl
  | 22, _, _ => rfl
  | 23, _, _ => rfl
  | 24, _, _ => rfl
  | j + 25, h, _ => absurd h (by omega)
theorem oM_4 {Γ : Geo} {t : M2} {i : Nat} {v : Int32} : ∀ j, j < 25 → j ≠ 2 → eM Γ (up2 t 4 i v) j = eM Γ t j
  | 0, _, _ => rfl
  | 1, _, _ => rfl
  | 2, _, h => absurd rfl h
  | 3, _, _ => rfl
  | 4, _, _ => rfl
  | 5, _, _ => rfl
  | 6, _, _ => rfl
  | 7, _, _ => rfl
  | 8, _, _ => rfl
  | 9, _, _ => rfl
  | 10, _, _ => rfl
  | 11, _, _ => rfl
  | 12, _, _ => rfl
  | 13, _, _ => rfl
  | 14, _, _ => rfl
  | 15, _, _ => rfl
  | 16, _, _ => rfl
  | 17, _, _ => rfl
  | 18, _, _ => rfl
  | 19, _, _ => rfl
  | 20, _, _ => rfl
  | 21, _, _ => rfl
  | 22, _, _ => rfl
  | 23, _, _ => rfl
  | 24, _, _ => rfl
  | j + 25, h, _ => absurd h (by omega)
theorem oM_5 {Γ : Geo} {t : M2} {i : Nat} {v : Int32} : ∀ j, j < 25 → j ≠ 3 → eM Γ (up2 t 5 i v) j = eM Γ t j
  | 0, _, _ => rfl
  | 1, _, _ => rfl
  | 2, _, _ => rfl
  | 3, _, h => absurd rfl h
  | 4, _, _ => rfl
  | 5, _, _ => rfl
  | 6, _, _ => rfl
  | 7, _, _ => rfl
  | 8, _, _ => rfl
  | 9, _, _ => rfl
  | 10, _, _ => rfl
  | 11, _, _ => rfl
  | 12, _, _ => rfl
  | 13, _, _ => rfl
  | 14, _, _ => rfl
  | 15, _, _ => rfl
  | 16, _, _ => rfl
  | 17, _, _ => rfl
  | 18, _, _ => rfl
  | 19, _, _ => rfl
  | 20, _, _ => rfl
  | 21, _, _ => rfl
  | 22, _, _ => rfl
  | 23, _, _ => rfl
  | 24, _, _ => rfl
  | j + 25, h, _ => absurd h (by omega)
theorem oM_6 {Γ : Geo} {t : M2} {i : Nat} {v : Int32} : ∀ j, j < 25 → j ≠ 4 → eM Γ (up2 t 6 i v) j = eM Γ t j
  | 0, _, _ => rfl
  | 1, _, _ => rfl
  | 2, _, _ => rfl
  | 3, _, _ => rfl
  | 4, _, h => absurd rfl h
  | 5, _, _ => rfl
  | 6, _, _ => rfl
  | 7, _, _ => rfl
  | 8, _, _ => rfl
  | 9, _, _ => rfl
  | 10, _, _ => rfl
  | 11, _, _ => rfl
  | 12, _, _ => rfl
  | 13, _, _ => rfl
  | 14, _, _ => rfl
  | 15, _, _ => rfl
  | 16, _, _ => rfl
  | 17, _, _ => rfl
  | 18, _, _ => rfl
  | 19, _, _ => rfl
  | 20, _, _ => rfl
  | 21, _, _ => rfl
  | 22, _, _ => rfl
  | 23, _, _ => rfl
  | 24, _, _ => rfl
  | j + 25, h, _ => absurd h (by omega)
theorem oM_7 {Γ : Geo} {t : M2} {i : Nat} {v : Int32} : ∀ j, j < 25 → j ≠ 5 → eM Γ (up2 t 7 i v) j = eM Γ t j
  | 0, _, _ => rfl
  | 1, _, _ => rfl
  | 2, _, _ => rfl
  | 3, _, _ => rfl
  | 4, _, _ => rfl
  | 5, _, h => absurd rfl h
  | 6, _, _ => rfl
  | 7, _, _ => rfl
  | 8, _, _ => rfl
  | 9, _, _ => rfl
  | 10, _, _ => rfl
  | 11, _, _ => rfl
  | 12, _, _ => rfl
  | 13, _, _ => rfl
  | 14, _, _ => rfl
  | 15, _, _ => rfl
  | 16, _, _ => rfl
  | 17, _, _ => rfl
  | 18, _, _ => rfl
  | 19, _, _ => rfl
  | 20, _, _ => rfl
  | 21, _, _ => rfl
  | 22, _, _ => rfl
  | 23, _, _ => rfl
  | 24, _, _ => rfl
  | j + 25, h, _ => absurd h (by omega)
theorem oM_8 {Γ : Geo} {t : M2} {i : Nat} {v : Int32} : ∀ j, j < 25 → j ≠ 6 → eM Γ (up2 t 8 i v) j = eM Γ t j
  | 0, _, _ => rfl
  | 1, _, _ => rfl
  | 2, _, _ => rfl
  | 3, _, _ => rfl
  | 4, _, _ => rfl
  | 5, _, _ => rfl
  | 6, _, h => absurd rfl h
  | 7, _, _ => rfl
  | 8, _, _ => rfl
  | 9, _, _ => rfl
  | 10, _, _ => rfl
  | 11, _, _ => rfl
  | 12, _, _ => rfl
  | 13, _, _ => rfl
  | 14, _, _ => rfl
  | 15, _, _ => rfl
  | 16, _, _ => rfl
  | 17, _, _ => rfl
  | 18, _, _ => rfl
  | 19, _, _ => rfl
  | 20, _, _ => rfl
  | 21, _, _ => rfl
  | 22, _, _ => rfl
  | 23, _, _ => rfl
  | 24, _, _ => rfl
  | j + 25, h, _ => absurd h (by omega)
theorem oM_9 {Γ : Geo} {t : M2} {i : Nat} {v : Int32} : ∀ j, j < 25 → j ≠ 7 → eM Γ (up2 t 9 i v) j = eM Γ t j
  | 0, _, _ => rfl
  | 1, _, _ => rfl
  | 2, _, _ => rfl
  | 3, _, _ => rfl
  | 4, _, _ => rfl
  | 5, _, _ => rfl
  | 6, _, _ => rfl
  | 7, _, h => absurd rfl h
  | 8, _, _ => rfl
  | 9, _, _ => rfl
  | 10, _, _ => rfl
  | 11, _, _ => rfl
  | 12, _, _ => rfl
  | 13, _, _ => rfl
  | 14, _, _ => rfl
  | 15, _, _ => rfl
  | 16, _, _ => rfl
  | 17, _, _ => rfl
  | 18, _, _ => rfl
  | 19, _, _ => rfl
  | 20, _, _ => rfl
  | 21, _, _ => rfl
  | 22, _, _ => rfl
  | 23, _, _ => rfl
  | 24, _, _ => rfl
  | j + 25, h, _ => absurd h (by omega)
theorem oM_10 {Γ : Geo} {t : M2} {i : Nat} {v : Int32} : ∀ j, j < 25 → j ≠ 8 → eM Γ (up2 t 10 i v) j = eM Γ t j
  | 0, _, _ => rfl
  | 1, _, _ => rfl
  | 2, _, _ => rfl
  | 3, _, _ => rfl
  | 4, _, _ => rfl
  | 5, _, _ => rfl
  | 6, _, _ => rfl
  | 7, _, _ => rfl
  | 8, _, h => absurd rfl h
  | 9, _, _ => rfl
  | 10, _, _ => rfl
  | 11, _, _ => rfl
  | 12, _, _ => rfl
  | 13, _, _ => rfl
  | 14, _, _ => rfl
  | 15, _, _ => rfl
  | 16, _, _ => rfl
  | 17, _, _ => rfl
  | 18, _, _ => rfl
  | 19, _, _ => rfl
  | 20, _, _ => rfl
  | 21, _, _ => rfl
  | 22, _, _ => rfl
  | 23, _, _ => rfl
  | 24, _, _ => rfl
  | j + 25, h, _ => absurd h (by omega)
theorem oM_11 {Γ : Geo} {t : M2} {i : Nat} {v : Int32} : ∀ j, j < 25 → j ≠ 9 → eM Γ (up2 t 11 i v) j = eM Γ t j
  | 0, _, _ => rfl
  | 1, _, _ => rfl
  | 2, _, _ => rfl
  | 3, _, _ => rfl
  | 4, _, _ => rfl
  | 5, _, _ => rfl
  | 6, _, _ => rfl
  | 7, _, _ => rfl
  | 8, _, _ => rfl
  | 9, _, h => absurd rfl h
  | 10, _, _ => rfl
  | 11, _, _ => rfl
  | 12, _, _ => rfl
  | 13, _, _ => rfl
  | 14, _, _ => rfl
  | 15, _, _ => rfl
  | 16, _, _ => rfl
  | 17, _, _ => rfl
  | 18, _, _ => rfl
  | 19, _, _ => rfl
  | 20, _, _ => rfl
  | 21, _, _ => rfl
  | 22, _, _ => rfl
  | 23, _, _ => rfl
  | 24, _, _ => rfl
  | j + 25, h, _ => absurd h (by omega)
theorem oM_12 {Γ : Geo} {t : M2} {i : Nat} {v : Int32} : ∀ j, j < 25 → j ≠ 10 → eM Γ (up2 t 12 i v) j = eM Γ t j
  | 0, _, _ => rfl
  | 1, _, _ => rfl
  | 2, _, _ => rfl
  | 3, _, _ => rfl
  | 4, _, _ => rfl
  | 5, _, _ => rfl
  | 6, _, _ => rfl
  | 7, _, _ => rfl
  | 8, _, _ => rfl
  | 9, _, _ => rfl
  | 10, _, h => absurd rfl h
  | 11, _, _ => rfl
  | 12, _, _ => rfl
  | 13, _, _ => rfl
  | 14, _, _ => rfl
  | 15, _, _ => rfl
  | 16, _, _ => rfl
  | 17, _, _ => rfl
  | 18, _, _ => rfl
  | 19, _, _ => rfl
  | 20, _, _ => rfl
  | 21, _, _ => rfl
  | 22, _, _ => rfl
  | 23, _, _ => rfl
  | 24, _, _ => rfl
  | j + 25, h, _ => absurd h (by omega)
theorem oM_13 {Γ : Geo} {t : M2} {i : Nat} {v : Int32} : ∀ j, j < 25 → j ≠ 11 → eM Γ (up2 t 13 i v) j = eM Γ t j
  | 0, _, _ => rfl
  | 1, _, _ => rfl
  | 2, _, _ => rfl
  | 3, _, _ => rfl
  | 4, _, _ => rfl
  | 5, _, _ => rfl
  | 6, _, _ => rfl
  | 7, _, _ => rfl
  | 8, _, _ => rfl
  | 9, _, _ => rfl
  | 10, _, _ => rfl
  | 11, _, h => absurd rfl h
  | 12, _, _ => rfl
  | 13, _, _ => rfl
  | 14, _, _ => rfl
  | 15, _, _ => rfl
  | 16, _, _ => rfl
  | 17, _, _ => rfl
  | 18, _, _ => rfl
  | 19, _, _ => rfl
  | 20, _, _ => rfl
  | 21, _, _ => rfl
  | 22, _, _ => rfl
  | 23, _, _ => rfl
  | 24, _, _ => rfl
  | j + 25, h, _ => absurd h (by omega)
theorem oM_14 {Γ : Geo} {t : M2} {i : Nat} {v : Int32} : ∀ j, j < 25 → j ≠ 12 → eM Γ (up2 t 14 i v) j = eM Γ t j
  | 0, _, _ => rfl
  | 1, _, _ => rfl
  | 2, _, _ => rfl
  | 3, _, _ => rfl
  | 4, _, _ => rfl
  | 5, _, _ => rfl
  | 6, _, _ => rfl
  | 7, _, _ => rfl
  | 8, _, _ => rfl
  | 9, _, _ => rfl
  | 10, _, _ => rfl
  | 11, _, _ => rfl
  | 12, _, h => absurd rfl h
  | 13, _, _ => rfl
  | 14, _, _ => rfl
  | 15, _, _ => rfl
  | 16, _, _ => rfl
  | 17, _, _ => rfl
  | 18, _, _ => rfl
  | 19, _, _ => rfl
  | 20, _, _ => rfl
  | 21, _, _ => rfl
  | 22, _, _ => rfl
  | 23, _, _ => rfl
  | 24, _, _ => rfl
  | j + 25, h, _ => absurd h (by omega)
theorem oM_15 {Γ : Geo} {t : M2} {i : Nat} {v : Int32} : ∀ j, j < 25 → j ≠ 13 → eM Γ (up2 t 15 i v) j = eM Γ t j
  | 0, _, _ => rfl
  | 1, _, _ => rfl
  | 2, _, _ => rfl
  | 3, _, _ => rfl
  | 4, _, _ => rfl
  | 5, _, _ => rfl
  | 6, _, _ => rfl
  | 7, _, _ => rfl
  | 8, _, _ => rfl
  | 9, _, _ => rfl
  | 10, _, _ => rfl
  | 11, _, _ => rfl
  | 12, _, _ => rfl
  | 13, _, h => absurd rfl h
  | 14, _, _ => rfl
  | 15, _, _ => rfl
  | 16, _, _ => rfl
  | 17, _, _ => rfl
  | 18, _, _ => rfl
  | 19, _, _ => rfl
  | 20, _, _ => rfl
  | 21, _, _ => rfl
  | 22, _, _ => rfl
  | 23, _, _ => rfl
  | 24, _, _ => rfl
  | j + 25, h, _ => absurd h (by omega)
theorem oM_16 {Γ : Geo} {t : M2} {i : Nat} {v : Int32} : ∀ j, j < 25 → j ≠ 14 → eM Γ (up2 t 16 i v) j = eM Γ t j
  | 0, _, _ => rfl
  | 1, _, _ => rfl
  | 2, _, _ => rfl
  | 3, _, _ => rfl
  | 4, _, _ => rfl
  | 5, _, _ => rfl
  | 6, _, _ => rfl
  | 7, _, _ => rfl
  | 8, _, _ => rfl
  | 9, _, _ => rfl
  | 10, _, _ => rfl
  | 11, _, _ => rfl
  | 12, _, _ => rfl
  | 13, _, _ => rfl
  | 14, _, h => absurd rfl h
  | 15, _, _ => rfl
  | 16, _, _ => rfl
  | 17, _, _ => rfl
  | 18, _, _ => rfl
  | 19, _, _ => rfl
  | 20, _, _ => rfl
  | 21, _, _ => rfl
  | 22, _, _ => rfl
  | 23, _, _ => rfl
  | 24, _, _ => rfl
  | j + 25, h, _ => absurd h (by omega)
theorem oM_17 {Γ : Geo} {t : M2} {i : Nat} {v : Int32} : ∀ j, j < 25 → j ≠ 0 → eM Γ (up2 t 17 i v) j = eM Γ t j
  | 0, _, h => absurd rfl h
  | 1, _, _ => rfl
  | 2, _, _ => rfl
  | 3, _, _ => rfl
  | 4, _, _ => rfl
  | 5, _, _ => rfl
  | 6, _, _ => rfl
  | 7, _, _ => rfl
  | 8, _, _ => rfl
  | 9, _, _ => rfl
  | 10, _, _ => rfl
  | 11, _, _ => rfl
  | 12, _, _ => rfl
  | 13, _, _ => rfl
  | 14, _, _ => rfl
  | 15, _, _ => rfl
  | 16, _, _ => rfl
  | 17, _, _ => rfl
  | 18, _, _ => rfl
  | 19, _, _ => rfl
  | 20, _, _ => rfl
  | 21, _, _ => rfl
  | 22, _, _ => rfl
  | 23, _, _ => rfl
  | 24, _, _ => rfl
  | j + 25, h, _ => absurd h (by omega)
theorem oM_18 {Γ : Geo} {t : M2} {i : Nat} {v : Int32} : ∀ j, j < 25 → j ≠ 0 → eM Γ (up2 t 18 i v) j = eM Γ t j
  | 0, _, h => absurd rfl h
  | 1, _, _ => rfl
  | 2, _, _ => rfl
  | 3, _, _ => rfl
  | 4, _, _ => rfl
  | 5, _, _ => rfl
  | 6, _, _ => rfl
  | 7, _, _ => rfl
  | 8, _, _ => rfl
  | 9, _, _ => rfl
  | 10, _, _ => rfl
  | 11, _, _ => rfl
  | 12, _, _ => rfl
  | 13, _, _ => rfl
  | 14, _, _ => rfl
  | 15, _, _ => rfl
  | 16, _, _ => rfl
  | 17, _, _ => rfl
  | 18, _, _ => rfl
  | 19, _, _ => rfl
  | 20, _, _ => rfl
  | 21, _, _ => rfl
  | 22, _, _ => rfl
  | 23, _, _ => rfl
  | 24, _, _ => rfl
  | j + 25, h, _ => absurd h (by omega)
theorem oM_19 {Γ : Geo} {t : M2} {i : Nat} {v : Int32} : ∀ j, j < 25 → j ≠ 0 → eM Γ (up2 t 19 i v) j = eM Γ t j
  | 0, _, h => absurd rfl h
  | 1, _, _ => rfl
  | 2, _, _ => rfl
  | 3, _, _ => rfl
  | 4, _, _ => rfl
  | 5, _, _ => rfl
  | 6, _, _ => rfl
  | 7, _, _ => rfl
  | 8, _, _ => rfl
  | 9, _, _ => rfl
  | 10, _, _ => rfl
  | 11, _, _ => rfl
  | 12, _, _ => rfl
  | 13, _, _ => rfl
  | 14, _, _ => rfl
  | 15, _, _ => rfl
  | 16, _, _ => rfl
  | 17, _, _ => rfl
  | 18, _, _ => rfl
  | 19, _, _ => rfl
  | 20, _, _ => rfl
  | 21, _, _ => rfl
  | 22, _, _ => rfl
  | 23, _, _ => rfl
  | 24, _, _ => rfl
  | j + 25, h, _ => absurd h (by omega)
theorem oM_20 {Γ : Geo} {t : M2} {i : Nat} {v : Int32} : ∀ j, j < 25 → j ≠ 15 → eM Γ (up2 t 20 i v) j = eM Γ t j
  | 0, _, _ => rfl
  | 1, _, _ => rfl
  | 2, _, _ => rfl
  | 3, _, _ => rfl
  | 4, _, _ => rfl
  | 5, _, _ => rfl
  | 6, _, _ => rfl
  | 7, _, _ => rfl
  | 8, _, _ => rfl
  | 9, _, _ => rfl
  | 10, _, _ => rfl
  | 11, _, _ => rfl
  | 12, _, _ => rfl
  | 13, _, _ => rfl
  | 14, _, _ => rfl
  | 15, _, h => absurd rfl h
  | 16, _, _ => rfl
  | 17, _, _ => rfl
  | 18, _, _ => rfl
  | 19, _, _ => rfl
  | 20, _, _ => rfl
  | 21, _, _ => rfl
  | 22, _, _ => rfl
  | 23, _, _ => rfl
  | 24, _, _ => rfl
  | j + 25, h, _ => absurd h (by omega)
theorem oM_21 {Γ : Geo} {t : M2} {i : Nat} {v : Int32} : ∀ j, j < 25 → j ≠ 16 → eM Γ (up2 t 21 i v) j = eM Γ t j
  | 0, _, _ => rfl
  | 1, _, _ => rfl
  | 2, _, _ => rfl
  | 3, _, _ => rfl
  | 4, _, _ => rfl
  | 5, _, _ => rfl
  | 6, _, _ => rfl
  | 7, _, _ => rfl
  | 8, _, _ => rfl
  | 9, _, _ => rfl
  | 10, _, _ => rfl
  | 11, _, _ => rfl
  | 12, _, _ => rfl
  | 13, _, _ => rfl
  | 14, _, _ => rfl
  | 15, _, _ => rfl
  | 16, _, h => absurd rfl h
  | 17, _, _ => rfl
  | 18, _, _ => rfl
  | 19, _, _ => rfl
  | 20, _, _ => rfl
  | 21, _, _ => rfl
  | 22, _, _ => rfl
  | 23, _, _ => rfl
  | 24, _, _ => rfl
  | j + 25, h, _ => absurd h (by omega)
theorem oM_22 {Γ : Geo} {t : M2} {i : Nat} {v : Int32} : ∀ j, j < 25 → j ≠ 0 → eM Γ (up2 t 22 i v) j = eM Γ t j
  | 0, _, h => absurd rfl h
  | 1, _, _ => rfl
  | 2, _, _ => rfl
  | 3, _, _ => rfl
  | 4, _, _ => rfl
  | 5, _, _ => rfl
  | 6, _, _ => rfl
  | 7, _, _ => rfl
  | 8, _, _ => rfl
  | 9, _, _ => rfl
  | 10, _, _ => rfl
  | 11, _, _ => rfl
  | 12, _, _ => rfl
  | 13, _, _ => rfl
  | 14, _, _ => rfl
  | 15, _, _ => rfl
  | 16, _, _ => rfl
  | 17, _, _ => rfl
  | 18, _, _ => rfl
  | 19, _, _ => rfl
  | 20, _, _ => rfl
  | 21, _, _ => rfl
  | 22, _, _ => rfl
  | 23, _, _ => rfl
  | 24, _, _ => rfl
  | j + 25, h, _ => absurd h (by omega)
theorem oM_23 {Γ : Geo} {t : M2} {i : Nat} {v : Int32} : ∀ j, j < 25 → j ≠ 0 → eM Γ (up2 t 23 i v) j = eM Γ t j
  | 0, _, h => absurd rfl h
  | 1, _, _ => rfl
  | 2, _, _ => rfl
  | 3, _, _ => rfl
  | 4, _, _ => rfl
  | 5, _, _ => rfl
  | 6, _, _ => rfl
  | 7, _, _ => rfl
  | 8, _, _ => rfl
  | 9, _, _ => rfl
  | 10, _, _ => rfl
  | 11, _, _ => rfl
  | 12, _, _ => rfl
  | 13, _, _ => rfl
  | 14, _, _ => rfl
  | 15, _, _ => rfl
  | 16, _, _ => rfl
  | 17, _, _ => rfl
  | 18, _, _ => rfl
  | 19, _, _ => rfl
  | 20, _, _ => rfl
  | 21, _, _ => rfl
  | 22, _, _ => rfl
  | 23, _, _ => rfl
  | 24, _, _ => rfl
  | j + 25, h, _ => absurd h (by omega)
theorem oM_24 {Γ : Geo} {t : M2} {i : Nat} {v : Int32} : ∀ j, j < 25 → j ≠ 0 → eM Γ (up2 t 24 i v) j = eM Γ t j
  | 0, _, h => absurd rfl h
  | 1, _, _ => rfl
  | 2, _, _ => rfl
  | 3, _, _ => rfl
  | 4, _, _ => rfl
  | 5, _, _ => rfl
  | 6, _, _ => rfl
  | 7, _, _ => rfl
  | 8, _, _ => rfl
  | 9, _, _ => rfl
  | 10, _, _ => rfl
  | 11, _, _ => rfl
  | 12, _, _ => rfl
  | 13, _, _ => rfl
  | 14, _, _ => rfl
  | 15, _, _ => rfl
  | 16, _, _ => rfl
  | 17, _, _ => rfl
  | 18, _, _ => rfl
  | 19, _, _ => rfl
  | 20, _, _ => rfl
  | 21, _, _ => rfl
  | 22, _, _ => rfl
  | 23, _, _ => rfl
  | 24, _, _ => rfl
  | j + 25, h, _ => absurd h (by omega)
theorem oM_25 {Γ : Geo} {t : M2} {i : Nat} {v : Int32} : ∀ j, j < 25 → j ≠ 0 → eM Γ (up2 t 25 i v) j = eM Γ t j
  | 0, _, h => absurd rfl h
  | 1, _, _ => rfl
  | 2, _, _ => rfl
  | 3, _, _ => rfl
  | 4, _, _ => rfl
  | 5, _, _ => rfl
  | 6, _, _ => rfl
  | 7, _, _ => rfl
  | 8, _, _ => rfl
  | 9, _, _ => rfl
  | 10, _, _ => rfl
  | 11, _, _ => rfl
  | 12, _, _ => rfl
  | 13, _, _ => rfl
  | 14, _, _ => rfl
  | 15, _, _ => rfl
  | 16, _, _ => rfl
  | 17, _, _ => rfl
  | 18, _, _ => rfl
  | 19, _, _ => rfl
  | 20, _, _ => rfl
  | 21, _, _ => rfl
  | 22, _, _ => rfl
  | 23, _, _ => rfl
  | 24, _, _ => rfl
  | j + 25, h, _ => absurd h (by omega)
theorem oM_26 {Γ : Geo} {t : M2} {i : Nat} {v : Int32} : ∀ j, j < 25 → j ≠ 0 → eM Γ (up2 t 26 i v) j = eM Γ t j
  | 0, _, h => absurd rfl h
  | 1, _, _ => rfl
  | 2, _, _ => rfl
  | 3, _, _ => rfl
  | 4, _, _ => rfl
  | 5, _, _ => rfl
  | 6, _, _ => rfl
  | 7, _, _ => rfl
  | 8, _, _ => rfl
  | 9, _, _ => rfl
  | 10, _, _ => rfl
  | 11, _, _ => rfl
  | 12, _, _ => rfl
  | 13, _, _ => rfl
  | 14, _, _ => rfl
  | 15, _, _ => rfl
  | 16, _, _ => rfl
  | 17, _, _ => rfl
  | 18, _, _ => rfl
  | 19, _, _ => rfl
  | 20, _, _ => rfl
  | 21, _, _ => rfl
  | 22, _, _ => rfl
  | 23, _, _ => rfl
  | 24, _, _ => rfl
  | j + 25, h, _ => absurd h (by omega)
theorem oM_27 {Γ : Geo} {t : M2} {i : Nat} {v : Int32} : ∀ j, j < 25 → j ≠ 17 → eM Γ (up2 t 27 i v) j = eM Γ t j
  | 0, _, _ => rfl
  | 1, _, _ => rfl
  | 2, _, _ => rfl
  | 3, _, _ => rfl
  | 4, _, _ => rfl
  | 5, _, _ => rfl
  | 6, _, _ => rfl
  | 7, _, _ => rfl
  | 8, _, _ => rfl
  | 9, _, _ => rfl
  | 10, _, _ => rfl
  | 11, _, _ => rfl
  | 12, _, _ => rfl
  | 13, _, _ => rfl
  | 14, _, _ => rfl
  | 15, _, _ => rfl
  | 16, _, _ => rfl
  | 17, _, h => absurd rfl h
  | 18, _, _ => rfl
  | 19, _, _ => rfl
  | 20, _, _ => rfl
  | 21, _, _ => rfl
  | 22, _, _ => rfl
  | 23, _, _ => rfl
  | 24, _, _ => rfl
  | j + 25, h, _ => absurd h (by omega)
theorem oM_28 {Γ : Geo} {t : M2} {i : Nat} {v : Int32} : ∀ j, j < 25 → j ≠ 18 → eM Γ (up2 t 28 i v) j = eM Γ t j
  | 0, _, _ => rfl
  | 1, _, _ => rfl
  | 2, _, _ => rfl
  | 3, _, _ => rfl
  | 4, _, _ => rfl
  | 5, _, _ => rfl
  | 6, _, _ => rfl
  | 7, _, _ => rfl
  | 8, _, _ => rfl
  | 9, _, _ => rfl
  | 10, _, _ => rfl
  | 11, _, _ => rfl
  | 12, _, _ => rfl
  | 13, _, _ => rfl
  | 14, _, _ => rfl
  | 15, _, _ => rfl
  | 16, _, _ => rfl
  | 17, _, _ => rfl
  | 18, _, h => absurd rfl h
  | 19, _, _ => rfl
  | 20, _, _ => rfl
  | 21, _, _ => rfl
  | 22, _, _ => rfl
  | 23, _, _ => rfl
  | 24, _, _ => rfl
  | j + 25, h, _ => absurd h (by omega)
theorem oM_29 {Γ : Geo} {t : M2} {i : Nat} {v : Int32} : ∀ j, j < 25 → j ≠ 0 → eM Γ (up2 t 29 i v) j = eM Γ t j
  | 0, _, h => absurd rfl h
  | 1, _, _ => rfl
  | 2, _, _ => rfl
  | 3, _, _ => rfl
  | 4, _, _ => rfl
  | 5, _, _ => rfl
  | 6, _, _ => rfl
  | 7, _, _ => rfl
  | 8, _, _ => rfl
  | 9, _, _ => rfl
  | 10, _, _ => rfl
  | 11, _, _ => rfl
  | 12, _, _ => rfl
  | 13, _, _ => rfl
  | 14, _, _ => rfl
  | 15, _, _ => rfl
  | 16, _, _ => rfl
  | 17, _, _ => rfl
  | 18, _, _ => rfl
  | 19, _, _ => rfl
  | 20, _, _ => rfl
  | 21, _, _ => rfl
  | 22, _, _ => rfl
  | 23, _, _ => rfl
  | 24, _, _ => rfl
  | j + 25, h, _ => absurd h (by omega)
theorem oM_30 {Γ : Geo} {t : M2} {i : Nat} {v : Int32} : ∀ j, j < 25 → j ≠ 19 → eM Γ (up2 t 30 i v) j = eM Γ t j
  | 0, _, _ => rfl
  | 1, _, _ => rfl
  | 2, _, _ => rfl
  | 3, _, _ => rfl
  | 4, _, _ => rfl
  | 5, _, _ => rfl
  | 6, _, _ => rfl
  | 7, _, _ => rfl
  | 8, _, _ => rfl
  | 9, _, _ => rfl
  | 10, _, _ => rfl
  | 11, _, _ => rfl
  | 12, _, _ => rfl
  | 13, _, _ => rfl
  | 14, _, _ => rfl
  | 15, _, _ => rfl
  | 16, _, _ => rfl
  | 17, _, _ => rfl
  | 18, _, _ => rfl
  | 19, _, h => absurd rfl h
  | 20, _, _ => rfl
  | 21, _, _ => rfl
  | 22, _, _ => rfl
  | 23, _, _ => rfl
  | 24, _, _ => rfl
  | j + 25, h, _ => absurd h (by omega)
theorem oM_31 {Γ : Geo} {t : M2} {i : Nat} {v : Int32} : ∀ j, j < 25 → j ≠ 20 → eM Γ (up2 t 31 i v) j = eM Γ t j
  | 0, _, _ => rfl
  | 1, _, _ => rfl
  | 2, _, _ => rfl
  | 3, _, _ => rfl
  | 4, _, _ => rfl
  | 5, _, _ => rfl
  | 6, _, _ => rfl
  | 7, _, _ => rfl
  | 8, _, _ => rfl
  | 9, _, _ => rfl
  | 10, _, _ => rfl
  | 11, _, _ => rfl
  | 12, _, _ => rfl
  | 13, _, _ => rfl
  | 14, _, _ => rfl
  | 15, _, _ => rfl
  | 16, _, _ => rfl
  | 17, _, _ => rfl
  | 18, _, _ => rfl
  | 19, _, _ => rfl
  | 20, _, h => absurd rfl h
  | 21, _, _ => rfl
  | 22, _, _ => rfl
  | 23, _, _ => rfl
  | 24, _, _ => rfl
  | j + 25, h, _ => absurd h (by omega)
theorem oM_32 {Γ : Geo} {t : M2} {i : Nat} {v : Int32} : ∀ j, j < 25 → j ≠ 21 → eM Γ (up2 t 32 i v) j = eM Γ t j
  | 0, _, _ => rfl
  | 1, _, _ => rfl
  | 2, _, _ => rfl
  | 3, _, _ => rfl
  | 4, _, _ => rfl
  | 5, _, _ => rfl
  | 6, _, _ => rfl
  | 7, _, _ => rfl
  | 8, _, _ => rfl
  | 9, _, _ => rfl
  | 10, _, _ => rfl
  | 11, _, _ => rfl
  | 12, _, _ => rfl
  | 13, _, _ => rfl
  | 14, _, _ => rfl
  | 15, _, _ => rfl
  | 16, _, _ => rfl
  | 17, _, _ => rfl
  | 18, _, _ => rfl
  | 19, _, _ => rfl
  | 20, _, _ => rfl
  | 21, _, h => absurd rfl h
  | 22, _, _ => rfl
  | 23, _, _ => rfl
  | 24, _, _ => rfl
  | j + 25, h, _ => absurd h (by omega)
theorem oM_33 {Γ : Geo} {t : M2} {i : Nat} {v : Int32} : ∀ j, j < 25 → j ≠ 22 → eM Γ (up2 t 33 i v) j = eM Γ t j
  | 0, _, _ => rfl
  | 1, _, _ => rfl
  | 2, _, _ => rfl
  | 3, _, _ => rfl
  | 4, _, _ => rfl
  | 5, _, _ => rfl
  | 6, _, _ => rfl
  | 7, _, _ => rfl
  | 8, _, _ => rfl
  | 9, _, _ => rfl
  | 10, _, _ => rfl
  | 11, _, _ => rfl
  | 12, _, _ => rfl
  | 13, _, _ => rfl
  | 14, _, _ => rfl
  | 15, _, _ => rfl
  | 16, _, _ => rfl
  | 17, _, _ => rfl
  | 18, _, _ => rfl
  | 19, _, _ => rfl
  | 20, _, _ => rfl
  | 21, _, _ => rfl
  | 22, _, h => absurd rfl h
  | 23, _, _ => rfl
  | 24, _, _ => rfl
  | j + 25, h, _ => absurd h (by omega)
theorem oM_34 {Γ : Geo} {t : M2} {i : Nat} {v : Int32} : ∀ j, j < 25 → j ≠ 23 → eM Γ (up2 t 34 i v) j = eM Γ t j
  | 0, _, _ => rfl
  | 1, _, _ => rfl
  | 2, _, _ => rfl
  | 3, _, _ => rfl
  | 4, _, _ => rfl
  | 5, _, _ => rfl
  | 6, _, _ => rfl
  | 7, _, _ => rfl
  | 8, _, _ => rfl
  | 9, _, _ => rfl
  | 10, _, _ => rfl
  | 11, _, _ => rfl
  | 12, _, _ => rfl
  | 13, _, _ => rfl
  | 14, _, _ => rfl
  | 15, _, _ => rfl
  | 16, _, _ => rfl
  | 17, _, _ => rfl
  | 18, _, _ => rfl
  | 19, _, _ => rfl
  | 20, _, _ => rfl
  | 21, _, _ => rfl
  | 22, _, _ => rfl
  | 23, _, h => absurd rfl h
  | 24, _, _ => rfl
  | j + 25, h, _ => absurd h (by omega)
theorem oM_35 {Γ : Geo} {t : M2} {i : Nat} {v : Int32} : ∀ j, j < 25 → j ≠ 24 → eM Γ (up2 t 35 i v) j = eM Γ t j
  | 0, _, _ => rfl
  | 1, _, _ => rfl
  | 2, _, _ => rfl
  | 3, _, _ => rfl
  | 4, _, _ => rfl
  | 5, _, _ => rfl
  | 6, _, _ => rfl
  | 7, _, _ => rfl
  | 8, _, _ => rfl
  | 9, _, _ => rfl
  | 10, _, _ => rfl
  | 11, _, _ => rfl
  | 12, _, _ => rfl
  | 13, _, _ => rfl
  | 14, _, _ => rfl
  | 15, _, _ => rfl
  | 16, _, _ => rfl
  | 17, _, _ => rfl
  | 18, _, _ => rfl
  | 19, _, _ => rfl
  | 20, _, _ => rfl
  | 21, _, _ => rfl
  | 22, _, _ => rfl
  | 23, _, _ => rfl
  | 24, _, h => absurd rfl h
  | j + 25, h, _ => absurd h (by omega)
theorem oM_36 {Γ : Geo} {t : M2} {i : Nat} {v : Int32} : ∀ j, j < 25 → j ≠ 0 → eM Γ (up2 t 36 i v) j = eM Γ t j
  | 0, _, h => absurd rfl h
  | 1, _, _ => rfl
  | 2, _, _ => rfl
  | 3, _, _ => rfl
  | 4, _, _ => rfl
  | 5, _, _ => rfl
  | 6, _, _ => rfl
  | 7, _, _ => rfl
  | 8, _, _ => rfl
  | 9, _, _ => rfl
  | 10, _, _ => rfl
  | 11, _, _ => rfl
  | 12, _, _ => rfl
  | 13, _, _ => rfl
  | 14, _, _ => rfl
  | 15, _, _ => rfl
  | 16, _, _ => rfl
  | 17, _, _ => rfl
  | 18, _, _ => rfl
  | 19, _, _ => rfl
  | 20, _, _ => rfl
  | 21, _, _ => rfl
  | 22, _, _ => rfl
  | 23, _, _ => rfl
  | 24, _, _ => rfl
  | j + 25, h, _ => absurd h (by omega)
theorem oM_37 {Γ : Geo} {t : M2} {i : Nat} {v : Int32} : ∀ j, j < 25 → j ≠ 0 → eM Γ (up2 t 37 i v) j = eM Γ t j
  | 0, _, h => absurd rfl h
  | 1, _, _ => rfl
  | 2, _, _ => rfl
  | 3, _, _ => rfl
  | 4, _, _ => rfl
  | 5, _, _ => rfl
  | 6, _, _ => rfl
  | 7, _, _ => rfl
  | 8, _, _ => rfl
  | 9, _, _ => rfl
  | 10, _, _ => rfl
  | 11, _, _ => rfl
  | 12, _, _ => rfl
  | 13, _, _ => rfl
  | 14, _, _ => rfl
  | 15, _, _ => rfl
  | 16, _, _ => rfl
  | 17, _, _ => rfl
  | 18, _, _ => rfl
  | 19, _, _ => rfl
  | 20, _, _ => rfl
  | 21, _, _ => rfl
  | 22, _, _ => rfl
  | 23, _, _ => rfl
  | 24, _, _ => rfl
  | j + 25, h, _ => absurd h (by omega)
theorem oM_38 {Γ : Geo} {t : M2} {i : Nat} {v : Int32} : ∀ j, j < 25 → j ≠ 0 → eM Γ (up2 t 38 i v) j = eM Γ t j
  | 0, _, h => absurd rfl h
  | 1, _, _ => rfl
  | 2, _, _ => rfl
  | 3, _, _ => rfl
  | 4, _, _ => rfl
  | 5, _, _ => rfl
  | 6, _, _ => rfl
  | 7, _, _ => rfl
  | 8, _, _ => rfl
  | 9, _, _ => rfl
  | 10, _, _ => rfl
  | 11, _, _ => rfl
  | 12, _, _ => rfl
  | 13, _, _ => rfl
  | 14, _, _ => rfl
  | 15, _, _ => rfl
  | 16, _, _ => rfl
  | 17, _, _ => rfl
  | 18, _, _ => rfl
  | 19, _, _ => rfl
  | 20, _, _ => rfl
  | 21, _, _ => rfl
  | 22, _, _ => rfl
  | 23, _, _ => rfl
  | 24, _, _ => rfl
  | j + 25, h, _ => absurd h (by omega)
theorem oM_39 {Γ : Geo} {t : M2} {i : Nat} {v : Int32} : ∀ j, j < 25 → j ≠ 0 → eM Γ (up2 t 39 i v) j = eM Γ t j
  | 0, _, h => absurd rfl h
  | 1, _, _ => rfl
  | 2, _, _ => rfl
  | 3, _, _ => rfl
  | 4, _, _ => rfl
  | 5, _, _ => rfl
  | 6, _, _ => rfl
  | 7, _, _ => rfl
  | 8, _, _ => rfl
  | 9, _, _ => rfl
  | 10, _, _ => rfl
  | 11, _, _ => rfl
  | 12, _, _ => rfl
  | 13, _, _ => rfl
  | 14, _, _ => rfl
  | 15, _, _ => rfl
  | 16, _, _ => rfl
  | 17, _, _ => rfl
  | 18, _, _ => rfl
  | 19, _, _ => rfl
  | 20, _, _ => rfl
  | 21, _, _ => rfl
  | 22, _, _ => rfl
  | 23, _, _ => rfl
  | 24, _, _ => rfl
  | j + 25, h, _ => absurd h (by omega)
theorem oM_40 {Γ : Geo} {t : M2} {i : Nat} {v : Int32} : ∀ j, j < 25 → j ≠ 0 → eM Γ (up2 t 40 i v) j = eM Γ t j
  | 0, _, h => absurd rfl h
  | 1, _, _ => rfl
  | 2, _, _ => rfl
  | 3, _, _ => rfl
  | 4, _, _ => rfl
  | 5, _, _ => rfl
  | 6, _, _ => rfl
  | 7, _, _ => rfl
  | 8, _, _ => rfl
  | 9, _, _ => rfl
  | 10, _, _ => rfl
  | 11, _, _ => rfl
  | 12, _, _ => rfl
  | 13, _, _ => rfl
  | 14, _, _ => rfl
  | 15, _, _ => rfl
  | 16, _, _ => rfl
  | 17, _, _ => rfl
  | 18, _, _ => rfl
  | 19, _, _ => rfl
  | 20, _, _ => rfl
  | 21, _, _ => rfl
  | 22, _, _ => rfl
  | 23, _, _ => rfl
  | 24, _, _ => rfl
  | j + 25, h, _ => absurd h (by omega)
section FM
variable {p : Program} {l : Launch} {e : Env} {R : Room} {s : State} {m : MethodId} {args : Array Value} {below : List Frame} {meth : Method} {c : Code} {cells slots : Nat} {Q : State → Prop}
variable {cc : ByteArray} {nL : Nat} {A : Nat → Prop} {H0 : Heap} {pc : Nat} {lv : List (Nat × Value)} {st : List Value} {Γ : Geo}
variable {t : M2}
theorem g_M_name (C : cx p s m args c cc R5 wA nL Γ.1 clA (tyA Γ)) (hdg : decode cc pc = .ok (.getfield 7, 3)) (kk : VV p l e R s m args below meth c cells slots Q nL Γ.1 clA A H0 (wM Γ t) (pc + 3) lv (.ref (Γ.2.1 28) :: st)) : VV p l e R s m args below meth c cells slots Q nL Γ.1 clA A H0 (wM Γ t) pc lv (.ref (Γ.2.1 27) :: st) :=
  vv_get (N := 41) C inC5 0 (wM_at (by decide)) rfl 3 (by decide) (in_wA (by decide +kernel) rfl) rfl rfl hdg kk
theorem g_M_kind (C : cx p s m args c cc R5 wA nL Γ.1 clA (tyA Γ)) (hdg : decode cc pc = .ok (.getfield 13, 3)) (kk : VV p l e R s m args below meth c cells slots Q nL Γ.1 clA A H0 (wM Γ t) (pc + 3) lv (.ref (Γ.2.1 29) :: st)) : VV p l e R s m args below meth c cells slots Q nL Γ.1 clA A H0 (wM Γ t) pc lv (.ref (Γ.2.1 27) :: st) :=
  vv_get (N := 41) C inC5 0 (wM_at (by decide)) rfl 4 (by decide) (in_wA (by decide +kernel) rfl) rfl rfl hdg kk
theorem g_M_order (C : cx p s m args c cc R5 wA nL Γ.1 clA (tyA Γ)) (hdg : decode cc pc = .ok (.getfield 16, 3)) (kk : VV p l e R s m args below meth c cells slots Q nL Γ.1 clA A H0 (wM Γ t) (pc + 3) lv (.ref (Γ.2.1 30) :: st)) : VV p l e R s m args below meth c cells slots Q nL Γ.1 clA A H0 (wM Γ t) pc lv (.ref (Γ.2.1 27) :: st) :=
  vv_get (N := 41) C inC5 0 (wM_at (by decide)) rfl 5 (by decide) (in_wA (by decide +kernel) rfl) rfl rfl hdg kk
theorem g_M_methods (C : cx p s m args c cc R5 wA nL Γ.1 clA (tyA Γ)) (hdg : decode cc pc = .ok (.getfield 19, 3)) (kk : VV p l e R s m args below meth c cells slots Q nL Γ.1 clA A H0 (wM Γ t) (pc + 3) lv (.ref (Γ.2.1 31) :: st)) : VV p l e R s m args below meth c cells slots Q nL Γ.1 clA A H0 (wM Γ t) pc lv (.ref (Γ.2.1 27) :: st) :=
  vv_get (N := 41) C inC5 0 (wM_at (by decide)) rfl 6 (by decide) (in_wA (by decide +kernel) rfl) rfl rfl hdg kk
theorem g_M_first (C : cx p s m args c cc R5 wA nL Γ.1 clA (tyA Γ)) (hdg : decode cc pc = .ok (.getfield 22, 3)) (kk : VV p l e R s m args below meth c cells slots Q nL Γ.1 clA A H0 (wM Γ t) (pc + 3) lv (.ref (Γ.2.1 32) :: st)) : VV p l e R s m args below meth c cells slots Q nL Γ.1 clA A H0 (wM Γ t) pc lv (.ref (Γ.2.1 27) :: st) :=
  vv_get (N := 41) C inC5 0 (wM_at (by decide)) rfl 7 (by decide) (in_wA (by decide +kernel) rfl) rfl rfl hdg kk
theorem g_M_second (C : cx p s m args c cc R5 wA nL Γ.1 clA (tyA Γ)) (hdg : decode cc pc = .ok (.getfield 25, 3)) (kk : VV p l e R s m args below meth c cells slots Q nL Γ.1 clA A H0 (wM Γ t) (pc + 3) lv (.ref (Γ.2.1 33) :: st)) : VV p l e R s m args below meth c cells slots Q nL Γ.1 clA A H0 (wM Γ t) pc lv (.ref (Γ.2.1 27) :: st) :=
  vv_get (N := 41) C inC5 0 (wM_at (by decide)) rfl 8 (by decide) (in_wA (by decide +kernel) rfl) rfl rfl hdg kk
theorem g_M_ranged (C : cx p s m args c cc R5 wA nL Γ.1 clA (tyA Γ)) (hdg : decode cc pc = .ok (.getfield 28, 3)) (kk : VV p l e R s m args below meth c cells slots Q nL Γ.1 clA A H0 (wM Γ t) (pc + 3) lv (.ref (Γ.2.1 34) :: st)) : VV p l e R s m args below meth c cells slots Q nL Γ.1 clA A H0 (wM Γ t) pc lv (.ref (Γ.2.1 27) :: st) :=
  vv_get (N := 41) C inC5 0 (wM_at (by decide)) rfl 9 (by decide) (in_wA (by decide +kernel) rfl) rfl rfl hdg kk
theorem g_M_low (C : cx p s m args c cc R5 wA nL Γ.1 clA (tyA Γ)) (hdg : decode cc pc = .ok (.getfield 32, 3)) (kk : VV p l e R s m args below meth c cells slots Q nL Γ.1 clA A H0 (wM Γ t) (pc + 3) lv (.ref (Γ.2.1 35) :: st)) : VV p l e R s m args below meth c cells slots Q nL Γ.1 clA A H0 (wM Γ t) pc lv (.ref (Γ.2.1 27) :: st) :=
  vv_get (N := 41) C inC5 0 (wM_at (by decide)) rfl 10 (by decide) (in_wA (by decide +kernel) rfl) rfl rfl hdg kk
theorem g_M_high (C : cx p s m args c cc R5 wA nL Γ.1 clA (tyA Γ)) (hdg : decode cc pc = .ok (.getfield 35, 3)) (kk : VV p l e R s m args below meth c cells slots Q nL Γ.1 clA A H0 (wM Γ t) (pc + 3) lv (.ref (Γ.2.1 36) :: st)) : VV p l e R s m args below meth c cells slots Q nL Γ.1 clA A H0 (wM Γ t) pc lv (.ref (Γ.2.1 27) :: st) :=
  vv_get (N := 41) C inC5 0 (wM_at (by decide)) rfl 11 (by decide) (in_wA (by decide +kernel) rfl) rfl rfl hdg kk
theorem g_M_factor (C : cx p s m args c cc R5 wA nL Γ.1 clA (tyA Γ)) (hdg : decode cc pc = .ok (.getfield 38, 3)) (kk : VV p l e R s m args below meth c cells slots Q nL Γ.1 clA A H0 (wM Γ t) (pc + 3) lv (.ref (Γ.2.1 37) :: st)) : VV p l e R s m args below meth c cells slots Q nL Γ.1 clA A H0 (wM Γ t) pc lv (.ref (Γ.2.1 27) :: st) :=
  vv_get (N := 41) C inC5 0 (wM_at (by decide)) rfl 12 (by decide) (in_wA (by decide +kernel) rfl) rfl rfl hdg kk
theorem g_M_addend (C : cx p s m args c cc R5 wA nL Γ.1 clA (tyA Γ)) (hdg : decode cc pc = .ok (.getfield 41, 3)) (kk : VV p l e R s m args below meth c cells slots Q nL Γ.1 clA A H0 (wM Γ t) (pc + 3) lv (.ref (Γ.2.1 38) :: st)) : VV p l e R s m args below meth c cells slots Q nL Γ.1 clA A H0 (wM Γ t) pc lv (.ref (Γ.2.1 27) :: st) :=
  vv_get (N := 41) C inC5 0 (wM_at (by decide)) rfl 13 (by decide) (in_wA (by decide +kernel) rfl) rfl rfl hdg kk
theorem g_M_failsAt (C : cx p s m args c cc R5 wA nL Γ.1 clA (tyA Γ)) (hdg : decode cc pc = .ok (.getfield 44, 3)) (kk : VV p l e R s m args below meth c cells slots Q nL Γ.1 clA A H0 (wM Γ t) (pc + 3) lv (.ref (Γ.2.1 39) :: st)) : VV p l e R s m args below meth c cells slots Q nL Γ.1 clA A H0 (wM Γ t) pc lv (.ref (Γ.2.1 27) :: st) :=
  vv_get (N := 41) C inC5 0 (wM_at (by decide)) rfl 14 (by decide) (in_wA (by decide +kernel) rfl) rfl rfl hdg kk
theorem g_M_failure (C : cx p s m args c cc R5 wA nL Γ.1 clA (tyA Γ)) (hdg : decode cc pc = .ok (.getfield 47, 3)) (kk : VV p l e R s m args below meth c cells slots Q nL Γ.1 clA A H0 (wM Γ t) (pc + 3) lv (.ref (Γ.2.1 40) :: st)) : VV p l e R s m args below meth c cells slots Q nL Γ.1 clA A H0 (wM Γ t) pc lv (.ref (Γ.2.1 27) :: st) :=
  vv_get (N := 41) C inC5 0 (wM_at (by decide)) rfl 15 (by decide) (in_wA (by decide +kernel) rfl) rfl rfl hdg kk
theorem g_M_leads (C : cx p s m args c cc R5 wA nL Γ.1 clA (tyA Γ)) (hdg : decode cc pc = .ok (.getfield 50, 3)) (kk : VV p l e R s m args below meth c cells slots Q nL Γ.1 clA A H0 (wM Γ t) (pc + 3) lv (.ref (Γ.2.1 41) :: st)) : VV p l e R s m args below meth c cells slots Q nL Γ.1 clA A H0 (wM Γ t) pc lv (.ref (Γ.2.1 27) :: st) :=
  vv_get (N := 41) C inC5 0 (wM_at (by decide)) rfl 16 (by decide) (in_wA (by decide +kernel) rfl) rfl rfl hdg kk
theorem g_M_whoNoted (C : cx p s m args c cc R5 wA nL Γ.1 clA (tyA Γ)) (hdg : decode cc pc = .ok (.getfield 53, 3)) (kk : VV p l e R s m args below meth c cells slots Q nL Γ.1 clA A H0 (wM Γ t) (pc + 3) lv (.ref (Γ.2.1 42) :: st)) : VV p l e R s m args below meth c cells slots Q nL Γ.1 clA A H0 (wM Γ t) pc lv (.ref (Γ.2.1 27) :: st) :=
  vv_get (N := 41) C inC5 0 (wM_at (by decide)) rfl 20 (by decide) (in_wA (by decide +kernel) rfl) rfl rfl hdg kk
theorem g_M_whatNoted (C : cx p s m args c cc R5 wA nL Γ.1 clA (tyA Γ)) (hdg : decode cc pc = .ok (.getfield 56, 3)) (kk : VV p l e R s m args below meth c cells slots Q nL Γ.1 clA A H0 (wM Γ t) (pc + 3) lv (.ref (Γ.2.1 43) :: st)) : VV p l e R s m args below meth c cells slots Q nL Γ.1 clA A H0 (wM Γ t) pc lv (.ref (Γ.2.1 27) :: st) :=
  vv_get (N := 41) C inC5 0 (wM_at (by decide)) rfl 21 (by decide) (in_wA (by decide +kernel) rfl) rfl rfl hdg kk
theorem g_M_method (C : cx p s m args c cc R5 wA nL Γ.1 clA (tyA Γ)) (hdg : decode cc pc = .ok (.getfield 59, 3)) (kk : VV p l e R s m args below meth c cells slots Q nL Γ.1 clA A H0 (wM Γ t) (pc + 3) lv (.ref (Γ.2.1 44) :: st)) : VV p l e R s m args below meth c cells slots Q nL Γ.1 clA A H0 (wM Γ t) pc lv (.ref (Γ.2.1 27) :: st) :=
  vv_get (N := 41) C inC5 0 (wM_at (by decide)) rfl 27 (by decide) (in_wA (by decide +kernel) rfl) rfl rfl hdg kk
theorem g_M_target (C : cx p s m args c cc R5 wA nL Γ.1 clA (tyA Γ)) (hdg : decode cc pc = .ok (.getfield 62, 3)) (kk : VV p l e R s m args below meth c cells slots Q nL Γ.1 clA A H0 (wM Γ t) (pc + 3) lv (.ref (Γ.2.1 45) :: st)) : VV p l e R s m args below meth c cells slots Q nL Γ.1 clA A H0 (wM Γ t) pc lv (.ref (Γ.2.1 27) :: st) :=
  vv_get (N := 41) C inC5 0 (wM_at (by decide)) rfl 28 (by decide) (in_wA (by decide +kernel) rfl) rfl rfl hdg kk
theorem g_M_waits (C : cx p s m args c cc R5 wA nL Γ.1 clA (tyA Γ)) (hdg : decode cc pc = .ok (.getfield 65, 3)) (kk : VV p l e R s m args below meth c cells slots Q nL Γ.1 clA A H0 (wM Γ t) (pc + 3) lv (.ref (Γ.2.1 46) :: st)) : VV p l e R s m args below meth c cells slots Q nL Γ.1 clA A H0 (wM Γ t) pc lv (.ref (Γ.2.1 27) :: st) :=
  vv_get (N := 41) C inC5 0 (wM_at (by decide)) rfl 30 (by decide) (in_wA (by decide +kernel) rfl) rfl rfl hdg kk
theorem g_M_waitsPlace (C : cx p s m args c cc R5 wA nL Γ.1 clA (tyA Γ)) (hdg : decode cc pc = .ok (.getfield 68, 3)) (kk : VV p l e R s m args below meth c cells slots Q nL Γ.1 clA A H0 (wM Γ t) (pc + 3) lv (.ref (Γ.2.1 47) :: st)) : VV p l e R s m args below meth c cells slots Q nL Γ.1 clA A H0 (wM Γ t) pc lv (.ref (Γ.2.1 27) :: st) :=
  vv_get (N := 41) C inC5 0 (wM_at (by decide)) rfl 31 (by decide) (in_wA (by decide +kernel) rfl) rfl rfl hdg kk
theorem g_M_waitsAdvisor (C : cx p s m args c cc R5 wA nL Γ.1 clA (tyA Γ)) (hdg : decode cc pc = .ok (.getfield 71, 3)) (kk : VV p l e R s m args below meth c cells slots Q nL Γ.1 clA A H0 (wM Γ t) (pc + 3) lv (.ref (Γ.2.1 48) :: st)) : VV p l e R s m args below meth c cells slots Q nL Γ.1 clA A H0 (wM Γ t) pc lv (.ref (Γ.2.1 27) :: st) :=
  vv_get (N := 41) C inC5 0 (wM_at (by decide)) rfl 32 (by decide) (in_wA (by decide +kernel) rfl) rfl rfl hdg kk
theorem g_M_waitsX (C : cx p s m args c cc R5 wA nL Γ.1 clA (tyA Γ)) (hdg : decode cc pc = .ok (.getfield 74, 3)) (kk : VV p l e R s m args below meth c cells slots Q nL Γ.1 clA A H0 (wM Γ t) (pc + 3) lv (.ref (Γ.2.1 49) :: st)) : VV p l e R s m args below meth c cells slots Q nL Γ.1 clA A H0 (wM Γ t) pc lv (.ref (Γ.2.1 27) :: st) :=
  vv_get (N := 41) C inC5 0 (wM_at (by decide)) rfl 33 (by decide) (in_wA (by decide +kernel) rfl) rfl rfl hdg kk
theorem g_M_waitsR (C : cx p s m args c cc R5 wA nL Γ.1 clA (tyA Γ)) (hdg : decode cc pc = .ok (.getfield 77, 3)) (kk : VV p l e R s m args below meth c cells slots Q nL Γ.1 clA A H0 (wM Γ t) (pc + 3) lv (.ref (Γ.2.1 50) :: st)) : VV p l e R s m args below meth c cells slots Q nL Γ.1 clA A H0 (wM Γ t) pc lv (.ref (Γ.2.1 27) :: st) :=
  vv_get (N := 41) C inC5 0 (wM_at (by decide)) rfl 34 (by decide) (in_wA (by decide +kernel) rfl) rfl rfl hdg kk
theorem g_M_waitsAgain (C : cx p s m args c cc R5 wA nL Γ.1 clA (tyA Γ)) (hdg : decode cc pc = .ok (.getfield 80, 3)) (kk : VV p l e R s m args below meth c cells slots Q nL Γ.1 clA A H0 (wM Γ t) (pc + 3) lv (.ref (Γ.2.1 51) :: st)) : VV p l e R s m args below meth c cells slots Q nL Γ.1 clA A H0 (wM Γ t) pc lv (.ref (Γ.2.1 27) :: st) :=
  vv_get (N := 41) C inC5 0 (wM_at (by decide)) rfl 35 (by decide) (in_wA (by decide +kernel) rfl) rfl rfl hdg kk
theorem g_M_frozen (C : cx p s m args c cc R5 wA nL Γ.1 clA (tyA Γ)) (hdg : decode cc pc = .ok (.getfield 91, 3)) (kk : VV p l e R s m args below meth c cells slots Q nL Γ.1 clA A H0 (wM Γ t) (pc + 3) lv (.int (t 2 0) :: st)) : VV p l e R s m args below meth c cells slots Q nL Γ.1 clA A H0 (wM Γ t) pc lv (.ref (Γ.2.1 27) :: st) :=
  vv_get (N := 41) C inC5 0 (wM_at (by decide)) rfl 2 (by decide) (in_wA (by decide +kernel) rfl) rfl rfl hdg kk
theorem p_M_frozen (C : cx p s m args c cc R5 wA nL Γ.1 clA (tyA Γ)) {v : Int32} (hn : narrow .boolean (.int v) = .int v) (hf : fits .boolean (.int v) = true) (hdg : decode cc pc = .ok (.putfield 91, 3)) (kk : VV p l e R s m args below meth c cells slots Q nL Γ.1 clA A H0 (wM Γ (up2 t 2 0 v)) (pc + 3) lv st) : VV p l e R s m args below meth c cells slots Q nL Γ.1 clA A H0 (wM Γ t) pc lv (.int v :: .ref (Γ.2.1 27) :: st) :=
  vv_put (N := 41) C inC5 ty5 ty5_ok nm5 0 (wM_at (by decide)) rfl 2 (by decide) (in_wA (by decide +kernel) rfl) rfl rfl (ty5_ok 2 (by decide)) hn hf (Nat.le_of_ble_eq_true rfl) (wM_set (by decide) rfl oM_2) hdg kk
theorem g_M_there (C : cx p s m args c cc R5 wA nL Γ.1 clA (tyA Γ)) (hdg : decode cc pc = .ok (.getfield 95, 3)) (kk : VV p l e R s m args below meth c cells slots Q nL Γ.1 clA A H0 (wM Γ t) (pc + 3) lv (.int (t 0 0) :: st)) : VV p l e R s m args below meth c cells slots Q nL Γ.1 clA A H0 (wM Γ t) pc lv (.ref (Γ.2.1 27) :: st) :=
  vv_get (N := 41) C inC5 0 (wM_at (by decide)) rfl 0 (by decide) (in_wA (by decide +kernel) rfl) rfl rfl hdg kk
theorem p_M_there (C : cx p s m args c cc R5 wA nL Γ.1 clA (tyA Γ)) {v : Int32} (hdg : decode cc pc = .ok (.putfield 95, 3)) (kk : VV p l e R s m args below meth c cells slots Q nL Γ.1 clA A H0 (wM Γ (up2 t 0 0 v)) (pc + 3) lv st) : VV p l e R s m args below meth c cells slots Q nL Γ.1 clA A H0 (wM Γ t) pc lv (.int v :: .ref (Γ.2.1 27) :: st) :=
  vv_put (N := 41) C inC5 ty5 ty5_ok nm5 0 (wM_at (by decide)) rfl 0 (by decide) (in_wA (by decide +kernel) rfl) rfl rfl (ty5_ok 0 (by decide)) rfl rfl (Nat.le_of_ble_eq_true rfl) (wM_set (by decide) rfl oM_0) hdg kk
theorem g_M_next (C : cx p s m args c cc R5 wA nL Γ.1 clA (tyA Γ)) (hdg : decode cc pc = .ok (.getfield 102, 3)) (kk : VV p l e R s m args below meth c cells slots Q nL Γ.1 clA A H0 (wM Γ t) (pc + 3) lv (.int (t 1 0) :: st)) : VV p l e R s m args below meth c cells slots Q nL Γ.1 clA A H0 (wM Γ t) pc lv (.ref (Γ.2.1 27) :: st) :=
  vv_get (N := 41) C inC5 0 (wM_at (by decide)) rfl 1 (by decide) (in_wA (by decide +kernel) rfl) rfl rfl hdg kk
theorem p_M_next (C : cx p s m args c cc R5 wA nL Γ.1 clA (tyA Γ)) {v : Int32} (hdg : decode cc pc = .ok (.putfield 102, 3)) (kk : VV p l e R s m args below meth c cells slots Q nL Γ.1 clA A H0 (wM Γ (up2 t 1 0 v)) (pc + 3) lv st) : VV p l e R s m args below meth c cells slots Q nL Γ.1 clA A H0 (wM Γ t) pc lv (.int v :: .ref (Γ.2.1 27) :: st) :=
  vv_put (N := 41) C inC5 ty5 ty5_ok nm5 0 (wM_at (by decide)) rfl 1 (by decide) (in_wA (by decide +kernel) rfl) rfl rfl (ty5_ok 1 (by decide)) rfl rfl (Nat.le_of_ble_eq_true rfl) (wM_set (by decide) rfl oM_1) hdg kk
theorem g_M_source (C : cx p s m args c cc R5 wA nL Γ.1 clA (tyA Γ)) (hdg : decode cc pc = .ok (.getfield 117, 3)) (kk : VV p l e R s m args below meth c cells slots Q nL Γ.1 clA A H0 (wM Γ t) (pc + 3) lv (.int (t 17 0) :: st)) : VV p l e R s m args below meth c cells slots Q nL Γ.1 clA A H0 (wM Γ t) pc lv (.ref (Γ.2.1 27) :: st) :=
  vv_get (N := 41) C inC5 0 (wM_at (by decide)) rfl 17 (by decide) (in_wA (by decide +kernel) rfl) rfl rfl hdg kk
theorem p_M_source (C : cx p s m args c cc R5 wA nL Γ.1 clA (tyA Γ)) {v : Int32} (hdg : decode cc pc = .ok (.putfield 117, 3)) (kk : VV p l e R s m args below meth c cells slots Q nL Γ.1 clA A H0 (wM Γ (up2 t 17 0 v)) (pc + 3) lv st) : VV p l e R s m args below meth c cells slots Q nL Γ.1 clA A H0 (wM Γ t) pc lv (.int v :: .ref (Γ.2.1 27) :: st) :=
  vv_put (N := 41) C inC5 ty5 ty5_ok nm5 0 (wM_at (by decide)) rfl 17 (by decide) (in_wA (by decide +kernel) rfl) rfl rfl (ty5_ok 17 (by decide)) rfl rfl (Nat.le_of_ble_eq_true rfl) (wM_set (by decide) rfl oM_17) hdg kk
theorem g_M_turns (C : cx p s m args c cc R5 wA nL Γ.1 clA (tyA Γ)) (hdg : decode cc pc = .ok (.getfield 120, 3)) (kk : VV p l e R s m args below meth c cells slots Q nL Γ.1 clA A H0 (wM Γ t) (pc + 3) lv (.int (t 18 0) :: st)) : VV p l e R s m args below meth c cells slots Q nL Γ.1 clA A H0 (wM Γ t) pc lv (.ref (Γ.2.1 27) :: st) :=
  vv_get (N := 41) C inC5 0 (wM_at (by decide)) rfl 18 (by decide) (in_wA (by decide +kernel) rfl) rfl rfl hdg kk
theorem p_M_turns (C : cx p s m args c cc R5 wA nL Γ.1 clA (tyA Γ)) {v : Int32} (hdg : decode cc pc = .ok (.putfield 120, 3)) (kk : VV p l e R s m args below meth c cells slots Q nL Γ.1 clA A H0 (wM Γ (up2 t 18 0 v)) (pc + 3) lv st) : VV p l e R s m args below meth c cells slots Q nL Γ.1 clA A H0 (wM Γ t) pc lv (.int v :: .ref (Γ.2.1 27) :: st) :=
  vv_put (N := 41) C inC5 ty5 ty5_ok nm5 0 (wM_at (by decide)) rfl 18 (by decide) (in_wA (by decide +kernel) rfl) rfl rfl (ty5_ok 18 (by decide)) rfl rfl (Nat.le_of_ble_eq_true rfl) (wM_set (by decide) rfl oM_18) hdg kk
theorem g_M_noted (C : cx p s m args c cc R5 wA nL Γ.1 clA (tyA Γ)) (hdg : decode cc pc = .ok (.getfield 123, 3)) (kk : VV p l e R s m args below meth c cells slots Q nL Γ.1 clA A H0 (wM Γ t) (pc + 3) lv (.int (t 19 0) :: st)) : VV p l e R s m args below meth c cells slots Q nL Γ.1 clA A H0 (wM Γ t) pc lv (.ref (Γ.2.1 27) :: st) :=
  vv_get (N := 41) C inC5 0 (wM_at (by decide)) rfl 19 (by decide) (in_wA (by decide +kernel) rfl) rfl rfl hdg kk
theorem p_M_noted (C : cx p s m args c cc R5 wA nL Γ.1 clA (tyA Γ)) {v : Int32} (hdg : decode cc pc = .ok (.putfield 123, 3)) (kk : VV p l e R s m args below meth c cells slots Q nL Γ.1 clA A H0 (wM Γ (up2 t 19 0 v)) (pc + 3) lv st) : VV p l e R s m args below meth c cells slots Q nL Γ.1 clA A H0 (wM Γ t) pc lv (.int v :: .ref (Γ.2.1 27) :: st) :=
  vv_put (N := 41) C inC5 ty5 ty5_ok nm5 0 (wM_at (by decide)) rfl 19 (by decide) (in_wA (by decide +kernel) rfl) rfl rfl (ty5_ok 19 (by decide)) rfl rfl (Nat.le_of_ble_eq_true rfl) (wM_set (by decide) rfl oM_19) hdg kk
theorem g_M_broken (C : cx p s m args c cc R5 wA nL Γ.1 clA (tyA Γ)) (hdg : decode cc pc = .ok (.getfield 126, 3)) (kk : VV p l e R s m args below meth c cells slots Q nL Γ.1 clA A H0 (wM Γ t) (pc + 3) lv (.int (t 25 0) :: st)) : VV p l e R s m args below meth c cells slots Q nL Γ.1 clA A H0 (wM Γ t) pc lv (.ref (Γ.2.1 27) :: st) :=
  vv_get (N := 41) C inC5 0 (wM_at (by decide)) rfl 25 (by decide) (in_wA (by decide +kernel) rfl) rfl rfl hdg kk
theorem p_M_broken (C : cx p s m args c cc R5 wA nL Γ.1 clA (tyA Γ)) {v : Int32} (hn : narrow .boolean (.int v) = .int v) (hf : fits .boolean (.int v) = true) (hdg : decode cc pc = .ok (.putfield 126, 3)) (kk : VV p l e R s m args below meth c cells slots Q nL Γ.1 clA A H0 (wM Γ (up2 t 25 0 v)) (pc + 3) lv st) : VV p l e R s m args below meth c cells slots Q nL Γ.1 clA A H0 (wM Γ t) pc lv (.int v :: .ref (Γ.2.1 27) :: st) :=
  vv_put (N := 41) C inC5 ty5 ty5_ok nm5 0 (wM_at (by decide)) rfl 25 (by decide) (in_wA (by decide +kernel) rfl) rfl rfl (ty5_ok 25 (by decide)) hn hf (Nat.le_of_ble_eq_true rfl) (wM_set (by decide) rfl oM_25) hdg kk
theorem g_M_along (C : cx p s m args c cc R5 wA nL Γ.1 clA (tyA Γ)) (hdg : decode cc pc = .ok (.getfield 129, 3)) (kk : VV p l e R s m args below meth c cells slots Q nL Γ.1 clA A H0 (wM Γ t) (pc + 3) lv (.int (t 36 0) :: st)) : VV p l e R s m args below meth c cells slots Q nL Γ.1 clA A H0 (wM Γ t) pc lv (.ref (Γ.2.1 27) :: st) :=
  vv_get (N := 41) C inC5 0 (wM_at (by decide)) rfl 36 (by decide) (in_wA (by decide +kernel) rfl) rfl rfl hdg kk
theorem p_M_along (C : cx p s m args c cc R5 wA nL Γ.1 clA (tyA Γ)) {v : Int32} (hn : narrow .boolean (.int v) = .int v) (hf : fits .boolean (.int v) = true) (hdg : decode cc pc = .ok (.putfield 129, 3)) (kk : VV p l e R s m args below meth c cells slots Q nL Γ.1 clA A H0 (wM Γ (up2 t 36 0 v)) (pc + 3) lv st) : VV p l e R s m args below meth c cells slots Q nL Γ.1 clA A H0 (wM Γ t) pc lv (.int v :: .ref (Γ.2.1 27) :: st) :=
  vv_put (N := 41) C inC5 ty5 ty5_ok nm5 0 (wM_at (by decide)) rfl 36 (by decide) (in_wA (by decide +kernel) rfl) rfl rfl (ty5_ok 36 (by decide)) hn hf (Nat.le_of_ble_eq_true rfl) (wM_set (by decide) rfl oM_36) hdg kk
theorem g_M_place (C : cx p s m args c cc R5 wA nL Γ.1 clA (tyA Γ)) (hdg : decode cc pc = .ok (.getfield 132, 3)) (kk : VV p l e R s m args below meth c cells slots Q nL Γ.1 clA A H0 (wM Γ t) (pc + 3) lv (.int (t 37 0) :: st)) : VV p l e R s m args below meth c cells slots Q nL Γ.1 clA A H0 (wM Γ t) pc lv (.ref (Γ.2.1 27) :: st) :=
  vv_get (N := 41) C inC5 0 (wM_at (by decide)) rfl 37 (by decide) (in_wA (by decide +kernel) rfl) rfl rfl hdg kk
theorem p_M_place (C : cx p s m args c cc R5 wA nL Γ.1 clA (tyA Γ)) {v : Int32} (hdg : decode cc pc = .ok (.putfield 132, 3)) (kk : VV p l e R s m args below meth c cells slots Q nL Γ.1 clA A H0 (wM Γ (up2 t 37 0 v)) (pc + 3) lv st) : VV p l e R s m args below meth c cells slots Q nL Γ.1 clA A H0 (wM Γ t) pc lv (.int v :: .ref (Γ.2.1 27) :: st) :=
  vv_put (N := 41) C inC5 ty5 ty5_ok nm5 0 (wM_at (by decide)) rfl 37 (by decide) (in_wA (by decide +kernel) rfl) rfl rfl (ty5_ok 37 (by decide)) rfl rfl (Nat.le_of_ble_eq_true rfl) (wM_set (by decide) rfl oM_37) hdg kk
theorem g_M_x (C : cx p s m args c cc R5 wA nL Γ.1 clA (tyA Γ)) (hdg : decode cc pc = .ok (.getfield 135, 3)) (kk : VV p l e R s m args below meth c cells slots Q nL Γ.1 clA A H0 (wM Γ t) (pc + 3) lv (.int (t 38 0) :: st)) : VV p l e R s m args below meth c cells slots Q nL Γ.1 clA A H0 (wM Γ t) pc lv (.ref (Γ.2.1 27) :: st) :=
  vv_get (N := 41) C inC5 0 (wM_at (by decide)) rfl 38 (by decide) (in_wA (by decide +kernel) rfl) rfl rfl hdg kk
theorem p_M_x (C : cx p s m args c cc R5 wA nL Γ.1 clA (tyA Γ)) {v : Int32} (hdg : decode cc pc = .ok (.putfield 135, 3)) (kk : VV p l e R s m args below meth c cells slots Q nL Γ.1 clA A H0 (wM Γ (up2 t 38 0 v)) (pc + 3) lv st) : VV p l e R s m args below meth c cells slots Q nL Γ.1 clA A H0 (wM Γ t) pc lv (.int v :: .ref (Γ.2.1 27) :: st) :=
  vv_put (N := 41) C inC5 ty5 ty5_ok nm5 0 (wM_at (by decide)) rfl 38 (by decide) (in_wA (by decide +kernel) rfl) rfl rfl (ty5_ok 38 (by decide)) rfl rfl (Nat.le_of_ble_eq_true rfl) (wM_set (by decide) rfl oM_38) hdg kk
theorem g_M_threw (C : cx p s m args c cc R5 wA nL Γ.1 clA (tyA Γ)) (hdg : decode cc pc = .ok (.getfield 138, 3)) (kk : VV p l e R s m args below meth c cells slots Q nL Γ.1 clA A H0 (wM Γ t) (pc + 3) lv (.int (t 39 0) :: st)) : VV p l e R s m args below meth c cells slots Q nL Γ.1 clA A H0 (wM Γ t) pc lv (.ref (Γ.2.1 27) :: st) :=
  vv_get (N := 41) C inC5 0 (wM_at (by decide)) rfl 39 (by decide) (in_wA (by decide +kernel) rfl) rfl rfl hdg kk
theorem p_M_threw (C : cx p s m args c cc R5 wA nL Γ.1 clA (tyA Γ)) {v : Int32} (hn : narrow .boolean (.int v) = .int v) (hf : fits .boolean (.int v) = true) (hdg : decode cc pc = .ok (.putfield 138, 3)) (kk : VV p l e R s m args below meth c cells slots Q nL Γ.1 clA A H0 (wM Γ (up2 t 39 0 v)) (pc + 3) lv st) : VV p l e R s m args below meth c cells slots Q nL Γ.1 clA A H0 (wM Γ t) pc lv (.int v :: .ref (Γ.2.1 27) :: st) :=
  vv_put (N := 41) C inC5 ty5 ty5_ok nm5 0 (wM_at (by decide)) rfl 39 (by decide) (in_wA (by decide +kernel) rfl) rfl rfl (ty5_ok 39 (by decide)) hn hf (Nat.le_of_ble_eq_true rfl) (wM_set (by decide) rfl oM_39) hdg kk
theorem g_M_value (C : cx p s m args c cc R5 wA nL Γ.1 clA (tyA Γ)) (hdg : decode cc pc = .ok (.getfield 141, 3)) (kk : VV p l e R s m args below meth c cells slots Q nL Γ.1 clA A H0 (wM Γ t) (pc + 3) lv (.int (t 40 0) :: st)) : VV p l e R s m args below meth c cells slots Q nL Γ.1 clA A H0 (wM Γ t) pc lv (.ref (Γ.2.1 27) :: st) :=
  vv_get (N := 41) C inC5 0 (wM_at (by decide)) rfl 40 (by decide) (in_wA (by decide +kernel) rfl) rfl rfl hdg kk
theorem p_M_value (C : cx p s m args c cc R5 wA nL Γ.1 clA (tyA Γ)) {v : Int32} (hdg : decode cc pc = .ok (.putfield 141, 3)) (kk : VV p l e R s m args below meth c cells slots Q nL Γ.1 clA A H0 (wM Γ (up2 t 40 0 v)) (pc + 3) lv st) : VV p l e R s m args below meth c cells slots Q nL Γ.1 clA A H0 (wM Γ t) pc lv (.int v :: .ref (Γ.2.1 27) :: st) :=
  vv_put (N := 41) C inC5 ty5 ty5_ok nm5 0 (wM_at (by decide)) rfl 40 (by decide) (in_wA (by decide +kernel) rfl) rfl rfl (ty5_ok 40 (by decide)) rfl rfl (Nat.le_of_ble_eq_true rfl) (wM_set (by decide) rfl oM_40) hdg kk
theorem g_M_waiting (C : cx p s m args c cc R5 wA nL Γ.1 clA (tyA Γ)) (hdg : decode cc pc = .ok (.getfield 144, 3)) (kk : VV p l e R s m args below meth c cells slots Q nL Γ.1 clA A H0 (wM Γ t) (pc + 3) lv (.int (t 29 0) :: st)) : VV p l e R s m args below meth c cells slots Q nL Γ.1 clA A H0 (wM Γ t) pc lv (.ref (Γ.2.1 27) :: st) :=
  vv_get (N := 41) C inC5 0 (wM_at (by decide)) rfl 29 (by decide) (in_wA (by decide +kernel) rfl) rfl rfl hdg kk
theorem p_M_waiting (C : cx p s m args c cc R5 wA nL Γ.1 clA (tyA Γ)) {v : Int32} (hdg : decode cc pc = .ok (.putfield 144, 3)) (kk : VV p l e R s m args below meth c cells slots Q nL Γ.1 clA A H0 (wM Γ (up2 t 29 0 v)) (pc + 3) lv st) : VV p l e R s m args below meth c cells slots Q nL Γ.1 clA A H0 (wM Γ t) pc lv (.int v :: .ref (Γ.2.1 27) :: st) :=
  vv_put (N := 41) C inC5 ty5 ty5_ok nm5 0 (wM_at (by decide)) rfl 29 (by decide) (in_wA (by decide +kernel) rfl) rfl rfl (ty5_ok 29 (by decide)) rfl rfl (Nat.le_of_ble_eq_true rfl) (wM_set (by decide) rfl oM_29) hdg kk
theorem g_M_depth (C : cx p s m args c cc R5 wA nL Γ.1 clA (tyA Γ)) (hdg : decode cc pc = .ok (.getfield 147, 3)) (kk : VV p l e R s m args below meth c cells slots Q nL Γ.1 clA A H0 (wM Γ t) (pc + 3) lv (.int (t 26 0) :: st)) : VV p l e R s m args below meth c cells slots Q nL Γ.1 clA A H0 (wM Γ t) pc lv (.ref (Γ.2.1 27) :: st) :=
  vv_get (N := 41) C inC5 0 (wM_at (by decide)) rfl 26 (by decide) (in_wA (by decide +kernel) rfl) rfl rfl hdg kk
theorem p_M_depth (C : cx p s m args c cc R5 wA nL Γ.1 clA (tyA Γ)) {v : Int32} (hdg : decode cc pc = .ok (.putfield 147, 3)) (kk : VV p l e R s m args below meth c cells slots Q nL Γ.1 clA A H0 (wM Γ (up2 t 26 0 v)) (pc + 3) lv st) : VV p l e R s m args below meth c cells slots Q nL Γ.1 clA A H0 (wM Γ t) pc lv (.int v :: .ref (Γ.2.1 27) :: st) :=
  vv_put (N := 41) C inC5 ty5 ty5_ok nm5 0 (wM_at (by decide)) rfl 26 (by decide) (in_wA (by decide +kernel) rfl) rfl rfl (ty5_ok 26 (by decide)) rfl rfl (Nat.le_of_ble_eq_true rfl) (wM_set (by decide) rfl oM_26) hdg kk
theorem g_M_takenCount (C : cx p s m args c cc R5 wA nL Γ.1 clA (tyA Γ)) (hdg : decode cc pc = .ok (.getfield 154, 3)) (kk : VV p l e R s m args below meth c cells slots Q nL Γ.1 clA A H0 (wM Γ t) (pc + 3) lv (.int (t 23 0) :: st)) : VV p l e R s m args below meth c cells slots Q nL Γ.1 clA A H0 (wM Γ t) pc lv (.ref (Γ.2.1 27) :: st) :=
  vv_get (N := 41) C inC5 0 (wM_at (by decide)) rfl 23 (by decide) (in_wA (by decide +kernel) rfl) rfl rfl hdg kk
theorem p_M_takenCount (C : cx p s m args c cc R5 wA nL Γ.1 clA (tyA Γ)) {v : Int32} (hdg : decode cc pc = .ok (.putfield 154, 3)) (kk : VV p l e R s m args below meth c cells slots Q nL Γ.1 clA A H0 (wM Γ (up2 t 23 0 v)) (pc + 3) lv st) : VV p l e R s m args below meth c cells slots Q nL Γ.1 clA A H0 (wM Γ t) pc lv (.int v :: .ref (Γ.2.1 27) :: st) :=
  vv_put (N := 41) C inC5 ty5 ty5_ok nm5 0 (wM_at (by decide)) rfl 23 (by decide) (in_wA (by decide +kernel) rfl) rfl rfl (ty5_ok 23 (by decide)) rfl rfl (Nat.le_of_ble_eq_true rfl) (wM_set (by decide) rfl oM_23) hdg kk
theorem g_M_askedCount (C : cx p s m args c cc R5 wA nL Γ.1 clA (tyA Γ)) (hdg : decode cc pc = .ok (.getfield 173, 3)) (kk : VV p l e R s m args below meth c cells slots Q nL Γ.1 clA A H0 (wM Γ t) (pc + 3) lv (.int (t 22 0) :: st)) : VV p l e R s m args below meth c cells slots Q nL Γ.1 clA A H0 (wM Γ t) pc lv (.ref (Γ.2.1 27) :: st) :=
  vv_get (N := 41) C inC5 0 (wM_at (by decide)) rfl 22 (by decide) (in_wA (by decide +kernel) rfl) rfl rfl hdg kk
theorem p_M_askedCount (C : cx p s m args c cc R5 wA nL Γ.1 clA (tyA Γ)) {v : Int32} (hdg : decode cc pc = .ok (.putfield 173, 3)) (kk : VV p l e R s m args below meth c cells slots Q nL Γ.1 clA A H0 (wM Γ (up2 t 22 0 v)) (pc + 3) lv st) : VV p l e R s m args below meth c cells slots Q nL Γ.1 clA A H0 (wM Γ t) pc lv (.int v :: .ref (Γ.2.1 27) :: st) :=
  vv_put (N := 41) C inC5 ty5 ty5_ok nm5 0 (wM_at (by decide)) rfl 22 (by decide) (in_wA (by decide +kernel) rfl) rfl rfl (ty5_ok 22 (by decide)) rfl rfl (Nat.le_of_ble_eq_true rfl) (wM_set (by decide) rfl oM_22) hdg kk
theorem g_M_outcome (C : cx p s m args c cc R5 wA nL Γ.1 clA (tyA Γ)) (hdg : decode cc pc = .ok (.getfield 189, 3)) (kk : VV p l e R s m args below meth c cells slots Q nL Γ.1 clA A H0 (wM Γ t) (pc + 3) lv (.int (t 24 0) :: st)) : VV p l e R s m args below meth c cells slots Q nL Γ.1 clA A H0 (wM Γ t) pc lv (.ref (Γ.2.1 27) :: st) :=
  vv_get (N := 41) C inC5 0 (wM_at (by decide)) rfl 24 (by decide) (in_wA (by decide +kernel) rfl) rfl rfl hdg kk
theorem p_M_outcome (C : cx p s m args c cc R5 wA nL Γ.1 clA (tyA Γ)) {v : Int32} (hdg : decode cc pc = .ok (.putfield 189, 3)) (kk : VV p l e R s m args below meth c cells slots Q nL Γ.1 clA A H0 (wM Γ (up2 t 24 0 v)) (pc + 3) lv st) : VV p l e R s m args below meth c cells slots Q nL Γ.1 clA A H0 (wM Γ t) pc lv (.int v :: .ref (Γ.2.1 27) :: st) :=
  vv_put (N := 41) C inC5 ty5 ty5_ok nm5 0 (wM_at (by decide)) rfl 24 (by decide) (in_wA (by decide +kernel) rfl) rfl rfl (ty5_ok 24 (by decide)) rfl rfl (Nat.le_of_ble_eq_true rfl) (wM_set (by decide) rfl oM_24) hdg kk
theorem ld_M_name (C : cx p s m args c cc R5 wA nL Γ.1 clA (tyA Γ)) {i : Int32} (hin : vp_in i 6) (hdg : decode cc pc = .ok (.iaload, 1)) (kk : VV p l e R s m args below meth c cells slots Q nL Γ.1 clA A H0 (wM Γ t) (pc + 1) lv (.int (t 3 i.toNatClampNeg) :: st)) : VV p l e R s m args below meth c cells slots Q nL Γ.1 clA A H0 (wM Γ t) pc lv (.int i :: .ref (Γ.2.1 28) :: st) :=
  vv_iald C 1 0 (wM_at (by decide)) rfl hin hdg kk
theorem sr_M_name (C : cx p s m args c cc R5 wA nL Γ.1 clA (tyA Γ)) {i v : Int32} (hin : vp_in i 6) (hdg : decode cc pc = .ok (.iastore, 1)) (kk : VV p l e R s m args below meth c cells slots Q nL Γ.1 clA A H0 (wM Γ (up2 t 3 i.toNatClampNeg v)) (pc + 1) lv st) : VV p l e R s m args below meth c cells slots Q nL Γ.1 clA A H0 (wM Γ t) pc lv (.int v :: .int i :: .ref (Γ.2.1 28) :: st) :=
  vv_iast C 1 0 (wM_at (by decide)) rfl hin (wM_set (by decide) rfl oM_3) hdg kk
theorem ld_M_kind (C : cx p s m args c cc R5 wA nL Γ.1 clA (tyA Γ)) {i : Int32} (hin : vp_in i 6) (hdg : decode cc pc = .ok (.iaload, 1)) (kk : VV p l e R s m args below meth c cells slots Q nL Γ.1 clA A H0 (wM Γ t) (pc + 1) lv (.int (t 4 i.toNatClampNeg) :: st)) : VV p l e R s m args below meth c cells slots Q nL Γ.1 clA A H0 (wM Γ t) pc lv (.int i :: .ref (Γ.2.1 29) :: st) :=
  vv_iald C 2 0 (wM_at (by decide)) rfl hin hdg kk
theorem sr_M_kind (C : cx p s m args c cc R5 wA nL Γ.1 clA (tyA Γ)) {i v : Int32} (hin : vp_in i 6) (hdg : decode cc pc = .ok (.iastore, 1)) (kk : VV p l e R s m args below meth c cells slots Q nL Γ.1 clA A H0 (wM Γ (up2 t 4 i.toNatClampNeg v)) (pc + 1) lv st) : VV p l e R s m args below meth c cells slots Q nL Γ.1 clA A H0 (wM Γ t) pc lv (.int v :: .int i :: .ref (Γ.2.1 29) :: st) :=
  vv_iast C 2 0 (wM_at (by decide)) rfl hin (wM_set (by decide) rfl oM_4) hdg kk
theorem ld_M_order (C : cx p s m args c cc R5 wA nL Γ.1 clA (tyA Γ)) {i : Int32} (hin : vp_in i 6) (hdg : decode cc pc = .ok (.iaload, 1)) (kk : VV p l e R s m args below meth c cells slots Q nL Γ.1 clA A H0 (wM Γ t) (pc + 1) lv (.int (t 5 i.toNatClampNeg) :: st)) : VV p l e R s m args below meth c cells slots Q nL Γ.1 clA A H0 (wM Γ t) pc lv (.int i :: .ref (Γ.2.1 30) :: st) :=
  vv_iald C 3 0 (wM_at (by decide)) rfl hin hdg kk
theorem sr_M_order (C : cx p s m args c cc R5 wA nL Γ.1 clA (tyA Γ)) {i v : Int32} (hin : vp_in i 6) (hdg : decode cc pc = .ok (.iastore, 1)) (kk : VV p l e R s m args below meth c cells slots Q nL Γ.1 clA A H0 (wM Γ (up2 t 5 i.toNatClampNeg v)) (pc + 1) lv st) : VV p l e R s m args below meth c cells slots Q nL Γ.1 clA A H0 (wM Γ t) pc lv (.int v :: .int i :: .ref (Γ.2.1 30) :: st) :=
  vv_iast C 3 0 (wM_at (by decide)) rfl hin (wM_set (by decide) rfl oM_5) hdg kk
theorem ld_M_methods (C : cx p s m args c cc R5 wA nL Γ.1 clA (tyA Γ)) {i : Int32} (hin : vp_in i 6) (hdg : decode cc pc = .ok (.iaload, 1)) (kk : VV p l e R s m args below meth c cells slots Q nL Γ.1 clA A H0 (wM Γ t) (pc + 1) lv (.int (t 6 i.toNatClampNeg) :: st)) : VV p l e R s m args below meth c cells slots Q nL Γ.1 clA A H0 (wM Γ t) pc lv (.int i :: .ref (Γ.2.1 31) :: st) :=
  vv_iald C 4 0 (wM_at (by decide)) rfl hin hdg kk
theorem sr_M_methods (C : cx p s m args c cc R5 wA nL Γ.1 clA (tyA Γ)) {i v : Int32} (hin : vp_in i 6) (hdg : decode cc pc = .ok (.iastore, 1)) (kk : VV p l e R s m args below meth c cells slots Q nL Γ.1 clA A H0 (wM Γ (up2 t 6 i.toNatClampNeg v)) (pc + 1) lv st) : VV p l e R s m args below meth c cells slots Q nL Γ.1 clA A H0 (wM Γ t) pc lv (.int v :: .int i :: .ref (Γ.2.1 31) :: st) :=
  vv_iast C 4 0 (wM_at (by decide)) rfl hin (wM_set (by decide) rfl oM_6) hdg kk
theorem ld_M_first (C : cx p s m args c cc R5 wA nL Γ.1 clA (tyA Γ)) {i : Int32} (hin : vp_in i 6) (hdg : decode cc pc = .ok (.iaload, 1)) (kk : VV p l e R s m args below meth c cells slots Q nL Γ.1 clA A H0 (wM Γ t) (pc + 1) lv (.int (t 7 i.toNatClampNeg) :: st)) : VV p l e R s m args below meth c cells slots Q nL Γ.1 clA A H0 (wM Γ t) pc lv (.int i :: .ref (Γ.2.1 32) :: st) :=
  vv_iald C 5 0 (wM_at (by decide)) rfl hin hdg kk
theorem sr_M_first (C : cx p s m args c cc R5 wA nL Γ.1 clA (tyA Γ)) {i v : Int32} (hin : vp_in i 6) (hdg : decode cc pc = .ok (.iastore, 1)) (kk : VV p l e R s m args below meth c cells slots Q nL Γ.1 clA A H0 (wM Γ (up2 t 7 i.toNatClampNeg v)) (pc + 1) lv st) : VV p l e R s m args below meth c cells slots Q nL Γ.1 clA A H0 (wM Γ t) pc lv (.int v :: .int i :: .ref (Γ.2.1 32) :: st) :=
  vv_iast C 5 0 (wM_at (by decide)) rfl hin (wM_set (by decide) rfl oM_7) hdg kk
theorem ld_M_second (C : cx p s m args c cc R5 wA nL Γ.1 clA (tyA Γ)) {i : Int32} (hin : vp_in i 6) (hdg : decode cc pc = .ok (.iaload, 1)) (kk : VV p l e R s m args below meth c cells slots Q nL Γ.1 clA A H0 (wM Γ t) (pc + 1) lv (.int (t 8 i.toNatClampNeg) :: st)) : VV p l e R s m args below meth c cells slots Q nL Γ.1 clA A H0 (wM Γ t) pc lv (.int i :: .ref (Γ.2.1 33) :: st) :=
  vv_iald C 6 0 (wM_at (by decide)) rfl hin hdg kk
theorem sr_M_second (C : cx p s m args c cc R5 wA nL Γ.1 clA (tyA Γ)) {i v : Int32} (hin : vp_in i 6) (hdg : decode cc pc = .ok (.iastore, 1)) (kk : VV p l e R s m args below meth c cells slots Q nL Γ.1 clA A H0 (wM Γ (up2 t 8 i.toNatClampNeg v)) (pc + 1) lv st) : VV p l e R s m args below meth c cells slots Q nL Γ.1 clA A H0 (wM Γ t) pc lv (.int v :: .int i :: .ref (Γ.2.1 33) :: st) :=
  vv_iast C 6 0 (wM_at (by decide)) rfl hin (wM_set (by decide) rfl oM_8) hdg kk
theorem ld_M_ranged (C : cx p s m args c cc R5 wA nL Γ.1 clA (tyA Γ)) {i : Int32} (hin : vp_in i 6) (hdg : decode cc pc = .ok (.baload, 1)) (kk : VV p l e R s m args below meth c cells slots Q nL Γ.1 clA A H0 (wM Γ t) (pc + 1) lv (.int (t 9 i.toNatClampNeg) :: st)) : VV p l e R s m args below meth c cells slots Q nL Γ.1 clA A H0 (wM Γ t) pc lv (.int i :: .ref (Γ.2.1 34) :: st) :=
  vv_zald C 7 3 (wM_at (by decide)) rfl hin hdg kk
theorem sr_M_ranged (C : cx p s m args c cc R5 wA nL Γ.1 clA (tyA Γ)) {i v v' : Int32} (hv : vp_nar .boolean v = v') (hin : vp_in i 6) (hdg : decode cc pc = .ok (.bastore, 1)) (kk : VV p l e R s m args below meth c cells slots Q nL Γ.1 clA A H0 (wM Γ (up2 t 9 i.toNatClampNeg v')) (pc + 1) lv st) : VV p l e R s m args below meth c cells slots Q nL Γ.1 clA A H0 (wM Γ t) pc lv (.int v :: .int i :: .ref (Γ.2.1 34) :: st) := by
  subst hv
  exact vv_zast C 7 3 (wM_at (by decide)) rfl hin (wM_set (by decide) rfl oM_9) hdg kk
theorem ld_M_low (C : cx p s m args c cc R5 wA nL Γ.1 clA (tyA Γ)) {i : Int32} (hin : vp_in i 6) (hdg : decode cc pc = .ok (.iaload, 1)) (kk : VV p l e R s m args below meth c cells slots Q nL Γ.1 clA A H0 (wM Γ t) (pc + 1) lv (.int (t 10 i.toNatClampNeg) :: st)) : VV p l e R s m args below meth c cells slots Q nL Γ.1 clA A H0 (wM Γ t) pc lv (.int i :: .ref (Γ.2.1 35) :: st) :=
  vv_iald C 8 0 (wM_at (by decide)) rfl hin hdg kk
theorem sr_M_low (C : cx p s m args c cc R5 wA nL Γ.1 clA (tyA Γ)) {i v : Int32} (hin : vp_in i 6) (hdg : decode cc pc = .ok (.iastore, 1)) (kk : VV p l e R s m args below meth c cells slots Q nL Γ.1 clA A H0 (wM Γ (up2 t 10 i.toNatClampNeg v)) (pc + 1) lv st) : VV p l e R s m args below meth c cells slots Q nL Γ.1 clA A H0 (wM Γ t) pc lv (.int v :: .int i :: .ref (Γ.2.1 35) :: st) :=
  vv_iast C 8 0 (wM_at (by decide)) rfl hin (wM_set (by decide) rfl oM_10) hdg kk
theorem ld_M_high (C : cx p s m args c cc R5 wA nL Γ.1 clA (tyA Γ)) {i : Int32} (hin : vp_in i 6) (hdg : decode cc pc = .ok (.iaload, 1)) (kk : VV p l e R s m args below meth c cells slots Q nL Γ.1 clA A H0 (wM Γ t) (pc + 1) lv (.int (t 11 i.toNatClampNeg) :: st)) : VV p l e R s m args below meth c cells slots Q nL Γ.1 clA A H0 (wM Γ t) pc lv (.int i :: .ref (Γ.2.1 36) :: st) :=
  vv_iald C 9 0 (wM_at (by decide)) rfl hin hdg kk
theorem sr_M_high (C : cx p s m args c cc R5 wA nL Γ.1 clA (tyA Γ)) {i v : Int32} (hin : vp_in i 6) (hdg : decode cc pc = .ok (.iastore, 1)) (kk : VV p l e R s m args below meth c cells slots Q nL Γ.1 clA A H0 (wM Γ (up2 t 11 i.toNatClampNeg v)) (pc + 1) lv st) : VV p l e R s m args below meth c cells slots Q nL Γ.1 clA A H0 (wM Γ t) pc lv (.int v :: .int i :: .ref (Γ.2.1 36) :: st) :=
  vv_iast C 9 0 (wM_at (by decide)) rfl hin (wM_set (by decide) rfl oM_11) hdg kk
theorem ld_M_factor (C : cx p s m args c cc R5 wA nL Γ.1 clA (tyA Γ)) {i : Int32} (hin : vp_in i 12) (hdg : decode cc pc = .ok (.iaload, 1)) (kk : VV p l e R s m args below meth c cells slots Q nL Γ.1 clA A H0 (wM Γ t) (pc + 1) lv (.int (t 12 i.toNatClampNeg) :: st)) : VV p l e R s m args below meth c cells slots Q nL Γ.1 clA A H0 (wM Γ t) pc lv (.int i :: .ref (Γ.2.1 37) :: st) :=
  vv_iald C 10 0 (wM_at (by decide)) rfl hin hdg kk
theorem sr_M_factor (C : cx p s m args c cc R5 wA nL Γ.1 clA (tyA Γ)) {i v : Int32} (hin : vp_in i 12) (hdg : decode cc pc = .ok (.iastore, 1)) (kk : VV p l e R s m args below meth c cells slots Q nL Γ.1 clA A H0 (wM Γ (up2 t 12 i.toNatClampNeg v)) (pc + 1) lv st) : VV p l e R s m args below meth c cells slots Q nL Γ.1 clA A H0 (wM Γ t) pc lv (.int v :: .int i :: .ref (Γ.2.1 37) :: st) :=
  vv_iast C 10 0 (wM_at (by decide)) rfl hin (wM_set (by decide) rfl oM_12) hdg kk
theorem ld_M_addend (C : cx p s m args c cc R5 wA nL Γ.1 clA (tyA Γ)) {i : Int32} (hin : vp_in i 12) (hdg : decode cc pc = .ok (.iaload, 1)) (kk : VV p l e R s m args below meth c cells slots Q nL Γ.1 clA A H0 (wM Γ t) (pc + 1) lv (.int (t 13 i.toNatClampNeg) :: st)) : VV p l e R s m args below meth c cells slots Q nL Γ.1 clA A H0 (wM Γ t) pc lv (.int i :: .ref (Γ.2.1 38) :: st) :=
  vv_iald C 11 0 (wM_at (by decide)) rfl hin hdg kk
theorem sr_M_addend (C : cx p s m args c cc R5 wA nL Γ.1 clA (tyA Γ)) {i v : Int32} (hin : vp_in i 12) (hdg : decode cc pc = .ok (.iastore, 1)) (kk : VV p l e R s m args below meth c cells slots Q nL Γ.1 clA A H0 (wM Γ (up2 t 13 i.toNatClampNeg v)) (pc + 1) lv st) : VV p l e R s m args below meth c cells slots Q nL Γ.1 clA A H0 (wM Γ t) pc lv (.int v :: .int i :: .ref (Γ.2.1 38) :: st) :=
  vv_iast C 11 0 (wM_at (by decide)) rfl hin (wM_set (by decide) rfl oM_13) hdg kk
theorem ld_M_failsAt (C : cx p s m args c cc R5 wA nL Γ.1 clA (tyA Γ)) {i : Int32} (hin : vp_in i 12) (hdg : decode cc pc = .ok (.iaload, 1)) (kk : VV p l e R s m args below meth c cells slots Q nL Γ.1 clA A H0 (wM Γ t) (pc + 1) lv (.int (t 14 i.toNatClampNeg) :: st)) : VV p l e R s m args below meth c cells slots Q nL Γ.1 clA A H0 (wM Γ t) pc lv (.int i :: .ref (Γ.2.1 39) :: st) :=
  vv_iald C 12 0 (wM_at (by decide)) rfl hin hdg kk
theorem sr_M_failsAt (C : cx p s m args c cc R5 wA nL Γ.1 clA (tyA Γ)) {i v : Int32} (hin : vp_in i 12) (hdg : decode cc pc = .ok (.iastore, 1)) (kk : VV p l e R s m args below meth c cells slots Q nL Γ.1 clA A H0 (wM Γ (up2 t 14 i.toNatClampNeg v)) (pc + 1) lv st) : VV p l e R s m args below meth c cells slots Q nL Γ.1 clA A H0 (wM Γ t) pc lv (.int v :: .int i :: .ref (Γ.2.1 39) :: st) :=
  vv_iast C 12 0 (wM_at (by decide)) rfl hin (wM_set (by decide) rfl oM_14) hdg kk
theorem ld_M_failure (C : cx p s m args c cc R5 wA nL Γ.1 clA (tyA Γ)) {i : Int32} (hin : vp_in i 12) (hdg : decode cc pc = .ok (.iaload, 1)) (kk : VV p l e R s m args below meth c cells slots Q nL Γ.1 clA A H0 (wM Γ t) (pc + 1) lv (.int (t 15 i.toNatClampNeg) :: st)) : VV p l e R s m args below meth c cells slots Q nL Γ.1 clA A H0 (wM Γ t) pc lv (.int i :: .ref (Γ.2.1 40) :: st) :=
  vv_iald C 13 0 (wM_at (by decide)) rfl hin hdg kk
theorem sr_M_failure (C : cx p s m args c cc R5 wA nL Γ.1 clA (tyA Γ)) {i v : Int32} (hin : vp_in i 12) (hdg : decode cc pc = .ok (.iastore, 1)) (kk : VV p l e R s m args below meth c cells slots Q nL Γ.1 clA A H0 (wM Γ (up2 t 15 i.toNatClampNeg v)) (pc + 1) lv st) : VV p l e R s m args below meth c cells slots Q nL Γ.1 clA A H0 (wM Γ t) pc lv (.int v :: .int i :: .ref (Γ.2.1 40) :: st) :=
  vv_iast C 13 0 (wM_at (by decide)) rfl hin (wM_set (by decide) rfl oM_15) hdg kk
theorem ld_M_leads (C : cx p s m args c cc R5 wA nL Γ.1 clA (tyA Γ)) {i : Int32} (hin : vp_in i 12) (hdg : decode cc pc = .ok (.iaload, 1)) (kk : VV p l e R s m args below meth c cells slots Q nL Γ.1 clA A H0 (wM Γ t) (pc + 1) lv (.int (t 16 i.toNatClampNeg) :: st)) : VV p l e R s m args below meth c cells slots Q nL Γ.1 clA A H0 (wM Γ t) pc lv (.int i :: .ref (Γ.2.1 41) :: st) :=
  vv_iald C 14 0 (wM_at (by decide)) rfl hin hdg kk
theorem sr_M_leads (C : cx p s m args c cc R5 wA nL Γ.1 clA (tyA Γ)) {i v : Int32} (hin : vp_in i 12) (hdg : decode cc pc = .ok (.iastore, 1)) (kk : VV p l e R s m args below meth c cells slots Q nL Γ.1 clA A H0 (wM Γ (up2 t 16 i.toNatClampNeg v)) (pc + 1) lv st) : VV p l e R s m args below meth c cells slots Q nL Γ.1 clA A H0 (wM Γ t) pc lv (.int v :: .int i :: .ref (Γ.2.1 41) :: st) :=
  vv_iast C 14 0 (wM_at (by decide)) rfl hin (wM_set (by decide) rfl oM_16) hdg kk
theorem ld_M_whoNoted (C : cx p s m args c cc R5 wA nL Γ.1 clA (tyA Γ)) {i : Int32} (hin : vp_in i 100) (hdg : decode cc pc = .ok (.iaload, 1)) (kk : VV p l e R s m args below meth c cells slots Q nL Γ.1 clA A H0 (wM Γ t) (pc + 1) lv (.int (t 20 i.toNatClampNeg) :: st)) : VV p l e R s m args below meth c cells slots Q nL Γ.1 clA A H0 (wM Γ t) pc lv (.int i :: .ref (Γ.2.1 42) :: st) :=
  vv_iald C 15 0 (wM_at (by decide)) rfl hin hdg kk
theorem sr_M_whoNoted (C : cx p s m args c cc R5 wA nL Γ.1 clA (tyA Γ)) {i v : Int32} (hin : vp_in i 100) (hdg : decode cc pc = .ok (.iastore, 1)) (kk : VV p l e R s m args below meth c cells slots Q nL Γ.1 clA A H0 (wM Γ (up2 t 20 i.toNatClampNeg v)) (pc + 1) lv st) : VV p l e R s m args below meth c cells slots Q nL Γ.1 clA A H0 (wM Γ t) pc lv (.int v :: .int i :: .ref (Γ.2.1 42) :: st) :=
  vv_iast C 15 0 (wM_at (by decide)) rfl hin (wM_set (by decide) rfl oM_20) hdg kk
theorem ld_M_whatNoted (C : cx p s m args c cc R5 wA nL Γ.1 clA (tyA Γ)) {i : Int32} (hin : vp_in i 100) (hdg : decode cc pc = .ok (.iaload, 1)) (kk : VV p l e R s m args below meth c cells slots Q nL Γ.1 clA A H0 (wM Γ t) (pc + 1) lv (.int (t 21 i.toNatClampNeg) :: st)) : VV p l e R s m args below meth c cells slots Q nL Γ.1 clA A H0 (wM Γ t) pc lv (.int i :: .ref (Γ.2.1 43) :: st) :=
  vv_iald C 16 0 (wM_at (by decide)) rfl hin hdg kk
theorem sr_M_whatNoted (C : cx p s m args c cc R5 wA nL Γ.1 clA (tyA Γ)) {i v : Int32} (hin : vp_in i 100) (hdg : decode cc pc = .ok (.iastore, 1)) (kk : VV p l e R s m args below meth c cells slots Q nL Γ.1 clA A H0 (wM Γ (up2 t 21 i.toNatClampNeg v)) (pc + 1) lv st) : VV p l e R s m args below meth c cells slots Q nL Γ.1 clA A H0 (wM Γ t) pc lv (.int v :: .int i :: .ref (Γ.2.1 43) :: st) :=
  vv_iast C 16 0 (wM_at (by decide)) rfl hin (wM_set (by decide) rfl oM_21) hdg kk
theorem ld_M_method (C : cx p s m args c cc R5 wA nL Γ.1 clA (tyA Γ)) {i : Int32} (hin : vp_in i 4) (hdg : decode cc pc = .ok (.iaload, 1)) (kk : VV p l e R s m args below meth c cells slots Q nL Γ.1 clA A H0 (wM Γ t) (pc + 1) lv (.int (t 27 i.toNatClampNeg) :: st)) : VV p l e R s m args below meth c cells slots Q nL Γ.1 clA A H0 (wM Γ t) pc lv (.int i :: .ref (Γ.2.1 44) :: st) :=
  vv_iald C 17 0 (wM_at (by decide)) rfl hin hdg kk
theorem sr_M_method (C : cx p s m args c cc R5 wA nL Γ.1 clA (tyA Γ)) {i v : Int32} (hin : vp_in i 4) (hdg : decode cc pc = .ok (.iastore, 1)) (kk : VV p l e R s m args below meth c cells slots Q nL Γ.1 clA A H0 (wM Γ (up2 t 27 i.toNatClampNeg v)) (pc + 1) lv st) : VV p l e R s m args below meth c cells slots Q nL Γ.1 clA A H0 (wM Γ t) pc lv (.int v :: .int i :: .ref (Γ.2.1 44) :: st) :=
  vv_iast C 17 0 (wM_at (by decide)) rfl hin (wM_set (by decide) rfl oM_27) hdg kk
theorem ld_M_target (C : cx p s m args c cc R5 wA nL Γ.1 clA (tyA Γ)) {i : Int32} (hin : vp_in i 4) (hdg : decode cc pc = .ok (.iaload, 1)) (kk : VV p l e R s m args below meth c cells slots Q nL Γ.1 clA A H0 (wM Γ t) (pc + 1) lv (.int (t 28 i.toNatClampNeg) :: st)) : VV p l e R s m args below meth c cells slots Q nL Γ.1 clA A H0 (wM Γ t) pc lv (.int i :: .ref (Γ.2.1 45) :: st) :=
  vv_iald C 18 0 (wM_at (by decide)) rfl hin hdg kk
theorem sr_M_target (C : cx p s m args c cc R5 wA nL Γ.1 clA (tyA Γ)) {i v : Int32} (hin : vp_in i 4) (hdg : decode cc pc = .ok (.iastore, 1)) (kk : VV p l e R s m args below meth c cells slots Q nL Γ.1 clA A H0 (wM Γ (up2 t 28 i.toNatClampNeg v)) (pc + 1) lv st) : VV p l e R s m args below meth c cells slots Q nL Γ.1 clA A H0 (wM Γ t) pc lv (.int v :: .int i :: .ref (Γ.2.1 45) :: st) :=
  vv_iast C 18 0 (wM_at (by decide)) rfl hin (wM_set (by decide) rfl oM_28) hdg kk
theorem ld_M_waits (C : cx p s m args c cc R5 wA nL Γ.1 clA (tyA Γ)) {i : Int32} (hin : vp_in i 30) (hdg : decode cc pc = .ok (.iaload, 1)) (kk : VV p l e R s m args below meth c cells slots Q nL Γ.1 clA A H0 (wM Γ t) (pc + 1) lv (.int (t 30 i.toNatClampNeg) :: st)) : VV p l e R s m args below meth c cells slots Q nL Γ.1 clA A H0 (wM Γ t) pc lv (.int i :: .ref (Γ.2.1 46) :: st) :=
  vv_iald C 19 0 (wM_at (by decide)) rfl hin hdg kk
theorem sr_M_waits (C : cx p s m args c cc R5 wA nL Γ.1 clA (tyA Γ)) {i v : Int32} (hin : vp_in i 30) (hdg : decode cc pc = .ok (.iastore, 1)) (kk : VV p l e R s m args below meth c cells slots Q nL Γ.1 clA A H0 (wM Γ (up2 t 30 i.toNatClampNeg v)) (pc + 1) lv st) : VV p l e R s m args below meth c cells slots Q nL Γ.1 clA A H0 (wM Γ t) pc lv (.int v :: .int i :: .ref (Γ.2.1 46) :: st) :=
  vv_iast C 19 0 (wM_at (by decide)) rfl hin (wM_set (by decide) rfl oM_30) hdg kk
theorem ld_M_waitsPlace (C : cx p s m args c cc R5 wA nL Γ.1 clA (tyA Γ)) {i : Int32} (hin : vp_in i 30) (hdg : decode cc pc = .ok (.iaload, 1)) (kk : VV p l e R s m args below meth c cells slots Q nL Γ.1 clA A H0 (wM Γ t) (pc + 1) lv (.int (t 31 i.toNatClampNeg) :: st)) : VV p l e R s m args below meth c cells slots Q nL Γ.1 clA A H0 (wM Γ t) pc lv (.int i :: .ref (Γ.2.1 47) :: st) :=
  vv_iald C 20 0 (wM_at (by decide)) rfl hin hdg kk
theorem sr_M_waitsPlace (C : cx p s m args c cc R5 wA nL Γ.1 clA (tyA Γ)) {i v : Int32} (hin : vp_in i 30) (hdg : decode cc pc = .ok (.iastore, 1)) (kk : VV p l e R s m args below meth c cells slots Q nL Γ.1 clA A H0 (wM Γ (up2 t 31 i.toNatClampNeg v)) (pc + 1) lv st) : VV p l e R s m args below meth c cells slots Q nL Γ.1 clA A H0 (wM Γ t) pc lv (.int v :: .int i :: .ref (Γ.2.1 47) :: st) :=
  vv_iast C 20 0 (wM_at (by decide)) rfl hin (wM_set (by decide) rfl oM_31) hdg kk
theorem ld_M_waitsAdvisor (C : cx p s m args c cc R5 wA nL Γ.1 clA (tyA Γ)) {i : Int32} (hin : vp_in i 30) (hdg : decode cc pc = .ok (.iaload, 1)) (kk : VV p l e R s m args below meth c cells slots Q nL Γ.1 clA A H0 (wM Γ t) (pc + 1) lv (.int (t 32 i.toNatClampNeg) :: st)) : VV p l e R s m args below meth c cells slots Q nL Γ.1 clA A H0 (wM Γ t) pc lv (.int i :: .ref (Γ.2.1 48) :: st) :=
  vv_iald C 21 0 (wM_at (by decide)) rfl hin hdg kk
theorem sr_M_waitsAdvisor (C : cx p s m args c cc R5 wA nL Γ.1 clA (tyA Γ)) {i v : Int32} (hin : vp_in i 30) (hdg : decode cc pc = .ok (.iastore, 1)) (kk : VV p l e R s m args below meth c cells slots Q nL Γ.1 clA A H0 (wM Γ (up2 t 32 i.toNatClampNeg v)) (pc + 1) lv st) : VV p l e R s m args below meth c cells slots Q nL Γ.1 clA A H0 (wM Γ t) pc lv (.int v :: .int i :: .ref (Γ.2.1 48) :: st) :=
  vv_iast C 21 0 (wM_at (by decide)) rfl hin (wM_set (by decide) rfl oM_32) hdg kk
theorem ld_M_waitsX (C : cx p s m args c cc R5 wA nL Γ.1 clA (tyA Γ)) {i : Int32} (hin : vp_in i 30) (hdg : decode cc pc = .ok (.iaload, 1)) (kk : VV p l e R s m args below meth c cells slots Q nL Γ.1 clA A H0 (wM Γ t) (pc + 1) lv (.int (t 33 i.toNatClampNeg) :: st)) : VV p l e R s m args below meth c cells slots Q nL Γ.1 clA A H0 (wM Γ t) pc lv (.int i :: .ref (Γ.2.1 49) :: st) :=
  vv_iald C 22 0 (wM_at (by decide)) rfl hin hdg kk
theorem sr_M_waitsX (C : cx p s m args c cc R5 wA nL Γ.1 clA (tyA Γ)) {i v : Int32} (hin : vp_in i 30) (hdg : decode cc pc = .ok (.iastore, 1)) (kk : VV p l e R s m args below meth c cells slots Q nL Γ.1 clA A H0 (wM Γ (up2 t 33 i.toNatClampNeg v)) (pc + 1) lv st) : VV p l e R s m args below meth c cells slots Q nL Γ.1 clA A H0 (wM Γ t) pc lv (.int v :: .int i :: .ref (Γ.2.1 49) :: st) :=
  vv_iast C 22 0 (wM_at (by decide)) rfl hin (wM_set (by decide) rfl oM_33) hdg kk
theorem ld_M_waitsR (C : cx p s m args c cc R5 wA nL Γ.1 clA (tyA Γ)) {i : Int32} (hin : vp_in i 30) (hdg : decode cc pc = .ok (.iaload, 1)) (kk : VV p l e R s m args below meth c cells slots Q nL Γ.1 clA A H0 (wM Γ t) (pc + 1) lv (.int (t 34 i.toNatClampNeg) :: st)) : VV p l e R s m args below meth c cells slots Q nL Γ.1 clA A H0 (wM Γ t) pc lv (.int i :: .ref (Γ.2.1 50) :: st) :=
  vv_iald C 23 0 (wM_at (by decide)) rfl hin hdg kk
theorem sr_M_waitsR (C : cx p s m args c cc R5 wA nL Γ.1 clA (tyA Γ)) {i v : Int32} (hin : vp_in i 30) (hdg : decode cc pc = .ok (.iastore, 1)) (kk : VV p l e R s m args below meth c cells slots Q nL Γ.1 clA A H0 (wM Γ (up2 t 34 i.toNatClampNeg v)) (pc + 1) lv st) : VV p l e R s m args below meth c cells slots Q nL Γ.1 clA A H0 (wM Γ t) pc lv (.int v :: .int i :: .ref (Γ.2.1 50) :: st) :=
  vv_iast C 23 0 (wM_at (by decide)) rfl hin (wM_set (by decide) rfl oM_34) hdg kk
theorem ld_M_waitsAgain (C : cx p s m args c cc R5 wA nL Γ.1 clA (tyA Γ)) {i : Int32} (hin : vp_in i 30) (hdg : decode cc pc = .ok (.baload, 1)) (kk : VV p l e R s m args below meth c cells slots Q nL Γ.1 clA A H0 (wM Γ t) (pc + 1) lv (.int (t 35 i.toNatClampNeg) :: st)) : VV p l e R s m args below meth c cells slots Q nL Γ.1 clA A H0 (wM Γ t) pc lv (.int i :: .ref (Γ.2.1 51) :: st) :=
  vv_zald C 24 3 (wM_at (by decide)) rfl hin hdg kk
theorem sr_M_waitsAgain (C : cx p s m args c cc R5 wA nL Γ.1 clA (tyA Γ)) {i v v' : Int32} (hv : vp_nar .boolean v = v') (hin : vp_in i 30) (hdg : decode cc pc = .ok (.bastore, 1)) (kk : VV p l e R s m args below meth c cells slots Q nL Γ.1 clA A H0 (wM Γ (up2 t 35 i.toNatClampNeg v')) (pc + 1) lv st) : VV p l e R s m args below meth c cells slots Q nL Γ.1 clA A H0 (wM Γ t) pc lv (.int v :: .int i :: .ref (Γ.2.1 51) :: st) := by
  subst hv
  exact vv_zast C 24 3 (wM_at (by decide)) rfl hin (wM_set (by decide) rfl oM_35) hdg kk
end FM
abbrev CtM (l : Launch) (Γ : Geo) (y : MethodName) (bytes : ByteArray) (maxL : Nat) (ret : Option FieldType) (d : Nat) (av : List Value) (t : M2) (rv : Option Value) (t' : M2) : Prop :=
  Ct l y (Cond.code y bytes maxL ret :: wA) (rmD d) Γ.1 clA (tyA Γ) (inM Γ) av (wM Γ t) rv (wM Γ t')
section CM
variable {p : Program} {l : Launch} {e : Env} {d : Nat} {s : State} {m : MethodId} {args : Array Value} {below : List Frame} {meth : Method} {c : Code} {Q : State → Prop}
variable {cc : ByteArray} {own : String} {nL : Nat} {H0 : Heap} {pc : Nat} {lv : List (Nat × Value)} {st : List Value} {Γ : Geo} {t t' : M2}
theorem cllM (C : cx p s m args c cc own wA nL Γ.1 clA (tyA Γ)) {index maxL n d' : Nat} {y : MethodName} {bytes : ByteArray} {ret : Option FieldType} {As rest : List Value} {rv : Option Value}
    (hM : CtM l Γ y bytes maxL ret d' (.ref (Γ.2.1 27) :: As) t rv t') (cw : callVw own index R5 y bytes maxL ret wA wA n) (hn : As.length = n)
    (hst : st = As.reverse ++ .ref (Γ.2.1 27) :: rest) (hW : (rest.map fun v => v.category).sum ≤ 8) (hm : maxL ≤ 21) (hd : d' + 1 ≤ d) (hdg : decode cc pc = .ok (.invokevirtual index, 3))
    (kk : VV p l e (rmD d) s m args below meth c 0 0 Q nL Γ.1 clA (inM Γ) H0 (wM Γ t') (pc + 3) lv (rv.toList ++ rest)) : VV p l e (rmD d) s m args below meth c 0 0 Q nL Γ.1 clA (inM Γ) H0 (wM Γ t) pc lv st :=
  vv_callV C hM cw hn 0 (wM_at (by decide)) rfl hst hW (fitsIn_D hm hd) ⟨Nat.le_refl _, Nat.le_refl _⟩ hdg (fun _ h => h) (fun h => h) wM_D kk
theorem cllMS (C : cx p s m args c cc own wA nL Γ.1 clA (tyA Γ)) {index maxL n d' : Nat} {y : MethodName} {bytes : ByteArray} {ret : Option FieldType} {As rest : List Value} {rv : Option Value}
    (hM : CtM l Γ y bytes maxL ret d' As t rv t') (cw : callSw own index y bytes maxL ret wA wA n) (hn : As.length = n)
    (hst : st = As.reverse ++ rest) (hW : (rest.map fun v => v.category).sum ≤ 8) (hm : maxL ≤ 21) (hd : d' + 1 ≤ d) (hdg : decode cc pc = .ok (.invokestatic index, 3))
    (kk : VV p l e (rmD d) s m args below meth c 0 0 Q nL Γ.1 clA (inM Γ) H0 (wM Γ t') (pc + 3) lv (rv.toList ++ rest)) : VV p l e (rmD d) s m args below meth c 0 0 Q nL Γ.1 clA (inM Γ) H0 (wM Γ t) pc lv st :=
  vv_callS C hM cw hn hst hW (fitsIn_D hm hd) ⟨Nat.le_refl _, Nat.le_refl _⟩ hdg (fun _ h => h) (fun h => h) wM_D kk
end CM
theorem cw_M_M_within : callSw R5 83 y_M_within b_M_within 3 (some .boolean) wA wA 3 := ⟨good_S (wA_all _ (by decide +kernel)) cd_M_within, rfl, by decide +kernel, by decide +kernel, by decide +kernel⟩
theorem cw_M_M_isException : callSw R5 87 y_M_isException b_M_isException 1 (some .boolean) wA wA 1 := ⟨good_S (wA_all _ (by decide +kernel)) cd_M_isException, rfl, by decide +kernel, by decide +kernel, by decide +kernel⟩
theorem cw_M_M_fits : callSw R5 99 y_M_fits b_M_fits 3 (some .boolean) wA wA 3 := ⟨good_S (wA_all _ (by decide +kernel)) cd_M_fits, rfl, by decide +kernel, by decide +kernel, by decide +kernel⟩
theorem cw_M_M_find : callVw R5 105 R5 y_M_find b_M_find 4 (some .int) wA wA 1 := ⟨good_V (wA_all _ (by decide +kernel)) cd_M_find, rfl, by decide +kernel, by decide +kernel, by decide +kernel⟩
theorem cw_M_M_linked : callVw R5 109 R5 y_M_linked b_M_linked 7 (some .int) wA wA 2 := ⟨good_V (wA_all _ (by decide +kernel)) cd_M_linked, rfl, by decide +kernel, by decide +kernel, by decide +kernel⟩
theorem cw_M_M_isCell : callSw R5 113 y_M_isCell b_M_isCell 2 (some .boolean) wA wA 2 := ⟨good_S (wA_all _ (by decide +kernel)) cd_M_isCell, rfl, by decide +kernel, by decide +kernel, by decide +kernel⟩
theorem cw_M_M_comes : callVw R5 150 R5 y_M_comes b_M_comes 3 none wA wA 2 := ⟨good_V (wA_all _ (by decide +kernel)) cd_M_comes, rfl, by decide +kernel, by decide +kernel, by decide +kernel⟩
theorem cw_M_M_await : callVw R5 157 R5 y_M_await b_M_await 3 none wA wA 2 := ⟨good_V (wA_all _ (by decide +kernel)) cd_M_await, rfl, by decide +kernel, by decide +kernel, by decide +kernel⟩
theorem cw_M_M_go : callVw R5 161 R5 y_M_go b_M_go 3 none wA wA 2 := ⟨good_V (wA_all _ (by decide +kernel)) cd_M_go, rfl, by decide +kernel, by decide +kernel, by decide +kernel⟩
theorem cw_M_M_note : callVw R5 164 R5 y_M_note b_M_note 3 none wA wA 2 := ⟨good_V (wA_all _ (by decide +kernel)) cd_M_note, rfl, by decide +kernel, by decide +kernel, by decide +kernel⟩
theorem cw_M_M_enter : callVw R5 167 R5 y_M_enter b_M_enter 3 none wA wA 2 := ⟨good_V (wA_all _ (by decide +kernel)) cd_M_enter, rfl, by decide +kernel, by decide +kernel, by decide +kernel⟩
theorem cw_M_M_work : callVw R5 170 R5 y_M_work b_M_work 2 none wA wA 0 := ⟨good_V (wA_all _ (by decide +kernel)) cd_M_work, rfl, by decide +kernel, by decide +kernel, by decide +kernel⟩
theorem cw_M_M_twice : callVw R5 176 R5 y_M_twice b_M_twice 2 none wA wA 1 := ⟨good_V (wA_all _ (by decide +kernel)) cd_M_twice, rfl, by decide +kernel, by decide +kernel, by decide +kernel⟩
theorem cw_M_M_isOne : callSw R5 180 y_M_isOne b_M_isOne 3 (some .boolean) wA wA 2 := ⟨good_S (wA_all _ (by decide +kernel)) cd_M_isOne, rfl, by decide +kernel, by decide +kernel, by decide +kernel⟩
theorem cw_M_M_step : callVw R5 183 R5 y_M_step b_M_step 2 none wA wA 0 := ⟨good_V (wA_all _ (by decide +kernel)) cd_M_step, rfl, by decide +kernel, by decide +kernel, by decide +kernel⟩
theorem cw_M_M_back : callVw R5 186 R5 y_M_back b_M_back 3 none wA wA 0 := ⟨good_V (wA_all _ (by decide +kernel)) cd_M_back, rfl, by decide +kernel, by decide +kernel, by decide +kernel⟩
