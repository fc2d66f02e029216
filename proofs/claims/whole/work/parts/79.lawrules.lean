section FRM
theorem P_mem {D : va_G} {cl : List vw_C} {ws : va_W} {H : Heap} : va_P D cl ws H ↔ ∀ x ∈ ws, va_at D cl x H := ⟨fun h x hx => by
  obtain ⟨i, hi⟩ := List.mem_iff_getElem?.mp hx
  exact h i x hi, fun h k q hk => h q (List.mem_iff_getElem?.mpr ⟨k, hk⟩)⟩
theorem D_apart {A : Nat → Prop} {w1 w2 : va_W} (h : va_D A (w1 ++ w2)) {x y : Nat × va_E} (hx : x ∈ w1) (hy : y ∈ w2) : x.1 ≠ y.1 := by
  obtain ⟨i, hi⟩ := List.mem_iff_getElem?.mp hx
  obtain ⟨j, hj⟩ := List.mem_iff_getElem?.mp hy
  have hl : i < w1.length := (List.getElem?_eq_some_iff.mp hi).1
  intro e
  have h1 : (w1 ++ w2)[i]? = some x := by rw [List.getElem?_append_left hl]; exact hi
  have h2 : (w1 ++ w2)[w1.length + j]? = some y := by rw [List.getElem?_append_right (by omega), show w1.length + j - w1.length = j by omega]; exact hj
  have := h.1 i (w1.length + j) x y h1 h2 e
  omega
theorem D_map {A : Nat → Prop} {ws ws' : va_W} (h : va_D A ws) (hm : ws'.map Prod.fst = ws.map Prod.fst) : va_D A ws' := by
  have key : ∀ (i : Nat) (x : Nat × va_E), ws'[i]? = some x → ∃ y, ws[i]? = some y ∧ y.1 = x.1 := by
    intro i x hx
    have h1 : (ws'.map Prod.fst)[i]? = some x.1 := by rw [List.getElem?_map, hx]; rfl
    rw [hm, List.getElem?_map] at h1
    cases hq : ws[i]? with
    | none => rw [hq] at h1; cases h1
    | some y =>
      rw [hq] at h1
      exact ⟨y, rfl, Option.some.inj h1⟩
  refine ⟨fun i j x y hi hj e => ?_, fun k x hx => ?_⟩
  · obtain ⟨x', a1, a2⟩ := key i x hi
    obtain ⟨y', b1, b2⟩ := key j y hj
    exact h.1 i j x' y' a1 b1 (by rw [a2, b2]; exact e)
  · obtain ⟨x', a1, a2⟩ := key k x hx
    rw [← a2]
    exact h.2 k x' a1
variable {p : Program} {l : Launch} {e : Env} {R : Room} {s : State} {m : MethodId} {args : Array Value} {below : List Frame} {meth : Method} {c : Code} {cells slots : Nat} {Q : State → Prop}
variable {cc : ByteArray} {own : String} {Ts : List Cond} {nL : Nat} {D : va_G} {cl : List vw_C} {tys : List (ClassId × FieldType)} {A G : Nat → Prop} {H0 : Heap} {pc : Nat} {lv : List (Nat × Value)} {st : List Value}
/-- a call over a part of the world: the rest stays -/
theorem vv_callF (C : cx p s m args c cc own Ts nL D cl tys) {wl wc wr wc' : va_W} {index maxL n : Nat} {K : String} {y : MethodName} {bytes : ByteArray} {ret : Option FieldType} {wsC : List Cond} {rm : Room} {b : Nat} {As rest : List Value} {rv : Option Value}
    (hM : Ct l y (Cond.code y bytes maxL ret :: wsC) rm D cl tys G (.ref b :: As) wc rv wc') (cw : callVw own index K y bytes maxL ret Ts wsC n) (hn : As.length = n) (q0 : Nat) {ci N : Nat} {T : u_T} {fs : List Value} (he : wc[q0]? = some (b, .inr (ci, fs))) (hc : cl[ci]? = some (K, T, N))
    (hst : st = As.reverse ++ .ref b :: rest) (hW : (rest.map fun v => v.category).sum ≤ 8) (hR : fitsIn maxL rm R) (hcs : cells ≤ R.cells ∧ slots ≤ R.slots) (hdg : decode cc pc = .ok (.invokevirtual index, 3)) (hGw : ∀ q, G q → ∃ x ∈ wc, x.1 = q) (hDG : va_D A wc → va_D G wc) (hmap : wc'.map Prod.fst = wc.map Prod.fst)
    (kk : VV p l e R s m args below meth c cells slots Q nL D cl A H0 (wl ++ (wc' ++ wr)) (pc + 3) lv (rv.toList ++ rest)) : VV p l e R s m args below meth c cells slots Q nL D cl A H0 (wl ++ (wc ++ wr)) pc lv st := by
  intro H locs ls hP hD hS hl
  obtain ⟨hx, hb, hml, hown, hts, hK⟩ := C
  obtain ⟨hR0, hR1, hR2⟩ := hR
  have hPm := P_mem.mp hP
  have hPc : va_P D cl wc H := P_mem.mpr (fun x hx => hPm x (List.mem_append_right _ (List.mem_append_left _ hx)))
  have hDc : va_D A wc := by
    refine ⟨fun i j x y hi hj e => ?_, fun k x hk => ?_⟩
    · have li := (List.getElem?_eq_some_iff.mp hi).1
      have lj := (List.getElem?_eq_some_iff.mp hj).1
      have := hD.1 (wl.length + i) (wl.length + j) x y (by rw [List.getElem?_append_right (by omega), show wl.length + i - wl.length = i by omega, List.getElem?_append_left li]; exact hi) (by rw [List.getElem?_append_right (by omega), show wl.length + j - wl.length = j by omega, List.getElem?_append_left lj]; exact hj) e
      omega
    · have lk := (List.getElem?_eq_some_iff.mp hk).1
      exact hD.2 (wl.length + k) x (by rw [List.getElem?_append_right (by omega), show wl.length + k - wl.length = k by omega, List.getElem?_append_left lk]; exact hk)
  have hG : ∀ q, G q → A q := fun q hq => by
    obtain ⟨x, hx, ex⟩ := hGw q hq
    obtain ⟨i, hi⟩ := List.mem_iff_getElem?.mp hx
    rw [← ex]
    exact hDc.2 i x hi
  refine ct_go (G := G) (rest := rest) (va_runV (n := n) (C := K) ⟨hx, hb, hml, hown, hts⟩ hM (cwV n hts cw.1 rfl hR0 hR1 cw.2 hR2) ⟨ctP_blind, va_recv hK hPc hc he, fun U hU hW => ⟨rfl, by rw [hU]; exact hPc, va_K.moved hW.alike hK, hDG hDc⟩⟩ rfl hn hl.1 hst (lv_room hW) hdg ⟨by omega, by omega⟩) hS hG (fun H1 locs1 hP1 hS1 _ hk => kk H1 locs1 ls ?_ ?_ hS1 hl)
  · have hP1m := P_mem.mp hP1
    refine P_mem.mpr (fun x hx => ?_)
    rcases List.mem_append.mp hx with h1 | h1
    · have h4 := hPm x (List.mem_append_left _ h1)
      refine h4.kept (hk x.1 h4.lt (fun z => ?_))
      obtain ⟨y, hy, ey⟩ := hGw _ z
      exact D_apart hD h1 (List.mem_append_left _ hy) ey.symm
    · rcases List.mem_append.mp h1 with h2 | h2
      · exact hP1m x h2
      · have h4 := hPm x (List.mem_append_right _ (List.mem_append_right _ h2))
        refine h4.kept (hk x.1 h4.lt (fun z => ?_))
        obtain ⟨y, hy, ey⟩ := hGw _ z
        have hD' : va_D A ((wl ++ wc) ++ wr) := by rw [List.append_assoc]; exact hD
        exact D_apart hD' (List.mem_append_right _ hy) h2 ey
  · exact D_map hD (by rw [List.map_append, List.map_append, List.map_append, List.map_append, hmap])
theorem wC_gw {Γ : Geo} {u : SC} : ∀ q, inC Γ q → ∃ x ∈ wC Γ u, x.1 = q := fun q ⟨k, hk, e⟩ => ⟨(Γ.2.1 k, eC Γ u k), List.mem_iff_getElem?.mpr ⟨k, wC_at hk⟩, e.symm⟩
theorem wM_gw {Γ : Geo} {t : M2} : ∀ q, inM Γ q → ∃ x ∈ wM Γ t, x.1 = q := fun q ⟨k, hk, e⟩ => ⟨(Γ.2.1 (k + 27), eM Γ t k), List.mem_iff_getElem?.mpr ⟨k, wM_at hk⟩, e.symm⟩
theorem wC_map {Γ : Geo} {u u' : SC} : (wC Γ u').map Prod.fst = (wC Γ u).map Prod.fst := by unfold wC; rw [List.map_map, List.map_map]; rfl
theorem wM_map {Γ : Geo} {t t' : M2} : (wM Γ t').map Prod.fst = (wM Γ t).map Prod.fst := by unfold wM; rw [List.map_map, List.map_map]; rfl
variable {Γ : Geo} {u u' : SC} {t t' : M2}
theorem callLC (C : cx p s m args c cc own wA nL Γ.1 clA (tyA Γ)) {index maxL n d' : Nat} {y : MethodName} {bytes : ByteArray} {ret : Option FieldType} {As rest : List Value} {rv : Option Value}
    (hM : CtC l Γ y bytes maxL ret d' (.ref (Γ.2.1 0) :: As) u rv u') (cw : callVw own index R4 y bytes maxL ret wA wA n) (hn : As.length = n) (hst : st = As.reverse ++ .ref (Γ.2.1 0) :: rest) (hW : (rest.map fun v => v.category).sum ≤ 8) (hR : fitsIn maxL (rmD d') R) (hcs : cells ≤ R.cells ∧ slots ≤ R.slots) (hdg : decode cc pc = .ok (.invokevirtual index, 3))
    (kk : VV p l e R s m args below meth c cells slots Q nL Γ.1 clA A H0 (wC Γ u' ++ wM Γ t) (pc + 3) lv (rv.toList ++ rest)) : VV p l e R s m args below meth c cells slots Q nL Γ.1 clA A H0 (wC Γ u ++ wM Γ t) pc lv st :=
  vv_ws (ws' := [] ++ (wC Γ u ++ wM Γ t)) rfl (vv_callF (wl := []) (wr := wM Γ t) C hM cw hn 0 (wC_at (by decide)) rfl hst hW hR hcs hdg wC_gw wC_G wC_map (vv_ws (ws' := wC Γ u' ++ wM Γ t) rfl kk))
theorem callLM (C : cx p s m args c cc own wA nL Γ.1 clA (tyA Γ)) {index maxL n d' : Nat} {y : MethodName} {bytes : ByteArray} {ret : Option FieldType} {As rest : List Value} {rv : Option Value}
    (hM : CtM l Γ y bytes maxL ret d' (.ref (Γ.2.1 27) :: As) t rv t') (cw : callVw own index R5 y bytes maxL ret wA wA n) (hn : As.length = n) (hst : st = As.reverse ++ .ref (Γ.2.1 27) :: rest) (hW : (rest.map fun v => v.category).sum ≤ 8) (hR : fitsIn maxL (rmD d') R) (hcs : cells ≤ R.cells ∧ slots ≤ R.slots) (hdg : decode cc pc = .ok (.invokevirtual index, 3))
    (kk : VV p l e R s m args below meth c cells slots Q nL Γ.1 clA A H0 (wC Γ u ++ wM Γ t') (pc + 3) lv (rv.toList ++ rest)) : VV p l e R s m args below meth c cells slots Q nL Γ.1 clA A H0 (wC Γ u ++ wM Γ t) pc lv st :=
  vv_ws (ws' := wC Γ u ++ (wM Γ t ++ [])) (by rw [List.append_nil]) (vv_callF (wl := wC Γ u) (wr := []) C hM cw hn 0 (wM_at (by decide)) rfl hst hW hR hcs hdg wM_gw wM_G wM_map (vv_ws (ws' := wC Γ u ++ wM Γ t') (by rw [List.append_nil]) kk))
theorem vv_sld {ws : va_W} (C : cx p s m args c cc own Ts nL D cl tys) {b L : Nat} {xs : Nat → Int32} (hX : va_X b L xs s H0) (hbl : b < H0.size) (hbA : ¬ A b) {i w : Int32} (hin : vp_in i L) (hw : xs i.toNatClampNeg = w) (hdg : decode cc pc = .ok (.iaload, 1)) (kk : VV p l e R s m args below meth c cells slots Q nL D cl A H0 ws (pc + 1) lv (.int w :: st)) : VV p l e R s m args below meth c cells slots Q nL D cl A H0 ws pc lv (.int i :: .ref b :: st) :=
  fun H locs ls hP hD hS hl => va_sld C.1 C.2.1 hX hbl hbA hS hin hdg (by rw [hw]; exact kk H locs ls hP hD hS hl)
theorem vv_slen {ws : va_W} (C : cx p s m args c cc own Ts nL D cl tys) {b L : Nat} {xs : Nat → Int32} (hX : va_X b L xs s H0) (hbl : b < H0.size) (hbA : ¬ A b) (hdg : decode cc pc = .ok (.arraylength, 1)) (kk : VV p l e R s m args below meth c cells slots Q nL D cl A H0 ws (pc + 1) lv (.int (Int32.ofNat L) :: st)) : VV p l e R s m args below meth c cells slots Q nL D cl A H0 ws pc lv (.ref b :: st) :=
  fun H locs ls hP hD hS hl => va_slen C.1 C.2.1 hX hbl hbA hS hdg (kk H locs ls hP hD hS hl)
end FRM
theorem sin {j L : Nat} (k : Nat) (hk : k < 6) (hj : 6 * j + 6 ≤ L) (hL : L ≤ 3072) : vp_in (nI (6 * j) + nI k) L := by
  rw [nI_add]
  exact vp_in_nI (by omega) (by omega)
theorem len_gt {j L : Nat} (hL : L ≤ 3072) (hj : 6 * j ≤ 3072) : (nI L - 6 < nI (6 * j)) ↔ ¬ 6 * j + 6 ≤ L := by
  by_cases c : 6 ≤ L
  · obtain ⟨q, rfl⟩ : ∃ q, L = q + 6 := ⟨L - 6, by omega⟩
    have e : nI (q + 6) - 6 = nI q := by
      rw [← nI_add, show nI 6 = 6 from rfl, Int32.add_sub_cancel]
    rw [e, nI_ltI (by omega) (by omega)]
    omega
  · have h6 : L = 0 ∨ L = 1 ∨ L = 2 ∨ L = 3 ∨ L = 4 ∨ L = 5 := by omega
    have hn : (nI L - 6).toInt < 0 := by rcases h6 with rfl | rfl | rfl | rfl | rfl | rfl <;> decide
    have hp : (nI (6 * j)).toInt = ((6 * j : Nat) : Int) := nI_toInt (by omega)
    constructor
    · intro _; omega
    · intro _
      rw [Int32.lt_iff_toInt_lt, hp]
      omega
