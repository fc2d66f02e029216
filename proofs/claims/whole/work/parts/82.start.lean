section START
variable {p : Program} {l : Launch} {e : Env} {s : State} {m : MethodId} {below : List Frame} {meth : Method} {c : Code} {Γ : Geo} {b L : Nat} {xs : Nat → Int32}
set_option maxHeartbeats 8000000 in
set_option maxRecDepth 100000 in
theorem law_main (C : cx p s m #[Value.ref b] c code R6 wA 4 Γ.1 clA (tyA Γ)) (hXN : XN s) (hX : va_X b L xs s s.heap) (hbl : b < s.heap.size) (hL : L ≤ 3072) (hr : meth.sig.returnType = ret) (hlk : meth.locks = false) :
    VV p l e room_1 s m #[Value.ref b] below meth c 0 0 (lw_Z below #[Value.ref b] s) 4 Γ.1 clA (fun q => s.heap.size ≤ q) s.heap [] 0 [(0, .ref b)] [] := by
  refine vv_new (N := 11) (ci := 4) (fs := [.null, .null, .null, .null, .null, .int 0, .int 0, .int 0, .int 0, .int 0, .int 0]) C inC4 ty4 ty4_ok (in_wA (by decide +kernel) rfl) (in_wA (by decide +kernel) rfl) (in_wA (by decide +kernel) rfl) (fun q h => h) rfl (fun j hj => by rcases (show j = 0 ∨ j = 1 ∨ j = 2 ∨ j = 3 ∨ j = 4 ∨ j = 5 ∨ j = 6 ∨ j = 7 ∨ j = 8 ∨ j = 9 ∨ j = 10 by omega) with rfl | rfl | rfl | rfl | rfl | rfl | rfl | rfl | rfl | rfl | rfl <;> rfl) (by decide) (by decide) d_W_law_0 (fun q1 => ?_)
  refine vv_ws (ws' := [(q1, .inr (4, [.null, .null, .null, .null, .null, .int 0, .int 0, .int 0, .int 0, .int 0, .int 0]))]) rfl ?_
  refine vv_dup C d_W_law_3 rfl ?_
  refine vv_mkI (wr := []) C hXN (c_L_init l Γ q1) gd_L_init rfl rfl (in_wA (by decide +kernel) rfl) (in_wA (by decide +kernel) rfl) (in_wA (by decide +kernel) rfl) rfl ⟨by decide +kernel, by decide +kernel, by decide +kernel⟩ ⟨by decide, by decide⟩ ⟨by decide, by decide⟩ (Nat.le_of_ble_eq_true rfl) d_W_law_4 (fun q h => h) 0 rfl [] rfl (by decide) (by decide) (fun a1 => ?_)
  refine vv_ws (ws' := wC (geoC Γ q1 a1) u0) rfl ?_
  refine vv_astore_n (lv' := [(1, .ref q1), (0, .ref b)]) C d_W_law_7 rfl (by decide) rfl ?_
  refine vv_new (N := 41) (ci := 5) (fs := [.int 0, .int 0, .int 0, .null, .null, .null, .null, .null, .null, .null, .null, .null, .null, .null, .null, .null, .null, .int 0, .int 0, .int 0, .null, .null, .int 0, .int 0, .int 0, .int 0, .int 0, .null, .null, .int 0, .null, .null, .null, .null, .null, .null, .int 0, .int 0, .int 0, .int 0, .int 0]) C inC5 ty5 ty5_ok (in_wA (by decide +kernel) rfl) (in_wA (by decide +kernel) rfl) (in_wA (by decide +kernel) rfl) (fun q h => h) rfl (fun j hj => by rcases (show j = 0 ∨ j = 1 ∨ j = 2 ∨ j = 3 ∨ j = 4 ∨ j = 5 ∨ j = 6 ∨ j = 7 ∨ j = 8 ∨ j = 9 ∨ j = 10 ∨ j = 11 ∨ j = 12 ∨ j = 13 ∨ j = 14 ∨ j = 15 ∨ j = 16 ∨ j = 17 ∨ j = 18 ∨ j = 19 ∨ j = 20 ∨ j = 21 ∨ j = 22 ∨ j = 23 ∨ j = 24 ∨ j = 25 ∨ j = 26 ∨ j = 27 ∨ j = 28 ∨ j = 29 ∨ j = 30 ∨ j = 31 ∨ j = 32 ∨ j = 33 ∨ j = 34 ∨ j = 35 ∨ j = 36 ∨ j = 37 ∨ j = 38 ∨ j = 39 ∨ j = 40 by omega) with rfl | rfl | rfl | rfl | rfl | rfl | rfl | rfl | rfl | rfl | rfl | rfl | rfl | rfl | rfl | rfl | rfl | rfl | rfl | rfl | rfl | rfl | rfl | rfl | rfl | rfl | rfl | rfl | rfl | rfl | rfl | rfl | rfl | rfl | rfl | rfl | rfl | rfl | rfl | rfl | rfl <;> rfl) (by decide) (by decide) d_W_law_8 (fun q2 => ?_)
  refine vv_dup C d_W_law_11 rfl ?_
  refine vv_mkI (wr := wC (geoC Γ q1 a1) u0) C hXN (c_M_init l Γ q2) gd_M_init rfl rfl (in_wA (by decide +kernel) rfl) (in_wA (by decide +kernel) rfl) (in_wA (by decide +kernel) rfl) rfl ⟨by decide +kernel, by decide +kernel, by decide +kernel⟩ ⟨by decide, by decide⟩ ⟨by decide, by decide⟩ (Nat.le_of_ble_eq_true rfl) d_W_law_12 (fun q h => h) 27 rfl [0, 1, 2, 3, 4, 5, 6, 7, 8, 9, 10, 11, 12, 13, 14, 15, 16, 17, 18, 19, 20, 21, 22, 23, 24, 25, 26] rfl (by decide) (by decide) (fun a2 => ?_)
  refine vv_astore_n (lv' := [(2, .ref q2), (1, .ref q1), (0, .ref b)]) C d_W_law_15 rfl (by decide) rfl ?_
  refine vv_iconst C (0) d_W_law_16 (by decide) ?_
  refine vv_istore_n (lv' := [(3, .int 0), (2, .ref q2), (1, .ref q1), (0, .ref b)]) C d_W_law_17 rfl (by decide) rfl ?_
  refine vv_fun 2 (fun i => some ((fun k => if k < 27 then (if k = 0 then q1 else a1 k) else (if k = 27 then q2 else a2 k)) (i + 9))) rfl (fun j hj => by rcases (show j = 0 ∨ j = 1 ∨ j = 2 ∨ j = 3 ∨ j = 4 ∨ j = 5 by omega) with rfl | rfl | rfl | rfl | rfl | rfl <;> rfl) ?_
  refine vv_fun 3 (fun i => some ((fun k => if k < 27 then (if k = 0 then q1 else a1 k) else (if k = 27 then q2 else a2 k)) (i + 15))) rfl (fun j hj => by rcases (show j = 0 ∨ j = 1 ∨ j = 2 ∨ j = 3 ∨ j = 4 ∨ j = 5 ∨ j = 6 ∨ j = 7 ∨ j = 8 ∨ j = 9 ∨ j = 10 ∨ j = 11 by omega) with rfl | rfl | rfl | rfl | rfl | rfl | rfl | rfl | rfl | rfl | rfl | rfl <;> rfl) ?_
  refine vv_ws (ws' := wC (Γ.1, fun k => if k < 27 then (if k = 0 then q1 else a1 k) else (if k = 27 then q2 else a2 k), Γ.2.2) u0 ++ wM (Γ.1, fun k => if k < 27 then (if k = 0 then q1 else a1 k) else (if k = 27 then q2 else a2 k), Γ.2.2) t0) rfl ?_
  exact law_loop (Γ := (Γ.1, fun k => if k < 27 then (if k = 0 then q1 else a1 k) else (if k = 27 then q2 else a2 k), Γ.2.2)) C hX hbl hL hr hlk ⟨by decide, by decide⟩ 513 0 0 u0 t0 (by omega) (by omega) (by omega) RR_0
end START
set_option maxHeartbeats 4000000 in
theorem whole_start {p : Program} {e : Env} {s : State} {m : MethodId} {below : List Frame} {meth : Method} {c : Code} (l : Launch) {b L : Nat} {xs : Nat → Int32} (hL : L ≤ 3072) (C0 : lw_At p s m meth c b L xs) : W p l e room_1 s m #[Value.ref b] below meth c s.heap [] 0 0 (lw_Z below #[Value.ref b] s) (entryFrame m ([Value.ref b] : List Value).toArray 4) := by
  obtain ⟨hx, hb, hr, hml, hown, hts, hX, hbl, hlk, _⟩ := C0
  have htA : ∀ w ∈ wA, w.before #[Value.ref b] s = true := fun w h => hts w (of_wA h)
  obtain ⟨c0, i0, k0⟩ := u_known htA inC0 (htA (.instantiable R0 9) (in_wA (by decide +kernel) rfl))
  obtain ⟨c1, i1, k1⟩ := u_known htA inC1 (htA (.instantiable R1 3) (in_wA (by decide +kernel) rfl))
  obtain ⟨c2, i2, k2⟩ := u_known htA inC2 (htA (.instantiable R2 3) (in_wA (by decide +kernel) rfl))
  obtain ⟨c3, i3, k3⟩ := u_known htA inC3 (htA (.instantiable R3 5) (in_wA (by decide +kernel) rfl))
  obtain ⟨c4, i4, k4⟩ := u_known htA inC4 (htA (.instantiable R4 11) (in_wA (by decide +kernel) rfl))
  obtain ⟨c5, i5, k5⟩ := u_known htA inC5 (htA (.instantiable R5 41) (in_wA (by decide +kernel) rfl))
  obtain ⟨cI, kI, pI, f1, f2, f3⟩ := Cond.arrayClass_spec (htA (.arrayClass .int) (in_wA (by decide +kernel) rfl))
  obtain ⟨cZ, kZ, pZ, z1, z2, z3⟩ := Cond.arrayClass_spec (htA (.arrayClass .boolean) (in_wA (by decide +kernel) rfl))
  obtain ⟨pA, cA, kA, g1, _, g2, g3, g4⟩ := Cond.arrayOver_spec (hts (.arrayOver (.object R0)) (by decide +kernel))
  obtain ⟨pW, cW, kW, e1, _, e2, e3, e4⟩ := Cond.arrayOver_spec (hts (.arrayOver (.object R3)) (by decide +kernel))
  have hK : va_K ((fun k => if k = 0 then c0 else if k = 1 then c1 else if k = 2 then c2 else if k = 3 then c3 else if k = 4 then c4 else c5), (fun k => if k = 0 then i0 else if k = 1 then i1 else if k = 2 then i2 else if k = 3 then i3 else if k = 4 then i4 else i5)) clA [(cI, .int), (cA, .object R0), (cW, .object R3), (cZ, .boolean)] s := by
    refine ⟨fun k q hq => ?_, fun k q hq => ?_⟩
    · rcases k with _ | _ | _ | _ | _ | _ | k
      · cases hq; exact k0
      · cases hq; exact k1
      · cases hq; exact k2
      · cases hq; exact k3
      · cases hq; exact k4
      · cases hq; exact k5
      · exact absurd hq (by simp [clA])
    · rcases k with _ | _ | _ | _ | k
      · cases hq; exact ⟨fun N z => ⟨(fun k h => by cases h), kI, f2, pI, f3⟩, f1⟩
      · cases hq; exact ⟨fun N z => ⟨(fun k h => by cases h), kA, g2, pA, g3⟩, kA, pA, g2, g3, g1, g4⟩
      · cases hq; exact ⟨fun N z => ⟨(fun k h => by cases h), kW, e2, pW, e3⟩, kW, pW, e2, e3, e1, e4⟩
      · cases hq; exact ⟨fun N z => ⟨(fun k h => by cases h), kZ, z2, pZ, z3⟩, z1⟩
      · exact absurd hq (by simp)
  have hXN : XN s := ⟨va_Nw.of rfl (hts (.methodLinkNest R1 24 y_A_init "AdviceLinks") (by decide +kernel)), va_Nw.of rfl (hts (.methodLinkNest R4 24 y_T_init "AdviceLinks") (by decide +kernel)), va_Nw.of rfl (hts (.methodLinkNest R4 56 y_K_init "AdviceLinks") (by decide +kernel)), va_AO.of (hts (.arrayOver (.object R0)) (by decide +kernel)), va_AO.of (hts (.arrayOver (.object R3)) (by decide +kernel))⟩
  rw [lg_entry_eq]
  exact law_main (Γ := (((fun k => if k = 0 then c0 else if k = 1 then c1 else if k = 2 then c2 else if k = 3 then c3 else if k = 4 then c4 else c5), (fun k => if k = 0 then i0 else if k = 1 then i1 else if k = 2 then i2 else if k = 3 then i3 else if k = 4 then i4 else i5)), (fun _ => 0), cI, cA, cW, cZ)) ⟨hx, hb, hml, hown, htA, hK⟩ hXN hX hbl hL hr hlk s.heap [] _ (fun k q h => by cases h) ⟨(fun i j x y h => by cases h), (fun k q h => by cases h)⟩ va_S.rf (lv_entry [.ref b] (Nat.le_of_ble_eq_true rfl))
