section LOOP
variable {p : Program} {l : Launch} {e : Env} {s : State} {m : MethodId} {below : List Frame} {meth : Method} {c : Code} {cells slots : Nat} {Γ : Geo} {b L : Nat} {xs : Nat → Int32}
theorem law_end (C : cx p s m #[Value.ref b] c code R6 wA 4 Γ.1 clA (tyA Γ)) (hr : meth.sig.returnType = ret) (hlk : meth.locks = false) (hcs : cells ≤ room_1.cells ∧ slots ≤ room_1.slots) (ws : va_W) (lv : List (Nat × Value)) : VV p l e room_1 s m #[Value.ref b] below meth c cells slots (lw_Z below #[Value.ref b] s) 4 Γ.1 clA (fun q => s.heap.size ≤ q) s.heap (ws) 657 lv [] := by
  refine vv_iconst C (1) d_W_law_657 (by decide) ?_
  intro H locs ls hP hD hS hl
  exact va_forget (fun q hq => hS.2.2 q hq) (W.widen (k := 600000) (n := 7302250) hcs.1 hcs.2 (lw_ret C.1 C.2.1 hr hlk d_W_law_658))
set_option maxHeartbeats 2000000 in
theorem law_loop (C : cx p s m #[Value.ref b] c code R6 wA 4 Γ.1 clA (tyA Γ)) (hX : va_X b L xs s s.heap) (hbl : b < s.heap.size) (hL : L ≤ 3072) (hr : meth.sig.returnType = ret) (hlk : meth.locks = false) (hcs : cells ≤ room_1.cells ∧ slots ≤ room_1.slots) :
    ∀ (n j v : Nat) (u : SC) (t : M2), j + n = 513 → v ≤ j → 6 * j ≤ 3072 → RR v u t → VV p l e room_1 s m #[Value.ref b] below meth c cells slots (lw_Z below #[Value.ref b] s) 4 Γ.1 clA (fun q => s.heap.size ≤ q) s.heap (wC Γ u ++ wM Γ t) 18 [(3, .int (nI (6 * j))), (2, .ref (Γ.2.1 27)), (1, .ref (Γ.2.1 0)), (0, .ref b)] []
  | 0, j, v, u, t, h, _, h2, _ => by omega
  | n + 1, j, v, u, t, h, hv, h6, hR => by
    have ih := law_loop C hX hbl hL hr hlk hcs n
    refine vv_iload_n C d_W_law_18 rfl ?_
    refine vv_aload_n C d_W_law_19 rfl ?_
    refine vv_slen C hX hbl (by omega) d_W_law_20 ?_
    refine vv_bipush C (6) d_W_law_21 (by decide) ?_
    refine vv_isub C d_W_law_23 ?_
    refine vv_icmp_gt C 657 d_W_law_24 rfl (fun _ => law_end C hr hlk hcs _ _) (fun h1 => ?_)
    have hj : 6 * j + 6 ≤ L := Decidable.not_not.mp (fun z => h1 ((len_gt hL h6).mpr z))
    refine vv_aload_n C d_W_law_27 rfl ?_
    refine vv_iload_n C d_W_law_28 rfl ?_
    refine vv_sld C hX hbl (by omega) (vp_in_nI (by omega) (by omega)) rfl d_W_law_29 ?_
    refine vv_bipush C (31) d_W_law_30 (by decide) ?_
    refine vv_iand C d_W_law_32 ?_
    generalize xs (nI (6 * j)).toNatClampNeg &&& 31 = z
    have ha : ∀ k, k < 6 → xs (nI (6 * j) + nI k).toNatClampNeg = (fun k => xs (nI (6 * j) + nI k).toNatClampNeg) k := fun _ _ => rfl
    generalize (fun k => xs (nI (6 * j) + nI k).toNatClampNeg) = a at ha
    have kk : ∀ (u' : SC) (t' : M2) (v' : Nat), v' ≤ j + 1 → RR v' u' t' → VV p l e room_1 s m #[Value.ref b] below meth c cells slots (lw_Z below #[Value.ref b] s) 4 Γ.1 clA (fun q => s.heap.size ≤ q) s.heap (wC Γ u' ++ wM Γ t') 651 [(3, .int (nI (6 * j))), (2, .ref (Γ.2.1 27)), (1, .ref (Γ.2.1 0)), (0, .ref b)] [] := by
      intro u' t' v' hv' hR'
      refine vv_iinc (j := 0) (v := nI (6 * (j + 1))) (lv' := [(3, .int (nI (6 * (j + 1)))), (2, .ref (Γ.2.1 27)), (1, .ref (Γ.2.1 0)), (0, .ref b)]) C d_W_law_651 rfl (by rw [show Int32.ofInt 6 = nI 6 from rfl, nI_add, show 6 * j + 6 = 6 * (j + 1) by omega]) (by decide) rfl ?_
      refine vv_goto C 18 d_W_law_654 rfl ?_
      exact ih (j + 1) v' u' t' (by omega) hv' (by omega) hR'
    by_cases hz : z.toInt < 0 ∨ 16 < z.toInt
    · exact vv_tableOut C 651 d_W_law_33 hz rfl (kk u t v (by omega) hR)
    · obtain ⟨k, hk, rfl⟩ := nI_of2 (x := z) (M := 16) (n := 16) rfl (fun h => hz (Or.inl (Int32.lt_iff_toInt_lt.mp h))) (Int32.le_iff_toInt_le.mpr (by have : (16 : Int32).toInt = 16 := rfl; omega))
      rcases (show k = 0 ∨ k = 1 ∨ k = 2 ∨ k = 3 ∨ k = 4 ∨ k = 5 ∨ k = 6 ∨ k = 7 ∨ k = 8 ∨ k = 9 ∨ k = 10 ∨ k = 11 ∨ k = 12 ∨ k = 13 ∨ k = 14 ∨ k = 15 ∨ k = 16 by omega) with rfl | rfl | rfl | rfl | rfl | rfl | rfl | rfl | rfl | rfl | rfl | rfl | rfl | rfl | rfl | rfl | rfl
      · exact vv_tableIn C 116 d_W_law_33 (by decide) (by decide) rfl rfl (law_0 C hX hbl hL hj ha hR hv hcs rfl kk)
      · exact vv_tableIn C 179 d_W_law_33 (by decide) (by decide) rfl rfl (law_1 C hX hbl hL hj ha hR hv hcs rfl kk)
      · exact vv_tableIn C 222 d_W_law_33 (by decide) (by decide) rfl rfl (law_2 C hX hbl hL hj ha hR hv hcs rfl kk)
      · exact vv_tableIn C 255 d_W_law_33 (by decide) (by decide) rfl rfl (law_3 C hX hbl hL hj ha hR hv hcs rfl kk)
      · exact vv_tableIn C 278 d_W_law_33 (by decide) (by decide) rfl rfl (law_4 C hX hbl hL hj ha hR hv hcs rfl kk)
      · exact vv_tableIn C 315 d_W_law_33 (by decide) (by decide) rfl rfl (law_5 C hX hbl hL hj ha hR hv hcs rfl kk)
      · exact vv_tableIn C 368 d_W_law_33 (by decide) (by decide) rfl rfl (law_6 C hX hbl hL hj ha hR hv hcs rfl kk)
      · exact vv_tableIn C 421 d_W_law_33 (by decide) (by decide) rfl rfl (law_7 C hX hbl hL hj ha hR hv hcs rfl kk)
      · exact vv_tableIn C 464 d_W_law_33 (by decide) (by decide) rfl rfl (law_8 C hX hbl hL hj ha hR hv hcs rfl kk)
      · exact vv_tableIn C 487 d_W_law_33 (by decide) (by decide) rfl rfl (law_9 C hX hbl hL hj ha hR hv hcs rfl kk)
      · exact vv_tableIn C 520 d_W_law_33 (by decide) (by decide) rfl rfl (law_10 C hX hbl hL hj ha hR hv hcs rfl kk)
      · exact vv_tableIn C 533 d_W_law_33 (by decide) (by decide) rfl rfl (law_11 C hX hbl hL hj ha hR hv hcs rfl kk)
      · exact vv_tableIn C 546 d_W_law_33 (by decide) (by decide) rfl rfl (law_12 C hX hbl hL hj ha hR hv hcs rfl kk)
      · exact vv_tableIn C 569 d_W_law_33 (by decide) (by decide) rfl rfl (law_13 C hX hbl hL hj ha hR hv hcs rfl kk)
      · exact vv_tableIn C 592 d_W_law_33 (by decide) (by decide) rfl rfl (law_14 C hX hbl hL hj ha hR hv hcs rfl kk)
      · exact vv_tableIn C 605 d_W_law_33 (by decide) (by decide) rfl rfl (law_15 C hX hbl hL hj ha hR hv hcs rfl kk)
      · exact vv_tableIn C 618 d_W_law_33 (by decide) (by decide) rfl rfl (law_16 C hX hbl hL hj ha hR hv hcs rfl kk)
end LOOP
