theorem IC_swap {u : SC} (h : IC u) {x : Int32} (hx : vp_in x 6) (hx2 : vp_in (x + 1) 6) : IC (kSwap u x) := by
  obtain ⟨h1, h2, h3, h4⟩ := h
  obtain ⟨j, hj, e1⟩ := vp_in_of hx (by omega)
  obtain ⟨j2, hj2, e2⟩ := vp_in_of hx2 (by omega)
  refine ⟨h1, h2, fun i hi => ?_, h4⟩
  unfold kSwap
  rw [e2, e1, ixn (by omega), ixn (by omega)]
  show va_up (va_up u.2 j (u.2 j2)) j2 (u.2 j) i < 6
  unfold va_up
  split
  · exact h3 j hj
  · split
    · exact h3 j2 hj2
    · exact h3 i hi
theorem bd_lt {u : SC} {t p : Nat} (ht : t ≤ 6) (h6 : u.1 6 0 = nI t) (hp : p < 900) (h : ¬ u.1 6 0 ≤ nI p) : p < t := by
  rw [h6, nle (by omega) (by omega)] at h
  omega
theorem bd_ge {u : SC} {t p : Nat} (ht : t ≤ 6) (h6 : u.1 6 0 = nI t) (hp : p < 900) (h : u.1 6 0 ≤ nI p) : t ≤ p := by
  rw [h6, nle (by omega) (by omega)] at h
  omega
theorem in6 {p : Nat} (h : p < 6) : vp_in (nI p) 6 := vp_in_nI h (by omega)
theorem kind_half {g : Int32} {n : Nat} (h : g.toInt < 2 ^ (n + 1)) (h0 : ¬ g ≤ 0) : (g / 2).toInt < 2 ^ n := by
  have h1 : ¬ g < 0 := fun z => h0 (by simp only [Int32.lt_iff_toInt_lt, Int32.le_iff_toInt_le] at *; omega)
  obtain ⟨j, hj, rfl⟩ := nI_of h1
  rw [nI_toInt hj] at h
  rw [show (2 : Int32) = nI 2 from rfl, pk_div hj (by omega) (by omega), nI_toInt (by omega)]
  rw [Int.pow_succ] at h
  have : ((j / 2 : Nat) : Int) = (j : Int) / 2 := by omega
  omega
set_option maxHeartbeats 4000000 in
set_option maxRecDepth 100000 in
theorem c_L_isKindOf (l : Launch) (Γ : Geo) (u : SC) (x y : Int32) : CtC l Γ y_L_isKindOf b_L_isKindOf 3 (some .boolean) 0 [.int x, .int y] u (some (.int (bI (kKindOf x y)))) u := by
  refine ct_of (by decide +kernel) (Nat.le_of_ble_eq_true rfl) ?_
  intro p e s m args below meth c C hr hlk
  have loop : ∀ (n : Nat) (g : Int32), g.toInt < 2 ^ n → kKindOf x y = kKindL n g y → VV p l e (rmD 0) s m args below meth c 0 0 (MQ below (ctQ Γ.1 clA (inC Γ) (some (.int (bI (kKindOf x y)))) (wC Γ u)) args s 0 0 (inC Γ)) 3 Γ.1 clA (inC Γ) s.heap (wC Γ u) 2 [(2, .int g), (0, .int x), (1, .int y)] [] := by
    intro n
    induction n with
    | zero =>
      intro g hg hE
      refine vv_iload_n C d_L_isKindOf_2 rfl ?_
      refine vv_if_le C 20 d_L_isKindOf_3 rfl (fun h1 => ?_) (fun h1 => ?_)
      · skip
        refine vv_iconst C (0) d_L_isKindOf_20 (by decide) ?_
        have hF : kKindOf x y = false := by
          rw [hE]
          try dsimp only
          first | rw [if_pos h1] | rw [if_neg h1] | rw [if_pos (by exact h1)] | rw [if_neg (by exact h1)] | rw [if_neg (by exact tf_f h1)] | rw [if_neg (by exact tf_t h1)] | skip
          try rfl
        exact vv_zret C hr hlk rfl (by rw [hF]; rfl) rfl d_L_isKindOf_21
      · skip
        refine vv_iload_n C d_L_isKindOf_6 rfl ?_
        refine vv_iload_n C d_L_isKindOf_7 rfl ?_
        refine vv_icmp_ne C 13 d_L_isKindOf_8 rfl (fun h2 => ?_) (fun h2 => ?_)
        · skip
          refine vv_iload_n C d_L_isKindOf_13 rfl ?_
          refine vv_iconst C (2) d_L_isKindOf_14 (by decide) ?_
          refine vv_idiv C d_L_isKindOf_15 (by decide) ?_
          refine vv_istore_n (lv' := [(2, .int (g / 2)), (0, .int x), (1, .int y)]) C d_L_isKindOf_16 rfl (by decide) rfl ?_
          refine vv_goto C 2 d_L_isKindOf_17 rfl ?_
          exact absurd hg (by simp only [Int32.le_iff_toInt_le] at *; have : (0 : Int32).toInt = 0 := rfl; omega)
        · skip
          refine vv_iconst C (1) d_L_isKindOf_11 (by decide) ?_
          exact absurd hg (by simp only [Int32.le_iff_toInt_le] at *; have : (0 : Int32).toInt = 0 := rfl; omega)
    | succ n ih =>
      intro g hg hE
      refine vv_iload_n C d_L_isKindOf_2 rfl ?_
      refine vv_if_le C 20 d_L_isKindOf_3 rfl (fun h1 => ?_) (fun h1 => ?_)
      · skip
        refine vv_iconst C (0) d_L_isKindOf_20 (by decide) ?_
        have hF : kKindOf x y = false := by
          rw [hE]
          rw [kKindL]
          try dsimp only
          first | rw [if_pos h1] | rw [if_neg h1] | rw [if_pos (by exact h1)] | rw [if_neg (by exact h1)] | rw [if_neg (by exact tf_f h1)] | rw [if_neg (by exact tf_t h1)] | skip
          try rfl
        exact vv_zret C hr hlk rfl (by rw [hF]; rfl) rfl d_L_isKindOf_21
      · skip
        refine vv_iload_n C d_L_isKindOf_6 rfl ?_
        refine vv_iload_n C d_L_isKindOf_7 rfl ?_
        refine vv_icmp_ne C 13 d_L_isKindOf_8 rfl (fun h2 => ?_) (fun h2 => ?_)
        · skip
          refine vv_iload_n C d_L_isKindOf_13 rfl ?_
          refine vv_iconst C (2) d_L_isKindOf_14 (by decide) ?_
          refine vv_idiv C d_L_isKindOf_15 (by decide) ?_
          refine vv_istore_n (lv' := [(2, .int (g / 2)), (0, .int x), (1, .int y)]) C d_L_isKindOf_16 rfl (by decide) rfl ?_
          refine vv_goto C 2 d_L_isKindOf_17 rfl ?_
          exact ih (g / 2) (kind_half hg h1) (hE.trans (by rw [kKindL]; (first | rw [if_pos h1] | rw [if_neg h1] | rw [if_pos (by exact h1)] | rw [if_neg (by exact h1)] | rw [if_neg (by exact tf_f h1)] | rw [if_neg (by exact tf_t h1)]); (first | rw [if_pos h2] | rw [if_neg h2] | rw [if_pos (by exact h2)] | rw [if_neg (by exact h2)] | rw [if_neg (by exact tf_f h2)] | rw [if_neg (by exact tf_t h2)])))
        · skip
          refine vv_iconst C (1) d_L_isKindOf_11 (by decide) ?_
          have hF : kKindOf x y = true := by
            rw [hE]
            rw [kKindL]
            try dsimp only
            first | rw [if_pos h1] | rw [if_neg h1] | rw [if_pos (by exact h1)] | rw [if_neg (by exact h1)] | rw [if_neg (by exact tf_f h1)] | rw [if_neg (by exact tf_t h1)] | skip
            first | rw [if_pos h2] | rw [if_neg h2] | rw [if_pos (by exact h2)] | rw [if_neg (by exact h2)] | rw [if_neg (by exact tf_f h2)] | rw [if_neg (by exact tf_t h2)] | skip
            try rfl
          exact vv_zret C hr hlk rfl (by rw [hF]; rfl) rfl d_L_isKindOf_12
  refine vv_iload_n C d_L_isKindOf_0 rfl ?_
  refine vv_istore_n (lv' := [(2, .int x), (0, .int x), (1, .int y)]) C d_L_isKindOf_1 rfl (by decide) rfl ?_
  exact loop 31 x (by have := Int32.toInt_lt x; omega) rfl
set_option maxHeartbeats 4000000 in
set_option maxRecDepth 100000 in
theorem c_R_placeOf (l : Launch) (Γ : Geo) (u : SC) (hI : IC u) (x : Int32) : CtC l Γ y_R_placeOf b_R_placeOf 3 (some .int) 0 [.ref (Γ.2.1 1), .int x] u (some (.int (kPlaceOf u x))) u := by
  refine ct_of (by decide +kernel) (Nat.le_of_ble_eq_true rfl) ?_
  intro p e s m args below meth c C hr hlk
  obtain ⟨t, ht, h6⟩ := hI.1
  have loop : ∀ (f p2 : Nat), p2 ≤ t → t - p2 < f → kPlaceOf u x = kPlaceL u x f (nI p2) → VV p l e (rmD 0) s m args below meth c 0 0 (MQ below (ctQ Γ.1 clA (inC Γ) (some (.int (kPlaceOf u x))) (wC Γ u)) args s 0 0 (inC Γ)) 3 Γ.1 clA (inC Γ) s.heap (wC Γ u) 2 [(2, .int (nI p2)), (0, .ref (Γ.2.1 1)), (1, .int x)] [] := by
    intro f
    induction f with
    | zero => intro p2 _ h _; omega
    | succ f ih =>
      intro p2 hp hf hE
      refine vv_iload_n C d_R_placeOf_2 rfl ?_
      refine vv_aload_n C d_R_placeOf_3 rfl ?_
      refine g_R_R_there C d_R_placeOf_4 ?_
      refine vv_icmp_ge C 31 d_R_placeOf_7 rfl (fun h1 => ?_) (fun h1 => ?_)
      · skip
        refine vv_iconst C (-1) d_R_placeOf_31 (by decide) ?_
        have hF : kPlaceOf u x = -1 := by
          rw [hE]
          rw [kPlaceL]
          try dsimp only
          first | rw [if_pos h1] | rw [if_neg h1] | rw [if_pos (by exact h1)] | rw [if_neg (by exact h1)] | rw [if_neg (by exact tf_f h1)] | rw [if_neg (by exact tf_t h1)] | skip
          try rfl
        exact vv_iret C hr hlk (by rw [hF]) rfl d_R_placeOf_32
      · skip
        have hp2 := bd_lt ht h6 (by omega) h1
        have hk2 : u.2 (ix (nI p2)) < 6 := IC_pi hI (in6 (by omega))
        refine vv_aload_n C d_R_placeOf_10 rfl ?_
        refine g_R_R_row C d_R_placeOf_11 ?_
        refine vv_iload_n C d_R_placeOf_14 rfl ?_
        refine ld_1_2 C (in6 (by omega)) d_R_placeOf_15 ?_
        refine g_R_A_number C hk2 d_R_placeOf_16 ?_
        refine vv_iload_n C d_R_placeOf_19 rfl ?_
        refine vv_icmp_ne C 25 d_R_placeOf_20 rfl (fun h2 => ?_) (fun h2 => ?_)
        · skip
          refine vv_iinc (j := 0) (v := nI (p2 + 1)) (lv' := [(2, .int (nI (p2 + 1))), (0, .ref (Γ.2.1 1)), (1, .int x)]) C d_R_placeOf_25 rfl (nI_1 p2) (by decide) rfl ?_
          refine vv_goto C 2 d_R_placeOf_28 rfl ?_
          exact ih (p2 + 1) (by omega) (by omega) (hE.trans (by rw [kPlaceL]; (first | rw [if_pos h1] | rw [if_neg h1] | rw [if_pos (by exact h1)] | rw [if_neg (by exact h1)] | rw [if_neg (by exact tf_f h1)] | rw [if_neg (by exact tf_t h1)]); (first | rw [if_pos h2] | rw [if_neg h2] | rw [if_pos (by exact h2)] | rw [if_neg (by exact h2)] | rw [if_neg (by exact tf_f h2)] | rw [if_neg (by exact tf_t h2)]); rw [nI_1]))
        · skip
          refine vv_iload_n C d_R_placeOf_23 rfl ?_
          have hF : kPlaceOf u x = nI p2 := by
            rw [hE]
            rw [kPlaceL]
            try dsimp only
            first | rw [if_pos h1] | rw [if_neg h1] | rw [if_pos (by exact h1)] | rw [if_neg (by exact h1)] | rw [if_neg (by exact tf_f h1)] | rw [if_neg (by exact tf_t h1)] | skip
            first | rw [if_pos h2] | rw [if_neg h2] | rw [if_pos (by exact h2)] | rw [if_neg (by exact h2)] | rw [if_neg (by exact tf_f h2)] | rw [if_neg (by exact tf_t h2)] | skip
            try rfl
          exact vv_iret C hr hlk (by rw [hF]) rfl d_R_placeOf_24
  refine vv_iconst C (0) d_R_placeOf_0 (by decide) ?_
  refine vv_istore_n (lv' := [(2, .int 0), (0, .ref (Γ.2.1 1)), (1, .int x)]) C d_R_placeOf_1 rfl (by decide) rfl ?_
  exact loop 7 0 (by omega) (by omega) rfl
set_option maxHeartbeats 4000000 in
set_option maxRecDepth 100000 in
theorem c_R_placeInChain (l : Launch) (Γ : Geo) (u : SC) (hI : IC u) (x : Int32) (b0 : Nat) (hb0 : b0 ≤ 6) : CtC l Γ y_R_placeInChain b_R_placeInChain 4 (some .int) 1 [.ref (Γ.2.1 1), .int x, .int (nI b0)] u (some (.int (kChainP u x (nI b0)))) u := by
  refine ct_of (by decide +kernel) (Nat.le_of_ble_eq_true rfl) ?_
  intro p e s m args below meth c C hr hlk
  obtain ⟨t, ht, h6⟩ := hI.1
  have loop : ∀ (f p2 : Nat), p2 ≤ 6 → 6 - p2 < f → kChainP u x (nI b0) = kChainL u x f (nI p2) → VV p l e (rmD 1) s m args below meth c 0 0 (MQ below (ctQ Γ.1 clA (inC Γ) (some (.int (kChainP u x (nI b0)))) (wC Γ u)) args s 0 0 (inC Γ)) 4 Γ.1 clA (inC Γ) s.heap (wC Γ u) 2 [(3, .int (nI p2)), (0, .ref (Γ.2.1 1)), (1, .int x), (2, .int (nI b0))] [] := by
    intro f
    induction f with
    | zero => intro p2 _ h _; omega
    | succ f ih =>
      intro p2 hp hf hE
      refine vv_iload_n C d_R_placeInChain_2 rfl ?_
      refine vv_aload_n C d_R_placeInChain_3 rfl ?_
      refine g_R_R_there C d_R_placeInChain_4 ?_
      refine vv_icmp_ge C 31 d_R_placeInChain_7 rfl (fun h1 => ?_) (fun h1 => ?_)
      · skip
        refine vv_iconst C (-1) d_R_placeInChain_31 (by decide) ?_
        have hF : kChainP u x (nI b0) = -1 := by
          rw [hE]
          rw [kChainL]
          try dsimp only
          first | rw [if_pos h1] | rw [if_neg h1] | rw [if_pos (by exact h1)] | rw [if_neg (by exact h1)] | rw [if_neg (by exact tf_f h1)] | rw [if_neg (by exact tf_t h1)] | skip
          try rfl
        exact vv_iret C hr hlk (by rw [hF]) rfl d_R_placeInChain_32
      · skip
        have hp2 := bd_lt ht h6 (by omega) h1
        have hk2 : u.2 (ix (nI p2)) < 6 := IC_pi hI (in6 (by omega))
        refine vv_aload_n C d_R_placeInChain_10 rfl ?_
        refine g_R_R_row C d_R_placeInChain_11 ?_
        refine vv_iload_n C d_R_placeInChain_14 rfl ?_
        refine ld_1_2 C (in6 (by omega)) d_R_placeInChain_15 ?_
        refine vv_iload_n C d_R_placeInChain_16 rfl ?_
        refine callC (rest := []) C (c_A_advises l Γ u (u.2 (ix (nI p2))) hk2 x) cw_R_A_advises rfl (u.2 (ix (nI p2)) + 9) (by have := hk2; omega) rfl (eC_adv hk2) rfl rfl (Nat.le_of_ble_eq_true rfl) (by decide) (by decide) d_R_placeInChain_17 ?_
        refine vv_st (st' := [.int (bI (kAdvises u (u.2 (ix (nI p2))) x))]) rfl ?_
        refine vv_if_eq C 25 d_R_placeInChain_20 rfl (fun h2 => ?_) (fun h2 => ?_)
        · skip
          replace h2 := bI_f h2
          refine vv_iinc (j := 0) (v := nI (p2 + 1)) (lv' := [(3, .int (nI (p2 + 1))), (0, .ref (Γ.2.1 1)), (1, .int x), (2, .int (nI b0))]) C d_R_placeInChain_25 rfl (nI_1 p2) (by decide) rfl ?_
          refine vv_goto C 2 d_R_placeInChain_28 rfl ?_
          exact ih (p2 + 1) (by omega) (by omega) (hE.trans (by rw [kChainL]; (first | rw [if_pos h1] | rw [if_neg h1] | rw [if_pos (by exact h1)] | rw [if_neg (by exact h1)] | rw [if_neg (by exact tf_f h1)] | rw [if_neg (by exact tf_t h1)]); (first | rw [if_pos h2] | rw [if_neg h2] | rw [if_pos (by exact h2)] | rw [if_neg (by exact h2)] | rw [if_neg (by exact tf_f h2)] | rw [if_neg (by exact tf_t h2)]); rw [nI_1]))
        · skip
          replace h2 := bI_t h2
          refine vv_iload_n C d_R_placeInChain_23 rfl ?_
          have hF : kChainP u x (nI b0) = nI p2 := by
            rw [hE]
            rw [kChainL]
            try dsimp only
            first | rw [if_pos h1] | rw [if_neg h1] | rw [if_pos (by exact h1)] | rw [if_neg (by exact h1)] | rw [if_neg (by exact tf_f h1)] | rw [if_neg (by exact tf_t h1)] | skip
            first | rw [if_pos h2] | rw [if_neg h2] | rw [if_pos (by exact h2)] | rw [if_neg (by exact h2)] | rw [if_neg (by exact tf_f h2)] | rw [if_neg (by exact tf_t h2)] | skip
            try rfl
          exact vv_iret C hr hlk (by rw [hF]) rfl d_R_placeInChain_24
  refine vv_iload_n C d_R_placeInChain_0 rfl ?_
  refine vv_istore_n (lv' := [(3, .int (nI b0)), (0, .ref (Γ.2.1 1)), (1, .int x), (2, .int (nI b0))]) C d_R_placeInChain_1 rfl (by decide) rfl ?_
  exact loop 7 b0 (by omega) (by omega) rfl
set_option maxHeartbeats 4000000 in
set_option maxRecDepth 100000 in
theorem c_R_numberInChain (l : Launch) (Γ : Geo) (u : SC) (hI : IC u) (x y : Int32) : CtC l Γ y_R_numberInChain b_R_numberInChain 5 (some .int) 1 [.ref (Γ.2.1 1), .int x, .int y] u (some (.int (kNumIn u x y))) u := by
  refine ct_of (by decide +kernel) (Nat.le_of_ble_eq_true rfl) ?_
  intro p e s m args below meth c C hr hlk
  obtain ⟨t, ht, h6⟩ := hI.1
  have loop : ∀ (f : Nat) (bf : Int32) (p2 : Nat), p2 ≤ t → t - p2 < f → kNumIn u x y = kNumL u x y f bf (nI p2) → VV p l e (rmD 1) s m args below meth c 0 0 (MQ below (ctQ Γ.1 clA (inC Γ) (some (.int (kNumIn u x y))) (wC Γ u)) args s 0 0 (inC Γ)) 5 Γ.1 clA (inC Γ) s.heap (wC Γ u) 5 [(4, .int (nI p2)), (3, .int bf), (0, .ref (Γ.2.1 1)), (1, .int x), (2, .int y)] [] := by
    intro f
    induction f with
    | zero => intro bf p2 _ h _; omega
    | succ f ih =>
      intro bf p2 hp hf hE
      refine vv_iload C d_R_numberInChain_5 rfl ?_
      refine vv_aload_n C d_R_numberInChain_7 rfl ?_
      refine g_R_R_there C d_R_numberInChain_8 ?_
      refine vv_icmp_ge C 53 d_R_numberInChain_11 rfl (fun h1 => ?_) (fun h1 => ?_)
      · skip
        refine vv_iconst C (-1) d_R_numberInChain_53 (by decide) ?_
        have hF : kNumIn u x y = -1 := by
          rw [hE]
          rw [kNumL]
          try dsimp only
          first | rw [if_pos h1] | rw [if_neg h1] | rw [if_pos (by exact h1)] | rw [if_neg (by exact h1)] | rw [if_neg (by exact tf_f h1)] | rw [if_neg (by exact tf_t h1)] | skip
          try rfl
        exact vv_iret C hr hlk (by rw [hF]) rfl d_R_numberInChain_54
      · skip
        have hp2 := bd_lt ht h6 (by omega) h1
        have hk2 : u.2 (ix (nI p2)) < 6 := IC_pi hI (in6 (by omega))
        refine vv_aload_n C d_R_numberInChain_14 rfl ?_
        refine g_R_R_row C d_R_numberInChain_15 ?_
        refine vv_iload C d_R_numberInChain_18 rfl ?_
        refine ld_1_2 C (in6 (by omega)) d_R_numberInChain_20 ?_
        refine vv_iload_n C d_R_numberInChain_21 rfl ?_
        refine callC (rest := []) C (c_A_advises l Γ u (u.2 (ix (nI p2))) hk2 x) cw_R_A_advises rfl (u.2 (ix (nI p2)) + 9) (by have := hk2; omega) rfl (eC_adv hk2) rfl rfl (Nat.le_of_ble_eq_true rfl) (by decide) (by decide) d_R_numberInChain_22 ?_
        refine vv_st (st' := [.int (bI (kAdvises u (u.2 (ix (nI p2))) x))]) rfl ?_
        refine vv_if_eq C 47 d_R_numberInChain_25 rfl (fun h2 => ?_) (fun h2 => ?_)
        · skip
          replace h2 := bI_f h2
          refine vv_iinc (j := 0) (v := nI (p2 + 1)) (lv' := [(4, .int (nI (p2 + 1))), (3, .int bf), (0, .ref (Γ.2.1 1)), (1, .int x), (2, .int y)]) C d_R_numberInChain_47 rfl (nI_1 p2) (by decide) rfl ?_
          refine vv_goto C 5 d_R_numberInChain_50 rfl ?_
          refine vv_lv [(4, .int (nI (p2 + 1))), (3, .int bf), (0, .ref (Γ.2.1 1)), (1, .int x), (2, .int y)] (by intro q hq; simp only [List.mem_cons, List.not_mem_nil, or_false] at hq; rcases hq with rfl | rfl | rfl | rfl | rfl <;> rfl) ?_
          exact ih bf (p2 + 1) (by omega) (by omega) (hE.trans (by rw [kNumL]; (first | rw [if_pos h1] | rw [if_neg h1] | rw [if_pos (by exact h1)] | rw [if_neg (by exact h1)] | rw [if_neg (by exact tf_f h1)] | rw [if_neg (by exact tf_t h1)]); (first | rw [if_pos h2] | rw [if_neg h2] | rw [if_pos (by exact h2)] | rw [if_neg (by exact h2)] | rw [if_neg (by exact tf_f h2)] | rw [if_neg (by exact tf_t h2)]); rw [nI_1]))
        · skip
          replace h2 := bI_t h2
          refine vv_iload_n C d_R_numberInChain_28 rfl ?_
          refine vv_iload_n C d_R_numberInChain_29 rfl ?_
          refine vv_icmp_ne C 44 d_R_numberInChain_30 rfl (fun h3 => ?_) (fun h3 => ?_)
          · skip
            refine vv_iinc (j := 1) (v := bf + 1) (lv' := [(3, .int (bf + 1)), (4, .int (nI p2)), (0, .ref (Γ.2.1 1)), (1, .int x), (2, .int y)]) C d_R_numberInChain_44 rfl rfl (by decide) rfl ?_
            refine vv_iinc (j := 1) (v := nI (p2 + 1)) (lv' := [(4, .int (nI (p2 + 1))), (3, .int (bf + 1)), (0, .ref (Γ.2.1 1)), (1, .int x), (2, .int y)]) C d_R_numberInChain_47 rfl (nI_1 p2) (by decide) rfl ?_
            refine vv_goto C 5 d_R_numberInChain_50 rfl ?_
            refine vv_lv [(4, .int (nI (p2 + 1))), (3, .int (bf + 1)), (0, .ref (Γ.2.1 1)), (1, .int x), (2, .int y)] (by intro q hq; simp only [List.mem_cons, List.not_mem_nil, or_false] at hq; rcases hq with rfl | rfl | rfl | rfl | rfl <;> rfl) ?_
            exact ih (bf + 1) (p2 + 1) (by omega) (by omega) (hE.trans (by rw [kNumL]; (first | rw [if_pos h1] | rw [if_neg h1] | rw [if_pos (by exact h1)] | rw [if_neg (by exact h1)] | rw [if_neg (by exact tf_f h1)] | rw [if_neg (by exact tf_t h1)]); (first | rw [if_pos h2] | rw [if_neg h2] | rw [if_pos (by exact h2)] | rw [if_neg (by exact h2)] | rw [if_neg (by exact tf_f h2)] | rw [if_neg (by exact tf_t h2)]); (first | rw [if_pos h3] | rw [if_neg h3] | rw [if_pos (by exact h3)] | rw [if_neg (by exact h3)] | rw [if_neg (by exact tf_f h3)] | rw [if_neg (by exact tf_t h3)]); rw [nI_1]))
          · skip
            refine vv_aload_n C d_R_numberInChain_33 rfl ?_
            refine g_R_R_row C d_R_numberInChain_34 ?_
            refine vv_iload C d_R_numberInChain_37 rfl ?_
            refine ld_1_2 C (in6 (by omega)) d_R_numberInChain_39 ?_
            refine g_R_A_number C hk2 d_R_numberInChain_40 ?_
            have hF : kNumIn u x y = u.1 13 (u.2 (ix (nI p2))) := by
              rw [hE]
              rw [kNumL]
              try dsimp only
              first | rw [if_pos h1] | rw [if_neg h1] | rw [if_pos (by exact h1)] | rw [if_neg (by exact h1)] | rw [if_neg (by exact tf_f h1)] | rw [if_neg (by exact tf_t h1)] | skip
              first | rw [if_pos h2] | rw [if_neg h2] | rw [if_pos (by exact h2)] | rw [if_neg (by exact h2)] | rw [if_neg (by exact tf_f h2)] | rw [if_neg (by exact tf_t h2)] | skip
              first | rw [if_pos h3] | rw [if_neg h3] | rw [if_pos (by exact h3)] | rw [if_neg (by exact h3)] | rw [if_neg (by exact tf_f h3)] | rw [if_neg (by exact tf_t h3)] | skip
              try rfl
            exact vv_iret C hr hlk (by rw [hF]) rfl d_R_numberInChain_43
  refine vv_iconst C (0) d_R_numberInChain_0 (by decide) ?_
  refine vv_istore_n (lv' := [(3, .int 0), (0, .ref (Γ.2.1 1)), (1, .int x), (2, .int y)]) C d_R_numberInChain_1 rfl (by decide) rfl ?_
  refine vv_iconst C (0) d_R_numberInChain_2 (by decide) ?_
  refine vv_istore (lv' := [(4, .int 0), (3, .int 0), (0, .ref (Γ.2.1 1)), (1, .int x), (2, .int y)]) C d_R_numberInChain_3 (by decide) rfl ?_
  exact loop 7 0 0 (by omega) (by omega) rfl
set_option maxHeartbeats 4000000 in
set_option maxRecDepth 100000 in
theorem c_R_settle (l : Launch) (Γ : Geo) (u : SC) (hI : IC u) (a0 t : Nat) (ht : t ≤ 6) (h6 : u.1 6 0 = nI t) (ha0 : a0 < t) : CtC l Γ y_R_settle b_R_settle 3 none 1 [.ref (Γ.2.1 1), .int (nI a0)] u none (kSettle u (nI a0)) := by
  refine ct_of (by decide +kernel) (Nat.le_of_ble_eq_true rfl) ?_
  intro p e s m args below meth c C hr hlk
  have loop2 : ∀ (f a : Nat) (v : SC), IC v → v.1 6 0 = nI t → a < t → t - a ≤ f → kSettle u (nI a0) = kDownL f v (nI a) → VV p l e (rmD 1) s m args below meth c 0 0 (MQ below (ctQ Γ.1 clA (inC Γ) none (wC Γ (kSettle u (nI a0)))) args s 0 0 (inC Γ)) 3 Γ.1 clA (inC Γ) s.heap (wC Γ v) 41 [(2, .int (nI a)), (0, .ref (Γ.2.1 1)), (1, .int (nI a0))] [] := by
    intro f
    induction f with
    | zero => intro a v _ _ h1 h2 _; omega
    | succ f ih =>
      intro a v hv hv6 ha hf hE
      refine vv_iload_n C d_R_settle_41 rfl ?_
      refine vv_iconst C (1) d_R_settle_42 (by decide) ?_
      refine vv_iadd C d_R_settle_43 ?_
      rw [nI_1]
      refine vv_aload_n C d_R_settle_44 rfl ?_
      refine g_R_R_there C d_R_settle_45 ?_
      refine vv_icmp_ge C 82 d_R_settle_48 rfl (fun h1 => ?_) (fun h1 => ?_)
      · skip
        have hF : kSettle u (nI a0) = v := by
          rw [hE]
          unfold kDownL
          rw [nI_1]
          first | rw [if_pos h1] | rw [if_neg h1] | rw [if_neg (by exact tf_f h1)]
        exact vv_vret C hr hlk rfl (by rw [hF]) d_R_settle_82
      · skip
        have hp2 := bd_lt ht hv6 (by omega) h1
        have hkA : v.2 (ix (nI (a + 1))) < 6 := IC_pi hv (in6 (by omega))
        have hkB : v.2 (ix (nI a)) < 6 := IC_pi hv (in6 (by omega))
        refine vv_aload_n C d_R_settle_51 rfl ?_
        refine g_R_R_row C d_R_settle_52 ?_
        refine vv_iload_n C d_R_settle_55 rfl ?_
        refine vv_iconst C (1) d_R_settle_56 (by decide) ?_
        refine vv_iadd C d_R_settle_57 ?_
        rw [nI_1]
        refine ld_1_2 C (in6 (by omega)) d_R_settle_58 ?_
        refine vv_aload_n C d_R_settle_59 rfl ?_
        refine g_R_R_row C d_R_settle_60 ?_
        refine vv_iload_n C d_R_settle_63 rfl ?_
        refine ld_1_2 C (in6 (by omega)) d_R_settle_64 ?_
        refine callC (rest := []) C (c_A_standsBefore l Γ v (v.2 (ix (nI (a + 1)))) hkA (v.2 (ix (nI a))) hkB) cw_R_A_standsBefore rfl (v.2 (ix (nI (a + 1))) + 9) (by have := hkA; omega) rfl (eC_adv hkA) rfl rfl (Nat.le_of_ble_eq_true rfl) (by decide) (by decide) d_R_settle_65 ?_
        refine vv_st (st' := [.int (bI (kBefore v (v.2 (ix (nI (a + 1)))) (v.2 (ix (nI a)))))]) rfl ?_
        refine vv_if_eq C 82 d_R_settle_68 rfl (fun h2 => ?_) (fun h2 => ?_)
        · skip
          replace h2 := bI_f h2
          have hF : kSettle u (nI a0) = v := by
            rw [hE]
            unfold kDownL
            rw [nI_1]
            first | rw [if_pos h1] | rw [if_neg h1] | rw [if_neg (by exact tf_f h1)]
            first | rw [if_pos h2] | rw [if_neg h2] | rw [if_neg (by exact tf_f h2)]
          exact vv_vret C hr hlk rfl (by rw [hF]) d_R_settle_82
        · skip
          replace h2 := bI_t h2
          refine vv_aload_n C d_R_settle_71 rfl ?_
          refine vv_iload_n C d_R_settle_72 rfl ?_
          refine callC (rest := []) C (c_R_swapWithNext l Γ v hv (nI a) (in6 (by omega)) (by rw [nI_1]; exact in6 (by omega))) cw_R_R_swapWithNext rfl 1 (by decide) rfl rfl rfl rfl (Nat.le_of_ble_eq_true rfl) (by decide) (by decide) d_R_settle_73 ?_
          refine vv_st (st' := []) rfl ?_
          refine vv_iinc (j := 0) (v := nI (a + 1)) (lv' := [(2, .int (nI (a + 1))), (0, .ref (Γ.2.1 1)), (1, .int (nI a0))]) C d_R_settle_76 rfl (nI_1 a) (by decide) rfl ?_
          refine vv_goto C 41 d_R_settle_79 rfl ?_
          exact ih (a + 1) (kSwap v (nI a)) (IC_swap hv (in6 (by omega)) (by rw [nI_1]; exact in6 (by omega))) hv6 (by omega) (by omega) (hE.trans (by rw [kDownL, nI_1, if_neg h1, if_pos h2]))
  have loop1 : ∀ (f a : Nat) (v : SC), IC v → v.1 6 0 = nI t → a < t → a < f → kSettle u (nI a0) = kDownL 7 (kUpL f v (nI a)) (nI a0) → VV p l e (rmD 1) s m args below meth c 0 0 (MQ below (ctQ Γ.1 clA (inC Γ) none (wC Γ (kSettle u (nI a0)))) args s 0 0 (inC Γ)) 3 Γ.1 clA (inC Γ) s.heap (wC Γ v) 2 [(2, .int (nI a)), (0, .ref (Γ.2.1 1)), (1, .int (nI a0))] [] := by
    intro f
    induction f with
    | zero => intro a v _ _ h1 h2 _; omega
    | succ f ih =>
      intro a v hv hv6 ha hf hE
      refine vv_iload_n C d_R_settle_2 rfl ?_
      refine vv_if_le C 39 d_R_settle_3 rfl (fun h1 => ?_) (fun h1 => ?_)
      · skip
        have hU : kUpL (f + 1) v (nI a) = v := by
          unfold kUpL
          first | rw [if_pos h1] | rw [if_neg h1] | rw [if_neg (by exact tf_f h1)]
        rw [hU] at hE
        refine vv_iload_n C d_R_settle_39 rfl ?_
        refine vv_istore_n (lv' := [(2, .int (nI a0)), (0, .ref (Γ.2.1 1)), (1, .int (nI a0))]) C d_R_settle_40 rfl (by decide) rfl ?_
        exact loop2 7 a0 v hv hv6 ha0 (by omega) hE
      · skip
        obtain ⟨b, rfl⟩ : ∃ b, a = b + 1 := ⟨a - 1, by have : a ≠ 0 := fun z => h1 (by rw [z]; decide); omega⟩
        have hkA : v.2 (ix (nI (b + 1))) < 6 := IC_pi hv (in6 (by omega))
        have hkB : v.2 (ix (nI b)) < 6 := IC_pi hv (in6 (by omega))
        refine vv_aload_n C d_R_settle_6 rfl ?_
        refine g_R_R_row C d_R_settle_7 ?_
        refine vv_iload_n C d_R_settle_10 rfl ?_
        refine ld_1_2 C (in6 (by omega)) d_R_settle_11 ?_
        refine vv_aload_n C d_R_settle_12 rfl ?_
        refine g_R_R_row C d_R_settle_13 ?_
        refine vv_iload_n C d_R_settle_16 rfl ?_
        refine vv_iconst C (1) d_R_settle_17 (by decide) ?_
        refine vv_isub C d_R_settle_18 ?_
        rw [nI_pred]
        refine ld_1_2 C (in6 (by omega)) d_R_settle_19 ?_
        refine callC (rest := []) C (c_A_standsBefore l Γ v (v.2 (ix (nI (b + 1)))) hkA (v.2 (ix (nI b))) hkB) cw_R_A_standsBefore rfl (v.2 (ix (nI (b + 1))) + 9) (by have := hkA; omega) rfl (eC_adv hkA) rfl rfl (Nat.le_of_ble_eq_true rfl) (by decide) (by decide) d_R_settle_20 ?_
        refine vv_st (st' := [.int (bI (kBefore v (v.2 (ix (nI (b + 1)))) (v.2 (ix (nI b)))))]) rfl ?_
        refine vv_if_eq C 39 d_R_settle_23 rfl (fun h2 => ?_) (fun h2 => ?_)
        · skip
          replace h2 := bI_f h2
          have hU : kUpL (f + 1) v (nI (b + 1)) = v := by
            unfold kUpL
            rw [nI_pred]
            first | rw [if_pos h1] | rw [if_neg h1] | rw [if_neg (by exact tf_f h1)]
            first | rw [if_pos h2] | rw [if_neg h2] | rw [if_neg (by exact tf_f h2)]
          rw [hU] at hE
          refine vv_iload_n C d_R_settle_39 rfl ?_
          refine vv_istore_n (lv' := [(2, .int (nI a0)), (0, .ref (Γ.2.1 1)), (1, .int (nI a0))]) C d_R_settle_40 rfl (by decide) rfl ?_
          exact loop2 7 a0 v hv hv6 ha0 (by omega) hE
        · skip
          replace h2 := bI_t h2
          refine vv_aload_n C d_R_settle_26 rfl ?_
          refine vv_iload_n C d_R_settle_27 rfl ?_
          refine vv_iconst C (1) d_R_settle_28 (by decide) ?_
          refine vv_isub C d_R_settle_29 ?_
          rw [nI_pred]
          refine callC (rest := []) C (c_R_swapWithNext l Γ v hv (nI b) (in6 (by omega)) (by rw [nI_1]; exact in6 (by omega))) cw_R_R_swapWithNext rfl 1 (by decide) rfl rfl rfl rfl (Nat.le_of_ble_eq_true rfl) (by decide) (by decide) d_R_settle_30 ?_
          refine vv_st (st' := []) rfl ?_
          refine vv_iinc (j := 0) (v := nI b) (lv' := [(2, .int (nI b)), (0, .ref (Γ.2.1 1)), (1, .int (nI a0))]) C d_R_settle_33 rfl (pk_m1 b) (by decide) rfl ?_
          refine vv_goto C 2 d_R_settle_36 rfl ?_
          exact ih b (kSwap v (nI b)) (IC_swap hv (in6 (by omega)) (by rw [nI_1]; exact in6 (by omega))) hv6 (by omega) (by omega) (hE.trans (by rw [kUpL, nI_pred, pk_m1, if_neg h1, if_pos h2]))
  refine vv_iload_n C d_R_settle_0 rfl ?_
  refine vv_istore_n (lv' := [(2, .int (nI a0)), (0, .ref (Γ.2.1 1)), (1, .int (nI a0))]) C d_R_settle_1 rfl (by decide) rfl ?_
  exact loop1 7 a0 u hI h6 ha0 (by omega) rfl
set_option maxHeartbeats 4000000 in
set_option maxRecDepth 100000 in
theorem c_R_takeAway (l : Launch) (Γ : Geo) (u : SC) (hI : IC u) (a0 t : Nat) (ht : t < 6) (h6 : u.1 6 0 = nI (t + 1)) (ha0 : a0 ≤ t) : CtC l Γ y_R_takeAway b_R_takeAway 3 none 1 [.ref (Γ.2.1 1), .int (nI a0)] u none (kTakeAway u (nI a0)) := by
  refine ct_of (by decide +kernel) (Nat.le_of_ble_eq_true rfl) ?_
  intro p e s m args below meth c C hr hlk
  have loop : ∀ (f a : Nat) (v : SC), IC v → v.1 6 0 = nI t → a ≤ t → t - a < f → kTakeAway u (nI a0) = kTakeL f v (nI a) → VV p l e (rmD 1) s m args below meth c 0 0 (MQ below (ctQ Γ.1 clA (inC Γ) none (wC Γ (kTakeAway u (nI a0)))) args s 0 0 (inC Γ)) 3 Γ.1 clA (inC Γ) s.heap (wC Γ v) 12 [(2, .int (nI a)), (0, .ref (Γ.2.1 1)), (1, .int (nI a0))] [] := by
    intro f
    induction f with
    | zero => intro a v _ _ h1 h2 _; omega
    | succ f ih =>
      intro a v hv hv6 ha hf hE
      refine vv_iload_n C d_R_takeAway_12 rfl ?_
      refine vv_aload_n C d_R_takeAway_13 rfl ?_
      refine g_R_R_there C d_R_takeAway_14 ?_
      refine vv_icmp_ge C 31 d_R_takeAway_17 rfl (fun h1 => ?_) (fun h1 => ?_)
      · skip
        have hF : kTakeAway u (nI a0) = v := by
          rw [hE]
          unfold kTakeL
          rw [if_pos h1]
        exact vv_vret C hr hlk rfl (by rw [hF]) d_R_takeAway_31
      · skip
        have hp2 := bd_lt (by omega) hv6 (by omega) h1
        refine vv_aload_n C d_R_takeAway_20 rfl ?_
        refine vv_iload_n C d_R_takeAway_21 rfl ?_
        refine callC (rest := []) C (c_R_swapWithNext l Γ v hv (nI a) (in6 (by omega)) (by rw [nI_1]; exact in6 (by omega))) cw_R_R_swapWithNext rfl 1 (by decide) rfl rfl rfl rfl (Nat.le_of_ble_eq_true rfl) (by decide) (by decide) d_R_takeAway_22 ?_
        refine vv_st (st' := []) rfl ?_
        refine vv_iinc (j := 0) (v := nI (a + 1)) (lv' := [(2, .int (nI (a + 1))), (0, .ref (Γ.2.1 1)), (1, .int (nI a0))]) C d_R_takeAway_25 rfl (nI_1 a) (by decide) rfl ?_
        refine vv_goto C 12 d_R_takeAway_28 rfl ?_
        exact ih (a + 1) (kSwap v (nI a)) (IC_swap hv (in6 (by omega)) (by rw [nI_1]; exact in6 (by omega))) hv6 (by omega) (by omega) (hE.trans (by rw [kTakeL, if_neg h1, nI_1]))
  refine vv_aload_n C d_R_takeAway_0 rfl ?_
  refine vv_dup C d_R_takeAway_1 rfl ?_
  refine g_R_R_there C d_R_takeAway_2 ?_
  refine vv_iconst C (1) d_R_takeAway_5 (by decide) ?_
  refine vv_isub C d_R_takeAway_6 ?_
  refine p_R_R_there C d_R_takeAway_7 ?_
  refine vv_iload_n C d_R_takeAway_10 rfl ?_
  refine vv_istore_n (lv' := [(2, .int (nI a0)), (0, .ref (Γ.2.1 1)), (1, .int (nI a0))]) C d_R_takeAway_11 rfl (by decide) rfl ?_
  refine loop 7 a0 (wr u 6 0 (u.1 6 0 - 1)) ⟨⟨t, by omega, ?_⟩, hI.2⟩ ?_ ha0 (by omega) rfl
  · show u.1 6 0 - 1 = nI t; rw [h6, nI_pred]
  · show u.1 6 0 - 1 = nI t; rw [h6, nI_pred]
set_option maxHeartbeats 4000000 in
set_option maxRecDepth 100000 in
theorem c_R_move (l : Launch) (Γ : Geo) (u : SC) (hI : IC u) (a0 t : Nat) (ht : t ≤ 6) (h6 : u.1 6 0 = nI t) (ha0 : a0 < t) (x : Int32) : CtC l Γ y_R_move b_R_move 3 none 2 [.ref (Γ.2.1 1), .int (nI a0), .int x] u none (kMove u (nI a0) x) := by
  refine ct_of (by decide +kernel) (Nat.le_of_ble_eq_true rfl) ?_
  intro p e s m args below meth c C hr hlk
  refine vv_aload_n C d_R_move_0 rfl ?_
  refine g_R_R_row C d_R_move_1 ?_
  refine vv_iload_n C d_R_move_4 rfl ?_
  refine ld_1_2 C (in6 (by omega)) d_R_move_5 ?_
  refine vv_iload_n C d_R_move_6 rfl ?_
  refine p_R_A_order C (IC_pi hI (in6 (by omega))) d_R_move_7 ?_
  refine vv_aload_n C d_R_move_10 rfl ?_
  refine vv_iload_n C d_R_move_11 rfl ?_
  refine callC (rest := []) C (c_R_settle l Γ (wr u 15 (u.2 (ix (nI a0))) x) hI a0 t ht h6 ha0) cw_R_R_settle rfl 1 (by decide) rfl rfl rfl rfl (Nat.le_of_ble_eq_true rfl) (by decide) (by decide) d_R_move_12 ?_
  refine vv_st (st' := []) rfl ?_
  exact vv_vret C hr hlk rfl rfl d_R_move_15
set_option maxHeartbeats 4000000 in
set_option maxRecDepth 100000 in
theorem c_R_make (l : Launch) (Γ : Geo) (u : SC) (hI : IC u) (t : Nat) (ht : t < 6) (h6 : u.1 6 0 = nI t) (kd od ms aa bb : Int32) : CtC l Γ y_R_make b_R_make 7 (some .int) 2 [.ref (Γ.2.1 1), .int kd, .int od, .int ms, .int aa, .int bb] u (some (.int (kMake u kd od ms aa bb).1)) (kMake u kd od ms aa bb).2 := by
  refine ct_of (by decide +kernel) (Nat.le_of_ble_eq_true rfl) ?_
  intro p e s m args below meth c C hr hlk
  have hb8 : vp_in (u.1 6 0) 6 := by rw [h6]; exact in6 ht
  have hk8 := IC_pi hI hb8
  have hW6 : (wr (wr (wr (wr (wr (wr (wr (wr (wr u 13 (u.2 (ix (u.1 6 0))) (u.1 7 0)) 14 (u.2 (ix (u.1 6 0))) kd) 15 (u.2 (ix (u.1 6 0))) od) 16 (u.2 (ix (u.1 6 0))) ms) 17 (u.2 (ix (u.1 6 0))) aa) 18 (u.2 (ix (u.1 6 0))) bb) 19 (u.2 (ix (u.1 6 0))) 0) 7 0 (u.1 7 0 + 1)) 6 0 (u.1 6 0 + 1)).1 6 0 = nI (t + 1) := by show u.1 6 0 + 1 = _; rw [h6, nI_1]
  have hW : IC (wr (wr (wr (wr (wr (wr (wr (wr (wr u 13 (u.2 (ix (u.1 6 0))) (u.1 7 0)) 14 (u.2 (ix (u.1 6 0))) kd) 15 (u.2 (ix (u.1 6 0))) od) 16 (u.2 (ix (u.1 6 0))) ms) 17 (u.2 (ix (u.1 6 0))) aa) 18 (u.2 (ix (u.1 6 0))) bb) 19 (u.2 (ix (u.1 6 0))) 0) 7 0 (u.1 7 0 + 1)) 6 0 (u.1 6 0 + 1)) := ⟨⟨t + 1, by omega, hW6⟩, hI.2⟩
  have hW85 : u.1 6 0 + 1 - 1 = nI t := by rw [h6, nI_1, nI_pred]
  refine vv_aload_n C d_R_make_0 rfl ?_
  refine g_R_R_row C d_R_make_1 ?_
  refine vv_aload_n C d_R_make_4 rfl ?_
  refine g_R_R_there C d_R_make_5 ?_
  refine ld_1_2 C hb8 d_R_make_8 ?_
  refine vv_astore (lv' := [(6, .ref (Γ.2.1 (u.2 (ix (u.1 6 0)) + 9))), (0, .ref (Γ.2.1 1)), (1, .int kd), (2, .int od), (3, .int ms), (4, .int aa), (5, .int bb)]) C d_R_make_9 (by decide) rfl ?_
  refine vv_aload C d_R_make_11 rfl ?_
  refine vv_aload_n C d_R_make_13 rfl ?_
  refine g_R_R_nextNumber C d_R_make_14 ?_
  refine p_R_A_number C hk8 d_R_make_17 ?_
  refine vv_aload C d_R_make_20 rfl ?_
  refine vv_iload_n C d_R_make_22 rfl ?_
  refine p_R_A_kind C hk8 d_R_make_23 ?_
  refine vv_aload C d_R_make_26 rfl ?_
  refine vv_iload_n C d_R_make_28 rfl ?_
  refine p_R_A_order C hk8 d_R_make_29 ?_
  refine vv_aload C d_R_make_32 rfl ?_
  refine vv_iload_n C d_R_make_34 rfl ?_
  refine p_R_A_methods C hk8 d_R_make_35 ?_
  refine vv_aload C d_R_make_38 rfl ?_
  refine vv_iload C d_R_make_40 rfl ?_
  refine p_R_A_a C hk8 d_R_make_42 ?_
  refine vv_aload C d_R_make_45 rfl ?_
  refine vv_iload C d_R_make_47 rfl ?_
  refine p_R_A_b C hk8 d_R_make_49 ?_
  refine vv_aload C d_R_make_52 rfl ?_
  refine vv_iconst C (0) d_R_make_54 (by decide) ?_
  refine p_R_A_hasRange C hk8 rfl rfl d_R_make_55 ?_
  refine vv_aload_n C d_R_make_58 rfl ?_
  refine vv_dup C d_R_make_59 rfl ?_
  refine g_R_R_nextNumber C d_R_make_60 ?_
  refine vv_iconst C (1) d_R_make_63 (by decide) ?_
  refine vv_iadd C d_R_make_64 ?_
  refine p_R_R_nextNumber C d_R_make_65 ?_
  refine vv_aload_n C d_R_make_68 rfl ?_
  refine vv_dup C d_R_make_69 rfl ?_
  refine g_R_R_there C d_R_make_70 ?_
  refine vv_iconst C (1) d_R_make_73 (by decide) ?_
  refine vv_iadd C d_R_make_74 ?_
  refine p_R_R_there C d_R_make_75 ?_
  refine vv_aload_n C d_R_make_78 rfl ?_
  refine vv_aload_n C d_R_make_79 rfl ?_
  refine g_R_R_there C d_R_make_80 ?_
  refine vv_iconst C (1) d_R_make_83 (by decide) ?_
  refine vv_isub C d_R_make_84 ?_
  refine vv_st (st' := [.int (nI t), .ref (Γ.2.1 1)]) (by show [Value.int (u.1 6 0 + 1 - 1), Value.ref (Γ.2.1 1)] = _; rw [hW85]) ?_
  refine callC (rest := []) C (c_R_settle l Γ (wr (wr (wr (wr (wr (wr (wr (wr (wr u 13 (u.2 (ix (u.1 6 0))) (u.1 7 0)) 14 (u.2 (ix (u.1 6 0))) kd) 15 (u.2 (ix (u.1 6 0))) od) 16 (u.2 (ix (u.1 6 0))) ms) 17 (u.2 (ix (u.1 6 0))) aa) 18 (u.2 (ix (u.1 6 0))) bb) 19 (u.2 (ix (u.1 6 0))) 0) 7 0 (((wr (wr (wr (wr (wr (wr (wr u 13 (u.2 (ix (u.1 6 0))) (u.1 7 0)) 14 (u.2 (ix (u.1 6 0))) kd) 15 (u.2 (ix (u.1 6 0))) od) 16 (u.2 (ix (u.1 6 0))) ms) 17 (u.2 (ix (u.1 6 0))) aa) 18 (u.2 (ix (u.1 6 0))) bb) 19 (u.2 (ix (u.1 6 0))) 0).1 7 0) + 1)) 6 0 (((wr (wr (wr (wr (wr (wr (wr (wr u 13 (u.2 (ix (u.1 6 0))) (u.1 7 0)) 14 (u.2 (ix (u.1 6 0))) kd) 15 (u.2 (ix (u.1 6 0))) od) 16 (u.2 (ix (u.1 6 0))) ms) 17 (u.2 (ix (u.1 6 0))) aa) 18 (u.2 (ix (u.1 6 0))) bb) 19 (u.2 (ix (u.1 6 0))) 0) 7 0 (((wr (wr (wr (wr (wr (wr (wr u 13 (u.2 (ix (u.1 6 0))) (u.1 7 0)) 14 (u.2 (ix (u.1 6 0))) kd) 15 (u.2 (ix (u.1 6 0))) od) 16 (u.2 (ix (u.1 6 0))) ms) 17 (u.2 (ix (u.1 6 0))) aa) 18 (u.2 (ix (u.1 6 0))) bb) 19 (u.2 (ix (u.1 6 0))) 0).1 7 0) + 1)).1 6 0) + 1)) hW t (t + 1) (by omega) hW6 (by omega)) cw_R_R_settle rfl 1 (by decide) rfl rfl rfl rfl (Nat.le_of_ble_eq_true rfl) (by decide) (by decide) d_R_make_85 ?_
  refine vv_st (st' := []) rfl ?_
  refine vv_aload C d_R_make_88 rfl ?_
  refine g_R_A_number C hk8 d_R_make_90 ?_
  exact vv_iret C hr hlk (by unfold kMake; dsimp only; rw [hW85]; rfl) (by unfold kMake; dsimp only; rw [hW85]; rfl) d_R_make_93
