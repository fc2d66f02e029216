set_option maxHeartbeats 4000000 in
set_option maxRecDepth 100000 in
theorem c_L_areNumbersOf (l : Launch) (Γ : Geo) (u : SC) (x y z : Int32) : CtC l Γ y_L_areNumbersOf b_L_areNumbersOf 3 (some .boolean) 2 [.int x, .int y, .int z] u (some (.int (bI (kNums x y z)))) u := by
  refine ct_of (by decide +kernel) (Nat.le_of_ble_eq_true rfl) ?_
  intro p e s m args below meth c C hr hlk
  refine vv_iload_n C d_L_areNumbersOf_0 rfl ?_
  by_cases z0 : x = 0
  · skip
    refine vv_tableIn C 48 d_L_areNumbersOf_1 (by rw [z0]; decide) (by rw [z0]; decide) (by rw [z0]; rfl) rfl ?_
    refine vv_iload_n C d_L_areNumbersOf_48 rfl ?_
    refine callCS (rest := []) C (c_L_isException l Γ u z) cw_L_L_isException rfl rfl (Nat.le_of_ble_eq_true rfl) (by decide) (by decide) d_L_areNumbersOf_49 ?_
    refine vv_st (st' := [.int (bI (kIsExc z))]) rfl ?_
    have hE : kNums x y z = (kIsExc z) := by
      unfold kNums
      rw [z0]
      rw [if_pos (by decide)]
      try rfl
    exact vv_zret C hr hlk (bI_nar _) (by rw [hE] <;> rfl) rfl d_L_areNumbersOf_52
  by_cases z1 : x = 1
  · skip
    refine vv_tableIn C 78 d_L_areNumbersOf_1 (by rw [z1]; decide) (by rw [z1]; decide) (by rw [z1]; rfl) rfl ?_
    refine vv_iconst C (1) d_L_areNumbersOf_78 (by decide) ?_
    have hE : kNums x y z = true := by
      unfold kNums
      rw [z1]
      rw [if_neg (by decide)]
      rw [if_neg (by decide)]
      rw [if_neg (by decide)]
      rw [if_neg (by decide)]
      rw [if_neg (by decide)]
      try rfl
    exact vv_zret C hr hlk rfl (by rw [hE] <;> rfl) rfl d_L_areNumbersOf_79
  by_cases z2 : x = 2
  · skip
    refine vv_tableIn C 78 d_L_areNumbersOf_1 (by rw [z2]; decide) (by rw [z2]; decide) (by rw [z2]; rfl) rfl ?_
    refine vv_iconst C (1) d_L_areNumbersOf_78 (by decide) ?_
    have hE : kNums x y z = true := by
      unfold kNums
      rw [z2]
      rw [if_neg (by decide)]
      rw [if_neg (by decide)]
      rw [if_neg (by decide)]
      rw [if_neg (by decide)]
      rw [if_neg (by decide)]
      try rfl
    exact vv_zret C hr hlk rfl (by rw [hE] <;> rfl) rfl d_L_areNumbersOf_79
  by_cases z3 : x = 3
  · skip
    refine vv_tableIn C 78 d_L_areNumbersOf_1 (by rw [z3]; decide) (by rw [z3]; decide) (by rw [z3]; rfl) rfl ?_
    refine vv_iconst C (1) d_L_areNumbersOf_78 (by decide) ?_
    have hE : kNums x y z = true := by
      unfold kNums
      rw [z3]
      rw [if_neg (by decide)]
      rw [if_neg (by decide)]
      rw [if_neg (by decide)]
      rw [if_neg (by decide)]
      rw [if_neg (by decide)]
      try rfl
    exact vv_zret C hr hlk rfl (by rw [hE] <;> rfl) rfl d_L_areNumbersOf_79
  by_cases z4 : x = 4
  · skip
    refine vv_tableIn C 48 d_L_areNumbersOf_1 (by rw [z4]; decide) (by rw [z4]; decide) (by rw [z4]; rfl) rfl ?_
    refine vv_iload_n C d_L_areNumbersOf_48 rfl ?_
    refine callCS (rest := []) C (c_L_isException l Γ u z) cw_L_L_isException rfl rfl (Nat.le_of_ble_eq_true rfl) (by decide) (by decide) d_L_areNumbersOf_49 ?_
    refine vv_st (st' := [.int (bI (kIsExc z))]) rfl ?_
    have hE : kNums x y z = (kIsExc z) := by
      unfold kNums
      rw [z4]
      rw [if_neg (by decide)]
      rw [if_pos (by decide)]
      try rfl
    exact vv_zret C hr hlk (bI_nar _) (by rw [hE] <;> rfl) rfl d_L_areNumbersOf_52
  by_cases z5 : x = 5
  · skip
    refine vv_tableIn C 53 d_L_areNumbersOf_1 (by rw [z5]; decide) (by rw [z5]; decide) (by rw [z5]; rfl) rfl ?_
    refine vv_iload_n C d_L_areNumbersOf_53 rfl ?_
    refine callCS (rest := []) C (c_L_isException l Γ u y) cw_L_L_isException rfl rfl (Nat.le_of_ble_eq_true rfl) (by decide) (by decide) d_L_areNumbersOf_54 ?_
    refine vv_st (st' := [.int (bI (kIsExc y))]) rfl ?_
    refine vv_if_eq C 71 d_L_areNumbersOf_57 rfl (fun h1 => ?_) (fun h1 => ?_)
    · skip
      replace h1 := bI_f h1
      refine vv_iconst C (0) d_L_areNumbersOf_71 (by decide) ?_
      have hE : kNums x y z = false := by
        unfold kNums
        rw [z5]
        rw [if_neg (by decide)]
        rw [if_neg (by decide)]
        rw [if_neg (by decide)]
        rw [if_pos (by decide)]
        first | rw [if_pos h1] | rw [if_neg h1] | rw [if_neg (by exact tf_f h1)] | rw [h1]
        try rfl
      exact vv_zret C hr hlk rfl (by rw [hE] <;> rfl) rfl d_L_areNumbersOf_72
    · skip
      replace h1 := bI_t h1
      refine vv_iload_n C d_L_areNumbersOf_60 rfl ?_
      refine callCS (rest := []) C (c_L_isExceptionOrZero l Γ u z) cw_L_L_isExceptionOrZero rfl rfl (Nat.le_of_ble_eq_true rfl) (by decide) (by decide) d_L_areNumbersOf_61 ?_
      refine vv_st (st' := [.int (bI (kIsExcZ z))]) rfl ?_
      refine vv_if_eq C 71 d_L_areNumbersOf_64 rfl (fun h2 => ?_) (fun h2 => ?_)
      · skip
        replace h2 := bI_f h2
        refine vv_iconst C (0) d_L_areNumbersOf_71 (by decide) ?_
        have hE : kNums x y z = false := by
          unfold kNums
          rw [z5]
          rw [if_neg (by decide)]
          rw [if_neg (by decide)]
          rw [if_neg (by decide)]
          rw [if_pos (by decide)]
          first | rw [if_pos h1] | rw [if_neg h1] | rw [if_neg (by exact tf_f h1)] | rw [h1]
          first | rw [if_pos h2] | rw [if_neg h2] | rw [if_neg (by exact tf_f h2)] | rw [h2]
          try rfl
        exact vv_zret C hr hlk rfl (by rw [hE] <;> rfl) rfl d_L_areNumbersOf_72
      · skip
        replace h2 := bI_t h2
        refine vv_iconst C (1) d_L_areNumbersOf_67 (by decide) ?_
        refine vv_goto C 72 d_L_areNumbersOf_68 rfl ?_
        have hE : kNums x y z = true := by
          unfold kNums
          rw [z5]
          rw [if_neg (by decide)]
          rw [if_neg (by decide)]
          rw [if_neg (by decide)]
          rw [if_pos (by decide)]
          first | rw [if_pos h1] | rw [if_neg h1] | rw [if_neg (by exact tf_f h1)] | rw [h1]
          first | rw [if_pos h2] | rw [if_neg h2] | rw [if_neg (by exact tf_f h2)] | rw [h2]
          try rfl
        exact vv_zret C hr hlk rfl (by rw [hE] <;> rfl) rfl d_L_areNumbersOf_72
  by_cases z6 : x = 6
  · skip
    refine vv_tableIn C 48 d_L_areNumbersOf_1 (by rw [z6]; decide) (by rw [z6]; decide) (by rw [z6]; rfl) rfl ?_
    refine vv_iload_n C d_L_areNumbersOf_48 rfl ?_
    refine callCS (rest := []) C (c_L_isException l Γ u z) cw_L_L_isException rfl rfl (Nat.le_of_ble_eq_true rfl) (by decide) (by decide) d_L_areNumbersOf_49 ?_
    refine vv_st (st' := [.int (bI (kIsExc z))]) rfl ?_
    have hE : kNums x y z = (kIsExc z) := by
      unfold kNums
      rw [z6]
      rw [if_neg (by decide)]
      rw [if_neg (by decide)]
      rw [if_pos (by decide)]
      try rfl
    exact vv_zret C hr hlk (bI_nar _) (by rw [hE] <;> rfl) rfl d_L_areNumbersOf_52
  by_cases z7 : x = 7
  · skip
    refine vv_tableIn C 73 d_L_areNumbersOf_1 (by rw [z7]; decide) (by rw [z7]; decide) (by rw [z7]; rfl) rfl ?_
    refine vv_iload_n C d_L_areNumbersOf_73 rfl ?_
    refine callCS (rest := []) C (c_L_isException l Γ u y) cw_L_L_isException rfl rfl (Nat.le_of_ble_eq_true rfl) (by decide) (by decide) d_L_areNumbersOf_74 ?_
    refine vv_st (st' := [.int (bI (kIsExc y))]) rfl ?_
    have hE : kNums x y z = (kIsExc y) := by
      unfold kNums
      rw [z7]
      rw [if_neg (by decide)]
      rw [if_neg (by decide)]
      rw [if_neg (by decide)]
      rw [if_neg (by decide)]
      rw [if_pos (by decide)]
      try rfl
    exact vv_zret C hr hlk (bI_nar _) (by rw [hE] <;> rfl) rfl d_L_areNumbersOf_77
  have hout : (x).toInt < 0 ∨ ((7 : Nat) : Int) < (x).toInt := sw_out (by omega) (fun j hj => by
    have hj' : j = 0 ∨ j = 1 ∨ j = 2 ∨ j = 3 ∨ j = 4 ∨ j = 5 ∨ j = 6 ∨ j = 7 := by omega
    rcases hj' with rfl | rfl | rfl | rfl | rfl | rfl | rfl | rfl
    · exact z0
    · exact z1
    · exact z2
    · exact z3
    · exact z4
    · exact z5
    · exact z6
    · exact z7
    )
  refine vv_tableOut C 78 d_L_areNumbersOf_1 hout rfl ?_
  refine vv_iconst C (1) d_L_areNumbersOf_78 (by decide) ?_
  have hE : kNums x y z = true := by
    unfold kNums
    rw [if_neg z0, if_neg z4, if_neg z6, if_neg z5, if_neg z7]
    try rfl
  exact vv_zret C hr hlk rfl (by rw [hE] <;> rfl) rfl d_L_areNumbersOf_79
theorem notfull {u : SC} (h : IC u) (hf : kIsFull u = false) : ∃ t, t < 6 ∧ u.1 6 0 = nI t := by
  obtain ⟨t, ht, e⟩ := h.1
  refine ⟨t, ?_, e⟩
  unfold kIsFull at hf
  by_cases c : u.1 6 0 = 6
  · rw [if_pos c] at hf; cases hf
  · have : ¬ t = 6 := fun z => c (by rw [e, z]; rfl)
    omega
theorem pl_ok {u : SC} (h : IC u) {x : Int32} (hn : ¬ kPlaceOf u x = -1) : ∃ t pp, t < 6 ∧ u.1 6 0 = nI (t + 1) ∧ pp ≤ t ∧ kPlaceOf u x = nI pp := by
  obtain ⟨t, ht, h6⟩ := h.1
  rcases kPlaceL_spec u x ht h6 7 0 (by omega) (by omega) with ⟨z, -⟩ | ⟨q, z1, z2, z3, -⟩
  · exact absurd z hn
  · obtain ⟨s, rfl⟩ : ∃ s, t = s + 1 := ⟨t - 1, by omega⟩
    exact ⟨s, q, by omega, h6, by omega, z3⟩
theorem tm_in {x y : Int32} (hx : kIsTarget x = true) (hy : kIsMethod y = true) : vp_in (x * 6 + y) 12 ∧ ix (x * 6 + y) < 12 := by
  unfold kIsTarget at hx
  unfold kIsMethod at hy
  by_cases a1 : x < 0
  · rw [if_pos a1] at hx; cases hx
  by_cases a2 : (2 : Int32) ≤ x
  · rw [if_neg a1, if_pos a2] at hx; cases hx
  by_cases b1 : y < 0
  · rw [if_pos b1] at hy; cases hy
  by_cases b2 : (6 : Int32) ≤ y
  · rw [if_neg b1, if_pos b2] at hy; cases hy
  obtain ⟨a, ha, rfl⟩ := nI_of a1
  obtain ⟨b, hb, rfl⟩ := nI_of b1
  rw [show (2 : Int32) = nI 2 from rfl, nI_leI (by omega) ha] at a2
  rw [show (6 : Int32) = nI 6 from rfl, nI_leI (by omega) hb] at b2
  rw [show (6 : Int32) = nI 6 from rfl, pk_mul, nI_add]
  exact ⟨vp_in_nI (by omega) (by omega), by rw [ixn (by omega)]; omega⟩
theorem has_in {u : SC} (h : IC u) {i : Int32} (hh : kHas u i = true) : vp_in i 100 := by
  obtain ⟨-, ⟨n, hn, e⟩, -⟩ := h
  unfold kHas at hh
  by_cases a1 : i < 0
  · rw [if_pos a1] at hh; cases hh
  by_cases a2 : u.1 8 0 ≤ i
  · rw [if_neg a1, if_pos a2] at hh; cases hh
  obtain ⟨a, ha, rfl⟩ := nI_of a1
  rw [e, nI_leI (by omega) ha] at a2
  exact vp_in_nI (by omega) (by omega)
theorem im_ok {x : Int32} (hy : kIsMethod x = true) : ∃ q, q < 6 ∧ x = nI q := by
  unfold kIsMethod at hy
  by_cases b1 : x < 0
  · rw [if_pos b1] at hy; cases hy
  by_cases b2 : (6 : Int32) ≤ x
  · rw [if_neg b1, if_pos b2] at hy; cases hy
  obtain ⟨b, hb, rfl⟩ := nI_of b1
  rw [show (6 : Int32) = nI 6 from rfl, nI_leI (by omega) hb] at b2
  exact ⟨b, by omega, rfl⟩
set_option maxHeartbeats 4000000 in
set_option maxRecDepth 100000 in
theorem c_L_advise (l : Launch) (Γ : Geo) (u : SC) (hI : IC u) (kd : Int32) (od : Int32) (ms : Int32) (aa : Int32) (bb : Int32) : CtC l Γ y_L_advise b_L_advise 6 (some .int) 3 [.ref (Γ.2.1 0), .int kd, .int od, .int ms, .int aa, .int bb] u (some (.int (kAdvise u kd od ms aa bb).1)) (kAdvise u kd od ms aa bb).2 := by
  refine ct_of (by decide +kernel) (Nat.le_of_ble_eq_true rfl) ?_
  intro p e s m args below meth c C hr hlk
  refine vv_aload_n C d_L_advise_0 rfl ?_
  refine g_L_L_frozen C d_L_advise_1 ?_
  refine vv_if_ne C 27 d_L_advise_4 rfl (fun h1 => ?_) (fun h1 => ?_)
  · skip
    refine vv_iconst C (-1) d_L_advise_27 (by decide) ?_
    have hE : kAdvise u kd od ms aa bb = (-1, u) := by
      unfold kAdvise
      try dsimp only
      first | rw [if_pos h1] | rw [if_neg h1] | rw [if_pos (by exact h1)] | rw [if_neg (by exact h1)] | rw [if_neg (by exact z_nle h1)] | rw [if_pos (by exact z_le h1)] | rw [if_neg (by exact z_nlt h1)] | rw [if_pos (by exact z_lt h1)] | rw [if_neg (by rw [h1]; decide)] | rw [if_pos (by rw [h1])] | rw [if_neg (by exact tf_t h1)] | rw [if_neg (by exact tf_f h1)] | simp only [h1] | skip
      try rfl
    exact vv_iret C hr hlk (by rw [hE] <;> rfl) (by rw [hE] <;> rfl) d_L_advise_28
  · skip
    refine vv_aload_n C d_L_advise_7 rfl ?_
    refine g_L_L_advisors C d_L_advise_8 ?_
    refine callC (rest := []) C (c_R_isFull l Γ u) cw_L_R_isFull rfl 1 (by decide) rfl rfl rfl rfl (Nat.le_of_ble_eq_true rfl) (by decide) (by decide) d_L_advise_11 ?_
    refine vv_st (st' := [.int (bI (kIsFull u))]) rfl ?_
    refine vv_if_ne C 27 d_L_advise_14 rfl (fun h2 => ?_) (fun h2 => ?_)
    · skip
      replace h2 := bI_t h2
      refine vv_iconst C (-1) d_L_advise_27 (by decide) ?_
      have hE : kAdvise u kd od ms aa bb = (-1, u) := by
        unfold kAdvise
        try dsimp only
        first | rw [if_pos h1] | rw [if_neg h1] | rw [if_pos (by exact h1)] | rw [if_neg (by exact h1)] | rw [if_neg (by exact z_nle h1)] | rw [if_pos (by exact z_le h1)] | rw [if_neg (by exact z_nlt h1)] | rw [if_pos (by exact z_lt h1)] | rw [if_neg (by rw [h1]; decide)] | rw [if_pos (by rw [h1])] | rw [if_neg (by exact tf_t h1)] | rw [if_neg (by exact tf_f h1)] | simp only [h1] | skip
        first | rw [if_pos h2] | rw [if_neg h2] | rw [if_pos (by exact h2)] | rw [if_neg (by exact h2)] | rw [if_neg (by exact z_nle h2)] | rw [if_pos (by exact z_le h2)] | rw [if_neg (by exact z_nlt h2)] | rw [if_pos (by exact z_lt h2)] | rw [if_neg (by rw [h2]; decide)] | rw [if_pos (by rw [h2])] | rw [if_neg (by exact tf_t h2)] | rw [if_neg (by exact tf_f h2)] | simp only [h2] | skip
        try rfl
      exact vv_iret C hr hlk (by rw [hE] <;> rfl) (by rw [hE] <;> rfl) d_L_advise_28
    · skip
      replace h2 := bI_f h2
      refine vv_iload_n C d_L_advise_17 rfl ?_
      refine vv_if_lt C 27 d_L_advise_18 rfl (fun h3 => ?_) (fun h3 => ?_)
      · skip
        refine vv_iconst C (-1) d_L_advise_27 (by decide) ?_
        have hE : kAdvise u kd od ms aa bb = (-1, u) := by
          unfold kAdvise
          try dsimp only
          first | rw [if_pos h1] | rw [if_neg h1] | rw [if_pos (by exact h1)] | rw [if_neg (by exact h1)] | rw [if_neg (by exact z_nle h1)] | rw [if_pos (by exact z_le h1)] | rw [if_neg (by exact z_nlt h1)] | rw [if_pos (by exact z_lt h1)] | rw [if_neg (by rw [h1]; decide)] | rw [if_pos (by rw [h1])] | rw [if_neg (by exact tf_t h1)] | rw [if_neg (by exact tf_f h1)] | simp only [h1] | skip
          first | rw [if_pos h2] | rw [if_neg h2] | rw [if_pos (by exact h2)] | rw [if_neg (by exact h2)] | rw [if_neg (by exact z_nle h2)] | rw [if_pos (by exact z_le h2)] | rw [if_neg (by exact z_nlt h2)] | rw [if_pos (by exact z_lt h2)] | rw [if_neg (by rw [h2]; decide)] | rw [if_pos (by rw [h2])] | rw [if_neg (by exact tf_t h2)] | rw [if_neg (by exact tf_f h2)] | simp only [h2] | skip
          first | rw [if_pos h3] | rw [if_neg h3] | rw [if_pos (by exact h3)] | rw [if_neg (by exact h3)] | rw [if_neg (by exact z_nle h3)] | rw [if_pos (by exact z_le h3)] | rw [if_neg (by exact z_nlt h3)] | rw [if_pos (by exact z_lt h3)] | rw [if_neg (by rw [h3]; decide)] | rw [if_pos (by rw [h3])] | rw [if_neg (by exact tf_t h3)] | rw [if_neg (by exact tf_f h3)] | simp only [h3] | skip
          try rfl
        exact vv_iret C hr hlk (by rw [hE] <;> rfl) (by rw [hE] <;> rfl) d_L_advise_28
      · skip
        refine vv_iload_n C d_L_advise_21 rfl ?_
        refine vv_bipush C (7) d_L_advise_22 (by decide) ?_
        refine vv_icmp_le C 29 d_L_advise_24 rfl (fun h4 => ?_) (fun h4 => ?_)
        · skip
          refine vv_iload_n C d_L_advise_29 rfl ?_
          refine vv_iconst C (1) d_L_advise_30 (by decide) ?_
          refine vv_icmp_lt C 51 d_L_advise_31 rfl (fun h5 => ?_) (fun h5 => ?_)
          · skip
            refine vv_iconst C (-1) d_L_advise_51 (by decide) ?_
            have hE : kAdvise u kd od ms aa bb = (-1, u) := by
              unfold kAdvise
              try dsimp only
              first | rw [if_pos h1] | rw [if_neg h1] | rw [if_pos (by exact h1)] | rw [if_neg (by exact h1)] | rw [if_neg (by exact z_nle h1)] | rw [if_pos (by exact z_le h1)] | rw [if_neg (by exact z_nlt h1)] | rw [if_pos (by exact z_lt h1)] | rw [if_neg (by rw [h1]; decide)] | rw [if_pos (by rw [h1])] | rw [if_neg (by exact tf_t h1)] | rw [if_neg (by exact tf_f h1)] | simp only [h1] | skip
              first | rw [if_pos h2] | rw [if_neg h2] | rw [if_pos (by exact h2)] | rw [if_neg (by exact h2)] | rw [if_neg (by exact z_nle h2)] | rw [if_pos (by exact z_le h2)] | rw [if_neg (by exact z_nlt h2)] | rw [if_pos (by exact z_lt h2)] | rw [if_neg (by rw [h2]; decide)] | rw [if_pos (by rw [h2])] | rw [if_neg (by exact tf_t h2)] | rw [if_neg (by exact tf_f h2)] | simp only [h2] | skip
              first | rw [if_pos h3] | rw [if_neg h3] | rw [if_pos (by exact h3)] | rw [if_neg (by exact h3)] | rw [if_neg (by exact z_nle h3)] | rw [if_pos (by exact z_le h3)] | rw [if_neg (by exact z_nlt h3)] | rw [if_pos (by exact z_lt h3)] | rw [if_neg (by rw [h3]; decide)] | rw [if_pos (by rw [h3])] | rw [if_neg (by exact tf_t h3)] | rw [if_neg (by exact tf_f h3)] | simp only [h3] | skip
              first | rw [if_pos h4] | rw [if_neg h4] | rw [if_pos (by exact h4)] | rw [if_neg (by exact h4)] | rw [if_neg (by exact z_nle h4)] | rw [if_pos (by exact z_le h4)] | rw [if_neg (by exact z_nlt h4)] | rw [if_pos (by exact z_lt h4)] | rw [if_neg (by rw [h4]; decide)] | rw [if_pos (by rw [h4])] | rw [if_neg (by exact tf_t h4)] | rw [if_neg (by exact tf_f h4)] | simp only [h4] | skip
              first | rw [if_pos h5] | rw [if_neg h5] | rw [if_pos (by exact h5)] | rw [if_neg (by exact h5)] | rw [if_neg (by exact z_nle h5)] | rw [if_pos (by exact z_le h5)] | rw [if_neg (by exact z_nlt h5)] | rw [if_pos (by exact z_lt h5)] | rw [if_neg (by rw [h5]; decide)] | rw [if_pos (by rw [h5])] | rw [if_neg (by exact tf_t h5)] | rw [if_neg (by exact tf_f h5)] | simp only [h5] | skip
              try rfl
            exact vv_iret C hr hlk (by rw [hE] <;> rfl) (by rw [hE] <;> rfl) d_L_advise_52
          · skip
            refine vv_iload_n C d_L_advise_34 rfl ?_
            refine vv_bipush C (63) d_L_advise_35 (by decide) ?_
            refine vv_icmp_gt C 51 d_L_advise_37 rfl (fun h6 => ?_) (fun h6 => ?_)
            · skip
              refine vv_iconst C (-1) d_L_advise_51 (by decide) ?_
              have hE : kAdvise u kd od ms aa bb = (-1, u) := by
                unfold kAdvise
                try dsimp only
                first | rw [if_pos h1] | rw [if_neg h1] | rw [if_pos (by exact h1)] | rw [if_neg (by exact h1)] | rw [if_neg (by exact z_nle h1)] | rw [if_pos (by exact z_le h1)] | rw [if_neg (by exact z_nlt h1)] | rw [if_pos (by exact z_lt h1)] | rw [if_neg (by rw [h1]; decide)] | rw [if_pos (by rw [h1])] | rw [if_neg (by exact tf_t h1)] | rw [if_neg (by exact tf_f h1)] | simp only [h1] | skip
                first | rw [if_pos h2] | rw [if_neg h2] | rw [if_pos (by exact h2)] | rw [if_neg (by exact h2)] | rw [if_neg (by exact z_nle h2)] | rw [if_pos (by exact z_le h2)] | rw [if_neg (by exact z_nlt h2)] | rw [if_pos (by exact z_lt h2)] | rw [if_neg (by rw [h2]; decide)] | rw [if_pos (by rw [h2])] | rw [if_neg (by exact tf_t h2)] | rw [if_neg (by exact tf_f h2)] | simp only [h2] | skip
                first | rw [if_pos h3] | rw [if_neg h3] | rw [if_pos (by exact h3)] | rw [if_neg (by exact h3)] | rw [if_neg (by exact z_nle h3)] | rw [if_pos (by exact z_le h3)] | rw [if_neg (by exact z_nlt h3)] | rw [if_pos (by exact z_lt h3)] | rw [if_neg (by rw [h3]; decide)] | rw [if_pos (by rw [h3])] | rw [if_neg (by exact tf_t h3)] | rw [if_neg (by exact tf_f h3)] | simp only [h3] | skip
                first | rw [if_pos h4] | rw [if_neg h4] | rw [if_pos (by exact h4)] | rw [if_neg (by exact h4)] | rw [if_neg (by exact z_nle h4)] | rw [if_pos (by exact z_le h4)] | rw [if_neg (by exact z_nlt h4)] | rw [if_pos (by exact z_lt h4)] | rw [if_neg (by rw [h4]; decide)] | rw [if_pos (by rw [h4])] | rw [if_neg (by exact tf_t h4)] | rw [if_neg (by exact tf_f h4)] | simp only [h4] | skip
                first | rw [if_pos h5] | rw [if_neg h5] | rw [if_pos (by exact h5)] | rw [if_neg (by exact h5)] | rw [if_neg (by exact z_nle h5)] | rw [if_pos (by exact z_le h5)] | rw [if_neg (by exact z_nlt h5)] | rw [if_pos (by exact z_lt h5)] | rw [if_neg (by rw [h5]; decide)] | rw [if_pos (by rw [h5])] | rw [if_neg (by exact tf_t h5)] | rw [if_neg (by exact tf_f h5)] | simp only [h5] | skip
                first | rw [if_pos h6] | rw [if_neg h6] | rw [if_pos (by exact h6)] | rw [if_neg (by exact h6)] | rw [if_neg (by exact z_nle h6)] | rw [if_pos (by exact z_le h6)] | rw [if_neg (by exact z_nlt h6)] | rw [if_pos (by exact z_lt h6)] | rw [if_neg (by rw [h6]; decide)] | rw [if_pos (by rw [h6])] | rw [if_neg (by exact tf_t h6)] | rw [if_neg (by exact tf_f h6)] | simp only [h6] | skip
                try rfl
              exact vv_iret C hr hlk (by rw [hE] <;> rfl) (by rw [hE] <;> rfl) d_L_advise_52
            · skip
              refine vv_iload_n C d_L_advise_40 rfl ?_
              refine vv_iload C d_L_advise_41 rfl ?_
              refine vv_iload C d_L_advise_43 rfl ?_
              refine callCS (rest := []) C (c_L_areNumbersOf l Γ u kd aa bb) cw_L_L_areNumbersOf rfl rfl (Nat.le_of_ble_eq_true rfl) (by decide) (by decide) d_L_advise_45 ?_
              refine vv_st (st' := [.int (bI (kNums kd aa bb))]) rfl ?_
              refine vv_if_ne C 53 d_L_advise_48 rfl (fun h7 => ?_) (fun h7 => ?_)
              · skip
                replace h7 := bI_t h7
                refine vv_aload_n C d_L_advise_53 rfl ?_
                refine g_L_L_advisors C d_L_advise_54 ?_
                refine vv_iload_n C d_L_advise_57 rfl ?_
                refine vv_iload_n C d_L_advise_58 rfl ?_
                refine vv_iload_n C d_L_advise_59 rfl ?_
                refine vv_iload C d_L_advise_60 rfl ?_
                refine vv_iload C d_L_advise_62 rfl ?_
                obtain ⟨t, ht, ht6⟩ := notfull hI h2
                refine callC (rest := []) C (c_R_make l Γ u hI t ht ht6 kd od ms aa bb) cw_L_R_make rfl 1 (by decide) rfl rfl rfl rfl (Nat.le_of_ble_eq_true rfl) (by decide) (by decide) d_L_advise_64 ?_
                refine vv_st (st' := [.int ((kMake u kd od ms aa bb).1)]) rfl ?_
                have hE : kAdvise u kd od ms aa bb = ((kMake u kd od ms aa bb).1, ((kMake u kd od ms aa bb).2)) := by
                  unfold kAdvise
                  try dsimp only
                  first | rw [if_pos h1] | rw [if_neg h1] | rw [if_pos (by exact h1)] | rw [if_neg (by exact h1)] | rw [if_neg (by exact z_nle h1)] | rw [if_pos (by exact z_le h1)] | rw [if_neg (by exact z_nlt h1)] | rw [if_pos (by exact z_lt h1)] | rw [if_neg (by rw [h1]; decide)] | rw [if_pos (by rw [h1])] | rw [if_neg (by exact tf_t h1)] | rw [if_neg (by exact tf_f h1)] | simp only [h1] | skip
                  first | rw [if_pos h2] | rw [if_neg h2] | rw [if_pos (by exact h2)] | rw [if_neg (by exact h2)] | rw [if_neg (by exact z_nle h2)] | rw [if_pos (by exact z_le h2)] | rw [if_neg (by exact z_nlt h2)] | rw [if_pos (by exact z_lt h2)] | rw [if_neg (by rw [h2]; decide)] | rw [if_pos (by rw [h2])] | rw [if_neg (by exact tf_t h2)] | rw [if_neg (by exact tf_f h2)] | simp only [h2] | skip
                  first | rw [if_pos h3] | rw [if_neg h3] | rw [if_pos (by exact h3)] | rw [if_neg (by exact h3)] | rw [if_neg (by exact z_nle h3)] | rw [if_pos (by exact z_le h3)] | rw [if_neg (by exact z_nlt h3)] | rw [if_pos (by exact z_lt h3)] | rw [if_neg (by rw [h3]; decide)] | rw [if_pos (by rw [h3])] | rw [if_neg (by exact tf_t h3)] | rw [if_neg (by exact tf_f h3)] | simp only [h3] | skip
                  first | rw [if_pos h4] | rw [if_neg h4] | rw [if_pos (by exact h4)] | rw [if_neg (by exact h4)] | rw [if_neg (by exact z_nle h4)] | rw [if_pos (by exact z_le h4)] | rw [if_neg (by exact z_nlt h4)] | rw [if_pos (by exact z_lt h4)] | rw [if_neg (by rw [h4]; decide)] | rw [if_pos (by rw [h4])] | rw [if_neg (by exact tf_t h4)] | rw [if_neg (by exact tf_f h4)] | simp only [h4] | skip
                  first | rw [if_pos h5] | rw [if_neg h5] | rw [if_pos (by exact h5)] | rw [if_neg (by exact h5)] | rw [if_neg (by exact z_nle h5)] | rw [if_pos (by exact z_le h5)] | rw [if_neg (by exact z_nlt h5)] | rw [if_pos (by exact z_lt h5)] | rw [if_neg (by rw [h5]; decide)] | rw [if_pos (by rw [h5])] | rw [if_neg (by exact tf_t h5)] | rw [if_neg (by exact tf_f h5)] | simp only [h5] | skip
                  first | rw [if_pos h6] | rw [if_neg h6] | rw [if_pos (by exact h6)] | rw [if_neg (by exact h6)] | rw [if_neg (by exact z_nle h6)] | rw [if_pos (by exact z_le h6)] | rw [if_neg (by exact z_nlt h6)] | rw [if_pos (by exact z_lt h6)] | rw [if_neg (by rw [h6]; decide)] | rw [if_pos (by rw [h6])] | rw [if_neg (by exact tf_t h6)] | rw [if_neg (by exact tf_f h6)] | simp only [h6] | skip
                  first | rw [if_pos h7] | rw [if_neg h7] | rw [if_pos (by exact h7)] | rw [if_neg (by exact h7)] | rw [if_neg (by exact z_nle h7)] | rw [if_pos (by exact z_le h7)] | rw [if_neg (by exact z_nlt h7)] | rw [if_pos (by exact z_lt h7)] | rw [if_neg (by rw [h7]; decide)] | rw [if_pos (by rw [h7])] | rw [if_neg (by exact tf_t h7)] | rw [if_neg (by exact tf_f h7)] | simp only [h7] | skip
                  try rfl
                exact vv_iret C hr hlk (by rw [hE] <;> rfl) (by rw [hE] <;> rfl) d_L_advise_67
              · skip
                replace h7 := bI_f h7
                refine vv_iconst C (-1) d_L_advise_51 (by decide) ?_
                have hE : kAdvise u kd od ms aa bb = (-1, u) := by
                  unfold kAdvise
                  try dsimp only
                  first | rw [if_pos h1] | rw [if_neg h1] | rw [if_pos (by exact h1)] | rw [if_neg (by exact h1)] | rw [if_neg (by exact z_nle h1)] | rw [if_pos (by exact z_le h1)] | rw [if_neg (by exact z_nlt h1)] | rw [if_pos (by exact z_lt h1)] | rw [if_neg (by rw [h1]; decide)] | rw [if_pos (by rw [h1])] | rw [if_neg (by exact tf_t h1)] | rw [if_neg (by exact tf_f h1)] | simp only [h1] | skip
                  first | rw [if_pos h2] | rw [if_neg h2] | rw [if_pos (by exact h2)] | rw [if_neg (by exact h2)] | rw [if_neg (by exact z_nle h2)] | rw [if_pos (by exact z_le h2)] | rw [if_neg (by exact z_nlt h2)] | rw [if_pos (by exact z_lt h2)] | rw [if_neg (by rw [h2]; decide)] | rw [if_pos (by rw [h2])] | rw [if_neg (by exact tf_t h2)] | rw [if_neg (by exact tf_f h2)] | simp only [h2] | skip
                  first | rw [if_pos h3] | rw [if_neg h3] | rw [if_pos (by exact h3)] | rw [if_neg (by exact h3)] | rw [if_neg (by exact z_nle h3)] | rw [if_pos (by exact z_le h3)] | rw [if_neg (by exact z_nlt h3)] | rw [if_pos (by exact z_lt h3)] | rw [if_neg (by rw [h3]; decide)] | rw [if_pos (by rw [h3])] | rw [if_neg (by exact tf_t h3)] | rw [if_neg (by exact tf_f h3)] | simp only [h3] | skip
                  first | rw [if_pos h4] | rw [if_neg h4] | rw [if_pos (by exact h4)] | rw [if_neg (by exact h4)] | rw [if_neg (by exact z_nle h4)] | rw [if_pos (by exact z_le h4)] | rw [if_neg (by exact z_nlt h4)] | rw [if_pos (by exact z_lt h4)] | rw [if_neg (by rw [h4]; decide)] | rw [if_pos (by rw [h4])] | rw [if_neg (by exact tf_t h4)] | rw [if_neg (by exact tf_f h4)] | simp only [h4] | skip
                  first | rw [if_pos h5] | rw [if_neg h5] | rw [if_pos (by exact h5)] | rw [if_neg (by exact h5)] | rw [if_neg (by exact z_nle h5)] | rw [if_pos (by exact z_le h5)] | rw [if_neg (by exact z_nlt h5)] | rw [if_pos (by exact z_lt h5)] | rw [if_neg (by rw [h5]; decide)] | rw [if_pos (by rw [h5])] | rw [if_neg (by exact tf_t h5)] | rw [if_neg (by exact tf_f h5)] | simp only [h5] | skip
                  first | rw [if_pos h6] | rw [if_neg h6] | rw [if_pos (by exact h6)] | rw [if_neg (by exact h6)] | rw [if_neg (by exact z_nle h6)] | rw [if_pos (by exact z_le h6)] | rw [if_neg (by exact z_nlt h6)] | rw [if_pos (by exact z_lt h6)] | rw [if_neg (by rw [h6]; decide)] | rw [if_pos (by rw [h6])] | rw [if_neg (by exact tf_t h6)] | rw [if_neg (by exact tf_f h6)] | simp only [h6] | skip
                  first | rw [if_pos h7] | rw [if_neg h7] | rw [if_pos (by exact h7)] | rw [if_neg (by exact h7)] | rw [if_neg (by exact z_nle h7)] | rw [if_pos (by exact z_le h7)] | rw [if_neg (by exact z_nlt h7)] | rw [if_pos (by exact z_lt h7)] | rw [if_neg (by rw [h7]; decide)] | rw [if_pos (by rw [h7])] | rw [if_neg (by exact tf_t h7)] | rw [if_neg (by exact tf_f h7)] | simp only [h7] | skip
                  try rfl
                exact vv_iret C hr hlk (by rw [hE] <;> rfl) (by rw [hE] <;> rfl) d_L_advise_52
        · skip
          refine vv_iconst C (-1) d_L_advise_27 (by decide) ?_
          have hE : kAdvise u kd od ms aa bb = (-1, u) := by
            unfold kAdvise
            try dsimp only
            first | rw [if_pos h1] | rw [if_neg h1] | rw [if_pos (by exact h1)] | rw [if_neg (by exact h1)] | rw [if_neg (by exact z_nle h1)] | rw [if_pos (by exact z_le h1)] | rw [if_neg (by exact z_nlt h1)] | rw [if_pos (by exact z_lt h1)] | rw [if_neg (by rw [h1]; decide)] | rw [if_pos (by rw [h1])] | rw [if_neg (by exact tf_t h1)] | rw [if_neg (by exact tf_f h1)] | simp only [h1] | skip
            first | rw [if_pos h2] | rw [if_neg h2] | rw [if_pos (by exact h2)] | rw [if_neg (by exact h2)] | rw [if_neg (by exact z_nle h2)] | rw [if_pos (by exact z_le h2)] | rw [if_neg (by exact z_nlt h2)] | rw [if_pos (by exact z_lt h2)] | rw [if_neg (by rw [h2]; decide)] | rw [if_pos (by rw [h2])] | rw [if_neg (by exact tf_t h2)] | rw [if_neg (by exact tf_f h2)] | simp only [h2] | skip
            first | rw [if_pos h3] | rw [if_neg h3] | rw [if_pos (by exact h3)] | rw [if_neg (by exact h3)] | rw [if_neg (by exact z_nle h3)] | rw [if_pos (by exact z_le h3)] | rw [if_neg (by exact z_nlt h3)] | rw [if_pos (by exact z_lt h3)] | rw [if_neg (by rw [h3]; decide)] | rw [if_pos (by rw [h3])] | rw [if_neg (by exact tf_t h3)] | rw [if_neg (by exact tf_f h3)] | simp only [h3] | skip
            first | rw [if_pos h4] | rw [if_neg h4] | rw [if_pos (by exact h4)] | rw [if_neg (by exact h4)] | rw [if_neg (by exact z_nle h4)] | rw [if_pos (by exact z_le h4)] | rw [if_neg (by exact z_nlt h4)] | rw [if_pos (by exact z_lt h4)] | rw [if_neg (by rw [h4]; decide)] | rw [if_pos (by rw [h4])] | rw [if_neg (by exact tf_t h4)] | rw [if_neg (by exact tf_f h4)] | simp only [h4] | skip
            try rfl
          exact vv_iret C hr hlk (by rw [hE] <;> rfl) (by rw [hE] <;> rfl) d_L_advise_28
set_option maxHeartbeats 4000000 in
set_option maxRecDepth 100000 in
theorem c_L_when (l : Launch) (Γ : Geo) (u : SC) (hI : IC u) (x : Int32) (lo : Int32) (hi : Int32) : CtC l Γ y_L_when b_L_when 5 (some .boolean) 1 [.ref (Γ.2.1 0), .int x, .int lo, .int hi] u (some (.int (bI (kWhen u x lo hi).1))) (kWhen u x lo hi).2 := by
  refine ct_of (by decide +kernel) (Nat.le_of_ble_eq_true rfl) ?_
  intro p e s m args below meth c C hr hlk
  refine vv_aload_n C d_L_when_0 rfl ?_
  refine g_L_L_advisors C d_L_when_1 ?_
  refine vv_iload_n C d_L_when_4 rfl ?_
  refine callC (rest := []) C (c_R_placeOf l Γ u hI x) cw_L_R_placeOf rfl 1 (by decide) rfl rfl rfl rfl (Nat.le_of_ble_eq_true rfl) (by decide) (by decide) d_L_when_5 ?_
  refine vv_st (st' := [.int (kPlaceOf u x)]) rfl ?_
  refine vv_istore (lv' := [(4, .int (kPlaceOf u x)), (0, .ref (Γ.2.1 0)), (1, .int x), (2, .int lo), (3, .int hi)]) C d_L_when_8 (by decide) rfl ?_
  refine vv_aload_n C d_L_when_10 rfl ?_
  refine g_L_L_frozen C d_L_when_11 ?_
  refine vv_if_ne C 28 d_L_when_14 rfl (fun h1 => ?_) (fun h1 => ?_)
  · skip
    refine vv_iconst C (0) d_L_when_28 (by decide) ?_
    have hE : kWhen u x lo hi = (false, u) := by
      unfold kWhen
      try dsimp only
      first | rw [if_pos h1] | rw [if_neg h1] | rw [if_pos (by exact h1)] | rw [if_neg (by exact h1)] | rw [if_neg (by exact z_nle h1)] | rw [if_pos (by exact z_le h1)] | rw [if_neg (by exact z_nlt h1)] | rw [if_pos (by exact z_lt h1)] | rw [if_neg (by rw [h1]; decide)] | rw [if_pos (by rw [h1])] | rw [if_neg (by exact tf_t h1)] | rw [if_neg (by exact tf_f h1)] | simp only [h1] | skip
      try rfl
    exact vv_zret C hr hlk rfl (by rw [hE]; rfl) (by rw [hE] <;> rfl) d_L_when_29
  · skip
    refine vv_iload C d_L_when_17 rfl ?_
    refine vv_iconst C (-1) d_L_when_19 (by decide) ?_
    refine vv_icmp_eq C 28 d_L_when_20 rfl (fun h2 => ?_) (fun h2 => ?_)
    · skip
      refine vv_iconst C (0) d_L_when_28 (by decide) ?_
      have hE : kWhen u x lo hi = (false, u) := by
        unfold kWhen
        try dsimp only
        first | rw [if_pos h1] | rw [if_neg h1] | rw [if_pos (by exact h1)] | rw [if_neg (by exact h1)] | rw [if_neg (by exact z_nle h1)] | rw [if_pos (by exact z_le h1)] | rw [if_neg (by exact z_nlt h1)] | rw [if_pos (by exact z_lt h1)] | rw [if_neg (by rw [h1]; decide)] | rw [if_pos (by rw [h1])] | rw [if_neg (by exact tf_t h1)] | rw [if_neg (by exact tf_f h1)] | simp only [h1] | skip
        first | rw [if_pos h2] | rw [if_neg h2] | rw [if_pos (by exact h2)] | rw [if_neg (by exact h2)] | rw [if_neg (by exact z_nle h2)] | rw [if_pos (by exact z_le h2)] | rw [if_neg (by exact z_nlt h2)] | rw [if_pos (by exact z_lt h2)] | rw [if_neg (by rw [h2]; decide)] | rw [if_pos (by rw [h2])] | rw [if_neg (by exact tf_t h2)] | rw [if_neg (by exact tf_f h2)] | simp only [h2] | skip
        try rfl
      exact vv_zret C hr hlk rfl (by rw [hE]; rfl) (by rw [hE] <;> rfl) d_L_when_29
    · skip
      refine vv_iload_n C d_L_when_23 rfl ?_
      refine vv_iload_n C d_L_when_24 rfl ?_
      refine vv_icmp_le C 30 d_L_when_25 rfl (fun h3 => ?_) (fun h3 => ?_)
      · skip
        obtain ⟨t, pp, ht, h6, hpp, hpe⟩ := pl_ok hI h2
        have hpk : u.2 (ix (nI pp)) < 6 := IC_pi hI (in6 (by omega))
        rw [hpe]
        refine vv_aload_n C d_L_when_30 rfl ?_
        refine g_L_L_advisors C d_L_when_31 ?_
        refine vv_iload C d_L_when_34 rfl ?_
        refine callC (rest := []) C (c_R_at l Γ u (nI pp) (in6 (by omega))) cw_L_R_at rfl 1 (by decide) rfl rfl rfl rfl (Nat.le_of_ble_eq_true rfl) (by decide) (by decide) d_L_when_36 ?_
        refine vv_st (st' := [.ref (Γ.2.1 (u.2 (ix (nI pp)) + 9))]) rfl ?_
        refine vv_iload_n C d_L_when_39 rfl ?_
        refine vv_iload_n C d_L_when_40 rfl ?_
        refine callC (rest := []) C (c_A_giveRange l Γ u (u.2 (ix (nI pp))) hpk lo hi) cw_L_A_giveRange rfl (u.2 (ix (nI pp)) + 9) (by have := hpk; omega) rfl (eC_adv hpk) rfl rfl (Nat.le_of_ble_eq_true rfl) (by decide) (by decide) d_L_when_41 ?_
        refine vv_st (st' := []) rfl ?_
        refine vv_iconst C (1) d_L_when_44 (by decide) ?_
        have hE : kWhen u x lo hi = (true, (kGive u (u.2 (ix (nI pp))) lo hi)) := by
          unfold kWhen
          try dsimp only
          first | rw [if_pos h1] | rw [if_neg h1] | rw [if_pos (by exact h1)] | rw [if_neg (by exact h1)] | rw [if_neg (by exact z_nle h1)] | rw [if_pos (by exact z_le h1)] | rw [if_neg (by exact z_nlt h1)] | rw [if_pos (by exact z_lt h1)] | rw [if_neg (by rw [h1]; decide)] | rw [if_pos (by rw [h1])] | rw [if_neg (by exact tf_t h1)] | rw [if_neg (by exact tf_f h1)] | simp only [h1] | skip
          first | rw [if_pos h2] | rw [if_neg h2] | rw [if_pos (by exact h2)] | rw [if_neg (by exact h2)] | rw [if_neg (by exact z_nle h2)] | rw [if_pos (by exact z_le h2)] | rw [if_neg (by exact z_nlt h2)] | rw [if_pos (by exact z_lt h2)] | rw [if_neg (by rw [h2]; decide)] | rw [if_pos (by rw [h2])] | rw [if_neg (by exact tf_t h2)] | rw [if_neg (by exact tf_f h2)] | simp only [h2] | skip
          first | rw [if_pos h3] | rw [if_neg h3] | rw [if_pos (by exact h3)] | rw [if_neg (by exact h3)] | rw [if_neg (by exact z_nle h3)] | rw [if_pos (by exact z_le h3)] | rw [if_neg (by exact z_nlt h3)] | rw [if_pos (by exact z_lt h3)] | rw [if_neg (by rw [h3]; decide)] | rw [if_pos (by rw [h3])] | rw [if_neg (by exact tf_t h3)] | rw [if_neg (by exact tf_f h3)] | simp only [h3] | skip
          try rw [hpe]
          try rfl
        exact vv_zret C hr hlk rfl (by rw [hE]; rfl) (by rw [hE] <;> rfl) d_L_when_45
      · skip
        refine vv_iconst C (0) d_L_when_28 (by decide) ?_
        have hE : kWhen u x lo hi = (false, u) := by
          unfold kWhen
          try dsimp only
          first | rw [if_pos h1] | rw [if_neg h1] | rw [if_pos (by exact h1)] | rw [if_neg (by exact h1)] | rw [if_neg (by exact z_nle h1)] | rw [if_pos (by exact z_le h1)] | rw [if_neg (by exact z_nlt h1)] | rw [if_pos (by exact z_lt h1)] | rw [if_neg (by rw [h1]; decide)] | rw [if_pos (by rw [h1])] | rw [if_neg (by exact tf_t h1)] | rw [if_neg (by exact tf_f h1)] | simp only [h1] | skip
          first | rw [if_pos h2] | rw [if_neg h2] | rw [if_pos (by exact h2)] | rw [if_neg (by exact h2)] | rw [if_neg (by exact z_nle h2)] | rw [if_pos (by exact z_le h2)] | rw [if_neg (by exact z_nlt h2)] | rw [if_pos (by exact z_lt h2)] | rw [if_neg (by rw [h2]; decide)] | rw [if_pos (by rw [h2])] | rw [if_neg (by exact tf_t h2)] | rw [if_neg (by exact tf_f h2)] | simp only [h2] | skip
          first | rw [if_pos h3] | rw [if_neg h3] | rw [if_pos (by exact h3)] | rw [if_neg (by exact h3)] | rw [if_neg (by exact z_nle h3)] | rw [if_pos (by exact z_le h3)] | rw [if_neg (by exact z_nlt h3)] | rw [if_pos (by exact z_lt h3)] | rw [if_neg (by rw [h3]; decide)] | rw [if_pos (by rw [h3])] | rw [if_neg (by exact tf_t h3)] | rw [if_neg (by exact tf_f h3)] | simp only [h3] | skip
          try rfl
        exact vv_zret C hr hlk rfl (by rw [hE]; rfl) (by rw [hE] <;> rfl) d_L_when_29
set_option maxHeartbeats 4000000 in
set_option maxRecDepth 100000 in
theorem c_L_reorder (l : Launch) (Γ : Geo) (u : SC) (hI : IC u) (x : Int32) (y : Int32) : CtC l Γ y_L_reorder b_L_reorder 4 (some .boolean) 3 [.ref (Γ.2.1 0), .int x, .int y] u (some (.int (bI (kReorder u x y).1))) (kReorder u x y).2 := by
  refine ct_of (by decide +kernel) (Nat.le_of_ble_eq_true rfl) ?_
  intro p e s m args below meth c C hr hlk
  refine vv_aload_n C d_L_reorder_0 rfl ?_
  refine g_L_L_advisors C d_L_reorder_1 ?_
  refine vv_iload_n C d_L_reorder_4 rfl ?_
  refine callC (rest := []) C (c_R_placeOf l Γ u hI x) cw_L_R_placeOf rfl 1 (by decide) rfl rfl rfl rfl (Nat.le_of_ble_eq_true rfl) (by decide) (by decide) d_L_reorder_5 ?_
  refine vv_st (st' := [.int (kPlaceOf u x)]) rfl ?_
  refine vv_istore_n (lv' := [(3, .int (kPlaceOf u x)), (0, .ref (Γ.2.1 0)), (1, .int x), (2, .int y)]) C d_L_reorder_8 rfl (by decide) rfl ?_
  refine vv_aload_n C d_L_reorder_9 rfl ?_
  refine g_L_L_frozen C d_L_reorder_10 ?_
  refine vv_if_ne C 21 d_L_reorder_13 rfl (fun h1 => ?_) (fun h1 => ?_)
  · skip
    refine vv_iconst C (0) d_L_reorder_21 (by decide) ?_
    have hE : kReorder u x y = (false, u) := by
      unfold kReorder
      try dsimp only
      first | rw [if_pos h1] | rw [if_neg h1] | rw [if_pos (by exact h1)] | rw [if_neg (by exact h1)] | rw [if_neg (by exact z_nle h1)] | rw [if_pos (by exact z_le h1)] | rw [if_neg (by exact z_nlt h1)] | rw [if_pos (by exact z_lt h1)] | rw [if_neg (by rw [h1]; decide)] | rw [if_pos (by rw [h1])] | rw [if_neg (by exact tf_t h1)] | rw [if_neg (by exact tf_f h1)] | simp only [h1] | skip
      try rfl
    exact vv_zret C hr hlk rfl (by rw [hE]; rfl) (by rw [hE] <;> rfl) d_L_reorder_22
  · skip
    refine vv_iload_n C d_L_reorder_16 rfl ?_
    refine vv_iconst C (-1) d_L_reorder_17 (by decide) ?_
    refine vv_icmp_ne C 23 d_L_reorder_18 rfl (fun h2 => ?_) (fun h2 => ?_)
    · skip
      obtain ⟨t, pp, ht0, h6, hpp0, hpe⟩ := pl_ok hI h2
      have hpk : u.2 (ix (nI pp)) < 6 := IC_pi hI (in6 (by omega))
      have ht : t + 1 ≤ 6 := by omega
      have hpp : pp < t + 1 := by omega
      rw [hpe]
      refine vv_aload_n C d_L_reorder_23 rfl ?_
      refine g_L_L_advisors C d_L_reorder_24 ?_
      refine vv_iload_n C d_L_reorder_27 rfl ?_
      refine vv_iload_n C d_L_reorder_28 rfl ?_
      refine callC (rest := []) C (c_R_move l Γ u hI pp (t + 1) ht h6 hpp y) cw_L_R_move rfl 1 (by decide) rfl rfl rfl rfl (Nat.le_of_ble_eq_true rfl) (by decide) (by decide) d_L_reorder_29 ?_
      refine vv_st (st' := []) rfl ?_
      refine vv_iconst C (1) d_L_reorder_32 (by decide) ?_
      have hE : kReorder u x y = (true, (kMove u (nI pp) y)) := by
        unfold kReorder
        try dsimp only
        first | rw [if_pos h1] | rw [if_neg h1] | rw [if_pos (by exact h1)] | rw [if_neg (by exact h1)] | rw [if_neg (by exact z_nle h1)] | rw [if_pos (by exact z_le h1)] | rw [if_neg (by exact z_nlt h1)] | rw [if_pos (by exact z_lt h1)] | rw [if_neg (by rw [h1]; decide)] | rw [if_pos (by rw [h1])] | rw [if_neg (by exact tf_t h1)] | rw [if_neg (by exact tf_f h1)] | simp only [h1] | skip
        first | rw [if_pos h2] | rw [if_neg h2] | rw [if_pos (by exact h2)] | rw [if_neg (by exact h2)] | rw [if_neg (by exact z_nle h2)] | rw [if_pos (by exact z_le h2)] | rw [if_neg (by exact z_nlt h2)] | rw [if_pos (by exact z_lt h2)] | rw [if_neg (by rw [h2]; decide)] | rw [if_pos (by rw [h2])] | rw [if_neg (by exact tf_t h2)] | rw [if_neg (by exact tf_f h2)] | simp only [h2] | skip
        try rw [hpe]
        try rfl
      exact vv_zret C hr hlk rfl (by rw [hE]; rfl) (by rw [hE] <;> rfl) d_L_reorder_33
    · skip
      refine vv_iconst C (0) d_L_reorder_21 (by decide) ?_
      have hE : kReorder u x y = (false, u) := by
        unfold kReorder
        try dsimp only
        first | rw [if_pos h1] | rw [if_neg h1] | rw [if_pos (by exact h1)] | rw [if_neg (by exact h1)] | rw [if_neg (by exact z_nle h1)] | rw [if_pos (by exact z_le h1)] | rw [if_neg (by exact z_nlt h1)] | rw [if_pos (by exact z_lt h1)] | rw [if_neg (by rw [h1]; decide)] | rw [if_pos (by rw [h1])] | rw [if_neg (by exact tf_t h1)] | rw [if_neg (by exact tf_f h1)] | simp only [h1] | skip
        first | rw [if_pos h2] | rw [if_neg h2] | rw [if_pos (by exact h2)] | rw [if_neg (by exact h2)] | rw [if_neg (by exact z_nle h2)] | rw [if_pos (by exact z_le h2)] | rw [if_neg (by exact z_nlt h2)] | rw [if_pos (by exact z_lt h2)] | rw [if_neg (by rw [h2]; decide)] | rw [if_pos (by rw [h2])] | rw [if_neg (by exact tf_t h2)] | rw [if_neg (by exact tf_f h2)] | simp only [h2] | skip
        try rfl
      exact vv_zret C hr hlk rfl (by rw [hE]; rfl) (by rw [hE] <;> rfl) d_L_reorder_22
set_option maxHeartbeats 4000000 in
set_option maxRecDepth 100000 in
theorem c_L_remove (l : Launch) (Γ : Geo) (u : SC) (hI : IC u) (x : Int32) : CtC l Γ y_L_remove b_L_remove 3 (some .boolean) 2 [.ref (Γ.2.1 0), .int x] u (some (.int (bI (kRemove u x).1))) (kRemove u x).2 := by
  refine ct_of (by decide +kernel) (Nat.le_of_ble_eq_true rfl) ?_
  intro p e s m args below meth c C hr hlk
  refine vv_aload_n C d_L_remove_0 rfl ?_
  refine g_L_L_advisors C d_L_remove_1 ?_
  refine vv_iload_n C d_L_remove_4 rfl ?_
  refine callC (rest := []) C (c_R_placeOf l Γ u hI x) cw_L_R_placeOf rfl 1 (by decide) rfl rfl rfl rfl (Nat.le_of_ble_eq_true rfl) (by decide) (by decide) d_L_remove_5 ?_
  refine vv_st (st' := [.int (kPlaceOf u x)]) rfl ?_
  refine vv_istore_n (lv' := [(2, .int (kPlaceOf u x)), (0, .ref (Γ.2.1 0)), (1, .int x)]) C d_L_remove_8 rfl (by decide) rfl ?_
  refine vv_aload_n C d_L_remove_9 rfl ?_
  refine g_L_L_frozen C d_L_remove_10 ?_
  refine vv_if_ne C 21 d_L_remove_13 rfl (fun h1 => ?_) (fun h1 => ?_)
  · skip
    refine vv_iconst C (0) d_L_remove_21 (by decide) ?_
    have hE : kRemove u x = (false, u) := by
      unfold kRemove
      try dsimp only
      first | rw [if_pos h1] | rw [if_neg h1] | rw [if_pos (by exact h1)] | rw [if_neg (by exact h1)] | rw [if_neg (by exact z_nle h1)] | rw [if_pos (by exact z_le h1)] | rw [if_neg (by exact z_nlt h1)] | rw [if_pos (by exact z_lt h1)] | rw [if_neg (by rw [h1]; decide)] | rw [if_pos (by rw [h1])] | rw [if_neg (by exact tf_t h1)] | rw [if_neg (by exact tf_f h1)] | simp only [h1] | skip
      try rfl
    exact vv_zret C hr hlk rfl (by rw [hE]; rfl) (by rw [hE] <;> rfl) d_L_remove_22
  · skip
    refine vv_iload_n C d_L_remove_16 rfl ?_
    refine vv_iconst C (-1) d_L_remove_17 (by decide) ?_
    refine vv_icmp_ne C 23 d_L_remove_18 rfl (fun h2 => ?_) (fun h2 => ?_)
    · skip
      obtain ⟨t, pp, ht, h6, hpp, hpe⟩ := pl_ok hI h2
      have hpk : u.2 (ix (nI pp)) < 6 := IC_pi hI (in6 (by omega))
      rw [hpe]
      refine vv_aload_n C d_L_remove_23 rfl ?_
      refine g_L_L_advisors C d_L_remove_24 ?_
      refine vv_iload_n C d_L_remove_27 rfl ?_
      refine callC (rest := []) C (c_R_takeAway l Γ u hI pp t ht h6 hpp) cw_L_R_takeAway rfl 1 (by decide) rfl rfl rfl rfl (Nat.le_of_ble_eq_true rfl) (by decide) (by decide) d_L_remove_28 ?_
      refine vv_st (st' := []) rfl ?_
      refine vv_iconst C (1) d_L_remove_31 (by decide) ?_
      have hE : kRemove u x = (true, (kTakeAway u (nI pp))) := by
        unfold kRemove
        try dsimp only
        first | rw [if_pos h1] | rw [if_neg h1] | rw [if_pos (by exact h1)] | rw [if_neg (by exact h1)] | rw [if_neg (by exact z_nle h1)] | rw [if_pos (by exact z_le h1)] | rw [if_neg (by exact z_nlt h1)] | rw [if_pos (by exact z_lt h1)] | rw [if_neg (by rw [h1]; decide)] | rw [if_pos (by rw [h1])] | rw [if_neg (by exact tf_t h1)] | rw [if_neg (by exact tf_f h1)] | simp only [h1] | skip
        first | rw [if_pos h2] | rw [if_neg h2] | rw [if_pos (by exact h2)] | rw [if_neg (by exact h2)] | rw [if_neg (by exact z_nle h2)] | rw [if_pos (by exact z_le h2)] | rw [if_neg (by exact z_nlt h2)] | rw [if_pos (by exact z_lt h2)] | rw [if_neg (by rw [h2]; decide)] | rw [if_pos (by rw [h2])] | rw [if_neg (by exact tf_t h2)] | rw [if_neg (by exact tf_f h2)] | simp only [h2] | skip
        try rw [hpe]
        try rfl
      exact vv_zret C hr hlk rfl (by rw [hE]; rfl) (by rw [hE] <;> rfl) d_L_remove_32
    · skip
      refine vv_iconst C (0) d_L_remove_21 (by decide) ?_
      have hE : kRemove u x = (false, u) := by
        unfold kRemove
        try dsimp only
        first | rw [if_pos h1] | rw [if_neg h1] | rw [if_pos (by exact h1)] | rw [if_neg (by exact h1)] | rw [if_neg (by exact z_nle h1)] | rw [if_pos (by exact z_le h1)] | rw [if_neg (by exact z_nlt h1)] | rw [if_pos (by exact z_lt h1)] | rw [if_neg (by rw [h1]; decide)] | rw [if_pos (by rw [h1])] | rw [if_neg (by exact tf_t h1)] | rw [if_neg (by exact tf_f h1)] | simp only [h1] | skip
        first | rw [if_pos h2] | rw [if_neg h2] | rw [if_pos (by exact h2)] | rw [if_neg (by exact h2)] | rw [if_neg (by exact z_nle h2)] | rw [if_pos (by exact z_le h2)] | rw [if_neg (by exact z_nlt h2)] | rw [if_pos (by exact z_lt h2)] | rw [if_neg (by rw [h2]; decide)] | rw [if_pos (by rw [h2])] | rw [if_neg (by exact tf_t h2)] | rw [if_neg (by exact tf_f h2)] | simp only [h2] | skip
        try rfl
      exact vv_zret C hr hlk rfl (by rw [hE]; rfl) (by rw [hE] <;> rfl) d_L_remove_22
set_option maxHeartbeats 4000000 in
set_option maxRecDepth 100000 in
theorem c_L_plan (l : Launch) (Γ : Geo) (u : SC) (hI : IC u) (x : Int32) (y : Int32) (f1 : Int32) (a1 : Int32) : CtC l Γ y_L_plan b_L_plan 6 (some .boolean) 1 [.ref (Γ.2.1 0), .int x, .int y, .int f1, .int a1] u (some (.int (bI (kPlan u x y f1 a1).1))) (kPlan u x y f1 a1).2 := by
  refine ct_of (by decide +kernel) (Nat.le_of_ble_eq_true rfl) ?_
  intro p e s m args below meth c C hr hlk
  refine vv_iload_n C d_L_plan_0 rfl ?_
  refine callCS (rest := []) C (c_L_isTarget l Γ u x) cw_L_L_isTarget rfl rfl (Nat.le_of_ble_eq_true rfl) (by decide) (by decide) d_L_plan_1 ?_
  refine vv_st (st' := [.int (bI (kIsTarget x))]) rfl ?_
  refine vv_if_eq C 14 d_L_plan_4 rfl (fun h1 => ?_) (fun h1 => ?_)
  · skip
    replace h1 := bI_f h1
    refine vv_iconst C (0) d_L_plan_14 (by decide) ?_
    have hE : kPlan u x y f1 a1 = (false, u) := by
      unfold kPlan
      try dsimp only
      first | rw [if_pos h1] | rw [if_neg h1] | rw [if_pos (by exact h1)] | rw [if_neg (by exact h1)] | rw [if_neg (by exact z_nle h1)] | rw [if_pos (by exact z_le h1)] | rw [if_neg (by exact z_nlt h1)] | rw [if_pos (by exact z_lt h1)] | rw [if_neg (by rw [h1]; decide)] | rw [if_pos (by rw [h1])] | rw [if_neg (by exact tf_t h1)] | rw [if_neg (by exact tf_f h1)] | simp only [h1] | skip
      try rfl
    exact vv_zret C hr hlk rfl (by rw [hE]; rfl) (by rw [hE] <;> rfl) d_L_plan_15
  · skip
    replace h1 := bI_t h1
    refine vv_iload_n C d_L_plan_7 rfl ?_
    refine callCS (rest := []) C (c_L_isMethod l Γ u y) cw_L_L_isMethod rfl rfl (Nat.le_of_ble_eq_true rfl) (by decide) (by decide) d_L_plan_8 ?_
    refine vv_st (st' := [.int (bI (kIsMethod y))]) rfl ?_
    refine vv_if_ne C 16 d_L_plan_11 rfl (fun h2 => ?_) (fun h2 => ?_)
    · skip
      replace h2 := bI_t h2
      obtain ⟨hw1, hw2⟩ := tm_in h1 h2
      refine vv_aload_n C d_L_plan_16 rfl ?_
      refine vv_iload_n C d_L_plan_17 rfl ?_
      refine vv_iload_n C d_L_plan_18 rfl ?_
      refine callC (rest := []) C (c_L_workOf l Γ u x y hw1) cw_L_L_workOf rfl 0 (by decide) rfl rfl rfl rfl (Nat.le_of_ble_eq_true rfl) (by decide) (by decide) d_L_plan_19 ?_
      refine vv_st (st' := [.ref (Γ.2.1 (ix (x * 6 + y) + 15))]) rfl ?_
      refine vv_astore (lv' := [(5, .ref (Γ.2.1 (ix (x * 6 + y) + 15))), (0, .ref (Γ.2.1 0)), (1, .int x), (2, .int y), (3, .int f1), (4, .int a1)]) C d_L_plan_22 (by decide) rfl ?_
      refine vv_aload C d_L_plan_24 rfl ?_
      refine vv_iload_n C d_L_plan_26 rfl ?_
      refine p_L_K_factor C hw2 d_L_plan_27 ?_
      refine vv_aload C d_L_plan_30 rfl ?_
      refine vv_iload C d_L_plan_32 rfl ?_
      refine p_L_K_addend C hw2 d_L_plan_34 ?_
      refine vv_iconst C (1) d_L_plan_37 (by decide) ?_
      have hE : kPlan u x y f1 a1 = (true, (wr (wr u 22 (ix (x * 6 + y)) f1) 23 (ix (x * 6 + y)) a1)) := by
        unfold kPlan
        try dsimp only
        first | rw [if_pos h1] | rw [if_neg h1] | rw [if_pos (by exact h1)] | rw [if_neg (by exact h1)] | rw [if_neg (by exact z_nle h1)] | rw [if_pos (by exact z_le h1)] | rw [if_neg (by exact z_nlt h1)] | rw [if_pos (by exact z_lt h1)] | rw [if_neg (by rw [h1]; decide)] | rw [if_pos (by rw [h1])] | rw [if_neg (by exact tf_t h1)] | rw [if_neg (by exact tf_f h1)] | simp only [h1] | skip
        first | rw [if_pos h2] | rw [if_neg h2] | rw [if_pos (by exact h2)] | rw [if_neg (by exact h2)] | rw [if_neg (by exact z_nle h2)] | rw [if_pos (by exact z_le h2)] | rw [if_neg (by exact z_nlt h2)] | rw [if_pos (by exact z_lt h2)] | rw [if_neg (by rw [h2]; decide)] | rw [if_pos (by rw [h2])] | rw [if_neg (by exact tf_t h2)] | rw [if_neg (by exact tf_f h2)] | simp only [h2] | skip
        try rfl
      exact vv_zret C hr hlk rfl (by rw [hE]; rfl) (by rw [hE] <;> rfl) d_L_plan_38
    · skip
      replace h2 := bI_f h2
      refine vv_iconst C (0) d_L_plan_14 (by decide) ?_
      have hE : kPlan u x y f1 a1 = (false, u) := by
        unfold kPlan
        try dsimp only
        first | rw [if_pos h1] | rw [if_neg h1] | rw [if_pos (by exact h1)] | rw [if_neg (by exact h1)] | rw [if_neg (by exact z_nle h1)] | rw [if_pos (by exact z_le h1)] | rw [if_neg (by exact z_nlt h1)] | rw [if_pos (by exact z_lt h1)] | rw [if_neg (by rw [h1]; decide)] | rw [if_pos (by rw [h1])] | rw [if_neg (by exact tf_t h1)] | rw [if_neg (by exact tf_f h1)] | simp only [h1] | skip
        first | rw [if_pos h2] | rw [if_neg h2] | rw [if_pos (by exact h2)] | rw [if_neg (by exact h2)] | rw [if_neg (by exact z_nle h2)] | rw [if_pos (by exact z_le h2)] | rw [if_neg (by exact z_nlt h2)] | rw [if_pos (by exact z_lt h2)] | rw [if_neg (by rw [h2]; decide)] | rw [if_pos (by rw [h2])] | rw [if_neg (by exact tf_t h2)] | rw [if_neg (by exact tf_f h2)] | simp only [h2] | skip
        try rfl
      exact vv_zret C hr hlk rfl (by rw [hE]; rfl) (by rw [hE] <;> rfl) d_L_plan_15
set_option maxHeartbeats 4000000 in
set_option maxRecDepth 100000 in
theorem c_L_fail (l : Launch) (Γ : Geo) (u : SC) (hI : IC u) (x : Int32) (y : Int32) (a1 : Int32) (e1 : Int32) : CtC l Γ y_L_fail b_L_fail 6 (some .boolean) 2 [.ref (Γ.2.1 0), .int x, .int y, .int a1, .int e1] u (some (.int (bI (kFail u x y a1 e1).1))) (kFail u x y a1 e1).2 := by
  refine ct_of (by decide +kernel) (Nat.le_of_ble_eq_true rfl) ?_
  intro p e s m args below meth c C hr hlk
  refine vv_iload_n C d_L_fail_0 rfl ?_
  refine callCS (rest := []) C (c_L_isTarget l Γ u x) cw_L_L_isTarget rfl rfl (Nat.le_of_ble_eq_true rfl) (by decide) (by decide) d_L_fail_1 ?_
  refine vv_st (st' := [.int (bI (kIsTarget x))]) rfl ?_
  refine vv_if_eq C 22 d_L_fail_4 rfl (fun h1 => ?_) (fun h1 => ?_)
  · skip
    replace h1 := bI_f h1
    refine vv_iconst C (0) d_L_fail_22 (by decide) ?_
    have hE : kFail u x y a1 e1 = (false, u) := by
      unfold kFail
      try dsimp only
      first | rw [if_pos h1] | rw [if_neg h1] | rw [if_pos (by exact h1)] | rw [if_neg (by exact h1)] | rw [if_neg (by exact z_nle h1)] | rw [if_pos (by exact z_le h1)] | rw [if_neg (by exact z_nlt h1)] | rw [if_pos (by exact z_lt h1)] | rw [if_neg (by rw [h1]; decide)] | rw [if_pos (by rw [h1])] | rw [if_neg (by exact tf_t h1)] | rw [if_neg (by exact tf_f h1)] | simp only [h1] | skip
      try rfl
    exact vv_zret C hr hlk rfl (by rw [hE]; rfl) (by rw [hE] <;> rfl) d_L_fail_23
  · skip
    replace h1 := bI_t h1
    refine vv_iload_n C d_L_fail_7 rfl ?_
    refine callCS (rest := []) C (c_L_isMethod l Γ u y) cw_L_L_isMethod rfl rfl (Nat.le_of_ble_eq_true rfl) (by decide) (by decide) d_L_fail_8 ?_
    refine vv_st (st' := [.int (bI (kIsMethod y))]) rfl ?_
    refine vv_if_eq C 22 d_L_fail_11 rfl (fun h2 => ?_) (fun h2 => ?_)
    · skip
      replace h2 := bI_f h2
      refine vv_iconst C (0) d_L_fail_22 (by decide) ?_
      have hE : kFail u x y a1 e1 = (false, u) := by
        unfold kFail
        try dsimp only
        first | rw [if_pos h1] | rw [if_neg h1] | rw [if_pos (by exact h1)] | rw [if_neg (by exact h1)] | rw [if_neg (by exact z_nle h1)] | rw [if_pos (by exact z_le h1)] | rw [if_neg (by exact z_nlt h1)] | rw [if_pos (by exact z_lt h1)] | rw [if_neg (by rw [h1]; decide)] | rw [if_pos (by rw [h1])] | rw [if_neg (by exact tf_t h1)] | rw [if_neg (by exact tf_f h1)] | simp only [h1] | skip
        first | rw [if_pos h2] | rw [if_neg h2] | rw [if_pos (by exact h2)] | rw [if_neg (by exact h2)] | rw [if_neg (by exact z_nle h2)] | rw [if_pos (by exact z_le h2)] | rw [if_neg (by exact z_nlt h2)] | rw [if_pos (by exact z_lt h2)] | rw [if_neg (by rw [h2]; decide)] | rw [if_pos (by rw [h2])] | rw [if_neg (by exact tf_t h2)] | rw [if_neg (by exact tf_f h2)] | simp only [h2] | skip
        try rfl
      exact vv_zret C hr hlk rfl (by rw [hE]; rfl) (by rw [hE] <;> rfl) d_L_fail_23
    · skip
      replace h2 := bI_t h2
      refine vv_iload C d_L_fail_14 rfl ?_
      refine callCS (rest := []) C (c_L_isExceptionOrZero l Γ u e1) cw_L_L_isExceptionOrZero rfl rfl (Nat.le_of_ble_eq_true rfl) (by decide) (by decide) d_L_fail_16 ?_
      refine vv_st (st' := [.int (bI (kIsExcZ e1))]) rfl ?_
      refine vv_if_ne C 24 d_L_fail_19 rfl (fun h3 => ?_) (fun h3 => ?_)
      · skip
        replace h3 := bI_t h3
        obtain ⟨hw1, hw2⟩ := tm_in h1 h2
        refine vv_aload_n C d_L_fail_24 rfl ?_
        refine vv_iload_n C d_L_fail_25 rfl ?_
        refine vv_iload_n C d_L_fail_26 rfl ?_
        refine callC (rest := []) C (c_L_workOf l Γ u x y hw1) cw_L_L_workOf rfl 0 (by decide) rfl rfl rfl rfl (Nat.le_of_ble_eq_true rfl) (by decide) (by decide) d_L_fail_27 ?_
        refine vv_st (st' := [.ref (Γ.2.1 (ix (x * 6 + y) + 15))]) rfl ?_
        refine vv_astore (lv' := [(5, .ref (Γ.2.1 (ix (x * 6 + y) + 15))), (0, .ref (Γ.2.1 0)), (1, .int x), (2, .int y), (3, .int a1), (4, .int e1)]) C d_L_fail_30 (by decide) rfl ?_
        refine vv_aload C d_L_fail_32 rfl ?_
        refine vv_iload_n C d_L_fail_34 rfl ?_
        refine p_L_K_failsAt C hw2 d_L_fail_35 ?_
        refine vv_aload C d_L_fail_38 rfl ?_
        refine vv_iload C d_L_fail_40 rfl ?_
        refine p_L_K_exception C hw2 d_L_fail_42 ?_
        refine vv_iconst C (1) d_L_fail_45 (by decide) ?_
        have hE : kFail u x y a1 e1 = (true, (wr (wr u 24 (ix (x * 6 + y)) a1) 25 (ix (x * 6 + y)) e1)) := by
          unfold kFail
          try dsimp only
          first | rw [if_pos h1] | rw [if_neg h1] | rw [if_pos (by exact h1)] | rw [if_neg (by exact h1)] | rw [if_neg (by exact z_nle h1)] | rw [if_pos (by exact z_le h1)] | rw [if_neg (by exact z_nlt h1)] | rw [if_pos (by exact z_lt h1)] | rw [if_neg (by rw [h1]; decide)] | rw [if_pos (by rw [h1])] | rw [if_neg (by exact tf_t h1)] | rw [if_neg (by exact tf_f h1)] | simp only [h1] | skip
          first | rw [if_pos h2] | rw [if_neg h2] | rw [if_pos (by exact h2)] | rw [if_neg (by exact h2)] | rw [if_neg (by exact z_nle h2)] | rw [if_pos (by exact z_le h2)] | rw [if_neg (by exact z_nlt h2)] | rw [if_pos (by exact z_lt h2)] | rw [if_neg (by rw [h2]; decide)] | rw [if_pos (by rw [h2])] | rw [if_neg (by exact tf_t h2)] | rw [if_neg (by exact tf_f h2)] | simp only [h2] | skip
          first | rw [if_pos h3] | rw [if_neg h3] | rw [if_pos (by exact h3)] | rw [if_neg (by exact h3)] | rw [if_neg (by exact z_nle h3)] | rw [if_pos (by exact z_le h3)] | rw [if_neg (by exact z_nlt h3)] | rw [if_pos (by exact z_lt h3)] | rw [if_neg (by rw [h3]; decide)] | rw [if_pos (by rw [h3])] | rw [if_neg (by exact tf_t h3)] | rw [if_neg (by exact tf_f h3)] | simp only [h3] | skip
          try rfl
        exact vv_zret C hr hlk rfl (by rw [hE]; rfl) (by rw [hE] <;> rfl) d_L_fail_46
      · skip
        replace h3 := bI_f h3
        refine vv_iconst C (0) d_L_fail_22 (by decide) ?_
        have hE : kFail u x y a1 e1 = (false, u) := by
          unfold kFail
          try dsimp only
          first | rw [if_pos h1] | rw [if_neg h1] | rw [if_pos (by exact h1)] | rw [if_neg (by exact h1)] | rw [if_neg (by exact z_nle h1)] | rw [if_pos (by exact z_le h1)] | rw [if_neg (by exact z_nlt h1)] | rw [if_pos (by exact z_lt h1)] | rw [if_neg (by rw [h1]; decide)] | rw [if_pos (by rw [h1])] | rw [if_neg (by exact tf_t h1)] | rw [if_neg (by exact tf_f h1)] | simp only [h1] | skip
          first | rw [if_pos h2] | rw [if_neg h2] | rw [if_pos (by exact h2)] | rw [if_neg (by exact h2)] | rw [if_neg (by exact z_nle h2)] | rw [if_pos (by exact z_le h2)] | rw [if_neg (by exact z_nlt h2)] | rw [if_pos (by exact z_lt h2)] | rw [if_neg (by rw [h2]; decide)] | rw [if_pos (by rw [h2])] | rw [if_neg (by exact tf_t h2)] | rw [if_neg (by exact tf_f h2)] | simp only [h2] | skip
          first | rw [if_pos h3] | rw [if_neg h3] | rw [if_pos (by exact h3)] | rw [if_neg (by exact h3)] | rw [if_neg (by exact z_nle h3)] | rw [if_pos (by exact z_le h3)] | rw [if_neg (by exact z_nlt h3)] | rw [if_pos (by exact z_lt h3)] | rw [if_neg (by rw [h3]; decide)] | rw [if_pos (by rw [h3])] | rw [if_neg (by exact tf_t h3)] | rw [if_neg (by exact tf_f h3)] | simp only [h3] | skip
          try rfl
        exact vv_zret C hr hlk rfl (by rw [hE]; rfl) (by rw [hE] <;> rfl) d_L_fail_23
set_option maxHeartbeats 4000000 in
set_option maxRecDepth 100000 in
theorem c_L_calls (l : Launch) (Γ : Geo) (u : SC) (hI : IC u) (x : Int32) (y : Int32) (n1 : Int32) : CtC l Γ y_L_calls b_L_calls 4 (some .boolean) 1 [.ref (Γ.2.1 0), .int x, .int y, .int n1] u (some (.int (bI (kCalls u x y n1).1))) (kCalls u x y n1).2 := by
  refine ct_of (by decide +kernel) (Nat.le_of_ble_eq_true rfl) ?_
  intro p e s m args below meth c C hr hlk
  refine vv_iload_n C d_L_calls_0 rfl ?_
  refine callCS (rest := []) C (c_L_isTarget l Γ u x) cw_L_L_isTarget rfl rfl (Nat.le_of_ble_eq_true rfl) (by decide) (by decide) d_L_calls_1 ?_
  refine vv_st (st' := [.int (bI (kIsTarget x))]) rfl ?_
  refine vv_if_eq C 26 d_L_calls_4 rfl (fun h1 => ?_) (fun h1 => ?_)
  · skip
    replace h1 := bI_f h1
    refine vv_iconst C (0) d_L_calls_26 (by decide) ?_
    have hE : kCalls u x y n1 = (false, u) := by
      unfold kCalls
      try dsimp only
      first | rw [if_pos h1] | rw [if_neg h1] | rw [if_pos (by exact h1)] | rw [if_neg (by exact h1)] | rw [if_neg (by exact z_nle h1)] | rw [if_pos (by exact z_le h1)] | rw [if_neg (by exact z_nlt h1)] | rw [if_pos (by exact z_lt h1)] | rw [if_neg (by rw [h1]; decide)] | rw [if_pos (by rw [h1])] | rw [if_neg (by exact tf_t h1)] | rw [if_neg (by exact tf_f h1)] | simp only [h1] | skip
      try rfl
    exact vv_zret C hr hlk rfl (by rw [hE]; rfl) (by rw [hE] <;> rfl) d_L_calls_27
  · skip
    replace h1 := bI_t h1
    refine vv_iload_n C d_L_calls_7 rfl ?_
    refine callCS (rest := []) C (c_L_isMethod l Γ u y) cw_L_L_isMethod rfl rfl (Nat.le_of_ble_eq_true rfl) (by decide) (by decide) d_L_calls_8 ?_
    refine vv_st (st' := [.int (bI (kIsMethod y))]) rfl ?_
    refine vv_if_eq C 26 d_L_calls_11 rfl (fun h2 => ?_) (fun h2 => ?_)
    · skip
      replace h2 := bI_f h2
      refine vv_iconst C (0) d_L_calls_26 (by decide) ?_
      have hE : kCalls u x y n1 = (false, u) := by
        unfold kCalls
        try dsimp only
        first | rw [if_pos h1] | rw [if_neg h1] | rw [if_pos (by exact h1)] | rw [if_neg (by exact h1)] | rw [if_neg (by exact z_nle h1)] | rw [if_pos (by exact z_le h1)] | rw [if_neg (by exact z_nlt h1)] | rw [if_pos (by exact z_lt h1)] | rw [if_neg (by rw [h1]; decide)] | rw [if_pos (by rw [h1])] | rw [if_neg (by exact tf_t h1)] | rw [if_neg (by exact tf_f h1)] | simp only [h1] | skip
        first | rw [if_pos h2] | rw [if_neg h2] | rw [if_pos (by exact h2)] | rw [if_neg (by exact h2)] | rw [if_neg (by exact z_nle h2)] | rw [if_pos (by exact z_le h2)] | rw [if_neg (by exact z_nlt h2)] | rw [if_pos (by exact z_lt h2)] | rw [if_neg (by rw [h2]; decide)] | rw [if_pos (by rw [h2])] | rw [if_neg (by exact tf_t h2)] | rw [if_neg (by exact tf_f h2)] | simp only [h2] | skip
        try rfl
      exact vv_zret C hr hlk rfl (by rw [hE]; rfl) (by rw [hE] <;> rfl) d_L_calls_27
    · skip
      replace h2 := bI_t h2
      refine vv_iload_n C d_L_calls_14 rfl ?_
      refine vv_iconst C (-1) d_L_calls_15 (by decide) ?_
      refine vv_icmp_eq C 28 d_L_calls_16 rfl (fun h3 => ?_) (fun h3 => ?_)
      · skip
        obtain ⟨hw1, hw2⟩ := tm_in h1 h2
        refine vv_aload_n C d_L_calls_28 rfl ?_
        refine vv_iload_n C d_L_calls_29 rfl ?_
        refine vv_iload_n C d_L_calls_30 rfl ?_
        refine callC (rest := []) C (c_L_workOf l Γ u x y hw1) cw_L_L_workOf rfl 0 (by decide) rfl rfl rfl rfl (Nat.le_of_ble_eq_true rfl) (by decide) (by decide) d_L_calls_31 ?_
        refine vv_st (st' := [.ref (Γ.2.1 (ix (x * 6 + y) + 15))]) rfl ?_
        refine vv_iload_n C d_L_calls_34 rfl ?_
        refine p_L_K_next C hw2 d_L_calls_35 ?_
        refine vv_iconst C (1) d_L_calls_38 (by decide) ?_
        have hE : kCalls u x y n1 = (true, (wr u 26 (ix (x * 6 + y)) n1)) := by
          unfold kCalls
          try dsimp only
          first | rw [if_pos h1] | rw [if_neg h1] | rw [if_pos (by exact h1)] | rw [if_neg (by exact h1)] | rw [if_neg (by exact z_nle h1)] | rw [if_pos (by exact z_le h1)] | rw [if_neg (by exact z_nlt h1)] | rw [if_pos (by exact z_lt h1)] | rw [if_neg (by rw [h1]; decide)] | rw [if_pos (by rw [h1])] | rw [if_neg (by exact tf_t h1)] | rw [if_neg (by exact tf_f h1)] | simp only [h1] | skip
          first | rw [if_pos h2] | rw [if_neg h2] | rw [if_pos (by exact h2)] | rw [if_neg (by exact h2)] | rw [if_neg (by exact z_nle h2)] | rw [if_pos (by exact z_le h2)] | rw [if_neg (by exact z_nlt h2)] | rw [if_pos (by exact z_lt h2)] | rw [if_neg (by rw [h2]; decide)] | rw [if_pos (by rw [h2])] | rw [if_neg (by exact tf_t h2)] | rw [if_neg (by exact tf_f h2)] | simp only [h2] | skip
          first | rw [if_pos h3] | rw [if_neg h3] | rw [if_pos (by exact h3)] | rw [if_neg (by exact h3)] | rw [if_neg (by exact z_nle h3)] | rw [if_pos (by exact z_le h3)] | rw [if_neg (by exact z_nlt h3)] | rw [if_pos (by exact z_lt h3)] | rw [if_neg (by rw [h3]; decide)] | rw [if_pos (by rw [h3])] | rw [if_neg (by exact tf_t h3)] | rw [if_neg (by exact tf_f h3)] | simp only [h3] | skip
          try rfl
        exact vv_zret C hr hlk rfl (by rw [hE]; rfl) (by rw [hE] <;> rfl) d_L_calls_39
      · skip
        refine vv_iload_n C d_L_calls_19 rfl ?_
        refine callCS (rest := []) C (c_L_isMethod l Γ u n1) cw_L_L_isMethod rfl rfl (Nat.le_of_ble_eq_true rfl) (by decide) (by decide) d_L_calls_20 ?_
        refine vv_st (st' := [.int (bI (kIsMethod n1))]) rfl ?_
        refine vv_if_ne C 28 d_L_calls_23 rfl (fun h4 => ?_) (fun h4 => ?_)
        · skip
          replace h4 := bI_t h4
          obtain ⟨hw1, hw2⟩ := tm_in h1 h2
          refine vv_aload_n C d_L_calls_28 rfl ?_
          refine vv_iload_n C d_L_calls_29 rfl ?_
          refine vv_iload_n C d_L_calls_30 rfl ?_
          refine callC (rest := []) C (c_L_workOf l Γ u x y hw1) cw_L_L_workOf rfl 0 (by decide) rfl rfl rfl rfl (Nat.le_of_ble_eq_true rfl) (by decide) (by decide) d_L_calls_31 ?_
          refine vv_st (st' := [.ref (Γ.2.1 (ix (x * 6 + y) + 15))]) rfl ?_
          refine vv_iload_n C d_L_calls_34 rfl ?_
          refine p_L_K_next C hw2 d_L_calls_35 ?_
          refine vv_iconst C (1) d_L_calls_38 (by decide) ?_
          have hE : kCalls u x y n1 = (true, (wr u 26 (ix (x * 6 + y)) n1)) := by
            unfold kCalls
            try dsimp only
            first | rw [if_pos h1] | rw [if_neg h1] | rw [if_pos (by exact h1)] | rw [if_neg (by exact h1)] | rw [if_neg (by exact z_nle h1)] | rw [if_pos (by exact z_le h1)] | rw [if_neg (by exact z_nlt h1)] | rw [if_pos (by exact z_lt h1)] | rw [if_neg (by rw [h1]; decide)] | rw [if_pos (by rw [h1])] | rw [if_neg (by exact tf_t h1)] | rw [if_neg (by exact tf_f h1)] | simp only [h1] | skip
            first | rw [if_pos h2] | rw [if_neg h2] | rw [if_pos (by exact h2)] | rw [if_neg (by exact h2)] | rw [if_neg (by exact z_nle h2)] | rw [if_pos (by exact z_le h2)] | rw [if_neg (by exact z_nlt h2)] | rw [if_pos (by exact z_lt h2)] | rw [if_neg (by rw [h2]; decide)] | rw [if_pos (by rw [h2])] | rw [if_neg (by exact tf_t h2)] | rw [if_neg (by exact tf_f h2)] | simp only [h2] | skip
            first | rw [if_pos h3] | rw [if_neg h3] | rw [if_pos (by exact h3)] | rw [if_neg (by exact h3)] | rw [if_neg (by exact z_nle h3)] | rw [if_pos (by exact z_le h3)] | rw [if_neg (by exact z_nlt h3)] | rw [if_pos (by exact z_lt h3)] | rw [if_neg (by rw [h3]; decide)] | rw [if_pos (by rw [h3])] | rw [if_neg (by exact tf_t h3)] | rw [if_neg (by exact tf_f h3)] | simp only [h3] | skip
            first | rw [if_pos h4] | rw [if_neg h4] | rw [if_pos (by exact h4)] | rw [if_neg (by exact h4)] | rw [if_neg (by exact z_nle h4)] | rw [if_pos (by exact z_le h4)] | rw [if_neg (by exact z_nlt h4)] | rw [if_pos (by exact z_lt h4)] | rw [if_neg (by rw [h4]; decide)] | rw [if_pos (by rw [h4])] | rw [if_neg (by exact tf_t h4)] | rw [if_neg (by exact tf_f h4)] | simp only [h4] | skip
            try rfl
          exact vv_zret C hr hlk rfl (by rw [hE]; rfl) (by rw [hE] <;> rfl) d_L_calls_39
        · skip
          replace h4 := bI_f h4
          refine vv_iconst C (0) d_L_calls_26 (by decide) ?_
          have hE : kCalls u x y n1 = (false, u) := by
            unfold kCalls
            try dsimp only
            first | rw [if_pos h1] | rw [if_neg h1] | rw [if_pos (by exact h1)] | rw [if_neg (by exact h1)] | rw [if_neg (by exact z_nle h1)] | rw [if_pos (by exact z_le h1)] | rw [if_neg (by exact z_nlt h1)] | rw [if_pos (by exact z_lt h1)] | rw [if_neg (by rw [h1]; decide)] | rw [if_pos (by rw [h1])] | rw [if_neg (by exact tf_t h1)] | rw [if_neg (by exact tf_f h1)] | simp only [h1] | skip
            first | rw [if_pos h2] | rw [if_neg h2] | rw [if_pos (by exact h2)] | rw [if_neg (by exact h2)] | rw [if_neg (by exact z_nle h2)] | rw [if_pos (by exact z_le h2)] | rw [if_neg (by exact z_nlt h2)] | rw [if_pos (by exact z_lt h2)] | rw [if_neg (by rw [h2]; decide)] | rw [if_pos (by rw [h2])] | rw [if_neg (by exact tf_t h2)] | rw [if_neg (by exact tf_f h2)] | simp only [h2] | skip
            first | rw [if_pos h3] | rw [if_neg h3] | rw [if_pos (by exact h3)] | rw [if_neg (by exact h3)] | rw [if_neg (by exact z_nle h3)] | rw [if_pos (by exact z_le h3)] | rw [if_neg (by exact z_nlt h3)] | rw [if_pos (by exact z_lt h3)] | rw [if_neg (by rw [h3]; decide)] | rw [if_pos (by rw [h3])] | rw [if_neg (by exact tf_t h3)] | rw [if_neg (by exact tf_f h3)] | simp only [h3] | skip
            first | rw [if_pos h4] | rw [if_neg h4] | rw [if_pos (by exact h4)] | rw [if_neg (by exact h4)] | rw [if_neg (by exact z_nle h4)] | rw [if_pos (by exact z_le h4)] | rw [if_neg (by exact z_nlt h4)] | rw [if_pos (by exact z_lt h4)] | rw [if_neg (by rw [h4]; decide)] | rw [if_pos (by rw [h4])] | rw [if_neg (by exact tf_t h4)] | rw [if_neg (by exact tf_f h4)] | simp only [h4] | skip
            try rfl
          exact vv_zret C hr hlk rfl (by rw [hE]; rfl) (by rw [hE] <;> rfl) d_L_calls_27
set_option maxHeartbeats 4000000 in
set_option maxRecDepth 100000 in
theorem c_L_who (l : Launch) (Γ : Geo) (u : SC) (hI : IC u) (x : Int32) : CtC l Γ y_L_who b_L_who 2 (some .int) 1 [.ref (Γ.2.1 0), .int x] u (some (.int (kWho u x))) u := by
  refine ct_of (by decide +kernel) (Nat.le_of_ble_eq_true rfl) ?_
  intro p e s m args below meth c C hr hlk
  refine vv_aload_n C d_L_who_0 rfl ?_
  refine g_L_L_trace C d_L_who_1 ?_
  refine vv_iload_n C d_L_who_4 rfl ?_
  refine callC (rest := []) C (c_T_has l Γ u x) cw_L_T_has rfl 4 (by decide) rfl rfl rfl rfl (Nat.le_of_ble_eq_true rfl) (by decide) (by decide) d_L_who_5 ?_
  refine vv_st (st' := [.int (bI (kHas u x))]) rfl ?_
  refine vv_if_eq C 23 d_L_who_8 rfl (fun h1 => ?_) (fun h1 => ?_)
  · skip
    replace h1 := bI_f h1
    refine vv_iconst C (-1) d_L_who_23 (by decide) ?_
    have hE : kWho u x = -1 := by
      unfold kWho
      try dsimp only
      first | rw [if_pos h1] | rw [if_neg h1] | rw [if_pos (by exact h1)] | rw [if_neg (by exact h1)] | rw [if_neg (by exact z_nle h1)] | rw [if_pos (by exact z_le h1)] | rw [if_neg (by exact z_nlt h1)] | rw [if_pos (by exact z_lt h1)] | rw [if_neg (by rw [h1]; decide)] | rw [if_pos (by rw [h1])] | rw [if_neg (by exact tf_t h1)] | rw [if_neg (by exact tf_f h1)] | simp only [h1] | skip
      try rfl
    exact vv_iret C hr hlk (by rw [hE] <;> rfl) rfl d_L_who_24
  · skip
    replace h1 := bI_t h1
    have hb19 := has_in hI h1
    refine vv_aload_n C d_L_who_11 rfl ?_
    refine g_L_L_trace C d_L_who_12 ?_
    refine g_L_T_noters C d_L_who_15 ?_
    refine vv_iload_n C d_L_who_18 rfl ?_
    refine ld_4_5 C hb19 d_L_who_19 ?_
    refine vv_goto C 24 d_L_who_20 rfl ?_
    have hE : kWho u x = u.1 11 (ix x) := by
      unfold kWho
      try dsimp only
      first | rw [if_pos h1] | rw [if_neg h1] | rw [if_pos (by exact h1)] | rw [if_neg (by exact h1)] | rw [if_neg (by exact z_nle h1)] | rw [if_pos (by exact z_le h1)] | rw [if_neg (by exact z_nlt h1)] | rw [if_pos (by exact z_lt h1)] | rw [if_neg (by rw [h1]; decide)] | rw [if_pos (by rw [h1])] | rw [if_neg (by exact tf_t h1)] | rw [if_neg (by exact tf_f h1)] | simp only [h1] | skip
      try rfl
    exact vv_iret C hr hlk (by rw [hE] <;> rfl) rfl d_L_who_24
set_option maxHeartbeats 4000000 in
set_option maxRecDepth 100000 in
theorem c_L_what (l : Launch) (Γ : Geo) (u : SC) (hI : IC u) (x : Int32) : CtC l Γ y_L_what b_L_what 2 (some .int) 1 [.ref (Γ.2.1 0), .int x] u (some (.int (kWhat u x))) u := by
  refine ct_of (by decide +kernel) (Nat.le_of_ble_eq_true rfl) ?_
  intro p e s m args below meth c C hr hlk
  refine vv_aload_n C d_L_what_0 rfl ?_
  refine g_L_L_trace C d_L_what_1 ?_
  refine vv_iload_n C d_L_what_4 rfl ?_
  refine callC (rest := []) C (c_T_has l Γ u x) cw_L_T_has rfl 4 (by decide) rfl rfl rfl rfl (Nat.le_of_ble_eq_true rfl) (by decide) (by decide) d_L_what_5 ?_
  refine vv_st (st' := [.int (bI (kHas u x))]) rfl ?_
  refine vv_if_eq C 23 d_L_what_8 rfl (fun h1 => ?_) (fun h1 => ?_)
  · skip
    replace h1 := bI_f h1
    refine vv_iconst C (0) d_L_what_23 (by decide) ?_
    have hE : kWhat u x = 0 := by
      unfold kWhat
      try dsimp only
      first | rw [if_pos h1] | rw [if_neg h1] | rw [if_pos (by exact h1)] | rw [if_neg (by exact h1)] | rw [if_neg (by exact z_nle h1)] | rw [if_pos (by exact z_le h1)] | rw [if_neg (by exact z_nlt h1)] | rw [if_pos (by exact z_lt h1)] | rw [if_neg (by rw [h1]; decide)] | rw [if_pos (by rw [h1])] | rw [if_neg (by exact tf_t h1)] | rw [if_neg (by exact tf_f h1)] | simp only [h1] | skip
      try rfl
    exact vv_iret C hr hlk (by rw [hE] <;> rfl) rfl d_L_what_24
  · skip
    replace h1 := bI_t h1
    have hb19 := has_in hI h1
    refine vv_aload_n C d_L_what_11 rfl ?_
    refine g_L_L_trace C d_L_what_12 ?_
    refine g_L_T_words C d_L_what_15 ?_
    refine vv_iload_n C d_L_what_18 rfl ?_
    refine ld_4_6 C hb19 d_L_what_19 ?_
    refine vv_goto C 24 d_L_what_20 rfl ?_
    have hE : kWhat u x = u.1 12 (ix x) := by
      unfold kWhat
      try dsimp only
      first | rw [if_pos h1] | rw [if_neg h1] | rw [if_pos (by exact h1)] | rw [if_neg (by exact h1)] | rw [if_neg (by exact z_nle h1)] | rw [if_pos (by exact z_le h1)] | rw [if_neg (by exact z_nlt h1)] | rw [if_pos (by exact z_lt h1)] | rw [if_neg (by rw [h1]; decide)] | rw [if_pos (by rw [h1])] | rw [if_neg (by exact tf_t h1)] | rw [if_neg (by exact tf_f h1)] | simp only [h1] | skip
      try rfl
    exact vv_iret C hr hlk (by rw [hE] <;> rfl) rfl d_L_what_24
set_option maxHeartbeats 4000000 in
set_option maxRecDepth 100000 in
theorem c_L_chain (l : Launch) (Γ : Geo) (u : SC) (hI : IC u) (x : Int32) (y : Int32) : CtC l Γ y_L_chain b_L_chain 3 (some .int) 2 [.ref (Γ.2.1 0), .int x, .int y] u (some (.int (kChain u x y))) u := by
  refine ct_of (by decide +kernel) (Nat.le_of_ble_eq_true rfl) ?_
  intro p e s m args below meth c C hr hlk
  refine vv_iload_n C d_L_chain_0 rfl ?_
  refine callCS (rest := []) C (c_L_isMethod l Γ u x) cw_L_L_isMethod rfl rfl (Nat.le_of_ble_eq_true rfl) (by decide) (by decide) d_L_chain_1 ?_
  refine vv_st (st' := [.int (bI (kIsMethod x))]) rfl ?_
  refine vv_if_eq C 19 d_L_chain_4 rfl (fun h1 => ?_) (fun h1 => ?_)
  · skip
    replace h1 := bI_f h1
    refine vv_iconst C (-1) d_L_chain_19 (by decide) ?_
    have hE : kChain u x y = -1 := by
      unfold kChain
      try dsimp only
      first | rw [if_pos h1] | rw [if_neg h1] | rw [if_pos (by exact h1)] | rw [if_neg (by exact h1)] | rw [if_neg (by exact z_nle h1)] | rw [if_pos (by exact z_le h1)] | rw [if_neg (by exact z_nlt h1)] | rw [if_pos (by exact z_lt h1)] | rw [if_neg (by rw [h1]; decide)] | rw [if_pos (by rw [h1])] | rw [if_neg (by exact tf_t h1)] | rw [if_neg (by exact tf_f h1)] | simp only [h1] | skip
      try rfl
    exact vv_iret C hr hlk (by rw [hE] <;> rfl) rfl d_L_chain_20
  · skip
    replace h1 := bI_t h1
    refine vv_aload_n C d_L_chain_7 rfl ?_
    refine g_L_L_advisors C d_L_chain_8 ?_
    refine vv_iload_n C d_L_chain_11 rfl ?_
    refine vv_iload_n C d_L_chain_12 rfl ?_
    refine callC (rest := []) C (c_R_numberInChain l Γ u hI x y) cw_L_R_numberInChain rfl 1 (by decide) rfl rfl rfl rfl (Nat.le_of_ble_eq_true rfl) (by decide) (by decide) d_L_chain_13 ?_
    refine vv_st (st' := [.int (kNumIn u x y)]) rfl ?_
    refine vv_goto C 20 d_L_chain_16 rfl ?_
    have hE : kChain u x y = kNumIn u x y := by
      unfold kChain
      try dsimp only
      first | rw [if_pos h1] | rw [if_neg h1] | rw [if_pos (by exact h1)] | rw [if_neg (by exact h1)] | rw [if_neg (by exact z_nle h1)] | rw [if_pos (by exact z_le h1)] | rw [if_neg (by exact z_nlt h1)] | rw [if_pos (by exact z_lt h1)] | rw [if_neg (by rw [h1]; decide)] | rw [if_pos (by rw [h1])] | rw [if_neg (by exact tf_t h1)] | rw [if_neg (by exact tf_f h1)] | simp only [h1] | skip
      try rfl
    exact vv_iret C hr hlk (by rw [hE] <;> rfl) rfl d_L_chain_20
set_option maxHeartbeats 4000000 in
set_option maxRecDepth 100000 in
theorem c_L_invoke (l : Launch) (Γ : Geo) (u : SC) (hI : IC u) (x : Int32) (y : Int32) : CtC l Γ y_L_invoke b_L_invoke 3 (some .int) 68 [.ref (Γ.2.1 0), .int x, .int y] u (some (.int (kInvoke u x y).1)) (kInvoke u x y).2 := by
  refine ct_of (by decide +kernel) (Nat.le_of_ble_eq_true rfl) ?_
  intro p e s m args below meth c C hr hlk
  refine vv_iload_n C d_L_invoke_0 rfl ?_
  refine callCS (rest := []) C (c_L_isMethod l Γ u x) cw_L_L_isMethod rfl rfl (Nat.le_of_ble_eq_true rfl) (by decide) (by omega) d_L_invoke_1 ?_
  refine vv_st (st' := [.int (bI (kIsMethod x))]) rfl ?_
  refine vv_if_ne C 9 d_L_invoke_4 rfl (fun h1 => ?_) (fun h1 => ?_)
  · skip
    replace h1 := bI_t h1
    refine vv_aload_n C d_L_invoke_9 rfl ?_
    refine g_L_L_trace C d_L_invoke_10 ?_
    refine callC (rest := []) C (c_T_clear l Γ u) cw_L_T_clear rfl 4 (by decide) rfl rfl rfl rfl (Nat.le_of_ble_eq_true rfl) (by decide) (by omega) d_L_invoke_13 ?_
    refine vv_st (st' := []) rfl ?_
    refine vv_aload_n C d_L_invoke_16 rfl ?_
    refine vv_iconst C (0) d_L_invoke_17 (by decide) ?_
    refine p_L_L_timesAsked C d_L_invoke_18 ?_
    refine vv_aload_n C d_L_invoke_21 rfl ?_
    refine vv_iconst C (0) d_L_invoke_22 (by decide) ?_
    refine p_L_L_targetsTaken C d_L_invoke_23 ?_
    refine vv_aload_n C d_L_invoke_26 rfl ?_
    refine vv_iload_n C d_L_invoke_27 rfl ?_
    refine vv_iload_n C d_L_invoke_28 rfl ?_
    refine vv_iconst C (0) d_L_invoke_29 (by decide) ?_
    refine callC (rest := []) C (c_L_begin l Γ (wr (wr (wr u 8 0 0) 3 0 0) 4 0 0) (goC 22) x y 0 (by omega) (fun _ => by omega) (im_ok h1) ⟨hI.1, ⟨0, by omega, rfl⟩, hI.2.2⟩) cw_L_L_begin rfl 0 (by decide) rfl rfl rfl rfl (Nat.le_of_ble_eq_true rfl) (by decide) (by omega) d_L_invoke_30 ?_
    refine vv_st (st' := [.int ((kBegin (kGo 22) x y 0 (wr (wr (wr u 8 0 0) 3 0 0) 4 0 0)).1)]) rfl ?_
    have hE : kInvoke u x y = ((kBegin (kGo 22) x y 0 (wr (wr (wr u 8 0 0) 3 0 0) 4 0 0)).1, ((kBegin (kGo 22) x y 0 (wr (wr (wr u 8 0 0) 3 0 0) 4 0 0)).2)) := by
      unfold kInvoke
      try dsimp only
      first | rw [if_pos h1] | rw [if_neg h1] | rw [if_pos (by exact h1)] | rw [if_neg (by exact h1)] | rw [if_neg (by exact z_nle h1)] | rw [if_pos (by exact z_le h1)] | rw [if_neg (by exact z_nlt h1)] | rw [if_pos (by exact z_lt h1)] | rw [if_neg (by rw [h1]; decide)] | rw [if_pos (by rw [h1])] | rw [if_neg (by exact tf_t h1)] | rw [if_neg (by exact tf_f h1)] | simp only [h1] | skip
      try rfl
    exact vv_iret C hr hlk (by rw [hE] <;> rfl) (by rw [hE] <;> rfl) d_L_invoke_33
  · skip
    replace h1 := bI_f h1
    refine vv_iconst C (-1) d_L_invoke_7 (by decide) ?_
    have hE : kInvoke u x y = (-1, u) := by
      unfold kInvoke
      try dsimp only
      first | rw [if_pos h1] | rw [if_neg h1] | rw [if_pos (by exact h1)] | rw [if_neg (by exact h1)] | rw [if_neg (by exact z_nle h1)] | rw [if_pos (by exact z_le h1)] | rw [if_neg (by exact z_nlt h1)] | rw [if_pos (by exact z_lt h1)] | rw [if_neg (by rw [h1]; decide)] | rw [if_pos (by rw [h1])] | rw [if_neg (by exact tf_t h1)] | rw [if_neg (by exact tf_f h1)] | simp only [h1] | skip
      try rfl
    exact vv_iret C hr hlk (by rw [hE] <;> rfl) (by rw [hE] <;> rfl) d_L_invoke_8
