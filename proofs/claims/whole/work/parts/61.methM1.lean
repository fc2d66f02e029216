set_option maxHeartbeats 4000000 in
set_option maxRecDepth 100000 in
theorem c_M_within (l : Launch) (Γ : Geo) (t : M2) (x : Int32) (y : Int32) (z : Int32) : CtM l Γ y_M_within b_M_within 3 (some .boolean) 0 [.int x, .int y, .int z] t (some (.int (bI (qWithin x y z)))) t := by
  refine ct_of (by decide +kernel) (Nat.le_of_ble_eq_true rfl) ?_
  intro p e s m args below meth c C hr hlk
  refine vv_iload_n C d_M_within_0 rfl ?_
  refine vv_iload_n C d_M_within_1 rfl ?_
  refine vv_icmp_lt C 14 d_M_within_2 rfl (fun h1 => ?_) (fun h1 => ?_)
  · skip
    refine vv_iconst C (0) d_M_within_14 (by decide) ?_
    have hE : qWithin x y z = false := by
      unfold qWithin
      try dsimp only
      first | rw [if_pos h1] | rw [if_neg h1] | rw [if_pos (by exact h1)] | rw [if_neg (by exact h1)] | rw [if_neg (by exact z_nle h1)] | rw [if_pos (by exact z_le h1)] | rw [if_neg (by exact z_nlt h1)] | rw [if_pos (by exact z_lt h1)] | rw [if_neg (by exact tf_t h1)] | rw [if_neg (by exact tf_f h1)] | rw [h1] | skip
      try rfl
    exact vv_zret C hr hlk rfl (by rw [hE] <;> rfl) rfl d_M_within_15
  · skip
    refine vv_iload_n C d_M_within_5 rfl ?_
    refine vv_iload_n C d_M_within_6 rfl ?_
    refine vv_icmp_gt C 14 d_M_within_7 rfl (fun h2 => ?_) (fun h2 => ?_)
    · skip
      refine vv_iconst C (0) d_M_within_14 (by decide) ?_
      have hE : qWithin x y z = false := by
        unfold qWithin
        try dsimp only
        first | rw [if_pos h1] | rw [if_neg h1] | rw [if_pos (by exact h1)] | rw [if_neg (by exact h1)] | rw [if_neg (by exact z_nle h1)] | rw [if_pos (by exact z_le h1)] | rw [if_neg (by exact z_nlt h1)] | rw [if_pos (by exact z_lt h1)] | rw [if_neg (by exact tf_t h1)] | rw [if_neg (by exact tf_f h1)] | rw [h1] | skip
        first | rw [if_pos h2] | rw [if_neg h2] | rw [if_pos (by exact h2)] | rw [if_neg (by exact h2)] | rw [if_neg (by exact z_nle h2)] | rw [if_pos (by exact z_le h2)] | rw [if_neg (by exact z_nlt h2)] | rw [if_pos (by exact z_lt h2)] | rw [if_neg (by exact tf_t h2)] | rw [if_neg (by exact tf_f h2)] | rw [h2] | skip
        try rfl
      exact vv_zret C hr hlk rfl (by rw [hE] <;> rfl) rfl d_M_within_15
    · skip
      refine vv_iconst C (1) d_M_within_10 (by decide) ?_
      refine vv_goto C 15 d_M_within_11 rfl ?_
      have hE : qWithin x y z = true := by
        unfold qWithin
        try dsimp only
        first | rw [if_pos h1] | rw [if_neg h1] | rw [if_pos (by exact h1)] | rw [if_neg (by exact h1)] | rw [if_neg (by exact z_nle h1)] | rw [if_pos (by exact z_le h1)] | rw [if_neg (by exact z_nlt h1)] | rw [if_pos (by exact z_lt h1)] | rw [if_neg (by exact tf_t h1)] | rw [if_neg (by exact tf_f h1)] | rw [h1] | skip
        first | rw [if_pos h2] | rw [if_neg h2] | rw [if_pos (by exact h2)] | rw [if_neg (by exact h2)] | rw [if_neg (by exact z_nle h2)] | rw [if_pos (by exact z_le h2)] | rw [if_neg (by exact z_nlt h2)] | rw [if_pos (by exact z_lt h2)] | rw [if_neg (by exact tf_t h2)] | rw [if_neg (by exact tf_f h2)] | rw [h2] | skip
        try rfl
      exact vv_zret C hr hlk rfl (by rw [hE] <;> rfl) rfl d_M_within_15
set_option maxHeartbeats 4000000 in
set_option maxRecDepth 100000 in
theorem c_M_isException (l : Launch) (Γ : Geo) (t : M2) (x : Int32) : CtM l Γ y_M_isException b_M_isException 1 (some .boolean) 1 [.int x] t (some (.int (bI (qIsExc x)))) t := by
  refine ct_of (by decide +kernel) (Nat.le_of_ble_eq_true rfl) ?_
  intro p e s m args below meth c C hr hlk
  refine vv_iload_n C d_M_isException_0 rfl ?_
  refine vv_iconst C (1) d_M_isException_1 (by decide) ?_
  refine vv_bipush C (15) d_M_isException_2 (by decide) ?_
  refine cllMS (rest := []) C (c_M_within l Γ t x 1 15) cw_M_M_within rfl rfl (Nat.le_of_ble_eq_true rfl) (by decide) (by decide) d_M_isException_4 ?_
  refine vv_st (st' := [.int (bI (qWithin x 1 15))]) rfl ?_
  have hE : qIsExc x = (qWithin x 1 15) := by
    unfold qIsExc
    try dsimp only
    try rfl
  exact vv_zret C hr hlk (bI_nar _) (by rw [hE] <;> rfl) rfl d_M_isException_7
set_option maxHeartbeats 4000000 in
set_option maxRecDepth 100000 in
theorem c_M_fits (l : Launch) (Γ : Geo) (t : M2) (x : Int32) (y : Int32) (z : Int32) : CtM l Γ y_M_fits b_M_fits 3 (some .boolean) 2 [.int x, .int y, .int z] t (some (.int (bI (qFits x y z)))) t := by
  refine ct_of (by decide +kernel) (Nat.le_of_ble_eq_true rfl) ?_
  intro p e s m args below meth c C hr hlk
  refine vv_iload_n C d_M_fits_0 rfl ?_
  refine vv_if_eq C 15 d_M_fits_1 rfl (fun h1 => ?_) (fun h1 => ?_)
  · skip
    refine vv_iload_n C d_M_fits_15 rfl ?_
    refine cllMS (rest := []) C (c_M_isException l Γ t z) cw_M_M_isException rfl rfl (Nat.le_of_ble_eq_true rfl) (by decide) (by decide) d_M_fits_16 ?_
    refine vv_st (st' := [.int (bI (qIsExc z))]) rfl ?_
    have hE : qFits x y z = (qIsExc z) := by
      unfold qFits
      try dsimp only
      first | rw [if_pos h1] | rw [if_neg h1] | rw [if_pos (by exact h1)] | rw [if_neg (by exact h1)] | rw [if_neg (by exact z_nle h1)] | rw [if_pos (by exact z_le h1)] | rw [if_neg (by exact z_nlt h1)] | rw [if_pos (by exact z_lt h1)] | rw [if_neg (by exact tf_t h1)] | rw [if_neg (by exact tf_f h1)] | rw [h1] | skip
      try rfl
    exact vv_zret C hr hlk (bI_nar _) (by rw [hE] <;> rfl) rfl d_M_fits_19
  · skip
    refine vv_iload_n C d_M_fits_4 rfl ?_
    refine vv_iconst C (4) d_M_fits_5 (by decide) ?_
    refine vv_icmp_eq C 15 d_M_fits_6 rfl (fun h2 => ?_) (fun h2 => ?_)
    · skip
      refine vv_iload_n C d_M_fits_15 rfl ?_
      refine cllMS (rest := []) C (c_M_isException l Γ t z) cw_M_M_isException rfl rfl (Nat.le_of_ble_eq_true rfl) (by decide) (by decide) d_M_fits_16 ?_
      refine vv_st (st' := [.int (bI (qIsExc z))]) rfl ?_
      have hE : qFits x y z = (qIsExc z) := by
        unfold qFits
        try dsimp only
        first | rw [if_pos h1] | rw [if_neg h1] | rw [if_pos (by exact h1)] | rw [if_neg (by exact h1)] | rw [if_neg (by exact z_nle h1)] | rw [if_pos (by exact z_le h1)] | rw [if_neg (by exact z_nlt h1)] | rw [if_pos (by exact z_lt h1)] | rw [if_neg (by exact tf_t h1)] | rw [if_neg (by exact tf_f h1)] | rw [h1] | skip
        first | rw [if_pos h2] | rw [if_neg h2] | rw [if_pos (by exact h2)] | rw [if_neg (by exact h2)] | rw [if_neg (by exact z_nle h2)] | rw [if_pos (by exact z_le h2)] | rw [if_neg (by exact z_nlt h2)] | rw [if_pos (by exact z_lt h2)] | rw [if_neg (by exact tf_t h2)] | rw [if_neg (by exact tf_f h2)] | rw [h2] | skip
        try rfl
      exact vv_zret C hr hlk (bI_nar _) (by rw [hE] <;> rfl) rfl d_M_fits_19
    · skip
      refine vv_iload_n C d_M_fits_9 rfl ?_
      refine vv_bipush C (6) d_M_fits_10 (by decide) ?_
      refine vv_icmp_ne C 20 d_M_fits_12 rfl (fun h3 => ?_) (fun h3 => ?_)
      · skip
        refine vv_iload_n C d_M_fits_20 rfl ?_
        refine vv_iconst C (5) d_M_fits_21 (by decide) ?_
        refine vv_icmp_ne C 48 d_M_fits_22 rfl (fun h4 => ?_) (fun h4 => ?_)
        · skip
          refine vv_iload_n C d_M_fits_48 rfl ?_
          refine vv_bipush C (7) d_M_fits_49 (by decide) ?_
          refine vv_icmp_ne C 61 d_M_fits_51 rfl (fun h5 => ?_) (fun h5 => ?_)
          · skip
            refine vv_iconst C (1) d_M_fits_61 (by decide) ?_
            refine vv_goto C 66 d_M_fits_62 rfl ?_
            have hE : qFits x y z = true := by
              unfold qFits
              try dsimp only
              first | rw [if_pos h1] | rw [if_neg h1] | rw [if_pos (by exact h1)] | rw [if_neg (by exact h1)] | rw [if_neg (by exact z_nle h1)] | rw [if_pos (by exact z_le h1)] | rw [if_neg (by exact z_nlt h1)] | rw [if_pos (by exact z_lt h1)] | rw [if_neg (by exact tf_t h1)] | rw [if_neg (by exact tf_f h1)] | rw [h1] | skip
              first | rw [if_pos h2] | rw [if_neg h2] | rw [if_pos (by exact h2)] | rw [if_neg (by exact h2)] | rw [if_neg (by exact z_nle h2)] | rw [if_pos (by exact z_le h2)] | rw [if_neg (by exact z_nlt h2)] | rw [if_pos (by exact z_lt h2)] | rw [if_neg (by exact tf_t h2)] | rw [if_neg (by exact tf_f h2)] | rw [h2] | skip
              first | rw [if_pos h3] | rw [if_neg h3] | rw [if_pos (by exact h3)] | rw [if_neg (by exact h3)] | rw [if_neg (by exact z_nle h3)] | rw [if_pos (by exact z_le h3)] | rw [if_neg (by exact z_nlt h3)] | rw [if_pos (by exact z_lt h3)] | rw [if_neg (by exact tf_t h3)] | rw [if_neg (by exact tf_f h3)] | rw [h3] | skip
              first | rw [if_pos h4] | rw [if_neg h4] | rw [if_pos (by exact h4)] | rw [if_neg (by exact h4)] | rw [if_neg (by exact z_nle h4)] | rw [if_pos (by exact z_le h4)] | rw [if_neg (by exact z_nlt h4)] | rw [if_pos (by exact z_lt h4)] | rw [if_neg (by exact tf_t h4)] | rw [if_neg (by exact tf_f h4)] | rw [h4] | skip
              first | rw [if_pos h5] | rw [if_neg h5] | rw [if_pos (by exact h5)] | rw [if_neg (by exact h5)] | rw [if_neg (by exact z_nle h5)] | rw [if_pos (by exact z_le h5)] | rw [if_neg (by exact z_nlt h5)] | rw [if_pos (by exact z_lt h5)] | rw [if_neg (by exact tf_t h5)] | rw [if_neg (by exact tf_f h5)] | rw [h5] | skip
              try rfl
            exact vv_zret C hr hlk rfl (by rw [hE] <;> rfl) rfl d_M_fits_66
          · skip
            refine vv_iload_n C d_M_fits_54 rfl ?_
            refine cllMS (rest := []) C (c_M_isException l Γ t y) cw_M_M_isException rfl rfl (Nat.le_of_ble_eq_true rfl) (by decide) (by decide) d_M_fits_55 ?_
            refine vv_st (st' := [.int (bI (qIsExc y))]) rfl ?_
            refine vv_if_eq C 65 d_M_fits_58 rfl (fun h6 => ?_) (fun h6 => ?_)
            · skip
              replace h6 := bI_f h6
              refine vv_iconst C (0) d_M_fits_65 (by decide) ?_
              have hE : qFits x y z = false := by
                unfold qFits
                try dsimp only
                first | rw [if_pos h1] | rw [if_neg h1] | rw [if_pos (by exact h1)] | rw [if_neg (by exact h1)] | rw [if_neg (by exact z_nle h1)] | rw [if_pos (by exact z_le h1)] | rw [if_neg (by exact z_nlt h1)] | rw [if_pos (by exact z_lt h1)] | rw [if_neg (by exact tf_t h1)] | rw [if_neg (by exact tf_f h1)] | rw [h1] | skip
                first | rw [if_pos h2] | rw [if_neg h2] | rw [if_pos (by exact h2)] | rw [if_neg (by exact h2)] | rw [if_neg (by exact z_nle h2)] | rw [if_pos (by exact z_le h2)] | rw [if_neg (by exact z_nlt h2)] | rw [if_pos (by exact z_lt h2)] | rw [if_neg (by exact tf_t h2)] | rw [if_neg (by exact tf_f h2)] | rw [h2] | skip
                first | rw [if_pos h3] | rw [if_neg h3] | rw [if_pos (by exact h3)] | rw [if_neg (by exact h3)] | rw [if_neg (by exact z_nle h3)] | rw [if_pos (by exact z_le h3)] | rw [if_neg (by exact z_nlt h3)] | rw [if_pos (by exact z_lt h3)] | rw [if_neg (by exact tf_t h3)] | rw [if_neg (by exact tf_f h3)] | rw [h3] | skip
                first | rw [if_pos h4] | rw [if_neg h4] | rw [if_pos (by exact h4)] | rw [if_neg (by exact h4)] | rw [if_neg (by exact z_nle h4)] | rw [if_pos (by exact z_le h4)] | rw [if_neg (by exact z_nlt h4)] | rw [if_pos (by exact z_lt h4)] | rw [if_neg (by exact tf_t h4)] | rw [if_neg (by exact tf_f h4)] | rw [h4] | skip
                first | rw [if_pos h5] | rw [if_neg h5] | rw [if_pos (by exact h5)] | rw [if_neg (by exact h5)] | rw [if_neg (by exact z_nle h5)] | rw [if_pos (by exact z_le h5)] | rw [if_neg (by exact z_nlt h5)] | rw [if_pos (by exact z_lt h5)] | rw [if_neg (by exact tf_t h5)] | rw [if_neg (by exact tf_f h5)] | rw [h5] | skip
                first | rw [if_pos h6] | rw [if_neg h6] | rw [if_pos (by exact h6)] | rw [if_neg (by exact h6)] | rw [if_neg (by exact z_nle h6)] | rw [if_pos (by exact z_le h6)] | rw [if_neg (by exact z_nlt h6)] | rw [if_pos (by exact z_lt h6)] | rw [if_neg (by exact tf_t h6)] | rw [if_neg (by exact tf_f h6)] | rw [h6] | skip
                try rfl
              exact vv_zret C hr hlk rfl (by rw [hE] <;> rfl) rfl d_M_fits_66
            · skip
              replace h6 := bI_t h6
              refine vv_iconst C (1) d_M_fits_61 (by decide) ?_
              refine vv_goto C 66 d_M_fits_62 rfl ?_
              have hE : qFits x y z = true := by
                unfold qFits
                try dsimp only
                first | rw [if_pos h1] | rw [if_neg h1] | rw [if_pos (by exact h1)] | rw [if_neg (by exact h1)] | rw [if_neg (by exact z_nle h1)] | rw [if_pos (by exact z_le h1)] | rw [if_neg (by exact z_nlt h1)] | rw [if_pos (by exact z_lt h1)] | rw [if_neg (by exact tf_t h1)] | rw [if_neg (by exact tf_f h1)] | rw [h1] | skip
                first | rw [if_pos h2] | rw [if_neg h2] | rw [if_pos (by exact h2)] | rw [if_neg (by exact h2)] | rw [if_neg (by exact z_nle h2)] | rw [if_pos (by exact z_le h2)] | rw [if_neg (by exact z_nlt h2)] | rw [if_pos (by exact z_lt h2)] | rw [if_neg (by exact tf_t h2)] | rw [if_neg (by exact tf_f h2)] | rw [h2] | skip
                first | rw [if_pos h3] | rw [if_neg h3] | rw [if_pos (by exact h3)] | rw [if_neg (by exact h3)] | rw [if_neg (by exact z_nle h3)] | rw [if_pos (by exact z_le h3)] | rw [if_neg (by exact z_nlt h3)] | rw [if_pos (by exact z_lt h3)] | rw [if_neg (by exact tf_t h3)] | rw [if_neg (by exact tf_f h3)] | rw [h3] | skip
                first | rw [if_pos h4] | rw [if_neg h4] | rw [if_pos (by exact h4)] | rw [if_neg (by exact h4)] | rw [if_neg (by exact z_nle h4)] | rw [if_pos (by exact z_le h4)] | rw [if_neg (by exact z_nlt h4)] | rw [if_pos (by exact z_lt h4)] | rw [if_neg (by exact tf_t h4)] | rw [if_neg (by exact tf_f h4)] | rw [h4] | skip
                first | rw [if_pos h5] | rw [if_neg h5] | rw [if_pos (by exact h5)] | rw [if_neg (by exact h5)] | rw [if_neg (by exact z_nle h5)] | rw [if_pos (by exact z_le h5)] | rw [if_neg (by exact z_nlt h5)] | rw [if_pos (by exact z_lt h5)] | rw [if_neg (by exact tf_t h5)] | rw [if_neg (by exact tf_f h5)] | rw [h5] | skip
                first | rw [if_pos h6] | rw [if_neg h6] | rw [if_pos (by exact h6)] | rw [if_neg (by exact h6)] | rw [if_neg (by exact z_nle h6)] | rw [if_pos (by exact z_le h6)] | rw [if_neg (by exact z_nlt h6)] | rw [if_pos (by exact z_lt h6)] | rw [if_neg (by exact tf_t h6)] | rw [if_neg (by exact tf_f h6)] | rw [h6] | skip
                try rfl
              exact vv_zret C hr hlk rfl (by rw [hE] <;> rfl) rfl d_M_fits_66
        · skip
          refine vv_iload_n C d_M_fits_25 rfl ?_
          refine cllMS (rest := []) C (c_M_isException l Γ t y) cw_M_M_isException rfl rfl (Nat.le_of_ble_eq_true rfl) (by decide) (by decide) d_M_fits_26 ?_
          refine vv_st (st' := [.int (bI (qIsExc y))]) rfl ?_
          refine vv_if_eq C 46 d_M_fits_29 rfl (fun h7 => ?_) (fun h7 => ?_)
          · skip
            replace h7 := bI_f h7
            refine vv_iconst C (0) d_M_fits_46 (by decide) ?_
            have hE : qFits x y z = false := by
              unfold qFits
              try dsimp only
              first | rw [if_pos h1] | rw [if_neg h1] | rw [if_pos (by exact h1)] | rw [if_neg (by exact h1)] | rw [if_neg (by exact z_nle h1)] | rw [if_pos (by exact z_le h1)] | rw [if_neg (by exact z_nlt h1)] | rw [if_pos (by exact z_lt h1)] | rw [if_neg (by exact tf_t h1)] | rw [if_neg (by exact tf_f h1)] | rw [h1] | skip
              first | rw [if_pos h2] | rw [if_neg h2] | rw [if_pos (by exact h2)] | rw [if_neg (by exact h2)] | rw [if_neg (by exact z_nle h2)] | rw [if_pos (by exact z_le h2)] | rw [if_neg (by exact z_nlt h2)] | rw [if_pos (by exact z_lt h2)] | rw [if_neg (by exact tf_t h2)] | rw [if_neg (by exact tf_f h2)] | rw [h2] | skip
              first | rw [if_pos h3] | rw [if_neg h3] | rw [if_pos (by exact h3)] | rw [if_neg (by exact h3)] | rw [if_neg (by exact z_nle h3)] | rw [if_pos (by exact z_le h3)] | rw [if_neg (by exact z_nlt h3)] | rw [if_pos (by exact z_lt h3)] | rw [if_neg (by exact tf_t h3)] | rw [if_neg (by exact tf_f h3)] | rw [h3] | skip
              first | rw [if_pos h4] | rw [if_neg h4] | rw [if_pos (by exact h4)] | rw [if_neg (by exact h4)] | rw [if_neg (by exact z_nle h4)] | rw [if_pos (by exact z_le h4)] | rw [if_neg (by exact z_nlt h4)] | rw [if_pos (by exact z_lt h4)] | rw [if_neg (by exact tf_t h4)] | rw [if_neg (by exact tf_f h4)] | rw [h4] | skip
              first | rw [if_pos h7] | rw [if_neg h7] | rw [if_pos (by exact h7)] | rw [if_neg (by exact h7)] | rw [if_neg (by exact z_nle h7)] | rw [if_pos (by exact z_le h7)] | rw [if_neg (by exact z_nlt h7)] | rw [if_pos (by exact z_lt h7)] | rw [if_neg (by exact tf_t h7)] | rw [if_neg (by exact tf_f h7)] | rw [h7] | skip
              try rfl
            exact vv_zret C hr hlk rfl (by rw [hE] <;> rfl) rfl d_M_fits_47
          · skip
            replace h7 := bI_t h7
            refine vv_iload_n C d_M_fits_32 rfl ?_
            refine vv_iconst C (0) d_M_fits_33 (by decide) ?_
            refine vv_bipush C (15) d_M_fits_34 (by decide) ?_
            refine cllMS (rest := []) C (c_M_within l Γ t z 0 15) cw_M_M_within rfl rfl (Nat.le_of_ble_eq_true rfl) (by decide) (by decide) d_M_fits_36 ?_
            refine vv_st (st' := [.int (bI (qWithin z 0 15))]) rfl ?_
            refine vv_if_eq C 46 d_M_fits_39 rfl (fun h8 => ?_) (fun h8 => ?_)
            · skip
              replace h8 := bI_f h8
              refine vv_iconst C (0) d_M_fits_46 (by decide) ?_
              have hE : qFits x y z = false := by
                unfold qFits
                try dsimp only
                first | rw [if_pos h1] | rw [if_neg h1] | rw [if_pos (by exact h1)] | rw [if_neg (by exact h1)] | rw [if_neg (by exact z_nle h1)] | rw [if_pos (by exact z_le h1)] | rw [if_neg (by exact z_nlt h1)] | rw [if_pos (by exact z_lt h1)] | rw [if_neg (by exact tf_t h1)] | rw [if_neg (by exact tf_f h1)] | rw [h1] | skip
                first | rw [if_pos h2] | rw [if_neg h2] | rw [if_pos (by exact h2)] | rw [if_neg (by exact h2)] | rw [if_neg (by exact z_nle h2)] | rw [if_pos (by exact z_le h2)] | rw [if_neg (by exact z_nlt h2)] | rw [if_pos (by exact z_lt h2)] | rw [if_neg (by exact tf_t h2)] | rw [if_neg (by exact tf_f h2)] | rw [h2] | skip
                first | rw [if_pos h3] | rw [if_neg h3] | rw [if_pos (by exact h3)] | rw [if_neg (by exact h3)] | rw [if_neg (by exact z_nle h3)] | rw [if_pos (by exact z_le h3)] | rw [if_neg (by exact z_nlt h3)] | rw [if_pos (by exact z_lt h3)] | rw [if_neg (by exact tf_t h3)] | rw [if_neg (by exact tf_f h3)] | rw [h3] | skip
                first | rw [if_pos h4] | rw [if_neg h4] | rw [if_pos (by exact h4)] | rw [if_neg (by exact h4)] | rw [if_neg (by exact z_nle h4)] | rw [if_pos (by exact z_le h4)] | rw [if_neg (by exact z_nlt h4)] | rw [if_pos (by exact z_lt h4)] | rw [if_neg (by exact tf_t h4)] | rw [if_neg (by exact tf_f h4)] | rw [h4] | skip
                first | rw [if_pos h7] | rw [if_neg h7] | rw [if_pos (by exact h7)] | rw [if_neg (by exact h7)] | rw [if_neg (by exact z_nle h7)] | rw [if_pos (by exact z_le h7)] | rw [if_neg (by exact z_nlt h7)] | rw [if_pos (by exact z_lt h7)] | rw [if_neg (by exact tf_t h7)] | rw [if_neg (by exact tf_f h7)] | rw [h7] | skip
                first | rw [if_pos h8] | rw [if_neg h8] | rw [if_pos (by exact h8)] | rw [if_neg (by exact h8)] | rw [if_neg (by exact z_nle h8)] | rw [if_pos (by exact z_le h8)] | rw [if_neg (by exact z_nlt h8)] | rw [if_pos (by exact z_lt h8)] | rw [if_neg (by exact tf_t h8)] | rw [if_neg (by exact tf_f h8)] | rw [h8] | skip
                try rfl
              exact vv_zret C hr hlk rfl (by rw [hE] <;> rfl) rfl d_M_fits_47
            · skip
              replace h8 := bI_t h8
              refine vv_iconst C (1) d_M_fits_42 (by decide) ?_
              refine vv_goto C 47 d_M_fits_43 rfl ?_
              have hE : qFits x y z = true := by
                unfold qFits
                try dsimp only
                first | rw [if_pos h1] | rw [if_neg h1] | rw [if_pos (by exact h1)] | rw [if_neg (by exact h1)] | rw [if_neg (by exact z_nle h1)] | rw [if_pos (by exact z_le h1)] | rw [if_neg (by exact z_nlt h1)] | rw [if_pos (by exact z_lt h1)] | rw [if_neg (by exact tf_t h1)] | rw [if_neg (by exact tf_f h1)] | rw [h1] | skip
                first | rw [if_pos h2] | rw [if_neg h2] | rw [if_pos (by exact h2)] | rw [if_neg (by exact h2)] | rw [if_neg (by exact z_nle h2)] | rw [if_pos (by exact z_le h2)] | rw [if_neg (by exact z_nlt h2)] | rw [if_pos (by exact z_lt h2)] | rw [if_neg (by exact tf_t h2)] | rw [if_neg (by exact tf_f h2)] | rw [h2] | skip
                first | rw [if_pos h3] | rw [if_neg h3] | rw [if_pos (by exact h3)] | rw [if_neg (by exact h3)] | rw [if_neg (by exact z_nle h3)] | rw [if_pos (by exact z_le h3)] | rw [if_neg (by exact z_nlt h3)] | rw [if_pos (by exact z_lt h3)] | rw [if_neg (by exact tf_t h3)] | rw [if_neg (by exact tf_f h3)] | rw [h3] | skip
                first | rw [if_pos h4] | rw [if_neg h4] | rw [if_pos (by exact h4)] | rw [if_neg (by exact h4)] | rw [if_neg (by exact z_nle h4)] | rw [if_pos (by exact z_le h4)] | rw [if_neg (by exact z_nlt h4)] | rw [if_pos (by exact z_lt h4)] | rw [if_neg (by exact tf_t h4)] | rw [if_neg (by exact tf_f h4)] | rw [h4] | skip
                first | rw [if_pos h7] | rw [if_neg h7] | rw [if_pos (by exact h7)] | rw [if_neg (by exact h7)] | rw [if_neg (by exact z_nle h7)] | rw [if_pos (by exact z_le h7)] | rw [if_neg (by exact z_nlt h7)] | rw [if_pos (by exact z_lt h7)] | rw [if_neg (by exact tf_t h7)] | rw [if_neg (by exact tf_f h7)] | rw [h7] | skip
                first | rw [if_pos h8] | rw [if_neg h8] | rw [if_pos (by exact h8)] | rw [if_neg (by exact h8)] | rw [if_neg (by exact z_nle h8)] | rw [if_pos (by exact z_le h8)] | rw [if_neg (by exact z_nlt h8)] | rw [if_pos (by exact z_lt h8)] | rw [if_neg (by exact tf_t h8)] | rw [if_neg (by exact tf_f h8)] | rw [h8] | skip
                try rfl
              exact vv_zret C hr hlk rfl (by rw [hE] <;> rfl) rfl d_M_fits_47
      · skip
        refine vv_iload_n C d_M_fits_15 rfl ?_
        refine cllMS (rest := []) C (c_M_isException l Γ t z) cw_M_M_isException rfl rfl (Nat.le_of_ble_eq_true rfl) (by decide) (by decide) d_M_fits_16 ?_
        refine vv_st (st' := [.int (bI (qIsExc z))]) rfl ?_
        have hE : qFits x y z = (qIsExc z) := by
          unfold qFits
          try dsimp only
          first | rw [if_pos h1] | rw [if_neg h1] | rw [if_pos (by exact h1)] | rw [if_neg (by exact h1)] | rw [if_neg (by exact z_nle h1)] | rw [if_pos (by exact z_le h1)] | rw [if_neg (by exact z_nlt h1)] | rw [if_pos (by exact z_lt h1)] | rw [if_neg (by exact tf_t h1)] | rw [if_neg (by exact tf_f h1)] | rw [h1] | skip
          first | rw [if_pos h2] | rw [if_neg h2] | rw [if_pos (by exact h2)] | rw [if_neg (by exact h2)] | rw [if_neg (by exact z_nle h2)] | rw [if_pos (by exact z_le h2)] | rw [if_neg (by exact z_nlt h2)] | rw [if_pos (by exact z_lt h2)] | rw [if_neg (by exact tf_t h2)] | rw [if_neg (by exact tf_f h2)] | rw [h2] | skip
          first | rw [if_pos h3] | rw [if_neg h3] | rw [if_pos (by exact h3)] | rw [if_neg (by exact h3)] | rw [if_neg (by exact z_nle h3)] | rw [if_pos (by exact z_le h3)] | rw [if_neg (by exact z_nlt h3)] | rw [if_pos (by exact z_lt h3)] | rw [if_neg (by exact tf_t h3)] | rw [if_neg (by exact tf_f h3)] | rw [h3] | skip
          try rfl
        exact vv_zret C hr hlk (bI_nar _) (by rw [hE] <;> rfl) rfl d_M_fits_19
set_option maxHeartbeats 4000000 in
set_option maxRecDepth 100000 in
theorem c_M_isCell (l : Launch) (Γ : Geo) (t : M2) (x : Int32) (y : Int32) : CtM l Γ y_M_isCell b_M_isCell 2 (some .boolean) 1 [.int x, .int y] t (some (.int (bI (qIsCell x y)))) t := by
  refine ct_of (by decide +kernel) (Nat.le_of_ble_eq_true rfl) ?_
  intro p e s m args below meth c C hr hlk
  refine vv_iload_n C d_M_isCell_0 rfl ?_
  refine vv_iconst C (0) d_M_isCell_1 (by decide) ?_
  refine vv_iconst C (1) d_M_isCell_2 (by decide) ?_
  refine cllMS (rest := []) C (c_M_within l Γ t x 0 1) cw_M_M_within rfl rfl (Nat.le_of_ble_eq_true rfl) (by decide) (by decide) d_M_isCell_3 ?_
  refine vv_st (st' := [.int (bI (qWithin x 0 1))]) rfl ?_
  refine vv_if_eq C 22 d_M_isCell_6 rfl (fun h1 => ?_) (fun h1 => ?_)
  · skip
    replace h1 := bI_f h1
    refine vv_iconst C (0) d_M_isCell_22 (by decide) ?_
    have hE : qIsCell x y = false := by
      unfold qIsCell
      try dsimp only
      first | rw [if_pos h1] | rw [if_neg h1] | rw [if_pos (by exact h1)] | rw [if_neg (by exact h1)] | rw [if_neg (by exact z_nle h1)] | rw [if_pos (by exact z_le h1)] | rw [if_neg (by exact z_nlt h1)] | rw [if_pos (by exact z_lt h1)] | rw [if_neg (by exact tf_t h1)] | rw [if_neg (by exact tf_f h1)] | rw [h1] | skip
      try rfl
    exact vv_zret C hr hlk rfl (by rw [hE] <;> rfl) rfl d_M_isCell_23
  · skip
    replace h1 := bI_t h1
    refine vv_iload_n C d_M_isCell_9 rfl ?_
    refine vv_iconst C (0) d_M_isCell_10 (by decide) ?_
    refine vv_iconst C (5) d_M_isCell_11 (by decide) ?_
    refine cllMS (rest := []) C (c_M_within l Γ t y 0 5) cw_M_M_within rfl rfl (Nat.le_of_ble_eq_true rfl) (by decide) (by decide) d_M_isCell_12 ?_
    refine vv_st (st' := [.int (bI (qWithin y 0 5))]) rfl ?_
    refine vv_if_eq C 22 d_M_isCell_15 rfl (fun h2 => ?_) (fun h2 => ?_)
    · skip
      replace h2 := bI_f h2
      refine vv_iconst C (0) d_M_isCell_22 (by decide) ?_
      have hE : qIsCell x y = false := by
        unfold qIsCell
        try dsimp only
        first | rw [if_pos h1] | rw [if_neg h1] | rw [if_pos (by exact h1)] | rw [if_neg (by exact h1)] | rw [if_neg (by exact z_nle h1)] | rw [if_pos (by exact z_le h1)] | rw [if_neg (by exact z_nlt h1)] | rw [if_pos (by exact z_lt h1)] | rw [if_neg (by exact tf_t h1)] | rw [if_neg (by exact tf_f h1)] | rw [h1] | skip
        first | rw [if_pos h2] | rw [if_neg h2] | rw [if_pos (by exact h2)] | rw [if_neg (by exact h2)] | rw [if_neg (by exact z_nle h2)] | rw [if_pos (by exact z_le h2)] | rw [if_neg (by exact z_nlt h2)] | rw [if_pos (by exact z_lt h2)] | rw [if_neg (by exact tf_t h2)] | rw [if_neg (by exact tf_f h2)] | rw [h2] | skip
        try rfl
      exact vv_zret C hr hlk rfl (by rw [hE] <;> rfl) rfl d_M_isCell_23
    · skip
      replace h2 := bI_t h2
      refine vv_iconst C (1) d_M_isCell_18 (by decide) ?_
      refine vv_goto C 23 d_M_isCell_19 rfl ?_
      have hE : qIsCell x y = true := by
        unfold qIsCell
        try dsimp only
        first | rw [if_pos h1] | rw [if_neg h1] | rw [if_pos (by exact h1)] | rw [if_neg (by exact h1)] | rw [if_neg (by exact z_nle h1)] | rw [if_pos (by exact z_le h1)] | rw [if_neg (by exact z_nlt h1)] | rw [if_pos (by exact z_lt h1)] | rw [if_neg (by exact tf_t h1)] | rw [if_neg (by exact tf_f h1)] | rw [h1] | skip
        first | rw [if_pos h2] | rw [if_neg h2] | rw [if_pos (by exact h2)] | rw [if_neg (by exact h2)] | rw [if_neg (by exact z_nle h2)] | rw [if_pos (by exact z_le h2)] | rw [if_neg (by exact z_nlt h2)] | rw [if_pos (by exact z_lt h2)] | rw [if_neg (by exact tf_t h2)] | rw [if_neg (by exact tf_f h2)] | rw [h2] | skip
        try rfl
      exact vv_zret C hr hlk rfl (by rw [hE] <;> rfl) rfl d_M_isCell_23
theorem th_in {t : M2} (h0 : ∃ n, n ≤ 6 ∧ t 0 0 = nI n) (h : ¬ t 0 0 = 6) : vp_in (t 0 0) 6 := by
  obtain ⟨n, hn, e⟩ := h0
  have : ¬ n = 6 := fun z => h (by rw [e, z]; rfl)
  rw [e]
  exact in6 (by omega)
theorem bdM_lt {t : M2} {n p : Nat} (hn : n ≤ 6) (h0 : t 0 0 = nI n) (hp : p < 900) (h : ¬ t 0 0 ≤ nI p) : p < n := by
  rw [h0, nle (by omega) (by omega)] at h
  omega
theorem fd_in {t : M2} (h0 : ∃ n, n ≤ 6 ∧ t 0 0 = nI n) {x : Int32} (h : ¬ qFind t x < 0) : ∃ j n, j < n ∧ n ≤ 6 ∧ t 0 0 = nI n ∧ qFind t x = nI j := by
  obtain ⟨n, hn, e⟩ := h0
  rcases qFindL_spec t x hn e 7 0 (-1) (by omega) (by omega) with ⟨z, -⟩ | ⟨j, z1, z2, z3, -⟩
  · exact absurd (show qFind t x < 0 by rw [show qFind t x = -1 from z]; decide) h
  · exact ⟨j, n, z2, hn, e, z3⟩
theorem in100 {p : Nat} (h : p < 100) : vp_in (nI p) 100 := vp_in_nI h (by omega)
theorem in30 {p : Nat} (h : p < 30) : vp_in (nI p) 30 := vp_in_nI h (by omega)
theorem in12 {p : Nat} (h : p < 12) : vp_in (nI p) 12 := vp_in_nI h (by omega)
theorem in4 {p : Nat} (h : p < 4) : vp_in (nI p) 4 := vp_in_nI h (by omega)
theorem nt_in {t : M2} (h : ∃ n, n ≤ 100 ∧ t 19 0 = nI n) (hn : ¬ t 19 0 = 100) : vp_in (t 19 0) 100 := by
  obtain ⟨n, hn2, e⟩ := h
  have : ¬ n = 100 := fun z => hn (by rw [e, z]; rfl)
  rw [e]
  exact in100 (by omega)
theorem ge0_nl {x : Int32} (h : ¬ 0 ≤ x) : x < 0 := by simp only [Int32.lt_iff_toInt_lt, Int32.le_iff_toInt_le] at *; omega
theorem ge0_nn {x : Int32} (h : 0 ≤ x) : ¬ x < 0 := by simp only [Int32.lt_iff_toInt_lt, Int32.le_iff_toInt_le] at *; omega
theorem wi_cell {x y : Int32} (h : qIsCell x y = true) : vp_in (6 * x + y) 12 := by
  unfold qIsCell at h
  by_cases c : qWithin x 0 1 = true
  · rw [if_pos c] at h
    unfold qWithin at c h
    by_cases a1 : x < 0
    · rw [if_pos a1] at c; cases c
    by_cases a2 : (1 : Int32) < x
    · rw [if_neg a1, if_pos a2] at c; cases c
    by_cases b1 : y < 0
    · rw [if_pos b1] at h; cases h
    by_cases b2 : (5 : Int32) < y
    · rw [if_neg b1, if_pos b2] at h; cases h
    obtain ⟨a, ha, rfl⟩ := nI_of a1
    obtain ⟨b, hb, rfl⟩ := nI_of b1
    rw [show (1 : Int32) = nI 1 from rfl, nI_ltI (by omega) ha] at a2
    rw [show (5 : Int32) = nI 5 from rfl, nI_ltI (by omega) hb] at b2
    rw [show (6 : Int32) = nI 6 from rfl, pk_mul, nI_add]
    exact in12 (by omega)
  · rw [if_neg c] at h; cases h
theorem wi_noted {t : M2} (h : ∃ n, n ≤ 100 ∧ t 19 0 = nI n) {i : Int32} (hw : qWithin i 0 (t 19 0 - 1) = true) : vp_in i 100 := by
  obtain ⟨n, hn, e⟩ := h
  unfold qWithin at hw
  by_cases a1 : i < 0
  · rw [if_pos a1] at hw; cases hw
  by_cases a2 : t 19 0 - 1 < i
  · rw [if_neg a1, if_pos a2] at hw; cases hw
  obtain ⟨a, ha, rfl⟩ := nI_of a1
  rw [e] at a2
  cases n with
  | zero =>
    exfalso
    apply a2
    have h0 : (nI 0 - 1 : Int32) = -1 := by decide
    rw [h0]
    simp only [Int32.lt_iff_toInt_lt] at *
    have : (-1 : Int32).toInt = -1 := by decide
    have : (0 : Int32).toInt = 0 := by decide
    omega
  | succ n =>
    rw [nI_pred, nI_ltI (by omega) ha] at a2
    exact in100 (by omega)
set_option maxHeartbeats 4000000 in
set_option maxRecDepth 100000 in
theorem c_M_advise (l : Launch) (Γ : Geo) (t : M2) (h0 : ∃ n, n ≤ 6 ∧ t 0 0 = nI n) (kd od ms aa bb : Int32) : CtM l Γ y_M_advise b_M_advise 6 (some .int) 3 [.ref (Γ.2.1 27), .int kd, .int od, .int ms, .int aa, .int bb] t (some (.int (qAdvise t kd od ms aa bb).1)) (qAdvise t kd od ms aa bb).2 := by
  refine ct_of (by decide +kernel) (Nat.le_of_ble_eq_true rfl) ?_
  intro p e s m args below meth c C hr hlk
  refine vv_aload_n C d_M_advise_0 rfl ?_
  refine g_M_frozen C d_M_advise_1 ?_
  refine vv_if_ne C 47 d_M_advise_4 rfl (fun h1 => ?_) (fun h1 => ?_)
  · skip
    refine vv_iconst C (-1) d_M_advise_47 (by decide) ?_
    have hE : qAdvise t kd od ms aa bb = (-1, t) := by
      unfold qAdvise
      try dsimp only
      first | rw [if_pos h1] | rw [if_neg h1] | rw [if_pos (by exact h1)] | rw [if_neg (by exact h1)] | rw [if_neg (by exact z_nle h1)] | rw [if_pos (by exact z_le h1)] | rw [if_neg (by exact z_nlt h1)] | rw [if_pos (by exact z_lt h1)] | rw [if_neg (by exact tf_t h1)] | rw [if_neg (by exact tf_f h1)] | rw [h1] | skip
      try rfl
    exact vv_iret C hr hlk (by rw [hE] <;> rfl) (by rw [hE] <;> rfl) d_M_advise_48
  · skip
    refine vv_aload_n C d_M_advise_7 rfl ?_
    refine g_M_there C d_M_advise_8 ?_
    refine vv_bipush C (6) d_M_advise_11 (by decide) ?_
    refine vv_icmp_eq C 47 d_M_advise_13 rfl (fun h2 => ?_) (fun h2 => ?_)
    · skip
      refine vv_iconst C (-1) d_M_advise_47 (by decide) ?_
      have hE : qAdvise t kd od ms aa bb = (-1, t) := by
        unfold qAdvise
        try dsimp only
        first | rw [if_pos h1] | rw [if_neg h1] | rw [if_pos (by exact h1)] | rw [if_neg (by exact h1)] | rw [if_neg (by exact z_nle h1)] | rw [if_pos (by exact z_le h1)] | rw [if_neg (by exact z_nlt h1)] | rw [if_pos (by exact z_lt h1)] | rw [if_neg (by exact tf_t h1)] | rw [if_neg (by exact tf_f h1)] | rw [h1] | skip
        first | rw [if_pos h2] | rw [if_neg h2] | rw [if_pos (by exact h2)] | rw [if_neg (by exact h2)] | rw [if_neg (by exact z_nle h2)] | rw [if_pos (by exact z_le h2)] | rw [if_neg (by exact z_nlt h2)] | rw [if_pos (by exact z_lt h2)] | rw [if_neg (by exact tf_t h2)] | rw [if_neg (by exact tf_f h2)] | rw [h2] | skip
        try rfl
      exact vv_iret C hr hlk (by rw [hE] <;> rfl) (by rw [hE] <;> rfl) d_M_advise_48
    · skip
      refine vv_iload_n C d_M_advise_16 rfl ?_
      refine vv_iconst C (0) d_M_advise_17 (by decide) ?_
      refine vv_bipush C (7) d_M_advise_18 (by decide) ?_
      refine cllMS (rest := []) C (c_M_within l Γ t kd 0 7) cw_M_M_within rfl rfl (Nat.le_of_ble_eq_true rfl) (by decide) (by decide) d_M_advise_20 ?_
      refine vv_st (st' := [.int (bI (qWithin kd 0 7))]) rfl ?_
      refine vv_if_eq C 47 d_M_advise_23 rfl (fun h3 => ?_) (fun h3 => ?_)
      · skip
        replace h3 := bI_f h3
        refine vv_iconst C (-1) d_M_advise_47 (by decide) ?_
        have hE : qAdvise t kd od ms aa bb = (-1, t) := by
          unfold qAdvise
          try dsimp only
          first | rw [if_pos h1] | rw [if_neg h1] | rw [if_pos (by exact h1)] | rw [if_neg (by exact h1)] | rw [if_neg (by exact z_nle h1)] | rw [if_pos (by exact z_le h1)] | rw [if_neg (by exact z_nlt h1)] | rw [if_pos (by exact z_lt h1)] | rw [if_neg (by exact tf_t h1)] | rw [if_neg (by exact tf_f h1)] | rw [h1] | skip
          first | rw [if_pos h2] | rw [if_neg h2] | rw [if_pos (by exact h2)] | rw [if_neg (by exact h2)] | rw [if_neg (by exact z_nle h2)] | rw [if_pos (by exact z_le h2)] | rw [if_neg (by exact z_nlt h2)] | rw [if_pos (by exact z_lt h2)] | rw [if_neg (by exact tf_t h2)] | rw [if_neg (by exact tf_f h2)] | rw [h2] | skip
          first | rw [if_pos h3] | rw [if_neg h3] | rw [if_pos (by exact h3)] | rw [if_neg (by exact h3)] | rw [if_neg (by exact z_nle h3)] | rw [if_pos (by exact z_le h3)] | rw [if_neg (by exact z_nlt h3)] | rw [if_pos (by exact z_lt h3)] | rw [if_neg (by exact tf_t h3)] | rw [if_neg (by exact tf_f h3)] | rw [h3] | skip
          try rfl
        exact vv_iret C hr hlk (by rw [hE] <;> rfl) (by rw [hE] <;> rfl) d_M_advise_48
      · skip
        replace h3 := bI_t h3
        refine vv_iload_n C d_M_advise_26 rfl ?_
        refine vv_iconst C (1) d_M_advise_27 (by decide) ?_
        refine vv_bipush C (63) d_M_advise_28 (by decide) ?_
        refine cllMS (rest := []) C (c_M_within l Γ t ms 1 63) cw_M_M_within rfl rfl (Nat.le_of_ble_eq_true rfl) (by decide) (by decide) d_M_advise_30 ?_
        refine vv_st (st' := [.int (bI (qWithin ms 1 63))]) rfl ?_
        refine vv_if_eq C 47 d_M_advise_33 rfl (fun h4 => ?_) (fun h4 => ?_)
        · skip
          replace h4 := bI_f h4
          refine vv_iconst C (-1) d_M_advise_47 (by decide) ?_
          have hE : qAdvise t kd od ms aa bb = (-1, t) := by
            unfold qAdvise
            try dsimp only
            first | rw [if_pos h1] | rw [if_neg h1] | rw [if_pos (by exact h1)] | rw [if_neg (by exact h1)] | rw [if_neg (by exact z_nle h1)] | rw [if_pos (by exact z_le h1)] | rw [if_neg (by exact z_nlt h1)] | rw [if_pos (by exact z_lt h1)] | rw [if_neg (by exact tf_t h1)] | rw [if_neg (by exact tf_f h1)] | rw [h1] | skip
            first | rw [if_pos h2] | rw [if_neg h2] | rw [if_pos (by exact h2)] | rw [if_neg (by exact h2)] | rw [if_neg (by exact z_nle h2)] | rw [if_pos (by exact z_le h2)] | rw [if_neg (by exact z_nlt h2)] | rw [if_pos (by exact z_lt h2)] | rw [if_neg (by exact tf_t h2)] | rw [if_neg (by exact tf_f h2)] | rw [h2] | skip
            first | rw [if_pos h3] | rw [if_neg h3] | rw [if_pos (by exact h3)] | rw [if_neg (by exact h3)] | rw [if_neg (by exact z_nle h3)] | rw [if_pos (by exact z_le h3)] | rw [if_neg (by exact z_nlt h3)] | rw [if_pos (by exact z_lt h3)] | rw [if_neg (by exact tf_t h3)] | rw [if_neg (by exact tf_f h3)] | rw [h3] | skip
            first | rw [if_pos h4] | rw [if_neg h4] | rw [if_pos (by exact h4)] | rw [if_neg (by exact h4)] | rw [if_neg (by exact z_nle h4)] | rw [if_pos (by exact z_le h4)] | rw [if_neg (by exact z_nlt h4)] | rw [if_pos (by exact z_lt h4)] | rw [if_neg (by exact tf_t h4)] | rw [if_neg (by exact tf_f h4)] | rw [h4] | skip
            try rfl
          exact vv_iret C hr hlk (by rw [hE] <;> rfl) (by rw [hE] <;> rfl) d_M_advise_48
        · skip
          replace h4 := bI_t h4
          refine vv_iload_n C d_M_advise_36 rfl ?_
          refine vv_iload C d_M_advise_37 rfl ?_
          refine vv_iload C d_M_advise_39 rfl ?_
          refine cllMS (rest := []) C (c_M_fits l Γ t kd aa bb) cw_M_M_fits rfl rfl (Nat.le_of_ble_eq_true rfl) (by decide) (by decide) d_M_advise_41 ?_
          refine vv_st (st' := [.int (bI (qFits kd aa bb))]) rfl ?_
          refine vv_if_ne C 49 d_M_advise_44 rfl (fun h5 => ?_) (fun h5 => ?_)
          · skip
            replace h5 := bI_t h5
            have hb0 := th_in h0 h2
            refine vv_aload_n C d_M_advise_49 rfl ?_
            refine g_M_name C d_M_advise_50 ?_
            refine vv_aload_n C d_M_advise_53 rfl ?_
            refine g_M_there C d_M_advise_54 ?_
            refine vv_aload_n C d_M_advise_57 rfl ?_
            refine g_M_next C d_M_advise_58 ?_
            refine sr_M_name C hb0 d_M_advise_61 ?_
            refine vv_aload_n C d_M_advise_62 rfl ?_
            refine g_M_kind C d_M_advise_63 ?_
            refine vv_aload_n C d_M_advise_66 rfl ?_
            refine g_M_there C d_M_advise_67 ?_
            refine vv_iload_n C d_M_advise_70 rfl ?_
            refine sr_M_kind C hb0 d_M_advise_71 ?_
            refine vv_aload_n C d_M_advise_72 rfl ?_
            refine g_M_order C d_M_advise_73 ?_
            refine vv_aload_n C d_M_advise_76 rfl ?_
            refine g_M_there C d_M_advise_77 ?_
            refine vv_iload_n C d_M_advise_80 rfl ?_
            refine sr_M_order C hb0 d_M_advise_81 ?_
            refine vv_aload_n C d_M_advise_82 rfl ?_
            refine g_M_methods C d_M_advise_83 ?_
            refine vv_aload_n C d_M_advise_86 rfl ?_
            refine g_M_there C d_M_advise_87 ?_
            refine vv_iload_n C d_M_advise_90 rfl ?_
            refine sr_M_methods C hb0 d_M_advise_91 ?_
            refine vv_aload_n C d_M_advise_92 rfl ?_
            refine g_M_first C d_M_advise_93 ?_
            refine vv_aload_n C d_M_advise_96 rfl ?_
            refine g_M_there C d_M_advise_97 ?_
            refine vv_iload C d_M_advise_100 rfl ?_
            refine sr_M_first C hb0 d_M_advise_102 ?_
            refine vv_aload_n C d_M_advise_103 rfl ?_
            refine g_M_second C d_M_advise_104 ?_
            refine vv_aload_n C d_M_advise_107 rfl ?_
            refine g_M_there C d_M_advise_108 ?_
            refine vv_iload C d_M_advise_111 rfl ?_
            refine sr_M_second C hb0 d_M_advise_113 ?_
            refine vv_aload_n C d_M_advise_114 rfl ?_
            refine g_M_ranged C d_M_advise_115 ?_
            refine vv_aload_n C d_M_advise_118 rfl ?_
            refine g_M_there C d_M_advise_119 ?_
            refine vv_iconst C (0) d_M_advise_122 (by decide) ?_
            refine sr_M_ranged C (v' := 0) rfl hb0 d_M_advise_123 ?_
            refine vv_aload_n C d_M_advise_124 rfl ?_
            refine vv_dup C d_M_advise_125 rfl ?_
            refine g_M_there C d_M_advise_126 ?_
            refine vv_iconst C (1) d_M_advise_129 (by decide) ?_
            refine vv_iadd C d_M_advise_130 ?_
            refine p_M_there C d_M_advise_131 ?_
            refine vv_aload_n C d_M_advise_134 rfl ?_
            refine vv_dup C d_M_advise_135 rfl ?_
            refine g_M_next C d_M_advise_136 ?_
            refine vv_iconst C (1) d_M_advise_139 (by decide) ?_
            refine vv_iadd C d_M_advise_140 ?_
            refine p_M_next C d_M_advise_141 ?_
            refine vv_aload_n C d_M_advise_144 rfl ?_
            refine g_M_next C d_M_advise_145 ?_
            refine vv_iconst C (1) d_M_advise_148 (by decide) ?_
            refine vv_isub C d_M_advise_149 ?_
            have hE : qAdvise t kd od ms aa bb = (((up2 (up2 (up2 (up2 (up2 (up2 (up2 (up2 (up2 t 3 (ix (t 0 0)) (t 1 0)) 4 (ix ((up2 t 3 (ix (t 0 0)) (t 1 0)) 0 0)) kd) 5 (ix ((up2 (up2 t 3 (ix (t 0 0)) (t 1 0)) 4 (ix ((up2 t 3 (ix (t 0 0)) (t 1 0)) 0 0)) kd) 0 0)) od) 6 (ix ((up2 (up2 (up2 t 3 (ix (t 0 0)) (t 1 0)) 4 (ix ((up2 t 3 (ix (t 0 0)) (t 1 0)) 0 0)) kd) 5 (ix ((up2 (up2 t 3 (ix (t 0 0)) (t 1 0)) 4 (ix ((up2 t 3 (ix (t 0 0)) (t 1 0)) 0 0)) kd) 0 0)) od) 0 0)) ms) 7 (ix ((up2 (up2 (up2 (up2 t 3 (ix (t 0 0)) (t 1 0)) 4 (ix ((up2 t 3 (ix (t 0 0)) (t 1 0)) 0 0)) kd) 5 (ix ((up2 (up2 t 3 (ix (t 0 0)) (t 1 0)) 4 (ix ((up2 t 3 (ix (t 0 0)) (t 1 0)) 0 0)) kd) 0 0)) od) 6 (ix ((up2 (up2 (up2 t 3 (ix (t 0 0)) (t 1 0)) 4 (ix ((up2 t 3 (ix (t 0 0)) (t 1 0)) 0 0)) kd) 5 (ix ((up2 (up2 t 3 (ix (t 0 0)) (t 1 0)) 4 (ix ((up2 t 3 (ix (t 0 0)) (t 1 0)) 0 0)) kd) 0 0)) od) 0 0)) ms) 0 0)) aa) 8 (ix ((up2 (up2 (up2 (up2 (up2 t 3 (ix (t 0 0)) (t 1 0)) 4 (ix ((up2 t 3 (ix (t 0 0)) (t 1 0)) 0 0)) kd) 5 (ix ((up2 (up2 t 3 (ix (t 0 0)) (t 1 0)) 4 (ix ((up2 t 3 (ix (t 0 0)) (t 1 0)) 0 0)) kd) 0 0)) od) 6 (ix ((up2 (up2 (up2 t 3 (ix (t 0 0)) (t 1 0)) 4 (ix ((up2 t 3 (ix (t 0 0)) (t 1 0)) 0 0)) kd) 5 (ix ((up2 (up2 t 3 (ix (t 0 0)) (t 1 0)) 4 (ix ((up2 t 3 (ix (t 0 0)) (t 1 0)) 0 0)) kd) 0 0)) od) 0 0)) ms) 7 (ix ((up2 (up2 (up2 (up2 t 3 (ix (t 0 0)) (t 1 0)) 4 (ix ((up2 t 3 (ix (t 0 0)) (t 1 0)) 0 0)) kd) 5 (ix ((up2 (up2 t 3 (ix (t 0 0)) (t 1 0)) 4 (ix ((up2 t 3 (ix (t 0 0)) (t 1 0)) 0 0)) kd) 0 0)) od) 6 (ix ((up2 (up2 (up2 t 3 (ix (t 0 0)) (t 1 0)) 4 (ix ((up2 t 3 (ix (t 0 0)) (t 1 0)) 0 0)) kd) 5 (ix ((up2 (up2 t 3 (ix (t 0 0)) (t 1 0)) 4 (ix ((up2 t 3 (ix (t 0 0)) (t 1 0)) 0 0)) kd) 0 0)) od) 0 0)) ms) 0 0)) aa) 0 0)) bb) 9 (ix ((up2 (up2 (up2 (up2 (up2 (up2 t 3 (ix (t 0 0)) (t 1 0)) 4 (ix ((up2 t 3 (ix (t 0 0)) (t 1 0)) 0 0)) kd) 5 (ix ((up2 (up2 t 3 (ix (t 0 0)) (t 1 0)) 4 (ix ((up2 t 3 (ix (t 0 0)) (t 1 0)) 0 0)) kd) 0 0)) od) 6 (ix ((up2 (up2 (up2 t 3 (ix (t 0 0)) (t 1 0)) 4 (ix ((up2 t 3 (ix (t 0 0)) (t 1 0)) 0 0)) kd) 5 (ix ((up2 (up2 t 3 (ix (t 0 0)) (t 1 0)) 4 (ix ((up2 t 3 (ix (t 0 0)) (t 1 0)) 0 0)) kd) 0 0)) od) 0 0)) ms) 7 (ix ((up2 (up2 (up2 (up2 t 3 (ix (t 0 0)) (t 1 0)) 4 (ix ((up2 t 3 (ix (t 0 0)) (t 1 0)) 0 0)) kd) 5 (ix ((up2 (up2 t 3 (ix (t 0 0)) (t 1 0)) 4 (ix ((up2 t 3 (ix (t 0 0)) (t 1 0)) 0 0)) kd) 0 0)) od) 6 (ix ((up2 (up2 (up2 t 3 (ix (t 0 0)) (t 1 0)) 4 (ix ((up2 t 3 (ix (t 0 0)) (t 1 0)) 0 0)) kd) 5 (ix ((up2 (up2 t 3 (ix (t 0 0)) (t 1 0)) 4 (ix ((up2 t 3 (ix (t 0 0)) (t 1 0)) 0 0)) kd) 0 0)) od) 0 0)) ms) 0 0)) aa) 8 (ix ((up2 (up2 (up2 (up2 (up2 t 3 (ix (t 0 0)) (t 1 0)) 4 (ix ((up2 t 3 (ix (t 0 0)) (t 1 0)) 0 0)) kd) 5 (ix ((up2 (up2 t 3 (ix (t 0 0)) (t 1 0)) 4 (ix ((up2 t 3 (ix (t 0 0)) (t 1 0)) 0 0)) kd) 0 0)) od) 6 (ix ((up2 (up2 (up2 t 3 (ix (t 0 0)) (t 1 0)) 4 (ix ((up2 t 3 (ix (t 0 0)) (t 1 0)) 0 0)) kd) 5 (ix ((up2 (up2 t 3 (ix (t 0 0)) (t 1 0)) 4 (ix ((up2 t 3 (ix (t 0 0)) (t 1 0)) 0 0)) kd) 0 0)) od) 0 0)) ms) 7 (ix ((up2 (up2 (up2 (up2 t 3 (ix (t 0 0)) (t 1 0)) 4 (ix ((up2 t 3 (ix (t 0 0)) (t 1 0)) 0 0)) kd) 5 (ix ((up2 (up2 t 3 (ix (t 0 0)) (t 1 0)) 4 (ix ((up2 t 3 (ix (t 0 0)) (t 1 0)) 0 0)) kd) 0 0)) od) 6 (ix ((up2 (up2 (up2 t 3 (ix (t 0 0)) (t 1 0)) 4 (ix ((up2 t 3 (ix (t 0 0)) (t 1 0)) 0 0)) kd) 5 (ix ((up2 (up2 t 3 (ix (t 0 0)) (t 1 0)) 4 (ix ((up2 t 3 (ix (t 0 0)) (t 1 0)) 0 0)) kd) 0 0)) od) 0 0)) ms) 0 0)) aa) 0 0)) bb) 0 0)) 0) 0 0 (((up2 (up2 (up2 (up2 (up2 (up2 (up2 t 3 (ix (t 0 0)) (t 1 0)) 4 (ix ((up2 t 3 (ix (t 0 0)) (t 1 0)) 0 0)) kd) 5 (ix ((up2 (up2 t 3 (ix (t 0 0)) (t 1 0)) 4 (ix ((up2 t 3 (ix (t 0 0)) (t 1 0)) 0 0)) kd) 0 0)) od) 6 (ix ((up2 (up2 (up2 t 3 (ix (t 0 0)) (t 1 0)) 4 (ix ((up2 t 3 (ix (t 0 0)) (t 1 0)) 0 0)) kd) 5 (ix ((up2 (up2 t 3 (ix (t 0 0)) (t 1 0)) 4 (ix ((up2 t 3 (ix (t 0 0)) (t 1 0)) 0 0)) kd) 0 0)) od) 0 0)) ms) 7 (ix ((up2 (up2 (up2 (up2 t 3 (ix (t 0 0)) (t 1 0)) 4 (ix ((up2 t 3 (ix (t 0 0)) (t 1 0)) 0 0)) kd) 5 (ix ((up2 (up2 t 3 (ix (t 0 0)) (t 1 0)) 4 (ix ((up2 t 3 (ix (t 0 0)) (t 1 0)) 0 0)) kd) 0 0)) od) 6 (ix ((up2 (up2 (up2 t 3 (ix (t 0 0)) (t 1 0)) 4 (ix ((up2 t 3 (ix (t 0 0)) (t 1 0)) 0 0)) kd) 5 (ix ((up2 (up2 t 3 (ix (t 0 0)) (t 1 0)) 4 (ix ((up2 t 3 (ix (t 0 0)) (t 1 0)) 0 0)) kd) 0 0)) od) 0 0)) ms) 0 0)) aa) 8 (ix ((up2 (up2 (up2 (up2 (up2 t 3 (ix (t 0 0)) (t 1 0)) 4 (ix ((up2 t 3 (ix (t 0 0)) (t 1 0)) 0 0)) kd) 5 (ix ((up2 (up2 t 3 (ix (t 0 0)) (t 1 0)) 4 (ix ((up2 t 3 (ix (t 0 0)) (t 1 0)) 0 0)) kd) 0 0)) od) 6 (ix ((up2 (up2 (up2 t 3 (ix (t 0 0)) (t 1 0)) 4 (ix ((up2 t 3 (ix (t 0 0)) (t 1 0)) 0 0)) kd) 5 (ix ((up2 (up2 t 3 (ix (t 0 0)) (t 1 0)) 4 (ix ((up2 t 3 (ix (t 0 0)) (t 1 0)) 0 0)) kd) 0 0)) od) 0 0)) ms) 7 (ix ((up2 (up2 (up2 (up2 t 3 (ix (t 0 0)) (t 1 0)) 4 (ix ((up2 t 3 (ix (t 0 0)) (t 1 0)) 0 0)) kd) 5 (ix ((up2 (up2 t 3 (ix (t 0 0)) (t 1 0)) 4 (ix ((up2 t 3 (ix (t 0 0)) (t 1 0)) 0 0)) kd) 0 0)) od) 6 (ix ((up2 (up2 (up2 t 3 (ix (t 0 0)) (t 1 0)) 4 (ix ((up2 t 3 (ix (t 0 0)) (t 1 0)) 0 0)) kd) 5 (ix ((up2 (up2 t 3 (ix (t 0 0)) (t 1 0)) 4 (ix ((up2 t 3 (ix (t 0 0)) (t 1 0)) 0 0)) kd) 0 0)) od) 0 0)) ms) 0 0)) aa) 0 0)) bb) 9 (ix ((up2 (up2 (up2 (up2 (up2 (up2 t 3 (ix (t 0 0)) (t 1 0)) 4 (ix ((up2 t 3 (ix (t 0 0)) (t 1 0)) 0 0)) kd) 5 (ix ((up2 (up2 t 3 (ix (t 0 0)) (t 1 0)) 4 (ix ((up2 t 3 (ix (t 0 0)) (t 1 0)) 0 0)) kd) 0 0)) od) 6 (ix ((up2 (up2 (up2 t 3 (ix (t 0 0)) (t 1 0)) 4 (ix ((up2 t 3 (ix (t 0 0)) (t 1 0)) 0 0)) kd) 5 (ix ((up2 (up2 t 3 (ix (t 0 0)) (t 1 0)) 4 (ix ((up2 t 3 (ix (t 0 0)) (t 1 0)) 0 0)) kd) 0 0)) od) 0 0)) ms) 7 (ix ((up2 (up2 (up2 (up2 t 3 (ix (t 0 0)) (t 1 0)) 4 (ix ((up2 t 3 (ix (t 0 0)) (t 1 0)) 0 0)) kd) 5 (ix ((up2 (up2 t 3 (ix (t 0 0)) (t 1 0)) 4 (ix ((up2 t 3 (ix (t 0 0)) (t 1 0)) 0 0)) kd) 0 0)) od) 6 (ix ((up2 (up2 (up2 t 3 (ix (t 0 0)) (t 1 0)) 4 (ix ((up2 t 3 (ix (t 0 0)) (t 1 0)) 0 0)) kd) 5 (ix ((up2 (up2 t 3 (ix (t 0 0)) (t 1 0)) 4 (ix ((up2 t 3 (ix (t 0 0)) (t 1 0)) 0 0)) kd) 0 0)) od) 0 0)) ms) 0 0)) aa) 8 (ix ((up2 (up2 (up2 (up2 (up2 t 3 (ix (t 0 0)) (t 1 0)) 4 (ix ((up2 t 3 (ix (t 0 0)) (t 1 0)) 0 0)) kd) 5 (ix ((up2 (up2 t 3 (ix (t 0 0)) (t 1 0)) 4 (ix ((up2 t 3 (ix (t 0 0)) (t 1 0)) 0 0)) kd) 0 0)) od) 6 (ix ((up2 (up2 (up2 t 3 (ix (t 0 0)) (t 1 0)) 4 (ix ((up2 t 3 (ix (t 0 0)) (t 1 0)) 0 0)) kd) 5 (ix ((up2 (up2 t 3 (ix (t 0 0)) (t 1 0)) 4 (ix ((up2 t 3 (ix (t 0 0)) (t 1 0)) 0 0)) kd) 0 0)) od) 0 0)) ms) 7 (ix ((up2 (up2 (up2 (up2 t 3 (ix (t 0 0)) (t 1 0)) 4 (ix ((up2 t 3 (ix (t 0 0)) (t 1 0)) 0 0)) kd) 5 (ix ((up2 (up2 t 3 (ix (t 0 0)) (t 1 0)) 4 (ix ((up2 t 3 (ix (t 0 0)) (t 1 0)) 0 0)) kd) 0 0)) od) 6 (ix ((up2 (up2 (up2 t 3 (ix (t 0 0)) (t 1 0)) 4 (ix ((up2 t 3 (ix (t 0 0)) (t 1 0)) 0 0)) kd) 5 (ix ((up2 (up2 t 3 (ix (t 0 0)) (t 1 0)) 4 (ix ((up2 t 3 (ix (t 0 0)) (t 1 0)) 0 0)) kd) 0 0)) od) 0 0)) ms) 0 0)) aa) 0 0)) bb) 0 0)) 0) 0 0) + 1)) 1 0 (((up2 (up2 (up2 (up2 (up2 (up2 (up2 (up2 t 3 (ix (t 0 0)) (t 1 0)) 4 (ix ((up2 t 3 (ix (t 0 0)) (t 1 0)) 0 0)) kd) 5 (ix ((up2 (up2 t 3 (ix (t 0 0)) (t 1 0)) 4 (ix ((up2 t 3 (ix (t 0 0)) (t 1 0)) 0 0)) kd) 0 0)) od) 6 (ix ((up2 (up2 (up2 t 3 (ix (t 0 0)) (t 1 0)) 4 (ix ((up2 t 3 (ix (t 0 0)) (t 1 0)) 0 0)) kd) 5 (ix ((up2 (up2 t 3 (ix (t 0 0)) (t 1 0)) 4 (ix ((up2 t 3 (ix (t 0 0)) (t 1 0)) 0 0)) kd) 0 0)) od) 0 0)) ms) 7 (ix ((up2 (up2 (up2 (up2 t 3 (ix (t 0 0)) (t 1 0)) 4 (ix ((up2 t 3 (ix (t 0 0)) (t 1 0)) 0 0)) kd) 5 (ix ((up2 (up2 t 3 (ix (t 0 0)) (t 1 0)) 4 (ix ((up2 t 3 (ix (t 0 0)) (t 1 0)) 0 0)) kd) 0 0)) od) 6 (ix ((up2 (up2 (up2 t 3 (ix (t 0 0)) (t 1 0)) 4 (ix ((up2 t 3 (ix (t 0 0)) (t 1 0)) 0 0)) kd) 5 (ix ((up2 (up2 t 3 (ix (t 0 0)) (t 1 0)) 4 (ix ((up2 t 3 (ix (t 0 0)) (t 1 0)) 0 0)) kd) 0 0)) od) 0 0)) ms) 0 0)) aa) 8 (ix ((up2 (up2 (up2 (up2 (up2 t 3 (ix (t 0 0)) (t 1 0)) 4 (ix ((up2 t 3 (ix (t 0 0)) (t 1 0)) 0 0)) kd) 5 (ix ((up2 (up2 t 3 (ix (t 0 0)) (t 1 0)) 4 (ix ((up2 t 3 (ix (t 0 0)) (t 1 0)) 0 0)) kd) 0 0)) od) 6 (ix ((up2 (up2 (up2 t 3 (ix (t 0 0)) (t 1 0)) 4 (ix ((up2 t 3 (ix (t 0 0)) (t 1 0)) 0 0)) kd) 5 (ix ((up2 (up2 t 3 (ix (t 0 0)) (t 1 0)) 4 (ix ((up2 t 3 (ix (t 0 0)) (t 1 0)) 0 0)) kd) 0 0)) od) 0 0)) ms) 7 (ix ((up2 (up2 (up2 (up2 t 3 (ix (t 0 0)) (t 1 0)) 4 (ix ((up2 t 3 (ix (t 0 0)) (t 1 0)) 0 0)) kd) 5 (ix ((up2 (up2 t 3 (ix (t 0 0)) (t 1 0)) 4 (ix ((up2 t 3 (ix (t 0 0)) (t 1 0)) 0 0)) kd) 0 0)) od) 6 (ix ((up2 (up2 (up2 t 3 (ix (t 0 0)) (t 1 0)) 4 (ix ((up2 t 3 (ix (t 0 0)) (t 1 0)) 0 0)) kd) 5 (ix ((up2 (up2 t 3 (ix (t 0 0)) (t 1 0)) 4 (ix ((up2 t 3 (ix (t 0 0)) (t 1 0)) 0 0)) kd) 0 0)) od) 0 0)) ms) 0 0)) aa) 0 0)) bb) 9 (ix ((up2 (up2 (up2 (up2 (up2 (up2 t 3 (ix (t 0 0)) (t 1 0)) 4 (ix ((up2 t 3 (ix (t 0 0)) (t 1 0)) 0 0)) kd) 5 (ix ((up2 (up2 t 3 (ix (t 0 0)) (t 1 0)) 4 (ix ((up2 t 3 (ix (t 0 0)) (t 1 0)) 0 0)) kd) 0 0)) od) 6 (ix ((up2 (up2 (up2 t 3 (ix (t 0 0)) (t 1 0)) 4 (ix ((up2 t 3 (ix (t 0 0)) (t 1 0)) 0 0)) kd) 5 (ix ((up2 (up2 t 3 (ix (t 0 0)) (t 1 0)) 4 (ix ((up2 t 3 (ix (t 0 0)) (t 1 0)) 0 0)) kd) 0 0)) od) 0 0)) ms) 7 (ix ((up2 (up2 (up2 (up2 t 3 (ix (t 0 0)) (t 1 0)) 4 (ix ((up2 t 3 (ix (t 0 0)) (t 1 0)) 0 0)) kd) 5 (ix ((up2 (up2 t 3 (ix (t 0 0)) (t 1 0)) 4 (ix ((up2 t 3 (ix (t 0 0)) (t 1 0)) 0 0)) kd) 0 0)) od) 6 (ix ((up2 (up2 (up2 t 3 (ix (t 0 0)) (t 1 0)) 4 (ix ((up2 t 3 (ix (t 0 0)) (t 1 0)) 0 0)) kd) 5 (ix ((up2 (up2 t 3 (ix (t 0 0)) (t 1 0)) 4 (ix ((up2 t 3 (ix (t 0 0)) (t 1 0)) 0 0)) kd) 0 0)) od) 0 0)) ms) 0 0)) aa) 8 (ix ((up2 (up2 (up2 (up2 (up2 t 3 (ix (t 0 0)) (t 1 0)) 4 (ix ((up2 t 3 (ix (t 0 0)) (t 1 0)) 0 0)) kd) 5 (ix ((up2 (up2 t 3 (ix (t 0 0)) (t 1 0)) 4 (ix ((up2 t 3 (ix (t 0 0)) (t 1 0)) 0 0)) kd) 0 0)) od) 6 (ix ((up2 (up2 (up2 t 3 (ix (t 0 0)) (t 1 0)) 4 (ix ((up2 t 3 (ix (t 0 0)) (t 1 0)) 0 0)) kd) 5 (ix ((up2 (up2 t 3 (ix (t 0 0)) (t 1 0)) 4 (ix ((up2 t 3 (ix (t 0 0)) (t 1 0)) 0 0)) kd) 0 0)) od) 0 0)) ms) 7 (ix ((up2 (up2 (up2 (up2 t 3 (ix (t 0 0)) (t 1 0)) 4 (ix ((up2 t 3 (ix (t 0 0)) (t 1 0)) 0 0)) kd) 5 (ix ((up2 (up2 t 3 (ix (t 0 0)) (t 1 0)) 4 (ix ((up2 t 3 (ix (t 0 0)) (t 1 0)) 0 0)) kd) 0 0)) od) 6 (ix ((up2 (up2 (up2 t 3 (ix (t 0 0)) (t 1 0)) 4 (ix ((up2 t 3 (ix (t 0 0)) (t 1 0)) 0 0)) kd) 5 (ix ((up2 (up2 t 3 (ix (t 0 0)) (t 1 0)) 4 (ix ((up2 t 3 (ix (t 0 0)) (t 1 0)) 0 0)) kd) 0 0)) od) 0 0)) ms) 0 0)) aa) 0 0)) bb) 0 0)) 0) 0 0 (((up2 (up2 (up2 (up2 (up2 (up2 (up2 t 3 (ix (t 0 0)) (t 1 0)) 4 (ix ((up2 t 3 (ix (t 0 0)) (t 1 0)) 0 0)) kd) 5 (ix ((up2 (up2 t 3 (ix (t 0 0)) (t 1 0)) 4 (ix ((up2 t 3 (ix (t 0 0)) (t 1 0)) 0 0)) kd) 0 0)) od) 6 (ix ((up2 (up2 (up2 t 3 (ix (t 0 0)) (t 1 0)) 4 (ix ((up2 t 3 (ix (t 0 0)) (t 1 0)) 0 0)) kd) 5 (ix ((up2 (up2 t 3 (ix (t 0 0)) (t 1 0)) 4 (ix ((up2 t 3 (ix (t 0 0)) (t 1 0)) 0 0)) kd) 0 0)) od) 0 0)) ms) 7 (ix ((up2 (up2 (up2 (up2 t 3 (ix (t 0 0)) (t 1 0)) 4 (ix ((up2 t 3 (ix (t 0 0)) (t 1 0)) 0 0)) kd) 5 (ix ((up2 (up2 t 3 (ix (t 0 0)) (t 1 0)) 4 (ix ((up2 t 3 (ix (t 0 0)) (t 1 0)) 0 0)) kd) 0 0)) od) 6 (ix ((up2 (up2 (up2 t 3 (ix (t 0 0)) (t 1 0)) 4 (ix ((up2 t 3 (ix (t 0 0)) (t 1 0)) 0 0)) kd) 5 (ix ((up2 (up2 t 3 (ix (t 0 0)) (t 1 0)) 4 (ix ((up2 t 3 (ix (t 0 0)) (t 1 0)) 0 0)) kd) 0 0)) od) 0 0)) ms) 0 0)) aa) 8 (ix ((up2 (up2 (up2 (up2 (up2 t 3 (ix (t 0 0)) (t 1 0)) 4 (ix ((up2 t 3 (ix (t 0 0)) (t 1 0)) 0 0)) kd) 5 (ix ((up2 (up2 t 3 (ix (t 0 0)) (t 1 0)) 4 (ix ((up2 t 3 (ix (t 0 0)) (t 1 0)) 0 0)) kd) 0 0)) od) 6 (ix ((up2 (up2 (up2 t 3 (ix (t 0 0)) (t 1 0)) 4 (ix ((up2 t 3 (ix (t 0 0)) (t 1 0)) 0 0)) kd) 5 (ix ((up2 (up2 t 3 (ix (t 0 0)) (t 1 0)) 4 (ix ((up2 t 3 (ix (t 0 0)) (t 1 0)) 0 0)) kd) 0 0)) od) 0 0)) ms) 7 (ix ((up2 (up2 (up2 (up2 t 3 (ix (t 0 0)) (t 1 0)) 4 (ix ((up2 t 3 (ix (t 0 0)) (t 1 0)) 0 0)) kd) 5 (ix ((up2 (up2 t 3 (ix (t 0 0)) (t 1 0)) 4 (ix ((up2 t 3 (ix (t 0 0)) (t 1 0)) 0 0)) kd) 0 0)) od) 6 (ix ((up2 (up2 (up2 t 3 (ix (t 0 0)) (t 1 0)) 4 (ix ((up2 t 3 (ix (t 0 0)) (t 1 0)) 0 0)) kd) 5 (ix ((up2 (up2 t 3 (ix (t 0 0)) (t 1 0)) 4 (ix ((up2 t 3 (ix (t 0 0)) (t 1 0)) 0 0)) kd) 0 0)) od) 0 0)) ms) 0 0)) aa) 0 0)) bb) 9 (ix ((up2 (up2 (up2 (up2 (up2 (up2 t 3 (ix (t 0 0)) (t 1 0)) 4 (ix ((up2 t 3 (ix (t 0 0)) (t 1 0)) 0 0)) kd) 5 (ix ((up2 (up2 t 3 (ix (t 0 0)) (t 1 0)) 4 (ix ((up2 t 3 (ix (t 0 0)) (t 1 0)) 0 0)) kd) 0 0)) od) 6 (ix ((up2 (up2 (up2 t 3 (ix (t 0 0)) (t 1 0)) 4 (ix ((up2 t 3 (ix (t 0 0)) (t 1 0)) 0 0)) kd) 5 (ix ((up2 (up2 t 3 (ix (t 0 0)) (t 1 0)) 4 (ix ((up2 t 3 (ix (t 0 0)) (t 1 0)) 0 0)) kd) 0 0)) od) 0 0)) ms) 7 (ix ((up2 (up2 (up2 (up2 t 3 (ix (t 0 0)) (t 1 0)) 4 (ix ((up2 t 3 (ix (t 0 0)) (t 1 0)) 0 0)) kd) 5 (ix ((up2 (up2 t 3 (ix (t 0 0)) (t 1 0)) 4 (ix ((up2 t 3 (ix (t 0 0)) (t 1 0)) 0 0)) kd) 0 0)) od) 6 (ix ((up2 (up2 (up2 t 3 (ix (t 0 0)) (t 1 0)) 4 (ix ((up2 t 3 (ix (t 0 0)) (t 1 0)) 0 0)) kd) 5 (ix ((up2 (up2 t 3 (ix (t 0 0)) (t 1 0)) 4 (ix ((up2 t 3 (ix (t 0 0)) (t 1 0)) 0 0)) kd) 0 0)) od) 0 0)) ms) 0 0)) aa) 8 (ix ((up2 (up2 (up2 (up2 (up2 t 3 (ix (t 0 0)) (t 1 0)) 4 (ix ((up2 t 3 (ix (t 0 0)) (t 1 0)) 0 0)) kd) 5 (ix ((up2 (up2 t 3 (ix (t 0 0)) (t 1 0)) 4 (ix ((up2 t 3 (ix (t 0 0)) (t 1 0)) 0 0)) kd) 0 0)) od) 6 (ix ((up2 (up2 (up2 t 3 (ix (t 0 0)) (t 1 0)) 4 (ix ((up2 t 3 (ix (t 0 0)) (t 1 0)) 0 0)) kd) 5 (ix ((up2 (up2 t 3 (ix (t 0 0)) (t 1 0)) 4 (ix ((up2 t 3 (ix (t 0 0)) (t 1 0)) 0 0)) kd) 0 0)) od) 0 0)) ms) 7 (ix ((up2 (up2 (up2 (up2 t 3 (ix (t 0 0)) (t 1 0)) 4 (ix ((up2 t 3 (ix (t 0 0)) (t 1 0)) 0 0)) kd) 5 (ix ((up2 (up2 t 3 (ix (t 0 0)) (t 1 0)) 4 (ix ((up2 t 3 (ix (t 0 0)) (t 1 0)) 0 0)) kd) 0 0)) od) 6 (ix ((up2 (up2 (up2 t 3 (ix (t 0 0)) (t 1 0)) 4 (ix ((up2 t 3 (ix (t 0 0)) (t 1 0)) 0 0)) kd) 5 (ix ((up2 (up2 t 3 (ix (t 0 0)) (t 1 0)) 4 (ix ((up2 t 3 (ix (t 0 0)) (t 1 0)) 0 0)) kd) 0 0)) od) 0 0)) ms) 0 0)) aa) 0 0)) bb) 0 0)) 0) 0 0) + 1)) 1 0) + 1)) 1 0) - 1, (up2 (up2 (up2 (up2 (up2 (up2 (up2 (up2 (up2 t 3 (ix (t 0 0)) (t 1 0)) 4 (ix ((up2 t 3 (ix (t 0 0)) (t 1 0)) 0 0)) kd) 5 (ix ((up2 (up2 t 3 (ix (t 0 0)) (t 1 0)) 4 (ix ((up2 t 3 (ix (t 0 0)) (t 1 0)) 0 0)) kd) 0 0)) od) 6 (ix ((up2 (up2 (up2 t 3 (ix (t 0 0)) (t 1 0)) 4 (ix ((up2 t 3 (ix (t 0 0)) (t 1 0)) 0 0)) kd) 5 (ix ((up2 (up2 t 3 (ix (t 0 0)) (t 1 0)) 4 (ix ((up2 t 3 (ix (t 0 0)) (t 1 0)) 0 0)) kd) 0 0)) od) 0 0)) ms) 7 (ix ((up2 (up2 (up2 (up2 t 3 (ix (t 0 0)) (t 1 0)) 4 (ix ((up2 t 3 (ix (t 0 0)) (t 1 0)) 0 0)) kd) 5 (ix ((up2 (up2 t 3 (ix (t 0 0)) (t 1 0)) 4 (ix ((up2 t 3 (ix (t 0 0)) (t 1 0)) 0 0)) kd) 0 0)) od) 6 (ix ((up2 (up2 (up2 t 3 (ix (t 0 0)) (t 1 0)) 4 (ix ((up2 t 3 (ix (t 0 0)) (t 1 0)) 0 0)) kd) 5 (ix ((up2 (up2 t 3 (ix (t 0 0)) (t 1 0)) 4 (ix ((up2 t 3 (ix (t 0 0)) (t 1 0)) 0 0)) kd) 0 0)) od) 0 0)) ms) 0 0)) aa) 8 (ix ((up2 (up2 (up2 (up2 (up2 t 3 (ix (t 0 0)) (t 1 0)) 4 (ix ((up2 t 3 (ix (t 0 0)) (t 1 0)) 0 0)) kd) 5 (ix ((up2 (up2 t 3 (ix (t 0 0)) (t 1 0)) 4 (ix ((up2 t 3 (ix (t 0 0)) (t 1 0)) 0 0)) kd) 0 0)) od) 6 (ix ((up2 (up2 (up2 t 3 (ix (t 0 0)) (t 1 0)) 4 (ix ((up2 t 3 (ix (t 0 0)) (t 1 0)) 0 0)) kd) 5 (ix ((up2 (up2 t 3 (ix (t 0 0)) (t 1 0)) 4 (ix ((up2 t 3 (ix (t 0 0)) (t 1 0)) 0 0)) kd) 0 0)) od) 0 0)) ms) 7 (ix ((up2 (up2 (up2 (up2 t 3 (ix (t 0 0)) (t 1 0)) 4 (ix ((up2 t 3 (ix (t 0 0)) (t 1 0)) 0 0)) kd) 5 (ix ((up2 (up2 t 3 (ix (t 0 0)) (t 1 0)) 4 (ix ((up2 t 3 (ix (t 0 0)) (t 1 0)) 0 0)) kd) 0 0)) od) 6 (ix ((up2 (up2 (up2 t 3 (ix (t 0 0)) (t 1 0)) 4 (ix ((up2 t 3 (ix (t 0 0)) (t 1 0)) 0 0)) kd) 5 (ix ((up2 (up2 t 3 (ix (t 0 0)) (t 1 0)) 4 (ix ((up2 t 3 (ix (t 0 0)) (t 1 0)) 0 0)) kd) 0 0)) od) 0 0)) ms) 0 0)) aa) 0 0)) bb) 9 (ix ((up2 (up2 (up2 (up2 (up2 (up2 t 3 (ix (t 0 0)) (t 1 0)) 4 (ix ((up2 t 3 (ix (t 0 0)) (t 1 0)) 0 0)) kd) 5 (ix ((up2 (up2 t 3 (ix (t 0 0)) (t 1 0)) 4 (ix ((up2 t 3 (ix (t 0 0)) (t 1 0)) 0 0)) kd) 0 0)) od) 6 (ix ((up2 (up2 (up2 t 3 (ix (t 0 0)) (t 1 0)) 4 (ix ((up2 t 3 (ix (t 0 0)) (t 1 0)) 0 0)) kd) 5 (ix ((up2 (up2 t 3 (ix (t 0 0)) (t 1 0)) 4 (ix ((up2 t 3 (ix (t 0 0)) (t 1 0)) 0 0)) kd) 0 0)) od) 0 0)) ms) 7 (ix ((up2 (up2 (up2 (up2 t 3 (ix (t 0 0)) (t 1 0)) 4 (ix ((up2 t 3 (ix (t 0 0)) (t 1 0)) 0 0)) kd) 5 (ix ((up2 (up2 t 3 (ix (t 0 0)) (t 1 0)) 4 (ix ((up2 t 3 (ix (t 0 0)) (t 1 0)) 0 0)) kd) 0 0)) od) 6 (ix ((up2 (up2 (up2 t 3 (ix (t 0 0)) (t 1 0)) 4 (ix ((up2 t 3 (ix (t 0 0)) (t 1 0)) 0 0)) kd) 5 (ix ((up2 (up2 t 3 (ix (t 0 0)) (t 1 0)) 4 (ix ((up2 t 3 (ix (t 0 0)) (t 1 0)) 0 0)) kd) 0 0)) od) 0 0)) ms) 0 0)) aa) 8 (ix ((up2 (up2 (up2 (up2 (up2 t 3 (ix (t 0 0)) (t 1 0)) 4 (ix ((up2 t 3 (ix (t 0 0)) (t 1 0)) 0 0)) kd) 5 (ix ((up2 (up2 t 3 (ix (t 0 0)) (t 1 0)) 4 (ix ((up2 t 3 (ix (t 0 0)) (t 1 0)) 0 0)) kd) 0 0)) od) 6 (ix ((up2 (up2 (up2 t 3 (ix (t 0 0)) (t 1 0)) 4 (ix ((up2 t 3 (ix (t 0 0)) (t 1 0)) 0 0)) kd) 5 (ix ((up2 (up2 t 3 (ix (t 0 0)) (t 1 0)) 4 (ix ((up2 t 3 (ix (t 0 0)) (t 1 0)) 0 0)) kd) 0 0)) od) 0 0)) ms) 7 (ix ((up2 (up2 (up2 (up2 t 3 (ix (t 0 0)) (t 1 0)) 4 (ix ((up2 t 3 (ix (t 0 0)) (t 1 0)) 0 0)) kd) 5 (ix ((up2 (up2 t 3 (ix (t 0 0)) (t 1 0)) 4 (ix ((up2 t 3 (ix (t 0 0)) (t 1 0)) 0 0)) kd) 0 0)) od) 6 (ix ((up2 (up2 (up2 t 3 (ix (t 0 0)) (t 1 0)) 4 (ix ((up2 t 3 (ix (t 0 0)) (t 1 0)) 0 0)) kd) 5 (ix ((up2 (up2 t 3 (ix (t 0 0)) (t 1 0)) 4 (ix ((up2 t 3 (ix (t 0 0)) (t 1 0)) 0 0)) kd) 0 0)) od) 0 0)) ms) 0 0)) aa) 0 0)) bb) 0 0)) 0) 0 0 (((up2 (up2 (up2 (up2 (up2 (up2 (up2 t 3 (ix (t 0 0)) (t 1 0)) 4 (ix ((up2 t 3 (ix (t 0 0)) (t 1 0)) 0 0)) kd) 5 (ix ((up2 (up2 t 3 (ix (t 0 0)) (t 1 0)) 4 (ix ((up2 t 3 (ix (t 0 0)) (t 1 0)) 0 0)) kd) 0 0)) od) 6 (ix ((up2 (up2 (up2 t 3 (ix (t 0 0)) (t 1 0)) 4 (ix ((up2 t 3 (ix (t 0 0)) (t 1 0)) 0 0)) kd) 5 (ix ((up2 (up2 t 3 (ix (t 0 0)) (t 1 0)) 4 (ix ((up2 t 3 (ix (t 0 0)) (t 1 0)) 0 0)) kd) 0 0)) od) 0 0)) ms) 7 (ix ((up2 (up2 (up2 (up2 t 3 (ix (t 0 0)) (t 1 0)) 4 (ix ((up2 t 3 (ix (t 0 0)) (t 1 0)) 0 0)) kd) 5 (ix ((up2 (up2 t 3 (ix (t 0 0)) (t 1 0)) 4 (ix ((up2 t 3 (ix (t 0 0)) (t 1 0)) 0 0)) kd) 0 0)) od) 6 (ix ((up2 (up2 (up2 t 3 (ix (t 0 0)) (t 1 0)) 4 (ix ((up2 t 3 (ix (t 0 0)) (t 1 0)) 0 0)) kd) 5 (ix ((up2 (up2 t 3 (ix (t 0 0)) (t 1 0)) 4 (ix ((up2 t 3 (ix (t 0 0)) (t 1 0)) 0 0)) kd) 0 0)) od) 0 0)) ms) 0 0)) aa) 8 (ix ((up2 (up2 (up2 (up2 (up2 t 3 (ix (t 0 0)) (t 1 0)) 4 (ix ((up2 t 3 (ix (t 0 0)) (t 1 0)) 0 0)) kd) 5 (ix ((up2 (up2 t 3 (ix (t 0 0)) (t 1 0)) 4 (ix ((up2 t 3 (ix (t 0 0)) (t 1 0)) 0 0)) kd) 0 0)) od) 6 (ix ((up2 (up2 (up2 t 3 (ix (t 0 0)) (t 1 0)) 4 (ix ((up2 t 3 (ix (t 0 0)) (t 1 0)) 0 0)) kd) 5 (ix ((up2 (up2 t 3 (ix (t 0 0)) (t 1 0)) 4 (ix ((up2 t 3 (ix (t 0 0)) (t 1 0)) 0 0)) kd) 0 0)) od) 0 0)) ms) 7 (ix ((up2 (up2 (up2 (up2 t 3 (ix (t 0 0)) (t 1 0)) 4 (ix ((up2 t 3 (ix (t 0 0)) (t 1 0)) 0 0)) kd) 5 (ix ((up2 (up2 t 3 (ix (t 0 0)) (t 1 0)) 4 (ix ((up2 t 3 (ix (t 0 0)) (t 1 0)) 0 0)) kd) 0 0)) od) 6 (ix ((up2 (up2 (up2 t 3 (ix (t 0 0)) (t 1 0)) 4 (ix ((up2 t 3 (ix (t 0 0)) (t 1 0)) 0 0)) kd) 5 (ix ((up2 (up2 t 3 (ix (t 0 0)) (t 1 0)) 4 (ix ((up2 t 3 (ix (t 0 0)) (t 1 0)) 0 0)) kd) 0 0)) od) 0 0)) ms) 0 0)) aa) 0 0)) bb) 9 (ix ((up2 (up2 (up2 (up2 (up2 (up2 t 3 (ix (t 0 0)) (t 1 0)) 4 (ix ((up2 t 3 (ix (t 0 0)) (t 1 0)) 0 0)) kd) 5 (ix ((up2 (up2 t 3 (ix (t 0 0)) (t 1 0)) 4 (ix ((up2 t 3 (ix (t 0 0)) (t 1 0)) 0 0)) kd) 0 0)) od) 6 (ix ((up2 (up2 (up2 t 3 (ix (t 0 0)) (t 1 0)) 4 (ix ((up2 t 3 (ix (t 0 0)) (t 1 0)) 0 0)) kd) 5 (ix ((up2 (up2 t 3 (ix (t 0 0)) (t 1 0)) 4 (ix ((up2 t 3 (ix (t 0 0)) (t 1 0)) 0 0)) kd) 0 0)) od) 0 0)) ms) 7 (ix ((up2 (up2 (up2 (up2 t 3 (ix (t 0 0)) (t 1 0)) 4 (ix ((up2 t 3 (ix (t 0 0)) (t 1 0)) 0 0)) kd) 5 (ix ((up2 (up2 t 3 (ix (t 0 0)) (t 1 0)) 4 (ix ((up2 t 3 (ix (t 0 0)) (t 1 0)) 0 0)) kd) 0 0)) od) 6 (ix ((up2 (up2 (up2 t 3 (ix (t 0 0)) (t 1 0)) 4 (ix ((up2 t 3 (ix (t 0 0)) (t 1 0)) 0 0)) kd) 5 (ix ((up2 (up2 t 3 (ix (t 0 0)) (t 1 0)) 4 (ix ((up2 t 3 (ix (t 0 0)) (t 1 0)) 0 0)) kd) 0 0)) od) 0 0)) ms) 0 0)) aa) 8 (ix ((up2 (up2 (up2 (up2 (up2 t 3 (ix (t 0 0)) (t 1 0)) 4 (ix ((up2 t 3 (ix (t 0 0)) (t 1 0)) 0 0)) kd) 5 (ix ((up2 (up2 t 3 (ix (t 0 0)) (t 1 0)) 4 (ix ((up2 t 3 (ix (t 0 0)) (t 1 0)) 0 0)) kd) 0 0)) od) 6 (ix ((up2 (up2 (up2 t 3 (ix (t 0 0)) (t 1 0)) 4 (ix ((up2 t 3 (ix (t 0 0)) (t 1 0)) 0 0)) kd) 5 (ix ((up2 (up2 t 3 (ix (t 0 0)) (t 1 0)) 4 (ix ((up2 t 3 (ix (t 0 0)) (t 1 0)) 0 0)) kd) 0 0)) od) 0 0)) ms) 7 (ix ((up2 (up2 (up2 (up2 t 3 (ix (t 0 0)) (t 1 0)) 4 (ix ((up2 t 3 (ix (t 0 0)) (t 1 0)) 0 0)) kd) 5 (ix ((up2 (up2 t 3 (ix (t 0 0)) (t 1 0)) 4 (ix ((up2 t 3 (ix (t 0 0)) (t 1 0)) 0 0)) kd) 0 0)) od) 6 (ix ((up2 (up2 (up2 t 3 (ix (t 0 0)) (t 1 0)) 4 (ix ((up2 t 3 (ix (t 0 0)) (t 1 0)) 0 0)) kd) 5 (ix ((up2 (up2 t 3 (ix (t 0 0)) (t 1 0)) 4 (ix ((up2 t 3 (ix (t 0 0)) (t 1 0)) 0 0)) kd) 0 0)) od) 0 0)) ms) 0 0)) aa) 0 0)) bb) 0 0)) 0) 0 0) + 1)) 1 0 (((up2 (up2 (up2 (up2 (up2 (up2 (up2 (up2 t 3 (ix (t 0 0)) (t 1 0)) 4 (ix ((up2 t 3 (ix (t 0 0)) (t 1 0)) 0 0)) kd) 5 (ix ((up2 (up2 t 3 (ix (t 0 0)) (t 1 0)) 4 (ix ((up2 t 3 (ix (t 0 0)) (t 1 0)) 0 0)) kd) 0 0)) od) 6 (ix ((up2 (up2 (up2 t 3 (ix (t 0 0)) (t 1 0)) 4 (ix ((up2 t 3 (ix (t 0 0)) (t 1 0)) 0 0)) kd) 5 (ix ((up2 (up2 t 3 (ix (t 0 0)) (t 1 0)) 4 (ix ((up2 t 3 (ix (t 0 0)) (t 1 0)) 0 0)) kd) 0 0)) od) 0 0)) ms) 7 (ix ((up2 (up2 (up2 (up2 t 3 (ix (t 0 0)) (t 1 0)) 4 (ix ((up2 t 3 (ix (t 0 0)) (t 1 0)) 0 0)) kd) 5 (ix ((up2 (up2 t 3 (ix (t 0 0)) (t 1 0)) 4 (ix ((up2 t 3 (ix (t 0 0)) (t 1 0)) 0 0)) kd) 0 0)) od) 6 (ix ((up2 (up2 (up2 t 3 (ix (t 0 0)) (t 1 0)) 4 (ix ((up2 t 3 (ix (t 0 0)) (t 1 0)) 0 0)) kd) 5 (ix ((up2 (up2 t 3 (ix (t 0 0)) (t 1 0)) 4 (ix ((up2 t 3 (ix (t 0 0)) (t 1 0)) 0 0)) kd) 0 0)) od) 0 0)) ms) 0 0)) aa) 8 (ix ((up2 (up2 (up2 (up2 (up2 t 3 (ix (t 0 0)) (t 1 0)) 4 (ix ((up2 t 3 (ix (t 0 0)) (t 1 0)) 0 0)) kd) 5 (ix ((up2 (up2 t 3 (ix (t 0 0)) (t 1 0)) 4 (ix ((up2 t 3 (ix (t 0 0)) (t 1 0)) 0 0)) kd) 0 0)) od) 6 (ix ((up2 (up2 (up2 t 3 (ix (t 0 0)) (t 1 0)) 4 (ix ((up2 t 3 (ix (t 0 0)) (t 1 0)) 0 0)) kd) 5 (ix ((up2 (up2 t 3 (ix (t 0 0)) (t 1 0)) 4 (ix ((up2 t 3 (ix (t 0 0)) (t 1 0)) 0 0)) kd) 0 0)) od) 0 0)) ms) 7 (ix ((up2 (up2 (up2 (up2 t 3 (ix (t 0 0)) (t 1 0)) 4 (ix ((up2 t 3 (ix (t 0 0)) (t 1 0)) 0 0)) kd) 5 (ix ((up2 (up2 t 3 (ix (t 0 0)) (t 1 0)) 4 (ix ((up2 t 3 (ix (t 0 0)) (t 1 0)) 0 0)) kd) 0 0)) od) 6 (ix ((up2 (up2 (up2 t 3 (ix (t 0 0)) (t 1 0)) 4 (ix ((up2 t 3 (ix (t 0 0)) (t 1 0)) 0 0)) kd) 5 (ix ((up2 (up2 t 3 (ix (t 0 0)) (t 1 0)) 4 (ix ((up2 t 3 (ix (t 0 0)) (t 1 0)) 0 0)) kd) 0 0)) od) 0 0)) ms) 0 0)) aa) 0 0)) bb) 9 (ix ((up2 (up2 (up2 (up2 (up2 (up2 t 3 (ix (t 0 0)) (t 1 0)) 4 (ix ((up2 t 3 (ix (t 0 0)) (t 1 0)) 0 0)) kd) 5 (ix ((up2 (up2 t 3 (ix (t 0 0)) (t 1 0)) 4 (ix ((up2 t 3 (ix (t 0 0)) (t 1 0)) 0 0)) kd) 0 0)) od) 6 (ix ((up2 (up2 (up2 t 3 (ix (t 0 0)) (t 1 0)) 4 (ix ((up2 t 3 (ix (t 0 0)) (t 1 0)) 0 0)) kd) 5 (ix ((up2 (up2 t 3 (ix (t 0 0)) (t 1 0)) 4 (ix ((up2 t 3 (ix (t 0 0)) (t 1 0)) 0 0)) kd) 0 0)) od) 0 0)) ms) 7 (ix ((up2 (up2 (up2 (up2 t 3 (ix (t 0 0)) (t 1 0)) 4 (ix ((up2 t 3 (ix (t 0 0)) (t 1 0)) 0 0)) kd) 5 (ix ((up2 (up2 t 3 (ix (t 0 0)) (t 1 0)) 4 (ix ((up2 t 3 (ix (t 0 0)) (t 1 0)) 0 0)) kd) 0 0)) od) 6 (ix ((up2 (up2 (up2 t 3 (ix (t 0 0)) (t 1 0)) 4 (ix ((up2 t 3 (ix (t 0 0)) (t 1 0)) 0 0)) kd) 5 (ix ((up2 (up2 t 3 (ix (t 0 0)) (t 1 0)) 4 (ix ((up2 t 3 (ix (t 0 0)) (t 1 0)) 0 0)) kd) 0 0)) od) 0 0)) ms) 0 0)) aa) 8 (ix ((up2 (up2 (up2 (up2 (up2 t 3 (ix (t 0 0)) (t 1 0)) 4 (ix ((up2 t 3 (ix (t 0 0)) (t 1 0)) 0 0)) kd) 5 (ix ((up2 (up2 t 3 (ix (t 0 0)) (t 1 0)) 4 (ix ((up2 t 3 (ix (t 0 0)) (t 1 0)) 0 0)) kd) 0 0)) od) 6 (ix ((up2 (up2 (up2 t 3 (ix (t 0 0)) (t 1 0)) 4 (ix ((up2 t 3 (ix (t 0 0)) (t 1 0)) 0 0)) kd) 5 (ix ((up2 (up2 t 3 (ix (t 0 0)) (t 1 0)) 4 (ix ((up2 t 3 (ix (t 0 0)) (t 1 0)) 0 0)) kd) 0 0)) od) 0 0)) ms) 7 (ix ((up2 (up2 (up2 (up2 t 3 (ix (t 0 0)) (t 1 0)) 4 (ix ((up2 t 3 (ix (t 0 0)) (t 1 0)) 0 0)) kd) 5 (ix ((up2 (up2 t 3 (ix (t 0 0)) (t 1 0)) 4 (ix ((up2 t 3 (ix (t 0 0)) (t 1 0)) 0 0)) kd) 0 0)) od) 6 (ix ((up2 (up2 (up2 t 3 (ix (t 0 0)) (t 1 0)) 4 (ix ((up2 t 3 (ix (t 0 0)) (t 1 0)) 0 0)) kd) 5 (ix ((up2 (up2 t 3 (ix (t 0 0)) (t 1 0)) 4 (ix ((up2 t 3 (ix (t 0 0)) (t 1 0)) 0 0)) kd) 0 0)) od) 0 0)) ms) 0 0)) aa) 0 0)) bb) 0 0)) 0) 0 0 (((up2 (up2 (up2 (up2 (up2 (up2 (up2 t 3 (ix (t 0 0)) (t 1 0)) 4 (ix ((up2 t 3 (ix (t 0 0)) (t 1 0)) 0 0)) kd) 5 (ix ((up2 (up2 t 3 (ix (t 0 0)) (t 1 0)) 4 (ix ((up2 t 3 (ix (t 0 0)) (t 1 0)) 0 0)) kd) 0 0)) od) 6 (ix ((up2 (up2 (up2 t 3 (ix (t 0 0)) (t 1 0)) 4 (ix ((up2 t 3 (ix (t 0 0)) (t 1 0)) 0 0)) kd) 5 (ix ((up2 (up2 t 3 (ix (t 0 0)) (t 1 0)) 4 (ix ((up2 t 3 (ix (t 0 0)) (t 1 0)) 0 0)) kd) 0 0)) od) 0 0)) ms) 7 (ix ((up2 (up2 (up2 (up2 t 3 (ix (t 0 0)) (t 1 0)) 4 (ix ((up2 t 3 (ix (t 0 0)) (t 1 0)) 0 0)) kd) 5 (ix ((up2 (up2 t 3 (ix (t 0 0)) (t 1 0)) 4 (ix ((up2 t 3 (ix (t 0 0)) (t 1 0)) 0 0)) kd) 0 0)) od) 6 (ix ((up2 (up2 (up2 t 3 (ix (t 0 0)) (t 1 0)) 4 (ix ((up2 t 3 (ix (t 0 0)) (t 1 0)) 0 0)) kd) 5 (ix ((up2 (up2 t 3 (ix (t 0 0)) (t 1 0)) 4 (ix ((up2 t 3 (ix (t 0 0)) (t 1 0)) 0 0)) kd) 0 0)) od) 0 0)) ms) 0 0)) aa) 8 (ix ((up2 (up2 (up2 (up2 (up2 t 3 (ix (t 0 0)) (t 1 0)) 4 (ix ((up2 t 3 (ix (t 0 0)) (t 1 0)) 0 0)) kd) 5 (ix ((up2 (up2 t 3 (ix (t 0 0)) (t 1 0)) 4 (ix ((up2 t 3 (ix (t 0 0)) (t 1 0)) 0 0)) kd) 0 0)) od) 6 (ix ((up2 (up2 (up2 t 3 (ix (t 0 0)) (t 1 0)) 4 (ix ((up2 t 3 (ix (t 0 0)) (t 1 0)) 0 0)) kd) 5 (ix ((up2 (up2 t 3 (ix (t 0 0)) (t 1 0)) 4 (ix ((up2 t 3 (ix (t 0 0)) (t 1 0)) 0 0)) kd) 0 0)) od) 0 0)) ms) 7 (ix ((up2 (up2 (up2 (up2 t 3 (ix (t 0 0)) (t 1 0)) 4 (ix ((up2 t 3 (ix (t 0 0)) (t 1 0)) 0 0)) kd) 5 (ix ((up2 (up2 t 3 (ix (t 0 0)) (t 1 0)) 4 (ix ((up2 t 3 (ix (t 0 0)) (t 1 0)) 0 0)) kd) 0 0)) od) 6 (ix ((up2 (up2 (up2 t 3 (ix (t 0 0)) (t 1 0)) 4 (ix ((up2 t 3 (ix (t 0 0)) (t 1 0)) 0 0)) kd) 5 (ix ((up2 (up2 t 3 (ix (t 0 0)) (t 1 0)) 4 (ix ((up2 t 3 (ix (t 0 0)) (t 1 0)) 0 0)) kd) 0 0)) od) 0 0)) ms) 0 0)) aa) 0 0)) bb) 9 (ix ((up2 (up2 (up2 (up2 (up2 (up2 t 3 (ix (t 0 0)) (t 1 0)) 4 (ix ((up2 t 3 (ix (t 0 0)) (t 1 0)) 0 0)) kd) 5 (ix ((up2 (up2 t 3 (ix (t 0 0)) (t 1 0)) 4 (ix ((up2 t 3 (ix (t 0 0)) (t 1 0)) 0 0)) kd) 0 0)) od) 6 (ix ((up2 (up2 (up2 t 3 (ix (t 0 0)) (t 1 0)) 4 (ix ((up2 t 3 (ix (t 0 0)) (t 1 0)) 0 0)) kd) 5 (ix ((up2 (up2 t 3 (ix (t 0 0)) (t 1 0)) 4 (ix ((up2 t 3 (ix (t 0 0)) (t 1 0)) 0 0)) kd) 0 0)) od) 0 0)) ms) 7 (ix ((up2 (up2 (up2 (up2 t 3 (ix (t 0 0)) (t 1 0)) 4 (ix ((up2 t 3 (ix (t 0 0)) (t 1 0)) 0 0)) kd) 5 (ix ((up2 (up2 t 3 (ix (t 0 0)) (t 1 0)) 4 (ix ((up2 t 3 (ix (t 0 0)) (t 1 0)) 0 0)) kd) 0 0)) od) 6 (ix ((up2 (up2 (up2 t 3 (ix (t 0 0)) (t 1 0)) 4 (ix ((up2 t 3 (ix (t 0 0)) (t 1 0)) 0 0)) kd) 5 (ix ((up2 (up2 t 3 (ix (t 0 0)) (t 1 0)) 4 (ix ((up2 t 3 (ix (t 0 0)) (t 1 0)) 0 0)) kd) 0 0)) od) 0 0)) ms) 0 0)) aa) 8 (ix ((up2 (up2 (up2 (up2 (up2 t 3 (ix (t 0 0)) (t 1 0)) 4 (ix ((up2 t 3 (ix (t 0 0)) (t 1 0)) 0 0)) kd) 5 (ix ((up2 (up2 t 3 (ix (t 0 0)) (t 1 0)) 4 (ix ((up2 t 3 (ix (t 0 0)) (t 1 0)) 0 0)) kd) 0 0)) od) 6 (ix ((up2 (up2 (up2 t 3 (ix (t 0 0)) (t 1 0)) 4 (ix ((up2 t 3 (ix (t 0 0)) (t 1 0)) 0 0)) kd) 5 (ix ((up2 (up2 t 3 (ix (t 0 0)) (t 1 0)) 4 (ix ((up2 t 3 (ix (t 0 0)) (t 1 0)) 0 0)) kd) 0 0)) od) 0 0)) ms) 7 (ix ((up2 (up2 (up2 (up2 t 3 (ix (t 0 0)) (t 1 0)) 4 (ix ((up2 t 3 (ix (t 0 0)) (t 1 0)) 0 0)) kd) 5 (ix ((up2 (up2 t 3 (ix (t 0 0)) (t 1 0)) 4 (ix ((up2 t 3 (ix (t 0 0)) (t 1 0)) 0 0)) kd) 0 0)) od) 6 (ix ((up2 (up2 (up2 t 3 (ix (t 0 0)) (t 1 0)) 4 (ix ((up2 t 3 (ix (t 0 0)) (t 1 0)) 0 0)) kd) 5 (ix ((up2 (up2 t 3 (ix (t 0 0)) (t 1 0)) 4 (ix ((up2 t 3 (ix (t 0 0)) (t 1 0)) 0 0)) kd) 0 0)) od) 0 0)) ms) 0 0)) aa) 0 0)) bb) 0 0)) 0) 0 0) + 1)) 1 0) + 1))) := by
              unfold qAdvise
              try dsimp only
              first | rw [if_pos h1] | rw [if_neg h1] | rw [if_pos (by exact h1)] | rw [if_neg (by exact h1)] | rw [if_neg (by exact z_nle h1)] | rw [if_pos (by exact z_le h1)] | rw [if_neg (by exact z_nlt h1)] | rw [if_pos (by exact z_lt h1)] | rw [if_neg (by exact tf_t h1)] | rw [if_neg (by exact tf_f h1)] | rw [h1] | skip
              first | rw [if_pos h2] | rw [if_neg h2] | rw [if_pos (by exact h2)] | rw [if_neg (by exact h2)] | rw [if_neg (by exact z_nle h2)] | rw [if_pos (by exact z_le h2)] | rw [if_neg (by exact z_nlt h2)] | rw [if_pos (by exact z_lt h2)] | rw [if_neg (by exact tf_t h2)] | rw [if_neg (by exact tf_f h2)] | rw [h2] | skip
              first | rw [if_pos h3] | rw [if_neg h3] | rw [if_pos (by exact h3)] | rw [if_neg (by exact h3)] | rw [if_neg (by exact z_nle h3)] | rw [if_pos (by exact z_le h3)] | rw [if_neg (by exact z_nlt h3)] | rw [if_pos (by exact z_lt h3)] | rw [if_neg (by exact tf_t h3)] | rw [if_neg (by exact tf_f h3)] | rw [h3] | skip
              first | rw [if_pos h4] | rw [if_neg h4] | rw [if_pos (by exact h4)] | rw [if_neg (by exact h4)] | rw [if_neg (by exact z_nle h4)] | rw [if_pos (by exact z_le h4)] | rw [if_neg (by exact z_nlt h4)] | rw [if_pos (by exact z_lt h4)] | rw [if_neg (by exact tf_t h4)] | rw [if_neg (by exact tf_f h4)] | rw [h4] | skip
              first | rw [if_pos h5] | rw [if_neg h5] | rw [if_pos (by exact h5)] | rw [if_neg (by exact h5)] | rw [if_neg (by exact z_nle h5)] | rw [if_pos (by exact z_le h5)] | rw [if_neg (by exact z_nlt h5)] | rw [if_pos (by exact z_lt h5)] | rw [if_neg (by exact tf_t h5)] | rw [if_neg (by exact tf_f h5)] | rw [h5] | skip
              try rfl
            exact vv_iret C hr hlk (by rw [hE] <;> rfl) (by rw [hE] <;> rfl) d_M_advise_150
          · skip
            replace h5 := bI_f h5
            refine vv_iconst C (-1) d_M_advise_47 (by decide) ?_
            have hE : qAdvise t kd od ms aa bb = (-1, t) := by
              unfold qAdvise
              try dsimp only
              first | rw [if_pos h1] | rw [if_neg h1] | rw [if_pos (by exact h1)] | rw [if_neg (by exact h1)] | rw [if_neg (by exact z_nle h1)] | rw [if_pos (by exact z_le h1)] | rw [if_neg (by exact z_nlt h1)] | rw [if_pos (by exact z_lt h1)] | rw [if_neg (by exact tf_t h1)] | rw [if_neg (by exact tf_f h1)] | rw [h1] | skip
              first | rw [if_pos h2] | rw [if_neg h2] | rw [if_pos (by exact h2)] | rw [if_neg (by exact h2)] | rw [if_neg (by exact z_nle h2)] | rw [if_pos (by exact z_le h2)] | rw [if_neg (by exact z_nlt h2)] | rw [if_pos (by exact z_lt h2)] | rw [if_neg (by exact tf_t h2)] | rw [if_neg (by exact tf_f h2)] | rw [h2] | skip
              first | rw [if_pos h3] | rw [if_neg h3] | rw [if_pos (by exact h3)] | rw [if_neg (by exact h3)] | rw [if_neg (by exact z_nle h3)] | rw [if_pos (by exact z_le h3)] | rw [if_neg (by exact z_nlt h3)] | rw [if_pos (by exact z_lt h3)] | rw [if_neg (by exact tf_t h3)] | rw [if_neg (by exact tf_f h3)] | rw [h3] | skip
              first | rw [if_pos h4] | rw [if_neg h4] | rw [if_pos (by exact h4)] | rw [if_neg (by exact h4)] | rw [if_neg (by exact z_nle h4)] | rw [if_pos (by exact z_le h4)] | rw [if_neg (by exact z_nlt h4)] | rw [if_pos (by exact z_lt h4)] | rw [if_neg (by exact tf_t h4)] | rw [if_neg (by exact tf_f h4)] | rw [h4] | skip
              first | rw [if_pos h5] | rw [if_neg h5] | rw [if_pos (by exact h5)] | rw [if_neg (by exact h5)] | rw [if_neg (by exact z_nle h5)] | rw [if_pos (by exact z_le h5)] | rw [if_neg (by exact z_nlt h5)] | rw [if_pos (by exact z_lt h5)] | rw [if_neg (by exact tf_t h5)] | rw [if_neg (by exact tf_f h5)] | rw [h5] | skip
              try rfl
            exact vv_iret C hr hlk (by rw [hE] <;> rfl) (by rw [hE] <;> rfl) d_M_advise_48
set_option maxHeartbeats 4000000 in
set_option maxRecDepth 100000 in
theorem c_M_find (l : Launch) (Γ : Geo) (t : M2) (h0 : ∃ n, n ≤ 6 ∧ t 0 0 = nI n) (x : Int32) : CtM l Γ y_M_find b_M_find 4 (some .int) 0 [.ref (Γ.2.1 27), .int x] t (some (.int (qFind t x))) t := by
  refine ct_of (by decide +kernel) (Nat.le_of_ble_eq_true rfl) ?_
  intro p e s m args below meth c C hr hlk
  obtain ⟨n, hn, e0⟩ := h0
  have loop : ∀ (f p2 : Nat) (at_ : Int32), p2 ≤ n → n - p2 < f → qFind t x = qFindL t x f (nI p2) at_ → VV p l e (rmD 0) s m args below meth c 0 0 (MQ below (ctQ Γ.1 clA (inM Γ) (some (.int (qFind t x))) (wM Γ t)) args s 0 0 (inM Γ)) 4 Γ.1 clA (inM Γ) s.heap (wM Γ t) 4 [(3, .int (nI p2)), (2, .int at_), (0, .ref (Γ.2.1 27)), (1, .int x)] [] := by
    intro f
    induction f with
    | zero => intro p2 at_ _ h _; omega
    | succ f ih =>
      intro p2 at_ hp hf hE
      refine vv_iload_n C d_M_find_4 rfl ?_
      refine vv_aload_n C d_M_find_5 rfl ?_
      refine g_M_there C d_M_find_6 ?_
      refine vv_icmp_ge C 34 d_M_find_9 rfl (fun h1 => ?_) (fun h1 => ?_)
      · skip
        refine vv_iload_n C d_M_find_34 rfl ?_
        have hF : qFind t x = at_ := by
          rw [hE, qFindL]
          rw [if_pos h1]
        exact vv_iret C hr hlk (by rw [hF]) rfl d_M_find_35
      · skip
        have hp2 := bdM_lt hn e0 (by omega) h1
        refine vv_aload_n C d_M_find_12 rfl ?_
        refine g_M_name C d_M_find_13 ?_
        refine vv_iload_n C d_M_find_16 rfl ?_
        refine ld_M_name C (in6 (by omega)) d_M_find_17 ?_
        refine vv_iload_n C d_M_find_18 rfl ?_
        refine vv_icmp_ne C 26 d_M_find_19 rfl (fun h2 => ?_) (fun h2 => ?_)
        · skip
          refine vv_iload_n C d_M_find_26 rfl ?_
          refine vv_istore_n (lv' := [(2, .int at_), (3, .int (nI p2)), (0, .ref (Γ.2.1 27)), (1, .int x)]) C d_M_find_27 rfl (by decide) rfl ?_
          refine vv_iinc (j := 1) (v := nI (p2 + 1)) (lv' := [(3, .int (nI (p2 + 1))), (2, .int at_), (0, .ref (Γ.2.1 27)), (1, .int x)]) C d_M_find_28 rfl (nI_1 p2) (by decide) rfl ?_
          refine vv_goto C 4 d_M_find_31 rfl ?_
          exact ih (p2 + 1) at_ (by omega) (by omega) (hE.trans (by rw [qFindL, if_neg h1, if_neg (by exact h2), nI_1]))
        · skip
          refine vv_iload_n C d_M_find_22 rfl ?_
          refine vv_goto C 27 d_M_find_23 rfl ?_
          refine vv_istore_n (lv' := [(2, .int (nI p2)), (3, .int (nI p2)), (0, .ref (Γ.2.1 27)), (1, .int x)]) C d_M_find_27 rfl (by decide) rfl ?_
          refine vv_iinc (j := 1) (v := nI (p2 + 1)) (lv' := [(3, .int (nI (p2 + 1))), (2, .int (nI p2)), (0, .ref (Γ.2.1 27)), (1, .int x)]) C d_M_find_28 rfl (nI_1 p2) (by decide) rfl ?_
          refine vv_goto C 4 d_M_find_31 rfl ?_
          exact ih (p2 + 1) (nI p2) (by omega) (by omega) (hE.trans (by rw [qFindL, if_neg h1, if_pos (by exact h2), nI_1]))
  refine vv_iconst C (-1) d_M_find_0 (by decide) ?_
  refine vv_istore_n (lv' := [(2, .int (-1)), (0, .ref (Γ.2.1 27)), (1, .int x)]) C d_M_find_1 rfl (by decide) rfl ?_
  refine vv_iconst C (0) d_M_find_2 (by decide) ?_
  refine vv_istore_n (lv' := [(3, .int 0), (2, .int (-1)), (0, .ref (Γ.2.1 27)), (1, .int x)]) C d_M_find_3 rfl (by decide) rfl ?_
  exact loop 7 0 (-1) (by omega) (by omega) rfl
set_option maxHeartbeats 4000000 in
set_option maxRecDepth 100000 in
theorem c_M_when (l : Launch) (Γ : Geo) (t : M2) (h0 : ∃ n, n ≤ 6 ∧ t 0 0 = nI n) (x lo hi : Int32) : CtM l Γ y_M_when b_M_when 5 (some .boolean) 1 [.ref (Γ.2.1 27), .int x, .int lo, .int hi] t (some (.int (bI (qWhen t x lo hi).1))) (qWhen t x lo hi).2 := by
  refine ct_of (by decide +kernel) (Nat.le_of_ble_eq_true rfl) ?_
  intro p e s m args below meth c C hr hlk
  refine vv_aload_n C d_M_when_0 rfl ?_
  refine vv_iload_n C d_M_when_1 rfl ?_
  refine cllM (rest := []) C (c_M_find l Γ t h0 x) cw_M_M_find rfl rfl (Nat.le_of_ble_eq_true rfl) (by decide) (by decide) d_M_when_2 ?_
  refine vv_st (st' := [.int (qFind t x)]) rfl ?_
  refine vv_istore (lv' := [(4, .int (qFind t x)), (0, .ref (Γ.2.1 27)), (1, .int x), (2, .int lo), (3, .int hi)]) C d_M_when_5 (by decide) rfl ?_
  refine vv_aload_n C d_M_when_7 rfl ?_
  refine g_M_frozen C d_M_when_8 ?_
  refine vv_if_ne C 24 d_M_when_11 rfl (fun h1 => ?_) (fun h1 => ?_)
  · skip
    refine vv_iconst C (0) d_M_when_24 (by decide) ?_
    have hE : qWhen t x lo hi = (false, t) := by
      unfold qWhen
      try dsimp only
      first | rw [if_pos h1] | rw [if_neg h1] | rw [if_pos (by exact h1)] | rw [if_neg (by exact h1)] | rw [if_neg (by exact z_nle h1)] | rw [if_pos (by exact z_le h1)] | rw [if_neg (by exact z_nlt h1)] | rw [if_pos (by exact z_lt h1)] | rw [if_neg (by exact tf_t h1)] | rw [if_neg (by exact tf_f h1)] | rw [h1] | skip
      try rfl
    exact vv_zret C hr hlk rfl (by rw [hE] <;> rfl) (by rw [hE] <;> rfl) d_M_when_25
  · skip
    refine vv_iload C d_M_when_14 rfl ?_
    refine vv_if_lt C 24 d_M_when_16 rfl (fun h2 => ?_) (fun h2 => ?_)
    · skip
      refine vv_iconst C (0) d_M_when_24 (by decide) ?_
      have hE : qWhen t x lo hi = (false, t) := by
        unfold qWhen
        try dsimp only
        first | rw [if_pos h1] | rw [if_neg h1] | rw [if_pos (by exact h1)] | rw [if_neg (by exact h1)] | rw [if_neg (by exact z_nle h1)] | rw [if_pos (by exact z_le h1)] | rw [if_neg (by exact z_nlt h1)] | rw [if_pos (by exact z_lt h1)] | rw [if_neg (by exact tf_t h1)] | rw [if_neg (by exact tf_f h1)] | rw [h1] | skip
        first | rw [if_pos h2] | rw [if_neg h2] | rw [if_pos (by exact h2)] | rw [if_neg (by exact h2)] | rw [if_neg (by exact z_nle h2)] | rw [if_pos (by exact z_le h2)] | rw [if_neg (by exact z_nlt h2)] | rw [if_pos (by exact z_lt h2)] | rw [if_neg (by exact tf_t h2)] | rw [if_neg (by exact tf_f h2)] | rw [h2] | skip
        try rfl
      exact vv_zret C hr hlk rfl (by rw [hE] <;> rfl) (by rw [hE] <;> rfl) d_M_when_25
    · skip
      refine vv_iload_n C d_M_when_19 rfl ?_
      refine vv_iload_n C d_M_when_20 rfl ?_
      refine vv_icmp_le C 26 d_M_when_21 rfl (fun h3 => ?_) (fun h3 => ?_)
      · skip
        obtain ⟨jj, n, hjn, hn, e0, hF⟩ := fd_in h0 h2
        have hbF : vp_in (qFind t x) 6 := by rw [hF]; exact in6 (by omega)
        refine vv_aload_n C d_M_when_26 rfl ?_
        refine g_M_ranged C d_M_when_27 ?_
        refine vv_iload C d_M_when_30 rfl ?_
        refine vv_iconst C (1) d_M_when_32 (by decide) ?_
        refine sr_M_ranged C (v' := 1) rfl hbF d_M_when_33 ?_
        refine vv_aload_n C d_M_when_34 rfl ?_
        refine g_M_low C d_M_when_35 ?_
        refine vv_iload C d_M_when_38 rfl ?_
        refine vv_iload_n C d_M_when_40 rfl ?_
        refine sr_M_low C hbF d_M_when_41 ?_
        refine vv_aload_n C d_M_when_42 rfl ?_
        refine g_M_high C d_M_when_43 ?_
        refine vv_iload C d_M_when_46 rfl ?_
        refine vv_iload_n C d_M_when_48 rfl ?_
        refine sr_M_high C hbF d_M_when_49 ?_
        refine vv_iconst C (1) d_M_when_50 (by decide) ?_
        have hE : qWhen t x lo hi = (true, (up2 (up2 (up2 t 9 (ix (qFind t x)) 1) 10 (ix (qFind t x)) lo) 11 (ix (qFind t x)) hi)) := by
          unfold qWhen
          try dsimp only
          first | rw [if_pos h1] | rw [if_neg h1] | rw [if_pos (by exact h1)] | rw [if_neg (by exact h1)] | rw [if_neg (by exact z_nle h1)] | rw [if_pos (by exact z_le h1)] | rw [if_neg (by exact z_nlt h1)] | rw [if_pos (by exact z_lt h1)] | rw [if_neg (by exact tf_t h1)] | rw [if_neg (by exact tf_f h1)] | rw [h1] | skip
          first | rw [if_pos h2] | rw [if_neg h2] | rw [if_pos (by exact h2)] | rw [if_neg (by exact h2)] | rw [if_neg (by exact z_nle h2)] | rw [if_pos (by exact z_le h2)] | rw [if_neg (by exact z_nlt h2)] | rw [if_pos (by exact z_lt h2)] | rw [if_neg (by exact tf_t h2)] | rw [if_neg (by exact tf_f h2)] | rw [h2] | skip
          first | rw [if_pos h3] | rw [if_neg h3] | rw [if_pos (by exact h3)] | rw [if_neg (by exact h3)] | rw [if_neg (by exact z_nle h3)] | rw [if_pos (by exact z_le h3)] | rw [if_neg (by exact z_nlt h3)] | rw [if_pos (by exact z_lt h3)] | rw [if_neg (by exact tf_t h3)] | rw [if_neg (by exact tf_f h3)] | rw [h3] | skip
          try rfl
        exact vv_zret C hr hlk rfl (by rw [hE] <;> rfl) (by rw [hE] <;> rfl) d_M_when_51
      · skip
        refine vv_iconst C (0) d_M_when_24 (by decide) ?_
        have hE : qWhen t x lo hi = (false, t) := by
          unfold qWhen
          try dsimp only
          first | rw [if_pos h1] | rw [if_neg h1] | rw [if_pos (by exact h1)] | rw [if_neg (by exact h1)] | rw [if_neg (by exact z_nle h1)] | rw [if_pos (by exact z_le h1)] | rw [if_neg (by exact z_nlt h1)] | rw [if_pos (by exact z_lt h1)] | rw [if_neg (by exact tf_t h1)] | rw [if_neg (by exact tf_f h1)] | rw [h1] | skip
          first | rw [if_pos h2] | rw [if_neg h2] | rw [if_pos (by exact h2)] | rw [if_neg (by exact h2)] | rw [if_neg (by exact z_nle h2)] | rw [if_pos (by exact z_le h2)] | rw [if_neg (by exact z_nlt h2)] | rw [if_pos (by exact z_lt h2)] | rw [if_neg (by exact tf_t h2)] | rw [if_neg (by exact tf_f h2)] | rw [h2] | skip
          first | rw [if_pos h3] | rw [if_neg h3] | rw [if_pos (by exact h3)] | rw [if_neg (by exact h3)] | rw [if_neg (by exact z_nle h3)] | rw [if_pos (by exact z_le h3)] | rw [if_neg (by exact z_nlt h3)] | rw [if_pos (by exact z_lt h3)] | rw [if_neg (by exact tf_t h3)] | rw [if_neg (by exact tf_f h3)] | rw [h3] | skip
          try rfl
        exact vv_zret C hr hlk rfl (by rw [hE] <;> rfl) (by rw [hE] <;> rfl) d_M_when_25
set_option maxHeartbeats 4000000 in
set_option maxRecDepth 100000 in
theorem c_M_reorder (l : Launch) (Γ : Geo) (t : M2) (h0 : ∃ n, n ≤ 6 ∧ t 0 0 = nI n) (x y : Int32) : CtM l Γ y_M_reorder b_M_reorder 4 (some .boolean) 1 [.ref (Γ.2.1 27), .int x, .int y] t (some (.int (bI (qReorder t x y).1))) (qReorder t x y).2 := by
  refine ct_of (by decide +kernel) (Nat.le_of_ble_eq_true rfl) ?_
  intro p e s m args below meth c C hr hlk
  refine vv_aload_n C d_M_reorder_0 rfl ?_
  refine vv_iload_n C d_M_reorder_1 rfl ?_
  refine cllM (rest := []) C (c_M_find l Γ t h0 x) cw_M_M_find rfl rfl (Nat.le_of_ble_eq_true rfl) (by decide) (by decide) d_M_reorder_2 ?_
  refine vv_st (st' := [.int (qFind t x)]) rfl ?_
  refine vv_istore_n (lv' := [(3, .int (qFind t x)), (0, .ref (Γ.2.1 27)), (1, .int x), (2, .int y)]) C d_M_reorder_5 rfl (by decide) rfl ?_
  refine vv_aload_n C d_M_reorder_6 rfl ?_
  refine g_M_frozen C d_M_reorder_7 ?_
  refine vv_if_ne C 17 d_M_reorder_10 rfl (fun h1 => ?_) (fun h1 => ?_)
  · skip
    refine vv_iconst C (0) d_M_reorder_17 (by decide) ?_
    have hE : qReorder t x y = (false, t) := by
      unfold qReorder
      try dsimp only
      first | rw [if_pos h1] | rw [if_neg h1] | rw [if_pos (by exact h1)] | rw [if_neg (by exact h1)] | rw [if_neg (by exact z_nle h1)] | rw [if_pos (by exact z_le h1)] | rw [if_neg (by exact z_nlt h1)] | rw [if_pos (by exact z_lt h1)] | rw [if_neg (by exact tf_t h1)] | rw [if_neg (by exact tf_f h1)] | rw [h1] | skip
      try rfl
    exact vv_zret C hr hlk rfl (by rw [hE] <;> rfl) (by rw [hE] <;> rfl) d_M_reorder_18
  · skip
    refine vv_iload_n C d_M_reorder_13 rfl ?_
    refine vv_if_ge C 19 d_M_reorder_14 rfl (fun h2 => ?_) (fun h2 => ?_)
    · skip
      have hz := ge0_nn h2
      obtain ⟨jj, n, hjn, hn, e0, hF⟩ := fd_in h0 hz
      have hbF : vp_in (qFind t x) 6 := by rw [hF]; exact in6 (by omega)
      refine vv_aload_n C d_M_reorder_19 rfl ?_
      refine g_M_order C d_M_reorder_20 ?_
      refine vv_iload_n C d_M_reorder_23 rfl ?_
      refine vv_iload_n C d_M_reorder_24 rfl ?_
      refine sr_M_order C hbF d_M_reorder_25 ?_
      refine vv_iconst C (1) d_M_reorder_26 (by decide) ?_
      have hE : qReorder t x y = (true, (up2 t 5 (ix (qFind t x)) y)) := by
        unfold qReorder
        try dsimp only
        first | rw [if_pos h1] | rw [if_neg h1] | rw [if_pos (by exact h1)] | rw [if_neg (by exact h1)] | rw [if_neg (by exact z_nle h1)] | rw [if_pos (by exact z_le h1)] | rw [if_neg (by exact z_nlt h1)] | rw [if_pos (by exact z_lt h1)] | rw [if_neg (by exact tf_t h1)] | rw [if_neg (by exact tf_f h1)] | rw [h1] | skip
        first | rw [if_neg (by exact ge0_nn h2)] | rw [if_pos (by exact ge0_nl h2)] | rw [if_pos h2] | rw [if_neg h2] | rw [if_pos (by exact h2)] | rw [if_neg (by exact h2)] | rw [if_neg (by exact z_nle h2)] | rw [if_pos (by exact z_le h2)] | rw [if_neg (by exact z_nlt h2)] | rw [if_pos (by exact z_lt h2)] | rw [if_neg (by exact tf_t h2)] | rw [if_neg (by exact tf_f h2)] | rw [h2] | skip
        try rfl
      exact vv_zret C hr hlk rfl (by rw [hE] <;> rfl) (by rw [hE] <;> rfl) d_M_reorder_27
    · skip
      refine vv_iconst C (0) d_M_reorder_17 (by decide) ?_
      have hE : qReorder t x y = (false, t) := by
        unfold qReorder
        try dsimp only
        first | rw [if_pos h1] | rw [if_neg h1] | rw [if_pos (by exact h1)] | rw [if_neg (by exact h1)] | rw [if_neg (by exact z_nle h1)] | rw [if_pos (by exact z_le h1)] | rw [if_neg (by exact z_nlt h1)] | rw [if_pos (by exact z_lt h1)] | rw [if_neg (by exact tf_t h1)] | rw [if_neg (by exact tf_f h1)] | rw [h1] | skip
        first | rw [if_neg (by exact ge0_nn h2)] | rw [if_pos (by exact ge0_nl h2)] | rw [if_pos h2] | rw [if_neg h2] | rw [if_pos (by exact h2)] | rw [if_neg (by exact h2)] | rw [if_neg (by exact z_nle h2)] | rw [if_pos (by exact z_le h2)] | rw [if_neg (by exact z_nlt h2)] | rw [if_pos (by exact z_lt h2)] | rw [if_neg (by exact tf_t h2)] | rw [if_neg (by exact tf_f h2)] | rw [h2] | skip
        try rfl
      exact vv_zret C hr hlk rfl (by rw [hE] <;> rfl) (by rw [hE] <;> rfl) d_M_reorder_18
set_option maxHeartbeats 4000000 in
set_option maxRecDepth 100000 in
theorem c_M_remove (l : Launch) (Γ : Geo) (t : M2) (h0 : ∃ n, n ≤ 6 ∧ t 0 0 = nI n) (x : Int32) : CtM l Γ y_M_remove b_M_remove 4 (some .boolean) 1 [.ref (Γ.2.1 27), .int x] t (some (.int (bI (qRemove t x).1))) (qRemove t x).2 := by
  refine ct_of (by decide +kernel) (Nat.le_of_ble_eq_true rfl) ?_
  intro p e s m args below meth c C hr hlk
  have loop : ∀ (f a n : Nat) (v : M2), n < 6 → v 0 0 = nI n → a ≤ n → n - a < f → (qRemove t x).1 = true → (qRemove t x).2 = qShiftL f v (nI a) → VV p l e (rmD 1) s m args below meth c 0 0 (MQ below (ctQ Γ.1 clA (inM Γ) (some (.int (bI (qRemove t x).1))) (wM Γ (qRemove t x).2)) args s 0 0 (inM Γ)) 4 Γ.1 clA (inM Γ) s.heap (wM Γ v) 31 [(3, .int (nI a)), (0, .ref (Γ.2.1 27)), (1, .int x), (2, .int (qFind t x))] [] := by
    intro f
    induction f with
    | zero => intro a n v _ _ _ h _ _; omega
    | succ f ih =>
      intro a n v hn hv ha hf hT1 hE
      refine vv_iload_n C d_M_remove_31 rfl ?_
      refine vv_aload_n C d_M_remove_32 rfl ?_
      refine g_M_there C d_M_remove_33 ?_
      refine vv_icmp_ge C 171 d_M_remove_36 rfl (fun h1 => ?_) (fun h1 => ?_)
      · skip
        refine vv_iconst C (1) d_M_remove_171 (by decide) ?_
        have hF : (qRemove t x).2 = v := by
          rw [hE, qShiftL]
          rw [if_pos h1]
        exact vv_zret C hr hlk rfl (by rw [hT1]; rfl) (by rw [hF]) d_M_remove_172
      · skip
        have hp2 := bdM_lt (by omega) hv (by omega) h1
        refine vv_aload_n C d_M_remove_39 rfl ?_
        refine g_M_name C d_M_remove_40 ?_
        refine vv_iload_n C d_M_remove_43 rfl ?_
        refine vv_aload_n C d_M_remove_44 rfl ?_
        refine g_M_name C d_M_remove_45 ?_
        refine vv_iload_n C d_M_remove_48 rfl ?_
        refine vv_iconst C (1) d_M_remove_49 (by decide) ?_
        refine vv_iadd C d_M_remove_50 ?_
        refine ld_M_name C (by rw [nI_1]; exact in6 (by omega)) d_M_remove_51 ?_
        refine sr_M_name C (in6 (by omega)) d_M_remove_52 ?_
        refine vv_aload_n C d_M_remove_53 rfl ?_
        refine g_M_kind C d_M_remove_54 ?_
        refine vv_iload_n C d_M_remove_57 rfl ?_
        refine vv_aload_n C d_M_remove_58 rfl ?_
        refine g_M_kind C d_M_remove_59 ?_
        refine vv_iload_n C d_M_remove_62 rfl ?_
        refine vv_iconst C (1) d_M_remove_63 (by decide) ?_
        refine vv_iadd C d_M_remove_64 ?_
        refine ld_M_kind C (by rw [nI_1]; exact in6 (by omega)) d_M_remove_65 ?_
        refine sr_M_kind C (in6 (by omega)) d_M_remove_66 ?_
        refine vv_aload_n C d_M_remove_67 rfl ?_
        refine g_M_order C d_M_remove_68 ?_
        refine vv_iload_n C d_M_remove_71 rfl ?_
        refine vv_aload_n C d_M_remove_72 rfl ?_
        refine g_M_order C d_M_remove_73 ?_
        refine vv_iload_n C d_M_remove_76 rfl ?_
        refine vv_iconst C (1) d_M_remove_77 (by decide) ?_
        refine vv_iadd C d_M_remove_78 ?_
        refine ld_M_order C (by rw [nI_1]; exact in6 (by omega)) d_M_remove_79 ?_
        refine sr_M_order C (in6 (by omega)) d_M_remove_80 ?_
        refine vv_aload_n C d_M_remove_81 rfl ?_
        refine g_M_methods C d_M_remove_82 ?_
        refine vv_iload_n C d_M_remove_85 rfl ?_
        refine vv_aload_n C d_M_remove_86 rfl ?_
        refine g_M_methods C d_M_remove_87 ?_
        refine vv_iload_n C d_M_remove_90 rfl ?_
        refine vv_iconst C (1) d_M_remove_91 (by decide) ?_
        refine vv_iadd C d_M_remove_92 ?_
        refine ld_M_methods C (by rw [nI_1]; exact in6 (by omega)) d_M_remove_93 ?_
        refine sr_M_methods C (in6 (by omega)) d_M_remove_94 ?_
        refine vv_aload_n C d_M_remove_95 rfl ?_
        refine g_M_first C d_M_remove_96 ?_
        refine vv_iload_n C d_M_remove_99 rfl ?_
        refine vv_aload_n C d_M_remove_100 rfl ?_
        refine g_M_first C d_M_remove_101 ?_
        refine vv_iload_n C d_M_remove_104 rfl ?_
        refine vv_iconst C (1) d_M_remove_105 (by decide) ?_
        refine vv_iadd C d_M_remove_106 ?_
        refine ld_M_first C (by rw [nI_1]; exact in6 (by omega)) d_M_remove_107 ?_
        refine sr_M_first C (in6 (by omega)) d_M_remove_108 ?_
        refine vv_aload_n C d_M_remove_109 rfl ?_
        refine g_M_second C d_M_remove_110 ?_
        refine vv_iload_n C d_M_remove_113 rfl ?_
        refine vv_aload_n C d_M_remove_114 rfl ?_
        refine g_M_second C d_M_remove_115 ?_
        refine vv_iload_n C d_M_remove_118 rfl ?_
        refine vv_iconst C (1) d_M_remove_119 (by decide) ?_
        refine vv_iadd C d_M_remove_120 ?_
        refine ld_M_second C (by rw [nI_1]; exact in6 (by omega)) d_M_remove_121 ?_
        refine sr_M_second C (in6 (by omega)) d_M_remove_122 ?_
        refine vv_aload_n C d_M_remove_123 rfl ?_
        refine g_M_ranged C d_M_remove_124 ?_
        refine vv_iload_n C d_M_remove_127 rfl ?_
        refine vv_aload_n C d_M_remove_128 rfl ?_
        refine g_M_ranged C d_M_remove_129 ?_
        refine vv_iload_n C d_M_remove_132 rfl ?_
        refine vv_iconst C (1) d_M_remove_133 (by decide) ?_
        refine vv_iadd C d_M_remove_134 ?_
        refine ld_M_ranged C (by rw [nI_1]; exact in6 (by omega)) d_M_remove_135 ?_
        refine sr_M_ranged C (v' := vp_nar .boolean ((up2 (up2 (up2 (up2 (up2 (up2 v 3 (ix (nI a)) (v 3 (ix ((nI a) + 1)))) 4 (ix (nI a)) ((up2 v 3 (ix (nI a)) (v 3 (ix ((nI a) + 1)))) 4 (ix ((nI a) + 1)))) 5 (ix (nI a)) ((up2 (up2 v 3 (ix (nI a)) (v 3 (ix ((nI a) + 1)))) 4 (ix (nI a)) ((up2 v 3 (ix (nI a)) (v 3 (ix ((nI a) + 1)))) 4 (ix ((nI a) + 1)))) 5 (ix ((nI a) + 1)))) 6 (ix (nI a)) ((up2 (up2 (up2 v 3 (ix (nI a)) (v 3 (ix ((nI a) + 1)))) 4 (ix (nI a)) ((up2 v 3 (ix (nI a)) (v 3 (ix ((nI a) + 1)))) 4 (ix ((nI a) + 1)))) 5 (ix (nI a)) ((up2 (up2 v 3 (ix (nI a)) (v 3 (ix ((nI a) + 1)))) 4 (ix (nI a)) ((up2 v 3 (ix (nI a)) (v 3 (ix ((nI a) + 1)))) 4 (ix ((nI a) + 1)))) 5 (ix ((nI a) + 1)))) 6 (ix ((nI a) + 1)))) 7 (ix (nI a)) ((up2 (up2 (up2 (up2 v 3 (ix (nI a)) (v 3 (ix ((nI a) + 1)))) 4 (ix (nI a)) ((up2 v 3 (ix (nI a)) (v 3 (ix ((nI a) + 1)))) 4 (ix ((nI a) + 1)))) 5 (ix (nI a)) ((up2 (up2 v 3 (ix (nI a)) (v 3 (ix ((nI a) + 1)))) 4 (ix (nI a)) ((up2 v 3 (ix (nI a)) (v 3 (ix ((nI a) + 1)))) 4 (ix ((nI a) + 1)))) 5 (ix ((nI a) + 1)))) 6 (ix (nI a)) ((up2 (up2 (up2 v 3 (ix (nI a)) (v 3 (ix ((nI a) + 1)))) 4 (ix (nI a)) ((up2 v 3 (ix (nI a)) (v 3 (ix ((nI a) + 1)))) 4 (ix ((nI a) + 1)))) 5 (ix (nI a)) ((up2 (up2 v 3 (ix (nI a)) (v 3 (ix ((nI a) + 1)))) 4 (ix (nI a)) ((up2 v 3 (ix (nI a)) (v 3 (ix ((nI a) + 1)))) 4 (ix ((nI a) + 1)))) 5 (ix ((nI a) + 1)))) 6 (ix ((nI a) + 1)))) 7 (ix ((nI a) + 1)))) 8 (ix (nI a)) ((up2 (up2 (up2 (up2 (up2 v 3 (ix (nI a)) (v 3 (ix ((nI a) + 1)))) 4 (ix (nI a)) ((up2 v 3 (ix (nI a)) (v 3 (ix ((nI a) + 1)))) 4 (ix ((nI a) + 1)))) 5 (ix (nI a)) ((up2 (up2 v 3 (ix (nI a)) (v 3 (ix ((nI a) + 1)))) 4 (ix (nI a)) ((up2 v 3 (ix (nI a)) (v 3 (ix ((nI a) + 1)))) 4 (ix ((nI a) + 1)))) 5 (ix ((nI a) + 1)))) 6 (ix (nI a)) ((up2 (up2 (up2 v 3 (ix (nI a)) (v 3 (ix ((nI a) + 1)))) 4 (ix (nI a)) ((up2 v 3 (ix (nI a)) (v 3 (ix ((nI a) + 1)))) 4 (ix ((nI a) + 1)))) 5 (ix (nI a)) ((up2 (up2 v 3 (ix (nI a)) (v 3 (ix ((nI a) + 1)))) 4 (ix (nI a)) ((up2 v 3 (ix (nI a)) (v 3 (ix ((nI a) + 1)))) 4 (ix ((nI a) + 1)))) 5 (ix ((nI a) + 1)))) 6 (ix ((nI a) + 1)))) 7 (ix (nI a)) ((up2 (up2 (up2 (up2 v 3 (ix (nI a)) (v 3 (ix ((nI a) + 1)))) 4 (ix (nI a)) ((up2 v 3 (ix (nI a)) (v 3 (ix ((nI a) + 1)))) 4 (ix ((nI a) + 1)))) 5 (ix (nI a)) ((up2 (up2 v 3 (ix (nI a)) (v 3 (ix ((nI a) + 1)))) 4 (ix (nI a)) ((up2 v 3 (ix (nI a)) (v 3 (ix ((nI a) + 1)))) 4 (ix ((nI a) + 1)))) 5 (ix ((nI a) + 1)))) 6 (ix (nI a)) ((up2 (up2 (up2 v 3 (ix (nI a)) (v 3 (ix ((nI a) + 1)))) 4 (ix (nI a)) ((up2 v 3 (ix (nI a)) (v 3 (ix ((nI a) + 1)))) 4 (ix ((nI a) + 1)))) 5 (ix (nI a)) ((up2 (up2 v 3 (ix (nI a)) (v 3 (ix ((nI a) + 1)))) 4 (ix (nI a)) ((up2 v 3 (ix (nI a)) (v 3 (ix ((nI a) + 1)))) 4 (ix ((nI a) + 1)))) 5 (ix ((nI a) + 1)))) 6 (ix ((nI a) + 1)))) 7 (ix ((nI a) + 1)))) 8 (ix ((nI a) + 1)))) 9 (ix ((nI a) + 1)))) rfl (in6 (by omega)) d_M_remove_136 ?_
        refine vv_aload_n C d_M_remove_137 rfl ?_
        refine g_M_low C d_M_remove_138 ?_
        refine vv_iload_n C d_M_remove_141 rfl ?_
        refine vv_aload_n C d_M_remove_142 rfl ?_
        refine g_M_low C d_M_remove_143 ?_
        refine vv_iload_n C d_M_remove_146 rfl ?_
        refine vv_iconst C (1) d_M_remove_147 (by decide) ?_
        refine vv_iadd C d_M_remove_148 ?_
        refine ld_M_low C (by rw [nI_1]; exact in6 (by omega)) d_M_remove_149 ?_
        refine sr_M_low C (in6 (by omega)) d_M_remove_150 ?_
        refine vv_aload_n C d_M_remove_151 rfl ?_
        refine g_M_high C d_M_remove_152 ?_
        refine vv_iload_n C d_M_remove_155 rfl ?_
        refine vv_aload_n C d_M_remove_156 rfl ?_
        refine g_M_high C d_M_remove_157 ?_
        refine vv_iload_n C d_M_remove_160 rfl ?_
        refine vv_iconst C (1) d_M_remove_161 (by decide) ?_
        refine vv_iadd C d_M_remove_162 ?_
        refine ld_M_high C (by rw [nI_1]; exact in6 (by omega)) d_M_remove_163 ?_
        refine sr_M_high C (in6 (by omega)) d_M_remove_164 ?_
        refine vv_iinc (j := 0) (v := nI (a + 1)) (lv' := [(3, .int (nI (a + 1))), (0, .ref (Γ.2.1 27)), (1, .int x), (2, .int (qFind t x))]) C d_M_remove_165 rfl (nI_1 a) (by decide) rfl ?_
        refine vv_goto C 31 d_M_remove_168 rfl ?_
        exact ih (a + 1) n (qShift v (nI a)) hn hv (by omega) (by omega) hT1 (hE.trans (by rw [qShiftL, if_neg h1, nI_1]))
  refine vv_aload_n C d_M_remove_0 rfl ?_
  refine vv_iload_n C d_M_remove_1 rfl ?_
  refine cllM (rest := []) C (c_M_find l Γ t h0 x) cw_M_M_find rfl rfl (Nat.le_of_ble_eq_true rfl) (by decide) (by decide) d_M_remove_2 ?_
  refine vv_st (st' := [.int (qFind t x)]) rfl ?_
  refine vv_istore_n (lv' := [(2, .int (qFind t x)), (0, .ref (Γ.2.1 27)), (1, .int x)]) C d_M_remove_5 rfl (by decide) rfl ?_
  refine vv_aload_n C d_M_remove_6 rfl ?_
  refine g_M_frozen C d_M_remove_7 ?_
  refine vv_if_ne C 17 d_M_remove_10 rfl (fun h1 => ?_) (fun h1 => ?_)
  · skip
    refine vv_iconst C (0) d_M_remove_17 (by decide) ?_
    have hE : qRemove t x = (false, t) := by
      unfold qRemove
      try dsimp only
      first | rw [if_pos h1] | rw [if_neg h1] | rw [if_pos (by exact h1)] | rw [if_neg (by exact h1)] | rw [if_neg (by exact z_nle h1)] | rw [if_pos (by exact z_le h1)] | rw [if_neg (by exact z_nlt h1)] | rw [if_pos (by exact z_lt h1)] | rw [if_neg (by exact tf_t h1)] | rw [if_neg (by exact tf_f h1)] | rw [h1] | skip
      try rfl
    exact vv_zret C hr hlk rfl (by rw [hE] <;> rfl) (by rw [hE] <;> rfl) d_M_remove_18
  · skip
    refine vv_iload_n C d_M_remove_13 rfl ?_
    refine vv_if_ge C 19 d_M_remove_14 rfl (fun h2 => ?_) (fun h2 => ?_)
    · skip
      refine vv_aload_n C d_M_remove_19 rfl ?_
      refine vv_dup C d_M_remove_20 rfl ?_
      refine g_M_there C d_M_remove_21 ?_
      refine vv_iconst C (1) d_M_remove_24 (by decide) ?_
      refine vv_isub C d_M_remove_25 ?_
      refine p_M_there C d_M_remove_26 ?_
      refine vv_iload_n C d_M_remove_29 rfl ?_
      refine vv_istore_n (lv' := [(3, .int (qFind t x)), (2, .int (qFind t x)), (0, .ref (Γ.2.1 27)), (1, .int x)]) C d_M_remove_30 rfl (by decide) rfl ?_
      have hz := ge0_nn h2
      obtain ⟨jj, n, hjn, hn, e0, hF⟩ := fd_in h0 hz
      obtain ⟨n, rfl⟩ : ∃ q, n = q + 1 := ⟨n - 1, by omega⟩
      have hR : qRemove t x = (true, qShiftL 7 (up2 t 0 0 (t 0 0 - 1)) (qFind t x)) := by
        unfold qRemove
        rw [if_pos h1, if_neg hz]
      refine vv_lv [(3, .int (nI jj)), (0, .ref (Γ.2.1 27)), (1, .int x), (2, .int (qFind t x))] (by intro q hq; simp only [List.mem_cons, List.not_mem_nil, or_false] at hq; rcases hq with rfl | rfl | rfl | rfl <;> first | rfl | exact congrArg (fun z => some (Value.int z)) hF) ?_
      exact loop 7 jj n (up2 t 0 0 (t 0 0 - 1)) (by omega) (by show t 0 0 - 1 = _; rw [e0, nI_pred]) (by omega) (by omega) (by rw [hR]) (by rw [hR, hF])
    · skip
      refine vv_iconst C (0) d_M_remove_17 (by decide) ?_
      have hE : qRemove t x = (false, t) := by
        unfold qRemove
        try dsimp only
        first | rw [if_pos h1] | rw [if_neg h1] | rw [if_pos (by exact h1)] | rw [if_neg (by exact h1)] | rw [if_neg (by exact z_nle h1)] | rw [if_pos (by exact z_le h1)] | rw [if_neg (by exact z_nlt h1)] | rw [if_pos (by exact z_lt h1)] | rw [if_neg (by exact tf_t h1)] | rw [if_neg (by exact tf_f h1)] | rw [h1] | skip
        first | rw [if_neg (by exact ge0_nn h2)] | rw [if_pos (by exact ge0_nl h2)] | rw [if_pos h2] | rw [if_neg h2] | rw [if_pos (by exact h2)] | rw [if_neg (by exact h2)] | rw [if_neg (by exact z_nle h2)] | rw [if_pos (by exact z_le h2)] | rw [if_neg (by exact z_nlt h2)] | rw [if_pos (by exact z_lt h2)] | rw [if_neg (by exact tf_t h2)] | rw [if_neg (by exact tf_f h2)] | rw [h2] | skip
        try rfl
      exact vv_zret C hr hlk rfl (by rw [hE] <;> rfl) (by rw [hE] <;> rfl) d_M_remove_18
set_option maxHeartbeats 4000000 in
set_option maxRecDepth 100000 in
theorem c_M_freeze (l : Launch) (Γ : Geo) (t : M2) (b : Bool) : CtM l Γ y_M_freeze b_M_freeze 2 none 0 [.ref (Γ.2.1 27), .int (bI b)] t none (qFreeze t b) := by
  refine ct_of (by decide +kernel) (Nat.le_of_ble_eq_true rfl) ?_
  intro p e s m args below meth c C hr hlk
  refine vv_aload_n C d_M_freeze_0 rfl ?_
  refine vv_iload_n C d_M_freeze_1 rfl ?_
  refine p_M_frozen C (bI_nar _) (bI_fit _) d_M_freeze_2 ?_
  have hE : qFreeze t b = (up2 t 2 0 (bI b)) := by
    unfold qFreeze
    try dsimp only
    try rfl
  exact vv_vret C hr hlk rfl (by rw [hE] <;> rfl) d_M_freeze_5
set_option maxHeartbeats 4000000 in
set_option maxRecDepth 100000 in
theorem c_M_plan (l : Launch) (Γ : Geo) (t : M2) (x : Int32) (y : Int32) (f1 : Int32) (a1 : Int32) : CtM l Γ y_M_plan b_M_plan 5 (some .boolean) 2 [.ref (Γ.2.1 27), .int x, .int y, .int f1, .int a1] t (some (.int (bI (qPlan t x y f1 a1).1))) (qPlan t x y f1 a1).2 := by
  refine ct_of (by decide +kernel) (Nat.le_of_ble_eq_true rfl) ?_
  intro p e s m args below meth c C hr hlk
  refine vv_iload_n C d_M_plan_0 rfl ?_
  refine vv_iload_n C d_M_plan_1 rfl ?_
  refine cllMS (rest := []) C (c_M_isCell l Γ t x y) cw_M_M_isCell rfl rfl (Nat.le_of_ble_eq_true rfl) (by decide) (by decide) d_M_plan_2 ?_
  refine vv_st (st' := [.int (bI (qIsCell x y))]) rfl ?_
  refine vv_if_ne C 10 d_M_plan_5 rfl (fun h1 => ?_) (fun h1 => ?_)
  · skip
    replace h1 := bI_t h1
    have hbC := wi_cell h1
    refine vv_aload_n C d_M_plan_10 rfl ?_
    refine g_M_factor C d_M_plan_11 ?_
    refine vv_bipush C (6) d_M_plan_14 (by decide) ?_
    refine vv_iload_n C d_M_plan_16 rfl ?_
    refine vv_imul C d_M_plan_17 ?_
    refine vv_iload_n C d_M_plan_18 rfl ?_
    refine vv_iadd C d_M_plan_19 ?_
    refine vv_iload_n C d_M_plan_20 rfl ?_
    refine sr_M_factor C hbC d_M_plan_21 ?_
    refine vv_aload_n C d_M_plan_22 rfl ?_
    refine g_M_addend C d_M_plan_23 ?_
    refine vv_bipush C (6) d_M_plan_26 (by decide) ?_
    refine vv_iload_n C d_M_plan_28 rfl ?_
    refine vv_imul C d_M_plan_29 ?_
    refine vv_iload_n C d_M_plan_30 rfl ?_
    refine vv_iadd C d_M_plan_31 ?_
    refine vv_iload C d_M_plan_32 rfl ?_
    refine sr_M_addend C hbC d_M_plan_34 ?_
    refine vv_iconst C (1) d_M_plan_35 (by decide) ?_
    have hE : qPlan t x y f1 a1 = (true, (up2 (up2 t 12 (ix ((6 * x) + y)) f1) 13 (ix ((6 * x) + y)) a1)) := by
      unfold qPlan
      try dsimp only
      first | rw [if_pos h1] | rw [if_neg h1] | rw [if_pos (by exact h1)] | rw [if_neg (by exact h1)] | rw [if_neg (by exact z_nle h1)] | rw [if_pos (by exact z_le h1)] | rw [if_neg (by exact z_nlt h1)] | rw [if_pos (by exact z_lt h1)] | rw [if_neg (by exact tf_t h1)] | rw [if_neg (by exact tf_f h1)] | rw [h1] | skip
      try rfl
    exact vv_zret C hr hlk rfl (by rw [hE] <;> rfl) (by rw [hE] <;> rfl) d_M_plan_36
  · skip
    replace h1 := bI_f h1
    refine vv_iconst C (0) d_M_plan_8 (by decide) ?_
    have hE : qPlan t x y f1 a1 = (false, t) := by
      unfold qPlan
      try dsimp only
      first | rw [if_pos h1] | rw [if_neg h1] | rw [if_pos (by exact h1)] | rw [if_neg (by exact h1)] | rw [if_neg (by exact z_nle h1)] | rw [if_pos (by exact z_le h1)] | rw [if_neg (by exact z_nlt h1)] | rw [if_pos (by exact z_lt h1)] | rw [if_neg (by exact tf_t h1)] | rw [if_neg (by exact tf_f h1)] | rw [h1] | skip
      try rfl
    exact vv_zret C hr hlk rfl (by rw [hE] <;> rfl) (by rw [hE] <;> rfl) d_M_plan_9
set_option maxHeartbeats 4000000 in
set_option maxRecDepth 100000 in
theorem c_M_fail (l : Launch) (Γ : Geo) (t : M2) (x : Int32) (y : Int32) (a1 : Int32) (e1 : Int32) : CtM l Γ y_M_fail b_M_fail 5 (some .boolean) 2 [.ref (Γ.2.1 27), .int x, .int y, .int a1, .int e1] t (some (.int (bI (qFail t x y a1 e1).1))) (qFail t x y a1 e1).2 := by
  refine ct_of (by decide +kernel) (Nat.le_of_ble_eq_true rfl) ?_
  intro p e s m args below meth c C hr hlk
  refine vv_iload_n C d_M_fail_0 rfl ?_
  refine vv_iload_n C d_M_fail_1 rfl ?_
  refine cllMS (rest := []) C (c_M_isCell l Γ t x y) cw_M_M_isCell rfl rfl (Nat.le_of_ble_eq_true rfl) (by decide) (by decide) d_M_fail_2 ?_
  refine vv_st (st' := [.int (bI (qIsCell x y))]) rfl ?_
  refine vv_if_eq C 19 d_M_fail_5 rfl (fun h1 => ?_) (fun h1 => ?_)
  · skip
    replace h1 := bI_f h1
    refine vv_iconst C (0) d_M_fail_19 (by decide) ?_
    have hE : qFail t x y a1 e1 = (false, t) := by
      unfold qFail
      try dsimp only
      first | rw [if_pos h1] | rw [if_neg h1] | rw [if_pos (by exact h1)] | rw [if_neg (by exact h1)] | rw [if_neg (by exact z_nle h1)] | rw [if_pos (by exact z_le h1)] | rw [if_neg (by exact z_nlt h1)] | rw [if_pos (by exact z_lt h1)] | rw [if_neg (by exact tf_t h1)] | rw [if_neg (by exact tf_f h1)] | rw [h1] | skip
      try rfl
    exact vv_zret C hr hlk rfl (by rw [hE] <;> rfl) (by rw [hE] <;> rfl) d_M_fail_20
  · skip
    replace h1 := bI_t h1
    refine vv_iload C d_M_fail_8 rfl ?_
    refine vv_iconst C (0) d_M_fail_10 (by decide) ?_
    refine vv_bipush C (15) d_M_fail_11 (by decide) ?_
    refine cllMS (rest := []) C (c_M_within l Γ t e1 0 15) cw_M_M_within rfl rfl (Nat.le_of_ble_eq_true rfl) (by decide) (by decide) d_M_fail_13 ?_
    refine vv_st (st' := [.int (bI (qWithin e1 0 15))]) rfl ?_
    refine vv_if_ne C 21 d_M_fail_16 rfl (fun h2 => ?_) (fun h2 => ?_)
    · skip
      replace h2 := bI_t h2
      have hbC := wi_cell h1
      refine vv_aload_n C d_M_fail_21 rfl ?_
      refine g_M_failsAt C d_M_fail_22 ?_
      refine vv_bipush C (6) d_M_fail_25 (by decide) ?_
      refine vv_iload_n C d_M_fail_27 rfl ?_
      refine vv_imul C d_M_fail_28 ?_
      refine vv_iload_n C d_M_fail_29 rfl ?_
      refine vv_iadd C d_M_fail_30 ?_
      refine vv_iload_n C d_M_fail_31 rfl ?_
      refine sr_M_failsAt C hbC d_M_fail_32 ?_
      refine vv_aload_n C d_M_fail_33 rfl ?_
      refine g_M_failure C d_M_fail_34 ?_
      refine vv_bipush C (6) d_M_fail_37 (by decide) ?_
      refine vv_iload_n C d_M_fail_39 rfl ?_
      refine vv_imul C d_M_fail_40 ?_
      refine vv_iload_n C d_M_fail_41 rfl ?_
      refine vv_iadd C d_M_fail_42 ?_
      refine vv_iload C d_M_fail_43 rfl ?_
      refine sr_M_failure C hbC d_M_fail_45 ?_
      refine vv_iconst C (1) d_M_fail_46 (by decide) ?_
      have hE : qFail t x y a1 e1 = (true, (up2 (up2 t 14 (ix ((6 * x) + y)) a1) 15 (ix ((6 * x) + y)) e1)) := by
        unfold qFail
        try dsimp only
        first | rw [if_pos h1] | rw [if_neg h1] | rw [if_pos (by exact h1)] | rw [if_neg (by exact h1)] | rw [if_neg (by exact z_nle h1)] | rw [if_pos (by exact z_le h1)] | rw [if_neg (by exact z_nlt h1)] | rw [if_pos (by exact z_lt h1)] | rw [if_neg (by exact tf_t h1)] | rw [if_neg (by exact tf_f h1)] | rw [h1] | skip
        first | rw [if_pos h2] | rw [if_neg h2] | rw [if_pos (by exact h2)] | rw [if_neg (by exact h2)] | rw [if_neg (by exact z_nle h2)] | rw [if_pos (by exact z_le h2)] | rw [if_neg (by exact z_nlt h2)] | rw [if_pos (by exact z_lt h2)] | rw [if_neg (by exact tf_t h2)] | rw [if_neg (by exact tf_f h2)] | rw [h2] | skip
        try rfl
      exact vv_zret C hr hlk rfl (by rw [hE] <;> rfl) (by rw [hE] <;> rfl) d_M_fail_47
    · skip
      replace h2 := bI_f h2
      refine vv_iconst C (0) d_M_fail_19 (by decide) ?_
      have hE : qFail t x y a1 e1 = (false, t) := by
        unfold qFail
        try dsimp only
        first | rw [if_pos h1] | rw [if_neg h1] | rw [if_pos (by exact h1)] | rw [if_neg (by exact h1)] | rw [if_neg (by exact z_nle h1)] | rw [if_pos (by exact z_le h1)] | rw [if_neg (by exact z_nlt h1)] | rw [if_pos (by exact z_lt h1)] | rw [if_neg (by exact tf_t h1)] | rw [if_neg (by exact tf_f h1)] | rw [h1] | skip
        first | rw [if_pos h2] | rw [if_neg h2] | rw [if_pos (by exact h2)] | rw [if_neg (by exact h2)] | rw [if_neg (by exact z_nle h2)] | rw [if_pos (by exact z_le h2)] | rw [if_neg (by exact z_nlt h2)] | rw [if_pos (by exact z_lt h2)] | rw [if_neg (by exact tf_t h2)] | rw [if_neg (by exact tf_f h2)] | rw [h2] | skip
        try rfl
      exact vv_zret C hr hlk rfl (by rw [hE] <;> rfl) (by rw [hE] <;> rfl) d_M_fail_20
set_option maxHeartbeats 4000000 in
set_option maxRecDepth 100000 in
theorem c_M_calls (l : Launch) (Γ : Geo) (t : M2) (x : Int32) (y : Int32) (n1 : Int32) : CtM l Γ y_M_calls b_M_calls 4 (some .boolean) 2 [.ref (Γ.2.1 27), .int x, .int y, .int n1] t (some (.int (bI (qCalls t x y n1).1))) (qCalls t x y n1).2 := by
  refine ct_of (by decide +kernel) (Nat.le_of_ble_eq_true rfl) ?_
  intro p e s m args below meth c C hr hlk
  refine vv_iload_n C d_M_calls_0 rfl ?_
  refine vv_iload_n C d_M_calls_1 rfl ?_
  refine cllMS (rest := []) C (c_M_isCell l Γ t x y) cw_M_M_isCell rfl rfl (Nat.le_of_ble_eq_true rfl) (by decide) (by decide) d_M_calls_2 ?_
  refine vv_st (st' := [.int (bI (qIsCell x y))]) rfl ?_
  refine vv_if_eq C 17 d_M_calls_5 rfl (fun h1 => ?_) (fun h1 => ?_)
  · skip
    replace h1 := bI_f h1
    refine vv_iconst C (0) d_M_calls_17 (by decide) ?_
    have hE : qCalls t x y n1 = (false, t) := by
      unfold qCalls
      try dsimp only
      first | rw [if_pos h1] | rw [if_neg h1] | rw [if_pos (by exact h1)] | rw [if_neg (by exact h1)] | rw [if_neg (by exact z_nle h1)] | rw [if_pos (by exact z_le h1)] | rw [if_neg (by exact z_nlt h1)] | rw [if_pos (by exact z_lt h1)] | rw [if_neg (by exact tf_t h1)] | rw [if_neg (by exact tf_f h1)] | rw [h1] | skip
      try rfl
    exact vv_zret C hr hlk rfl (by rw [hE] <;> rfl) (by rw [hE] <;> rfl) d_M_calls_18
  · skip
    replace h1 := bI_t h1
    refine vv_iload_n C d_M_calls_8 rfl ?_
    refine vv_iconst C (-1) d_M_calls_9 (by decide) ?_
    refine vv_iconst C (5) d_M_calls_10 (by decide) ?_
    refine cllMS (rest := []) C (c_M_within l Γ t n1 (-1) 5) cw_M_M_within rfl rfl (Nat.le_of_ble_eq_true rfl) (by decide) (by decide) d_M_calls_11 ?_
    refine vv_st (st' := [.int (bI (qWithin n1 (-1) 5))]) rfl ?_
    refine vv_if_ne C 19 d_M_calls_14 rfl (fun h2 => ?_) (fun h2 => ?_)
    · skip
      replace h2 := bI_t h2
      have hbC := wi_cell h1
      refine vv_aload_n C d_M_calls_19 rfl ?_
      refine g_M_leads C d_M_calls_20 ?_
      refine vv_bipush C (6) d_M_calls_23 (by decide) ?_
      refine vv_iload_n C d_M_calls_25 rfl ?_
      refine vv_imul C d_M_calls_26 ?_
      refine vv_iload_n C d_M_calls_27 rfl ?_
      refine vv_iadd C d_M_calls_28 ?_
      refine vv_iload_n C d_M_calls_29 rfl ?_
      refine sr_M_leads C hbC d_M_calls_30 ?_
      refine vv_iconst C (1) d_M_calls_31 (by decide) ?_
      have hE : qCalls t x y n1 = (true, (up2 t 16 (ix ((6 * x) + y)) n1)) := by
        unfold qCalls
        try dsimp only
        first | rw [if_pos h1] | rw [if_neg h1] | rw [if_pos (by exact h1)] | rw [if_neg (by exact h1)] | rw [if_neg (by exact z_nle h1)] | rw [if_pos (by exact z_le h1)] | rw [if_neg (by exact z_nlt h1)] | rw [if_pos (by exact z_lt h1)] | rw [if_neg (by exact tf_t h1)] | rw [if_neg (by exact tf_f h1)] | rw [h1] | skip
        first | rw [if_pos h2] | rw [if_neg h2] | rw [if_pos (by exact h2)] | rw [if_neg (by exact h2)] | rw [if_neg (by exact z_nle h2)] | rw [if_pos (by exact z_le h2)] | rw [if_neg (by exact z_nlt h2)] | rw [if_pos (by exact z_lt h2)] | rw [if_neg (by exact tf_t h2)] | rw [if_neg (by exact tf_f h2)] | rw [h2] | skip
        try rfl
      exact vv_zret C hr hlk rfl (by rw [hE] <;> rfl) (by rw [hE] <;> rfl) d_M_calls_32
    · skip
      replace h2 := bI_f h2
      refine vv_iconst C (0) d_M_calls_17 (by decide) ?_
      have hE : qCalls t x y n1 = (false, t) := by
        unfold qCalls
        try dsimp only
        first | rw [if_pos h1] | rw [if_neg h1] | rw [if_pos (by exact h1)] | rw [if_neg (by exact h1)] | rw [if_neg (by exact z_nle h1)] | rw [if_pos (by exact z_le h1)] | rw [if_neg (by exact z_nlt h1)] | rw [if_pos (by exact z_lt h1)] | rw [if_neg (by exact tf_t h1)] | rw [if_neg (by exact tf_f h1)] | rw [h1] | skip
        first | rw [if_pos h2] | rw [if_neg h2] | rw [if_pos (by exact h2)] | rw [if_neg (by exact h2)] | rw [if_neg (by exact z_nle h2)] | rw [if_pos (by exact z_le h2)] | rw [if_neg (by exact z_nlt h2)] | rw [if_pos (by exact z_lt h2)] | rw [if_neg (by exact tf_t h2)] | rw [if_neg (by exact tf_f h2)] | rw [h2] | skip
        try rfl
      exact vv_zret C hr hlk rfl (by rw [hE] <;> rfl) (by rw [hE] <;> rfl) d_M_calls_18
set_option maxHeartbeats 4000000 in
set_option maxRecDepth 100000 in
theorem c_M_source (l : Launch) (Γ : Geo) (t : M2) (x : Int32) : CtM l Γ y_M_source b_M_source 2 (some .boolean) 1 [.ref (Γ.2.1 27), .int x] t (some (.int (bI (qSource t x).1))) (qSource t x).2 := by
  refine ct_of (by decide +kernel) (Nat.le_of_ble_eq_true rfl) ?_
  intro p e s m args below meth c C hr hlk
  refine vv_iload_n C d_M_source_0 rfl ?_
  refine vv_iconst C (0) d_M_source_1 (by decide) ?_
  refine vv_iconst C (2) d_M_source_2 (by decide) ?_
  refine cllMS (rest := []) C (c_M_within l Γ t x 0 2) cw_M_M_within rfl rfl (Nat.le_of_ble_eq_true rfl) (by decide) (by decide) d_M_source_3 ?_
  refine vv_st (st' := [.int (bI (qWithin x 0 2))]) rfl ?_
  refine vv_if_ne C 11 d_M_source_6 rfl (fun h1 => ?_) (fun h1 => ?_)
  · skip
    replace h1 := bI_t h1
    refine vv_aload_n C d_M_source_11 rfl ?_
    refine vv_iload_n C d_M_source_12 rfl ?_
    refine p_M_source C d_M_source_13 ?_
    refine vv_aload_n C d_M_source_16 rfl ?_
    refine vv_iconst C (0) d_M_source_17 (by decide) ?_
    refine p_M_turns C d_M_source_18 ?_
    refine vv_iconst C (1) d_M_source_21 (by decide) ?_
    have hE : qSource t x = (true, (up2 (up2 t 17 0 x) 18 0 0)) := by
      unfold qSource
      try dsimp only
      first | rw [if_pos h1] | rw [if_neg h1] | rw [if_pos (by exact h1)] | rw [if_neg (by exact h1)] | rw [if_neg (by exact z_nle h1)] | rw [if_pos (by exact z_le h1)] | rw [if_neg (by exact z_nlt h1)] | rw [if_pos (by exact z_lt h1)] | rw [if_neg (by exact tf_t h1)] | rw [if_neg (by exact tf_f h1)] | rw [h1] | skip
      try rfl
    exact vv_zret C hr hlk rfl (by rw [hE] <;> rfl) (by rw [hE] <;> rfl) d_M_source_22
  · skip
    replace h1 := bI_f h1
    refine vv_iconst C (0) d_M_source_9 (by decide) ?_
    have hE : qSource t x = (false, t) := by
      unfold qSource
      try dsimp only
      first | rw [if_pos h1] | rw [if_neg h1] | rw [if_pos (by exact h1)] | rw [if_neg (by exact h1)] | rw [if_neg (by exact z_nle h1)] | rw [if_pos (by exact z_le h1)] | rw [if_neg (by exact z_nlt h1)] | rw [if_pos (by exact z_lt h1)] | rw [if_neg (by exact tf_t h1)] | rw [if_neg (by exact tf_f h1)] | rw [h1] | skip
      try rfl
    exact vv_zret C hr hlk rfl (by rw [hE] <;> rfl) (by rw [hE] <;> rfl) d_M_source_10
set_option maxHeartbeats 4000000 in
set_option maxRecDepth 100000 in
theorem c_M_note (l : Launch) (Γ : Geo) (t : M2) (h19 : ∃ n, n ≤ 100 ∧ t 19 0 = nI n) (x y : Int32) : CtM l Γ y_M_note b_M_note 3 none 0 [.ref (Γ.2.1 27), .int x, .int y] t none (qNote t x y) := by
  refine ct_of (by decide +kernel) (Nat.le_of_ble_eq_true rfl) ?_
  intro p e s m args below meth c C hr hlk
  refine vv_aload_n C d_M_note_0 rfl ?_
  refine g_M_noted C d_M_note_1 ?_
  refine vv_bipush C (100) d_M_note_4 (by decide) ?_
  refine vv_icmp_ne C 15 d_M_note_6 rfl (fun h1 => ?_) (fun h1 => ?_)
  · skip
    have hbN := nt_in h19 h1
    refine vv_aload_n C d_M_note_15 rfl ?_
    refine g_M_whoNoted C d_M_note_16 ?_
    refine vv_aload_n C d_M_note_19 rfl ?_
    refine g_M_noted C d_M_note_20 ?_
    refine vv_iload_n C d_M_note_23 rfl ?_
    refine sr_M_whoNoted C hbN d_M_note_24 ?_
    refine vv_aload_n C d_M_note_25 rfl ?_
    refine g_M_whatNoted C d_M_note_26 ?_
    refine vv_aload_n C d_M_note_29 rfl ?_
    refine g_M_noted C d_M_note_30 ?_
    refine vv_iload_n C d_M_note_33 rfl ?_
    refine sr_M_whatNoted C hbN d_M_note_34 ?_
    refine vv_aload_n C d_M_note_35 rfl ?_
    refine vv_dup C d_M_note_36 rfl ?_
    refine g_M_noted C d_M_note_37 ?_
    refine vv_iconst C (1) d_M_note_40 (by decide) ?_
    refine vv_iadd C d_M_note_41 ?_
    refine p_M_noted C d_M_note_42 ?_
    have hE : qNote t x y = (up2 (up2 (up2 t 20 (ix (t 19 0)) x) 21 (ix ((up2 t 20 (ix (t 19 0)) x) 19 0)) y) 19 0 (((up2 (up2 t 20 (ix (t 19 0)) x) 21 (ix ((up2 t 20 (ix (t 19 0)) x) 19 0)) y) 19 0) + 1)) := by
      unfold qNote
      try dsimp only
      first | rw [if_pos h1] | rw [if_neg h1] | rw [if_pos (by exact h1)] | rw [if_neg (by exact h1)] | rw [if_neg (by exact z_nle h1)] | rw [if_pos (by exact z_le h1)] | rw [if_neg (by exact z_nlt h1)] | rw [if_pos (by exact z_lt h1)] | rw [if_neg (by exact tf_t h1)] | rw [if_neg (by exact tf_f h1)] | rw [h1] | skip
      try rfl
    exact vv_vret C hr hlk rfl (by rw [hE] <;> rfl) d_M_note_45
  · skip
    refine vv_aload_n C d_M_note_9 rfl ?_
    refine vv_iconst C (1) d_M_note_10 (by decide) ?_
    refine p_M_broken C rfl rfl d_M_note_11 ?_
    have hE : qNote t x y = (up2 t 25 0 1) := by
      unfold qNote
      try dsimp only
      first | rw [if_pos h1] | rw [if_neg h1] | rw [if_pos (by exact h1)] | rw [if_neg (by exact h1)] | rw [if_neg (by exact z_nle h1)] | rw [if_pos (by exact z_le h1)] | rw [if_neg (by exact z_nlt h1)] | rw [if_pos (by exact z_lt h1)] | rw [if_neg (by exact tf_t h1)] | rw [if_neg (by exact tf_f h1)] | rw [h1] | skip
      try rfl
    exact vv_vret C hr hlk rfl (by rw [hE] <;> rfl) d_M_note_14
set_option maxHeartbeats 4000000 in
set_option maxRecDepth 100000 in
theorem c_M_go (l : Launch) (Γ : Geo) (t : M2) (x y : Int32) : CtM l Γ y_M_go b_M_go 3 none 0 [.ref (Γ.2.1 27), .int x, .int y] t none (qGo t x y) := by
  refine ct_of (by decide +kernel) (Nat.le_of_ble_eq_true rfl) ?_
  intro p e s m args below meth c C hr hlk
  refine vv_aload_n C d_M_go_0 rfl ?_
  refine vv_iconst C (1) d_M_go_1 (by decide) ?_
  refine p_M_along C rfl rfl d_M_go_2 ?_
  refine vv_aload_n C d_M_go_5 rfl ?_
  refine vv_iload_n C d_M_go_6 rfl ?_
  refine p_M_place C d_M_go_7 ?_
  refine vv_aload_n C d_M_go_10 rfl ?_
  refine vv_iload_n C d_M_go_11 rfl ?_
  refine p_M_x C d_M_go_12 ?_
  have hE : qGo t x y = (up2 (up2 (up2 t 36 0 1) 37 0 x) 38 0 y) := by
    unfold qGo
    try dsimp only
    try rfl
  exact vv_vret C hr hlk rfl (by rw [hE] <;> rfl) d_M_go_15
set_option maxHeartbeats 4000000 in
set_option maxRecDepth 100000 in
theorem c_M_comes (l : Launch) (Γ : Geo) (t : M2) (b : Bool) (y : Int32) : CtM l Γ y_M_comes b_M_comes 3 none 0 [.ref (Γ.2.1 27), .int (bI b), .int y] t none (qComes t b y) := by
  refine ct_of (by decide +kernel) (Nat.le_of_ble_eq_true rfl) ?_
  intro p e s m args below meth c C hr hlk
  refine vv_aload_n C d_M_comes_0 rfl ?_
  refine vv_iconst C (0) d_M_comes_1 (by decide) ?_
  refine p_M_along C rfl rfl d_M_comes_2 ?_
  refine vv_aload_n C d_M_comes_5 rfl ?_
  refine vv_iload_n C d_M_comes_6 rfl ?_
  refine p_M_threw C (bI_nar _) (bI_fit _) d_M_comes_7 ?_
  refine vv_aload_n C d_M_comes_10 rfl ?_
  refine vv_iload_n C d_M_comes_11 rfl ?_
  refine p_M_value C d_M_comes_12 ?_
  have hE : qComes t b y = (up2 (up2 (up2 t 36 0 0) 39 0 (bI b)) 40 0 y) := by
    unfold qComes
    try dsimp only
    try rfl
  exact vv_vret C hr hlk rfl (by rw [hE] <;> rfl) d_M_comes_15
set_option maxHeartbeats 4000000 in
set_option maxRecDepth 100000 in
theorem c_M_await (l : Launch) (Γ : Geo) (t : M2) (h29 : vp_in (t 29 0) 30) (x y : Int32) : CtM l Γ y_M_await b_M_await 3 none 0 [.ref (Γ.2.1 27), .int x, .int y] t none (qAwait t x y) := by
  refine ct_of (by decide +kernel) (Nat.le_of_ble_eq_true rfl) ?_
  intro p e s m args below meth c C hr hlk
  refine vv_aload_n C d_M_await_0 rfl ?_
  refine g_M_waits C d_M_await_1 ?_
  refine vv_aload_n C d_M_await_4 rfl ?_
  refine g_M_waiting C d_M_await_5 ?_
  refine vv_iload_n C d_M_await_8 rfl ?_
  refine sr_M_waits C h29 d_M_await_9 ?_
  refine vv_aload_n C d_M_await_10 rfl ?_
  refine g_M_waitsPlace C d_M_await_11 ?_
  refine vv_aload_n C d_M_await_14 rfl ?_
  refine g_M_waiting C d_M_await_15 ?_
  refine vv_aload_n C d_M_await_18 rfl ?_
  refine g_M_place C d_M_await_19 ?_
  refine sr_M_waitsPlace C h29 d_M_await_22 ?_
  refine vv_aload_n C d_M_await_23 rfl ?_
  refine g_M_waitsAdvisor C d_M_await_24 ?_
  refine vv_aload_n C d_M_await_27 rfl ?_
  refine g_M_waiting C d_M_await_28 ?_
  refine vv_iload_n C d_M_await_31 rfl ?_
  refine sr_M_waitsAdvisor C h29 d_M_await_32 ?_
  refine vv_aload_n C d_M_await_33 rfl ?_
  refine g_M_waitsX C d_M_await_34 ?_
  refine vv_aload_n C d_M_await_37 rfl ?_
  refine g_M_waiting C d_M_await_38 ?_
  refine vv_aload_n C d_M_await_41 rfl ?_
  refine g_M_x C d_M_await_42 ?_
  refine sr_M_waitsX C h29 d_M_await_45 ?_
  refine vv_aload_n C d_M_await_46 rfl ?_
  refine g_M_waitsAgain C d_M_await_47 ?_
  refine vv_aload_n C d_M_await_50 rfl ?_
  refine g_M_waiting C d_M_await_51 ?_
  refine vv_iconst C (0) d_M_await_54 (by decide) ?_
  refine sr_M_waitsAgain C (v' := 0) rfl h29 d_M_await_55 ?_
  refine vv_aload_n C d_M_await_56 rfl ?_
  refine vv_dup C d_M_await_57 rfl ?_
  refine g_M_waiting C d_M_await_58 ?_
  refine vv_iconst C (1) d_M_await_61 (by decide) ?_
  refine vv_iadd C d_M_await_62 ?_
  refine p_M_waiting C d_M_await_63 ?_
  have hE : qAwait t x y = (up2 (up2 (up2 (up2 (up2 (up2 t 30 (ix (t 29 0)) x) 31 (ix ((up2 t 30 (ix (t 29 0)) x) 29 0)) ((up2 t 30 (ix (t 29 0)) x) 37 0)) 32 (ix ((up2 (up2 t 30 (ix (t 29 0)) x) 31 (ix ((up2 t 30 (ix (t 29 0)) x) 29 0)) ((up2 t 30 (ix (t 29 0)) x) 37 0)) 29 0)) y) 33 (ix ((up2 (up2 (up2 t 30 (ix (t 29 0)) x) 31 (ix ((up2 t 30 (ix (t 29 0)) x) 29 0)) ((up2 t 30 (ix (t 29 0)) x) 37 0)) 32 (ix ((up2 (up2 t 30 (ix (t 29 0)) x) 31 (ix ((up2 t 30 (ix (t 29 0)) x) 29 0)) ((up2 t 30 (ix (t 29 0)) x) 37 0)) 29 0)) y) 29 0)) ((up2 (up2 (up2 t 30 (ix (t 29 0)) x) 31 (ix ((up2 t 30 (ix (t 29 0)) x) 29 0)) ((up2 t 30 (ix (t 29 0)) x) 37 0)) 32 (ix ((up2 (up2 t 30 (ix (t 29 0)) x) 31 (ix ((up2 t 30 (ix (t 29 0)) x) 29 0)) ((up2 t 30 (ix (t 29 0)) x) 37 0)) 29 0)) y) 38 0)) 35 (ix ((up2 (up2 (up2 (up2 t 30 (ix (t 29 0)) x) 31 (ix ((up2 t 30 (ix (t 29 0)) x) 29 0)) ((up2 t 30 (ix (t 29 0)) x) 37 0)) 32 (ix ((up2 (up2 t 30 (ix (t 29 0)) x) 31 (ix ((up2 t 30 (ix (t 29 0)) x) 29 0)) ((up2 t 30 (ix (t 29 0)) x) 37 0)) 29 0)) y) 33 (ix ((up2 (up2 (up2 t 30 (ix (t 29 0)) x) 31 (ix ((up2 t 30 (ix (t 29 0)) x) 29 0)) ((up2 t 30 (ix (t 29 0)) x) 37 0)) 32 (ix ((up2 (up2 t 30 (ix (t 29 0)) x) 31 (ix ((up2 t 30 (ix (t 29 0)) x) 29 0)) ((up2 t 30 (ix (t 29 0)) x) 37 0)) 29 0)) y) 29 0)) ((up2 (up2 (up2 t 30 (ix (t 29 0)) x) 31 (ix ((up2 t 30 (ix (t 29 0)) x) 29 0)) ((up2 t 30 (ix (t 29 0)) x) 37 0)) 32 (ix ((up2 (up2 t 30 (ix (t 29 0)) x) 31 (ix ((up2 t 30 (ix (t 29 0)) x) 29 0)) ((up2 t 30 (ix (t 29 0)) x) 37 0)) 29 0)) y) 38 0)) 29 0)) 0) 29 0 (((up2 (up2 (up2 (up2 (up2 t 30 (ix (t 29 0)) x) 31 (ix ((up2 t 30 (ix (t 29 0)) x) 29 0)) ((up2 t 30 (ix (t 29 0)) x) 37 0)) 32 (ix ((up2 (up2 t 30 (ix (t 29 0)) x) 31 (ix ((up2 t 30 (ix (t 29 0)) x) 29 0)) ((up2 t 30 (ix (t 29 0)) x) 37 0)) 29 0)) y) 33 (ix ((up2 (up2 (up2 t 30 (ix (t 29 0)) x) 31 (ix ((up2 t 30 (ix (t 29 0)) x) 29 0)) ((up2 t 30 (ix (t 29 0)) x) 37 0)) 32 (ix ((up2 (up2 t 30 (ix (t 29 0)) x) 31 (ix ((up2 t 30 (ix (t 29 0)) x) 29 0)) ((up2 t 30 (ix (t 29 0)) x) 37 0)) 29 0)) y) 29 0)) ((up2 (up2 (up2 t 30 (ix (t 29 0)) x) 31 (ix ((up2 t 30 (ix (t 29 0)) x) 29 0)) ((up2 t 30 (ix (t 29 0)) x) 37 0)) 32 (ix ((up2 (up2 t 30 (ix (t 29 0)) x) 31 (ix ((up2 t 30 (ix (t 29 0)) x) 29 0)) ((up2 t 30 (ix (t 29 0)) x) 37 0)) 29 0)) y) 38 0)) 35 (ix ((up2 (up2 (up2 (up2 t 30 (ix (t 29 0)) x) 31 (ix ((up2 t 30 (ix (t 29 0)) x) 29 0)) ((up2 t 30 (ix (t 29 0)) x) 37 0)) 32 (ix ((up2 (up2 t 30 (ix (t 29 0)) x) 31 (ix ((up2 t 30 (ix (t 29 0)) x) 29 0)) ((up2 t 30 (ix (t 29 0)) x) 37 0)) 29 0)) y) 33 (ix ((up2 (up2 (up2 t 30 (ix (t 29 0)) x) 31 (ix ((up2 t 30 (ix (t 29 0)) x) 29 0)) ((up2 t 30 (ix (t 29 0)) x) 37 0)) 32 (ix ((up2 (up2 t 30 (ix (t 29 0)) x) 31 (ix ((up2 t 30 (ix (t 29 0)) x) 29 0)) ((up2 t 30 (ix (t 29 0)) x) 37 0)) 29 0)) y) 29 0)) ((up2 (up2 (up2 t 30 (ix (t 29 0)) x) 31 (ix ((up2 t 30 (ix (t 29 0)) x) 29 0)) ((up2 t 30 (ix (t 29 0)) x) 37 0)) 32 (ix ((up2 (up2 t 30 (ix (t 29 0)) x) 31 (ix ((up2 t 30 (ix (t 29 0)) x) 29 0)) ((up2 t 30 (ix (t 29 0)) x) 37 0)) 29 0)) y) 38 0)) 29 0)) 0) 29 0) + 1)) := by
    unfold qAwait
    try dsimp only
    try rfl
  exact vv_vret C hr hlk rfl (by rw [hE] <;> rfl) d_M_await_66
set_option maxHeartbeats 4000000 in
set_option maxRecDepth 100000 in
theorem c_M_result (l : Launch) (Γ : Geo) (t : M2) : CtM l Γ y_M_result b_M_result 1 (some .int) 0 [.ref (Γ.2.1 27)] t (some (.int (t 24 0))) t := by
  refine ct_of (by decide +kernel) (Nat.le_of_ble_eq_true rfl) ?_
  intro p e s m args below meth c C hr hlk
  refine vv_aload_n C d_M_result_0 rfl ?_
  refine g_M_outcome C d_M_result_1 ?_
  exact vv_iret C hr hlk rfl rfl d_M_result_4
set_option maxHeartbeats 4000000 in
set_option maxRecDepth 100000 in
theorem c_M_events (l : Launch) (Γ : Geo) (t : M2) : CtM l Γ y_M_events b_M_events 1 (some .int) 0 [.ref (Γ.2.1 27)] t (some (.int (t 19 0))) t := by
  refine ct_of (by decide +kernel) (Nat.le_of_ble_eq_true rfl) ?_
  intro p e s m args below meth c C hr hlk
  refine vv_aload_n C d_M_events_0 rfl ?_
  refine g_M_noted C d_M_events_1 ?_
  exact vv_iret C hr hlk rfl rfl d_M_events_4
set_option maxHeartbeats 4000000 in
set_option maxRecDepth 100000 in
theorem c_M_asked (l : Launch) (Γ : Geo) (t : M2) : CtM l Γ y_M_asked b_M_asked 1 (some .int) 0 [.ref (Γ.2.1 27)] t (some (.int (t 22 0))) t := by
  refine ct_of (by decide +kernel) (Nat.le_of_ble_eq_true rfl) ?_
  intro p e s m args below meth c C hr hlk
  refine vv_aload_n C d_M_asked_0 rfl ?_
  refine g_M_askedCount C d_M_asked_1 ?_
  exact vv_iret C hr hlk rfl rfl d_M_asked_4
set_option maxHeartbeats 4000000 in
set_option maxRecDepth 100000 in
theorem c_M_taken (l : Launch) (Γ : Geo) (t : M2) : CtM l Γ y_M_taken b_M_taken 1 (some .int) 0 [.ref (Γ.2.1 27)] t (some (.int (t 23 0))) t := by
  refine ct_of (by decide +kernel) (Nat.le_of_ble_eq_true rfl) ?_
  intro p e s m args below meth c C hr hlk
  refine vv_aload_n C d_M_taken_0 rfl ?_
  refine g_M_takenCount C d_M_taken_1 ?_
  exact vv_iret C hr hlk rfl rfl d_M_taken_4
set_option maxHeartbeats 4000000 in
set_option maxRecDepth 100000 in
theorem c_M_who (l : Launch) (Γ : Geo) (t : M2) (h19 : ∃ n, n ≤ 100 ∧ t 19 0 = nI n) (x : Int32) : CtM l Γ y_M_who b_M_who 2 (some .int) 1 [.ref (Γ.2.1 27), .int x] t (some (.int (qWho t x))) t := by
  refine ct_of (by decide +kernel) (Nat.le_of_ble_eq_true rfl) ?_
  intro p e s m args below meth c C hr hlk
  refine vv_iload_n C d_M_who_0 rfl ?_
  refine vv_iconst C (0) d_M_who_1 (by decide) ?_
  refine vv_aload_n C d_M_who_2 rfl ?_
  refine g_M_noted C d_M_who_3 ?_
  refine vv_iconst C (1) d_M_who_6 (by decide) ?_
  refine vv_isub C d_M_who_7 ?_
  refine cllMS (rest := []) C (c_M_within l Γ t x 0 ((t 19 0) - 1)) cw_M_M_within rfl rfl (Nat.le_of_ble_eq_true rfl) (by decide) (by decide) d_M_who_8 ?_
  refine vv_st (st' := [.int (bI (qWithin x 0 ((t 19 0) - 1)))]) rfl ?_
  refine vv_if_eq C 23 d_M_who_11 rfl (fun h1 => ?_) (fun h1 => ?_)
  · skip
    replace h1 := bI_f h1
    refine vv_iconst C (-1) d_M_who_23 (by decide) ?_
    have hE : qWho t x = -1 := by
      unfold qWho
      try dsimp only
      first | rw [if_pos h1] | rw [if_neg h1] | rw [if_pos (by exact h1)] | rw [if_neg (by exact h1)] | rw [if_neg (by exact z_nle h1)] | rw [if_pos (by exact z_le h1)] | rw [if_neg (by exact z_nlt h1)] | rw [if_pos (by exact z_lt h1)] | rw [if_neg (by exact tf_t h1)] | rw [if_neg (by exact tf_f h1)] | rw [h1] | skip
      try rfl
    exact vv_iret C hr hlk (by rw [hE] <;> rfl) rfl d_M_who_24
  · skip
    replace h1 := bI_t h1
    have hbW := wi_noted h19 h1
    refine vv_aload_n C d_M_who_14 rfl ?_
    refine g_M_whoNoted C d_M_who_15 ?_
    refine vv_iload_n C d_M_who_18 rfl ?_
    refine ld_M_whoNoted C hbW d_M_who_19 ?_
    refine vv_goto C 24 d_M_who_20 rfl ?_
    have hE : qWho t x = t 20 (ix x) := by
      unfold qWho
      try dsimp only
      first | rw [if_pos h1] | rw [if_neg h1] | rw [if_pos (by exact h1)] | rw [if_neg (by exact h1)] | rw [if_neg (by exact z_nle h1)] | rw [if_pos (by exact z_le h1)] | rw [if_neg (by exact z_nlt h1)] | rw [if_pos (by exact z_lt h1)] | rw [if_neg (by exact tf_t h1)] | rw [if_neg (by exact tf_f h1)] | rw [h1] | skip
      try rfl
    exact vv_iret C hr hlk (by rw [hE] <;> rfl) rfl d_M_who_24
set_option maxHeartbeats 4000000 in
set_option maxRecDepth 100000 in
theorem c_M_what (l : Launch) (Γ : Geo) (t : M2) (h19 : ∃ n, n ≤ 100 ∧ t 19 0 = nI n) (x : Int32) : CtM l Γ y_M_what b_M_what 2 (some .int) 1 [.ref (Γ.2.1 27), .int x] t (some (.int (qWhat t x))) t := by
  refine ct_of (by decide +kernel) (Nat.le_of_ble_eq_true rfl) ?_
  intro p e s m args below meth c C hr hlk
  refine vv_iload_n C d_M_what_0 rfl ?_
  refine vv_iconst C (0) d_M_what_1 (by decide) ?_
  refine vv_aload_n C d_M_what_2 rfl ?_
  refine g_M_noted C d_M_what_3 ?_
  refine vv_iconst C (1) d_M_what_6 (by decide) ?_
  refine vv_isub C d_M_what_7 ?_
  refine cllMS (rest := []) C (c_M_within l Γ t x 0 ((t 19 0) - 1)) cw_M_M_within rfl rfl (Nat.le_of_ble_eq_true rfl) (by decide) (by decide) d_M_what_8 ?_
  refine vv_st (st' := [.int (bI (qWithin x 0 ((t 19 0) - 1)))]) rfl ?_
  refine vv_if_eq C 23 d_M_what_11 rfl (fun h1 => ?_) (fun h1 => ?_)
  · skip
    replace h1 := bI_f h1
    refine vv_iconst C (0) d_M_what_23 (by decide) ?_
    have hE : qWhat t x = 0 := by
      unfold qWhat
      try dsimp only
      first | rw [if_pos h1] | rw [if_neg h1] | rw [if_pos (by exact h1)] | rw [if_neg (by exact h1)] | rw [if_neg (by exact z_nle h1)] | rw [if_pos (by exact z_le h1)] | rw [if_neg (by exact z_nlt h1)] | rw [if_pos (by exact z_lt h1)] | rw [if_neg (by exact tf_t h1)] | rw [if_neg (by exact tf_f h1)] | rw [h1] | skip
      try rfl
    exact vv_iret C hr hlk (by rw [hE] <;> rfl) rfl d_M_what_24
  · skip
    replace h1 := bI_t h1
    have hbW := wi_noted h19 h1
    refine vv_aload_n C d_M_what_14 rfl ?_
    refine g_M_whatNoted C d_M_what_15 ?_
    refine vv_iload_n C d_M_what_18 rfl ?_
    refine ld_M_whatNoted C hbW d_M_what_19 ?_
    refine vv_goto C 24 d_M_what_20 rfl ?_
    have hE : qWhat t x = t 21 (ix x) := by
      unfold qWhat
      try dsimp only
      first | rw [if_pos h1] | rw [if_neg h1] | rw [if_pos (by exact h1)] | rw [if_neg (by exact h1)] | rw [if_neg (by exact z_nle h1)] | rw [if_pos (by exact z_le h1)] | rw [if_neg (by exact z_nlt h1)] | rw [if_pos (by exact z_lt h1)] | rw [if_neg (by exact tf_t h1)] | rw [if_neg (by exact tf_f h1)] | rw [h1] | skip
      try rfl
    exact vv_iret C hr hlk (by rw [hE] <;> rfl) rfl d_M_what_24
set_option maxHeartbeats 4000000 in
set_option maxRecDepth 100000 in
theorem c_M_isOne (l : Launch) (Γ : Geo) (t : M2) (x y : Int32) (hy : 0 ≤ y) : CtM l Γ y_M_isOne b_M_isOne 3 (some .boolean) 0 [.int x, .int y] t (some (.int (bI (qIsOne x y)))) t := by
  refine ct_of (by decide +kernel) (Nat.le_of_ble_eq_true rfl) ?_
  intro p e s m args below meth c C hr hlk
  have loop : ∀ (n : Nat) (g : Int32), g.toInt < 2 ^ n → qIsOne x y = qIsOneL n g y → VV p l e (rmD 0) s m args below meth c 0 0 (MQ below (ctQ Γ.1 clA (inM Γ) (some (.int (bI (qIsOne x y)))) (wM Γ t)) args s 0 0 (inM Γ)) 3 Γ.1 clA (inM Γ) s.heap (wM Γ t) 2 [(2, .int g), (0, .int x), (1, .int y)] [] := by
    intro n
    induction n with
    | zero =>
      intro g hg hE
      refine vv_iload_n C d_M_isOne_2 rfl ?_
      refine vv_iload_n C d_M_isOne_3 rfl ?_
      refine vv_icmp_le C 14 d_M_isOne_4 rfl (fun h1 => ?_) (fun h1 => ?_)
      · skip
        refine vv_iload_n C d_M_isOne_14 rfl ?_
        refine vv_iload_n C d_M_isOne_15 rfl ?_
        refine vv_icmp_ne C 23 d_M_isOne_16 rfl (fun h2 => ?_) (fun h2 => ?_)
        · skip
          refine vv_iconst C (0) d_M_isOne_23 (by decide) ?_
          have hF : qIsOne x y = false := by
            rw [hE, qIsOneL]
            first | rw [if_pos h1] | rw [if_neg h1] | skip
            first | rw [if_pos h2] | rw [if_neg h2] | skip
          exact vv_zret C hr hlk rfl (by rw [hF]; rfl) rfl d_M_isOne_24
        · skip
          refine vv_iconst C (1) d_M_isOne_19 (by decide) ?_
          refine vv_goto C 24 d_M_isOne_20 rfl ?_
          have hF : qIsOne x y = true := by
            rw [hE, qIsOneL]
            first | rw [if_pos h1] | rw [if_neg h1] | skip
            first | rw [if_pos h2] | rw [if_neg h2] | skip
          exact vv_zret C hr hlk rfl (by rw [hF]; rfl) rfl d_M_isOne_24
      · skip
        refine vv_iload_n C d_M_isOne_7 rfl ?_
        refine vv_iconst C (2) d_M_isOne_8 (by decide) ?_
        refine vv_idiv C d_M_isOne_9 (by decide) ?_
        refine vv_istore_n (lv' := [(2, .int (g / 2)), (0, .int x), (1, .int y)]) C d_M_isOne_10 rfl (by decide) rfl ?_
        refine vv_goto C 2 d_M_isOne_11 rfl ?_
        exact absurd hg (by simp only [Int32.le_iff_toInt_le] at *; have : (0 : Int32).toInt = 0 := rfl; omega)
    | succ n ih =>
      intro g hg hE
      refine vv_iload_n C d_M_isOne_2 rfl ?_
      refine vv_iload_n C d_M_isOne_3 rfl ?_
      refine vv_icmp_le C 14 d_M_isOne_4 rfl (fun h1 => ?_) (fun h1 => ?_)
      · skip
        refine vv_iload_n C d_M_isOne_14 rfl ?_
        refine vv_iload_n C d_M_isOne_15 rfl ?_
        refine vv_icmp_ne C 23 d_M_isOne_16 rfl (fun h2 => ?_) (fun h2 => ?_)
        · skip
          refine vv_iconst C (0) d_M_isOne_23 (by decide) ?_
          have hF : qIsOne x y = false := by
            rw [hE, qIsOneL]
            first | rw [if_pos h1] | rw [if_neg h1] | skip
            first | rw [if_pos h2] | rw [if_neg h2] | skip
          exact vv_zret C hr hlk rfl (by rw [hF]; rfl) rfl d_M_isOne_24
        · skip
          refine vv_iconst C (1) d_M_isOne_19 (by decide) ?_
          refine vv_goto C 24 d_M_isOne_20 rfl ?_
          have hF : qIsOne x y = true := by
            rw [hE, qIsOneL]
            first | rw [if_pos h1] | rw [if_neg h1] | skip
            first | rw [if_pos h2] | rw [if_neg h2] | skip
          exact vv_zret C hr hlk rfl (by rw [hF]; rfl) rfl d_M_isOne_24
      · skip
        refine vv_iload_n C d_M_isOne_7 rfl ?_
        refine vv_iconst C (2) d_M_isOne_8 (by decide) ?_
        refine vv_idiv C d_M_isOne_9 (by decide) ?_
        refine vv_istore_n (lv' := [(2, .int (g / 2)), (0, .int x), (1, .int y)]) C d_M_isOne_10 rfl (by decide) rfl ?_
        refine vv_goto C 2 d_M_isOne_11 rfl ?_
        exact ih (g / 2) (kind_half hg (fun z => h1 (by simp only [Int32.le_iff_toInt_le] at *; have : (0 : Int32).toInt = 0 := rfl; omega))) (hE.trans (by rw [qIsOneL, if_neg h1]))
  refine vv_iload_n C d_M_isOne_0 rfl ?_
  refine vv_istore_n (lv' := [(2, .int x), (0, .int x), (1, .int y)]) C d_M_isOne_1 rfl (by decide) rfl ?_
  exact loop 31 x (by have := Int32.toInt_lt x; omega) rfl
