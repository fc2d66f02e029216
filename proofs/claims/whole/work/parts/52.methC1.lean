theorem z_nle {a b : Int32} (h : a < b) : ¬ b ≤ a := by simp only [Int32.lt_iff_toInt_lt, Int32.le_iff_toInt_le] at *; omega
theorem z_le {a b : Int32} (h : ¬ a < b) : b ≤ a := by simp only [Int32.lt_iff_toInt_lt, Int32.le_iff_toInt_le] at *; omega
theorem z_nlt {a b : Int32} (h : a ≤ b) : ¬ b < a := by simp only [Int32.lt_iff_toInt_lt, Int32.le_iff_toInt_le] at *; omega
theorem z_lt {a b : Int32} (h : ¬ a ≤ b) : b < a := by simp only [Int32.lt_iff_toInt_lt, Int32.le_iff_toInt_le] at *; omega
theorem tf_t {b : Bool} (h : b = true) : ¬ b = false := by rw [h]; decide
theorem tf_f {b : Bool} (h : b = false) : ¬ b = true := by rw [h]; decide
set_option maxHeartbeats 4000000 in
set_option maxRecDepth 100000 in
theorem c_L_isMethod (l : Launch) (Γ : Geo) (u : SC) (x : Int32) : CtC l Γ y_L_isMethod b_L_isMethod 1 (some .boolean) 0 [.int x] u (some (.int (bI (kIsMethod x)))) u := by
  refine ct_of (by decide +kernel) (Nat.le_of_ble_eq_true rfl) ?_
  intro p e s m args below meth c C hr hlk
  refine vv_iload_n C d_L_isMethod_0 rfl ?_
  refine vv_if_lt C 14 d_L_isMethod_1 rfl (fun h1 => ?_) (fun h1 => ?_)
  · skip
    refine vv_iconst C (0) d_L_isMethod_14 (by decide) ?_
    have hE : kIsMethod x = false := by
      unfold kIsMethod
      try dsimp only
      first | rw [if_pos h1] | rw [if_neg h1] | rw [if_pos (by exact h1)] | rw [if_neg (by exact h1)] | rw [if_neg (by exact z_nle h1)] | rw [if_pos (by exact z_le h1)] | rw [if_neg (by exact z_nlt h1)] | rw [if_pos (by exact z_lt h1)] | rw [if_neg (by rw [h1]; decide)] | rw [if_pos (by rw [h1])] | rw [if_neg (by exact tf_t h1)] | rw [if_neg (by exact tf_f h1)] | simp only [h1] | skip
      try rfl
    exact vv_zret C hr hlk rfl (by rw [hE]; rfl) rfl d_L_isMethod_15
  · skip
    refine vv_iload_n C d_L_isMethod_4 rfl ?_
    refine vv_bipush C (6) d_L_isMethod_5 (by decide) ?_
    refine vv_icmp_ge C 14 d_L_isMethod_7 rfl (fun h2 => ?_) (fun h2 => ?_)
    · skip
      refine vv_iconst C (0) d_L_isMethod_14 (by decide) ?_
      have hE : kIsMethod x = false := by
        unfold kIsMethod
        try dsimp only
        first | rw [if_pos h1] | rw [if_neg h1] | rw [if_pos (by exact h1)] | rw [if_neg (by exact h1)] | rw [if_neg (by exact z_nle h1)] | rw [if_pos (by exact z_le h1)] | rw [if_neg (by exact z_nlt h1)] | rw [if_pos (by exact z_lt h1)] | rw [if_neg (by rw [h1]; decide)] | rw [if_pos (by rw [h1])] | rw [if_neg (by exact tf_t h1)] | rw [if_neg (by exact tf_f h1)] | simp only [h1] | skip
        first | rw [if_pos h2] | rw [if_neg h2] | rw [if_pos (by exact h2)] | rw [if_neg (by exact h2)] | rw [if_neg (by exact z_nle h2)] | rw [if_pos (by exact z_le h2)] | rw [if_neg (by exact z_nlt h2)] | rw [if_pos (by exact z_lt h2)] | rw [if_neg (by rw [h2]; decide)] | rw [if_pos (by rw [h2])] | rw [if_neg (by exact tf_t h2)] | rw [if_neg (by exact tf_f h2)] | simp only [h2] | skip
        try rfl
      exact vv_zret C hr hlk rfl (by rw [hE]; rfl) rfl d_L_isMethod_15
    · skip
      refine vv_iconst C (1) d_L_isMethod_10 (by decide) ?_
      refine vv_goto C 15 d_L_isMethod_11 rfl ?_
      have hE : kIsMethod x = true := by
        unfold kIsMethod
        try dsimp only
        first | rw [if_pos h1] | rw [if_neg h1] | rw [if_pos (by exact h1)] | rw [if_neg (by exact h1)] | rw [if_neg (by exact z_nle h1)] | rw [if_pos (by exact z_le h1)] | rw [if_neg (by exact z_nlt h1)] | rw [if_pos (by exact z_lt h1)] | rw [if_neg (by rw [h1]; decide)] | rw [if_pos (by rw [h1])] | rw [if_neg (by exact tf_t h1)] | rw [if_neg (by exact tf_f h1)] | simp only [h1] | skip
        first | rw [if_pos h2] | rw [if_neg h2] | rw [if_pos (by exact h2)] | rw [if_neg (by exact h2)] | rw [if_neg (by exact z_nle h2)] | rw [if_pos (by exact z_le h2)] | rw [if_neg (by exact z_nlt h2)] | rw [if_pos (by exact z_lt h2)] | rw [if_neg (by rw [h2]; decide)] | rw [if_pos (by rw [h2])] | rw [if_neg (by exact tf_t h2)] | rw [if_neg (by exact tf_f h2)] | simp only [h2] | skip
        try rfl
      exact vv_zret C hr hlk rfl (by rw [hE]; rfl) rfl d_L_isMethod_15
set_option maxHeartbeats 4000000 in
set_option maxRecDepth 100000 in
theorem c_L_isTarget (l : Launch) (Γ : Geo) (u : SC) (x : Int32) : CtC l Γ y_L_isTarget b_L_isTarget 1 (some .boolean) 0 [.int x] u (some (.int (bI (kIsTarget x)))) u := by
  refine ct_of (by decide +kernel) (Nat.le_of_ble_eq_true rfl) ?_
  intro p e s m args below meth c C hr hlk
  refine vv_iload_n C d_L_isTarget_0 rfl ?_
  refine vv_if_lt C 13 d_L_isTarget_1 rfl (fun h1 => ?_) (fun h1 => ?_)
  · skip
    refine vv_iconst C (0) d_L_isTarget_13 (by decide) ?_
    have hE : kIsTarget x = false := by
      unfold kIsTarget
      try dsimp only
      first | rw [if_pos h1] | rw [if_neg h1] | rw [if_pos (by exact h1)] | rw [if_neg (by exact h1)] | rw [if_neg (by exact z_nle h1)] | rw [if_pos (by exact z_le h1)] | rw [if_neg (by exact z_nlt h1)] | rw [if_pos (by exact z_lt h1)] | rw [if_neg (by rw [h1]; decide)] | rw [if_pos (by rw [h1])] | rw [if_neg (by exact tf_t h1)] | rw [if_neg (by exact tf_f h1)] | simp only [h1] | skip
      try rfl
    exact vv_zret C hr hlk rfl (by rw [hE]; rfl) rfl d_L_isTarget_14
  · skip
    refine vv_iload_n C d_L_isTarget_4 rfl ?_
    refine vv_iconst C (2) d_L_isTarget_5 (by decide) ?_
    refine vv_icmp_ge C 13 d_L_isTarget_6 rfl (fun h2 => ?_) (fun h2 => ?_)
    · skip
      refine vv_iconst C (0) d_L_isTarget_13 (by decide) ?_
      have hE : kIsTarget x = false := by
        unfold kIsTarget
        try dsimp only
        first | rw [if_pos h1] | rw [if_neg h1] | rw [if_pos (by exact h1)] | rw [if_neg (by exact h1)] | rw [if_neg (by exact z_nle h1)] | rw [if_pos (by exact z_le h1)] | rw [if_neg (by exact z_nlt h1)] | rw [if_pos (by exact z_lt h1)] | rw [if_neg (by rw [h1]; decide)] | rw [if_pos (by rw [h1])] | rw [if_neg (by exact tf_t h1)] | rw [if_neg (by exact tf_f h1)] | simp only [h1] | skip
        first | rw [if_pos h2] | rw [if_neg h2] | rw [if_pos (by exact h2)] | rw [if_neg (by exact h2)] | rw [if_neg (by exact z_nle h2)] | rw [if_pos (by exact z_le h2)] | rw [if_neg (by exact z_nlt h2)] | rw [if_pos (by exact z_lt h2)] | rw [if_neg (by rw [h2]; decide)] | rw [if_pos (by rw [h2])] | rw [if_neg (by exact tf_t h2)] | rw [if_neg (by exact tf_f h2)] | simp only [h2] | skip
        try rfl
      exact vv_zret C hr hlk rfl (by rw [hE]; rfl) rfl d_L_isTarget_14
    · skip
      refine vv_iconst C (1) d_L_isTarget_9 (by decide) ?_
      refine vv_goto C 14 d_L_isTarget_10 rfl ?_
      have hE : kIsTarget x = true := by
        unfold kIsTarget
        try dsimp only
        first | rw [if_pos h1] | rw [if_neg h1] | rw [if_pos (by exact h1)] | rw [if_neg (by exact h1)] | rw [if_neg (by exact z_nle h1)] | rw [if_pos (by exact z_le h1)] | rw [if_neg (by exact z_nlt h1)] | rw [if_pos (by exact z_lt h1)] | rw [if_neg (by rw [h1]; decide)] | rw [if_pos (by rw [h1])] | rw [if_neg (by exact tf_t h1)] | rw [if_neg (by exact tf_f h1)] | simp only [h1] | skip
        first | rw [if_pos h2] | rw [if_neg h2] | rw [if_pos (by exact h2)] | rw [if_neg (by exact h2)] | rw [if_neg (by exact z_nle h2)] | rw [if_pos (by exact z_le h2)] | rw [if_neg (by exact z_nlt h2)] | rw [if_pos (by exact z_lt h2)] | rw [if_neg (by rw [h2]; decide)] | rw [if_pos (by rw [h2])] | rw [if_neg (by exact tf_t h2)] | rw [if_neg (by exact tf_f h2)] | simp only [h2] | skip
        try rfl
      exact vv_zret C hr hlk rfl (by rw [hE]; rfl) rfl d_L_isTarget_14
set_option maxHeartbeats 4000000 in
set_option maxRecDepth 100000 in
theorem c_L_isException (l : Launch) (Γ : Geo) (u : SC) (x : Int32) : CtC l Γ y_L_isException b_L_isException 1 (some .boolean) 0 [.int x] u (some (.int (bI (kIsExc x)))) u := by
  refine ct_of (by decide +kernel) (Nat.le_of_ble_eq_true rfl) ?_
  intro p e s m args below meth c C hr hlk
  refine vv_iload_n C d_L_isException_0 rfl ?_
  refine vv_iconst C (1) d_L_isException_1 (by decide) ?_
  refine vv_icmp_lt C 15 d_L_isException_2 rfl (fun h1 => ?_) (fun h1 => ?_)
  · skip
    refine vv_iconst C (0) d_L_isException_15 (by decide) ?_
    have hE : kIsExc x = false := by
      unfold kIsExc
      try dsimp only
      first | rw [if_pos h1] | rw [if_neg h1] | rw [if_pos (by exact h1)] | rw [if_neg (by exact h1)] | rw [if_neg (by exact z_nle h1)] | rw [if_pos (by exact z_le h1)] | rw [if_neg (by exact z_nlt h1)] | rw [if_pos (by exact z_lt h1)] | rw [if_neg (by rw [h1]; decide)] | rw [if_pos (by rw [h1])] | rw [if_neg (by exact tf_t h1)] | rw [if_neg (by exact tf_f h1)] | simp only [h1] | skip
      try rfl
    exact vv_zret C hr hlk rfl (by rw [hE]; rfl) rfl d_L_isException_16
  · skip
    refine vv_iload_n C d_L_isException_5 rfl ?_
    refine vv_bipush C (15) d_L_isException_6 (by decide) ?_
    refine vv_icmp_gt C 15 d_L_isException_8 rfl (fun h2 => ?_) (fun h2 => ?_)
    · skip
      refine vv_iconst C (0) d_L_isException_15 (by decide) ?_
      have hE : kIsExc x = false := by
        unfold kIsExc
        try dsimp only
        first | rw [if_pos h1] | rw [if_neg h1] | rw [if_pos (by exact h1)] | rw [if_neg (by exact h1)] | rw [if_neg (by exact z_nle h1)] | rw [if_pos (by exact z_le h1)] | rw [if_neg (by exact z_nlt h1)] | rw [if_pos (by exact z_lt h1)] | rw [if_neg (by rw [h1]; decide)] | rw [if_pos (by rw [h1])] | rw [if_neg (by exact tf_t h1)] | rw [if_neg (by exact tf_f h1)] | simp only [h1] | skip
        first | rw [if_pos h2] | rw [if_neg h2] | rw [if_pos (by exact h2)] | rw [if_neg (by exact h2)] | rw [if_neg (by exact z_nle h2)] | rw [if_pos (by exact z_le h2)] | rw [if_neg (by exact z_nlt h2)] | rw [if_pos (by exact z_lt h2)] | rw [if_neg (by rw [h2]; decide)] | rw [if_pos (by rw [h2])] | rw [if_neg (by exact tf_t h2)] | rw [if_neg (by exact tf_f h2)] | simp only [h2] | skip
        try rfl
      exact vv_zret C hr hlk rfl (by rw [hE]; rfl) rfl d_L_isException_16
    · skip
      refine vv_iconst C (1) d_L_isException_11 (by decide) ?_
      refine vv_goto C 16 d_L_isException_12 rfl ?_
      have hE : kIsExc x = true := by
        unfold kIsExc
        try dsimp only
        first | rw [if_pos h1] | rw [if_neg h1] | rw [if_pos (by exact h1)] | rw [if_neg (by exact h1)] | rw [if_neg (by exact z_nle h1)] | rw [if_pos (by exact z_le h1)] | rw [if_neg (by exact z_nlt h1)] | rw [if_pos (by exact z_lt h1)] | rw [if_neg (by rw [h1]; decide)] | rw [if_pos (by rw [h1])] | rw [if_neg (by exact tf_t h1)] | rw [if_neg (by exact tf_f h1)] | simp only [h1] | skip
        first | rw [if_pos h2] | rw [if_neg h2] | rw [if_pos (by exact h2)] | rw [if_neg (by exact h2)] | rw [if_neg (by exact z_nle h2)] | rw [if_pos (by exact z_le h2)] | rw [if_neg (by exact z_nlt h2)] | rw [if_pos (by exact z_lt h2)] | rw [if_neg (by rw [h2]; decide)] | rw [if_pos (by rw [h2])] | rw [if_neg (by exact tf_t h2)] | rw [if_neg (by exact tf_f h2)] | simp only [h2] | skip
        try rfl
      exact vv_zret C hr hlk rfl (by rw [hE]; rfl) rfl d_L_isException_16
set_option maxHeartbeats 4000000 in
set_option maxRecDepth 100000 in
theorem c_L_isExceptionOrZero (l : Launch) (Γ : Geo) (u : SC) (x : Int32) : CtC l Γ y_L_isExceptionOrZero b_L_isExceptionOrZero 1 (some .boolean) 1 [.int x] u (some (.int (bI (kIsExcZ x)))) u := by
  refine ct_of (by decide +kernel) (Nat.le_of_ble_eq_true rfl) ?_
  intro p e s m args below meth c C hr hlk
  refine vv_iload_n C d_L_isExceptionOrZero_0 rfl ?_
  refine vv_if_eq C 11 d_L_isExceptionOrZero_1 rfl (fun h1 => ?_) (fun h1 => ?_)
  · skip
    refine vv_iconst C (1) d_L_isExceptionOrZero_11 (by decide) ?_
    refine vv_goto C 16 d_L_isExceptionOrZero_12 rfl ?_
    have hE : kIsExcZ x = true := by
      unfold kIsExcZ
      try dsimp only
      first | rw [if_pos h1] | rw [if_neg h1] | rw [if_pos (by exact h1)] | rw [if_neg (by exact h1)] | rw [if_neg (by exact z_nle h1)] | rw [if_pos (by exact z_le h1)] | rw [if_neg (by exact z_nlt h1)] | rw [if_pos (by exact z_lt h1)] | rw [if_neg (by rw [h1]; decide)] | rw [if_pos (by rw [h1])] | rw [if_neg (by exact tf_t h1)] | rw [if_neg (by exact tf_f h1)] | simp only [h1] | skip
      try rfl
    exact vv_zret C hr hlk rfl (by rw [hE]; rfl) rfl d_L_isExceptionOrZero_16
  · skip
    refine vv_iload_n C d_L_isExceptionOrZero_4 rfl ?_
    refine callCS (rest := []) C (c_L_isException l Γ u x) cw_L_L_isException rfl rfl (Nat.le_of_ble_eq_true rfl) (by decide) (by decide) d_L_isExceptionOrZero_5 ?_
    refine vv_st (st' := [.int (bI (kIsExc x))]) rfl ?_
    refine vv_if_eq C 15 d_L_isExceptionOrZero_8 rfl (fun h2 => ?_) (fun h2 => ?_)
    · skip
      replace h2 := bI_f h2
      refine vv_iconst C (0) d_L_isExceptionOrZero_15 (by decide) ?_
      have hE : kIsExcZ x = false := by
        unfold kIsExcZ
        try dsimp only
        first | rw [if_pos h1] | rw [if_neg h1] | rw [if_pos (by exact h1)] | rw [if_neg (by exact h1)] | rw [if_neg (by exact z_nle h1)] | rw [if_pos (by exact z_le h1)] | rw [if_neg (by exact z_nlt h1)] | rw [if_pos (by exact z_lt h1)] | rw [if_neg (by rw [h1]; decide)] | rw [if_pos (by rw [h1])] | rw [if_neg (by exact tf_t h1)] | rw [if_neg (by exact tf_f h1)] | simp only [h1] | skip
        first | rw [if_pos h2] | rw [if_neg h2] | rw [if_pos (by exact h2)] | rw [if_neg (by exact h2)] | rw [if_neg (by exact z_nle h2)] | rw [if_pos (by exact z_le h2)] | rw [if_neg (by exact z_nlt h2)] | rw [if_pos (by exact z_lt h2)] | rw [if_neg (by rw [h2]; decide)] | rw [if_pos (by rw [h2])] | rw [if_neg (by exact tf_t h2)] | rw [if_neg (by exact tf_f h2)] | simp only [h2] | skip
        try rfl
      exact vv_zret C hr hlk rfl (by rw [hE]; rfl) rfl d_L_isExceptionOrZero_16
    · skip
      replace h2 := bI_t h2
      refine vv_iconst C (1) d_L_isExceptionOrZero_11 (by decide) ?_
      refine vv_goto C 16 d_L_isExceptionOrZero_12 rfl ?_
      have hE : kIsExcZ x = true := by
        unfold kIsExcZ
        try dsimp only
        first | rw [if_pos h1] | rw [if_neg h1] | rw [if_pos (by exact h1)] | rw [if_neg (by exact h1)] | rw [if_neg (by exact z_nle h1)] | rw [if_pos (by exact z_le h1)] | rw [if_neg (by exact z_nlt h1)] | rw [if_pos (by exact z_lt h1)] | rw [if_neg (by rw [h1]; decide)] | rw [if_pos (by rw [h1])] | rw [if_neg (by exact tf_t h1)] | rw [if_neg (by exact tf_f h1)] | simp only [h1] | skip
        first | rw [if_pos h2] | rw [if_neg h2] | rw [if_pos (by exact h2)] | rw [if_neg (by exact h2)] | rw [if_neg (by exact z_nle h2)] | rw [if_pos (by exact z_le h2)] | rw [if_neg (by exact z_nlt h2)] | rw [if_pos (by exact z_lt h2)] | rw [if_neg (by rw [h2]; decide)] | rw [if_pos (by rw [h2])] | rw [if_neg (by exact tf_t h2)] | rw [if_neg (by exact tf_f h2)] | simp only [h2] | skip
        try rfl
      exact vv_zret C hr hlk rfl (by rw [hE]; rfl) rfl d_L_isExceptionOrZero_16
set_option maxHeartbeats 4000000 in
set_option maxRecDepth 100000 in
theorem c_A_giveRange (l : Launch) (Γ : Geo) (u : SC) (k : Nat) (hk : k < 6) (lo : Int32) (hi : Int32) : CtC l Γ y_A_giveRange b_A_giveRange 3 none 0 [.ref (Γ.2.1 (k + 9)), .int lo, .int hi] u none (kGive u k lo hi) := by
  refine ct_of (by decide +kernel) (Nat.le_of_ble_eq_true rfl) ?_
  intro p e s m args below meth c C hr hlk
  refine vv_aload_n C d_A_giveRange_0 rfl ?_
  refine vv_iconst C (1) d_A_giveRange_1 (by decide) ?_
  refine p_A_A_hasRange C hk rfl rfl d_A_giveRange_2 ?_
  refine vv_aload_n C d_A_giveRange_5 rfl ?_
  refine vv_iload_n C d_A_giveRange_6 rfl ?_
  refine p_A_A_low C hk d_A_giveRange_7 ?_
  refine vv_aload_n C d_A_giveRange_10 rfl ?_
  refine vv_iload_n C d_A_giveRange_11 rfl ?_
  refine p_A_A_high C hk d_A_giveRange_12 ?_
  have hE : kGive u k lo hi = (wr (wr (wr u 19 k 1) 20 k lo) 21 k hi) := by
    unfold kGive
    try dsimp only
    try rfl
  exact vv_vret C hr hlk rfl (by rw [hE]) d_A_giveRange_15
set_option maxHeartbeats 4000000 in
set_option maxRecDepth 100000 in
theorem c_A_isInRange (l : Launch) (Γ : Geo) (u : SC) (k : Nat) (hk : k < 6) (x : Int32) : CtC l Γ y_A_isInRange b_A_isInRange 2 (some .boolean) 0 [.ref (Γ.2.1 (k + 9)), .int x] u (some (.int (bI (kInRange u k x)))) u := by
  refine ct_of (by decide +kernel) (Nat.le_of_ble_eq_true rfl) ?_
  intro p e s m args below meth c C hr hlk
  refine vv_aload_n C d_A_isInRange_0 rfl ?_
  refine g_A_A_low C hk d_A_isInRange_1 ?_
  refine vv_iload_n C d_A_isInRange_4 rfl ?_
  refine vv_icmp_gt C 20 d_A_isInRange_5 rfl (fun h1 => ?_) (fun h1 => ?_)
  · skip
    refine vv_iconst C (0) d_A_isInRange_20 (by decide) ?_
    have hE : kInRange u k x = false := by
      unfold kInRange
      try dsimp only
      first | rw [if_pos h1] | rw [if_neg h1] | rw [if_pos (by exact h1)] | rw [if_neg (by exact h1)] | rw [if_neg (by exact z_nle h1)] | rw [if_pos (by exact z_le h1)] | rw [if_neg (by exact z_nlt h1)] | rw [if_pos (by exact z_lt h1)] | rw [if_neg (by rw [h1]; decide)] | rw [if_pos (by rw [h1])] | rw [if_neg (by exact tf_t h1)] | rw [if_neg (by exact tf_f h1)] | simp only [h1] | skip
      try rfl
    exact vv_zret C hr hlk rfl (by rw [hE]; rfl) rfl d_A_isInRange_21
  · skip
    refine vv_iload_n C d_A_isInRange_8 rfl ?_
    refine vv_aload_n C d_A_isInRange_9 rfl ?_
    refine g_A_A_high C hk d_A_isInRange_10 ?_
    refine vv_icmp_gt C 20 d_A_isInRange_13 rfl (fun h2 => ?_) (fun h2 => ?_)
    · skip
      refine vv_iconst C (0) d_A_isInRange_20 (by decide) ?_
      have hE : kInRange u k x = false := by
        unfold kInRange
        try dsimp only
        first | rw [if_pos h1] | rw [if_neg h1] | rw [if_pos (by exact h1)] | rw [if_neg (by exact h1)] | rw [if_neg (by exact z_nle h1)] | rw [if_pos (by exact z_le h1)] | rw [if_neg (by exact z_nlt h1)] | rw [if_pos (by exact z_lt h1)] | rw [if_neg (by rw [h1]; decide)] | rw [if_pos (by rw [h1])] | rw [if_neg (by exact tf_t h1)] | rw [if_neg (by exact tf_f h1)] | simp only [h1] | skip
        first | rw [if_pos h2] | rw [if_neg h2] | rw [if_pos (by exact h2)] | rw [if_neg (by exact h2)] | rw [if_neg (by exact z_nle h2)] | rw [if_pos (by exact z_le h2)] | rw [if_neg (by exact z_nlt h2)] | rw [if_pos (by exact z_lt h2)] | rw [if_neg (by rw [h2]; decide)] | rw [if_pos (by rw [h2])] | rw [if_neg (by exact tf_t h2)] | rw [if_neg (by exact tf_f h2)] | simp only [h2] | skip
        try rfl
      exact vv_zret C hr hlk rfl (by rw [hE]; rfl) rfl d_A_isInRange_21
    · skip
      refine vv_iconst C (1) d_A_isInRange_16 (by decide) ?_
      refine vv_goto C 21 d_A_isInRange_17 rfl ?_
      have hE : kInRange u k x = true := by
        unfold kInRange
        try dsimp only
        first | rw [if_pos h1] | rw [if_neg h1] | rw [if_pos (by exact h1)] | rw [if_neg (by exact h1)] | rw [if_neg (by exact z_nle h1)] | rw [if_pos (by exact z_le h1)] | rw [if_neg (by exact z_nlt h1)] | rw [if_pos (by exact z_lt h1)] | rw [if_neg (by rw [h1]; decide)] | rw [if_pos (by rw [h1])] | rw [if_neg (by exact tf_t h1)] | rw [if_neg (by exact tf_f h1)] | simp only [h1] | skip
        first | rw [if_pos h2] | rw [if_neg h2] | rw [if_pos (by exact h2)] | rw [if_neg (by exact h2)] | rw [if_neg (by exact z_nle h2)] | rw [if_pos (by exact z_le h2)] | rw [if_neg (by exact z_nlt h2)] | rw [if_pos (by exact z_lt h2)] | rw [if_neg (by rw [h2]; decide)] | rw [if_pos (by rw [h2])] | rw [if_neg (by exact tf_t h2)] | rw [if_neg (by exact tf_f h2)] | simp only [h2] | skip
        try rfl
      exact vv_zret C hr hlk rfl (by rw [hE]; rfl) rfl d_A_isInRange_21
set_option maxHeartbeats 4000000 in
set_option maxRecDepth 100000 in
theorem c_A_advises (l : Launch) (Γ : Geo) (u : SC) (k : Nat) (hk : k < 6) (x : Int32) : CtC l Γ y_A_advises b_A_advises 2 (some .boolean) 0 [.ref (Γ.2.1 (k + 9)), .int x] u (some (.int (bI (kAdvises u k x)))) u := by
  refine ct_of (by decide +kernel) (Nat.le_of_ble_eq_true rfl) ?_
  intro p e s m args below meth c C hr hlk
  refine vv_aload_n C d_A_advises_0 rfl ?_
  refine g_A_A_methods C hk d_A_advises_1 ?_
  refine vv_iconst C (1) d_A_advises_4 (by decide) ?_
  refine vv_iload_n C d_A_advises_5 rfl ?_
  refine vv_ishl C d_A_advises_6 ?_
  refine vv_iand C d_A_advises_7 ?_
  refine vv_if_eq C 15 d_A_advises_8 rfl (fun h1 => ?_) (fun h1 => ?_)
  · skip
    refine vv_iconst C (0) d_A_advises_15 (by decide) ?_
    have hE : kAdvises u k x = false := by
      unfold kAdvises
      try dsimp only
      first | rw [if_pos h1] | rw [if_neg h1] | rw [if_pos (by exact h1)] | rw [if_neg (by exact h1)] | rw [if_neg (by exact z_nle h1)] | rw [if_pos (by exact z_le h1)] | rw [if_neg (by exact z_nlt h1)] | rw [if_pos (by exact z_lt h1)] | rw [if_neg (by rw [h1]; decide)] | rw [if_pos (by rw [h1])] | rw [if_neg (by exact tf_t h1)] | rw [if_neg (by exact tf_f h1)] | simp only [h1] | skip
      try rfl
    exact vv_zret C hr hlk rfl (by rw [hE]; rfl) rfl d_A_advises_16
  · skip
    refine vv_iconst C (1) d_A_advises_11 (by decide) ?_
    refine vv_goto C 16 d_A_advises_12 rfl ?_
    have hE : kAdvises u k x = true := by
      unfold kAdvises
      try dsimp only
      first | rw [if_pos h1] | rw [if_neg h1] | rw [if_pos (by exact h1)] | rw [if_neg (by exact h1)] | rw [if_neg (by exact z_nle h1)] | rw [if_pos (by exact z_le h1)] | rw [if_neg (by exact z_nlt h1)] | rw [if_pos (by exact z_lt h1)] | rw [if_neg (by rw [h1]; decide)] | rw [if_pos (by rw [h1])] | rw [if_neg (by exact tf_t h1)] | rw [if_neg (by exact tf_f h1)] | simp only [h1] | skip
      try rfl
    exact vv_zret C hr hlk rfl (by rw [hE]; rfl) rfl d_A_advises_16
set_option maxHeartbeats 4000000 in
set_option maxRecDepth 100000 in
theorem c_A_standsBefore (l : Launch) (Γ : Geo) (u : SC) (k : Nat) (hk : k < 6) (j : Nat) (hj : j < 6) : CtC l Γ y_A_standsBefore b_A_standsBefore 2 (some .boolean) 0 [.ref (Γ.2.1 (k + 9)), .ref (Γ.2.1 (j + 9))] u (some (.int (bI (kBefore u k j)))) u := by
  refine ct_of (by decide +kernel) (Nat.le_of_ble_eq_true rfl) ?_
  intro p e s m args below meth c C hr hlk
  refine vv_aload_n C d_A_standsBefore_0 rfl ?_
  refine g_A_A_order C hk d_A_standsBefore_1 ?_
  refine vv_aload_n C d_A_standsBefore_4 rfl ?_
  refine g_A_A_order C hj d_A_standsBefore_5 ?_
  refine vv_icmp_lt C 33 d_A_standsBefore_8 rfl (fun h1 => ?_) (fun h1 => ?_)
  · skip
    refine vv_iconst C (1) d_A_standsBefore_33 (by decide) ?_
    refine vv_goto C 38 d_A_standsBefore_34 rfl ?_
    have hE : kBefore u k j = true := by
      unfold kBefore
      try dsimp only
      first | rw [if_pos h1] | rw [if_neg h1] | rw [if_pos (by exact h1)] | rw [if_neg (by exact h1)] | rw [if_neg (by exact z_nle h1)] | rw [if_pos (by exact z_le h1)] | rw [if_neg (by exact z_nlt h1)] | rw [if_pos (by exact z_lt h1)] | rw [if_neg (by rw [h1]; decide)] | rw [if_pos (by rw [h1])] | rw [if_neg (by exact tf_t h1)] | rw [if_neg (by exact tf_f h1)] | simp only [h1] | skip
      try rfl
    exact vv_zret C hr hlk rfl (by rw [hE]; rfl) rfl d_A_standsBefore_38
  · skip
    refine vv_aload_n C d_A_standsBefore_11 rfl ?_
    refine g_A_A_order C hk d_A_standsBefore_12 ?_
    refine vv_aload_n C d_A_standsBefore_15 rfl ?_
    refine g_A_A_order C hj d_A_standsBefore_16 ?_
    refine vv_icmp_ne C 37 d_A_standsBefore_19 rfl (fun h2 => ?_) (fun h2 => ?_)
    · skip
      refine vv_iconst C (0) d_A_standsBefore_37 (by decide) ?_
      have hE : kBefore u k j = false := by
        unfold kBefore
        try dsimp only
        first | rw [if_pos h1] | rw [if_neg h1] | rw [if_pos (by exact h1)] | rw [if_neg (by exact h1)] | rw [if_neg (by exact z_nle h1)] | rw [if_pos (by exact z_le h1)] | rw [if_neg (by exact z_nlt h1)] | rw [if_pos (by exact z_lt h1)] | rw [if_neg (by rw [h1]; decide)] | rw [if_pos (by rw [h1])] | rw [if_neg (by exact tf_t h1)] | rw [if_neg (by exact tf_f h1)] | simp only [h1] | skip
        first | rw [if_pos h2] | rw [if_neg h2] | rw [if_pos (by exact h2)] | rw [if_neg (by exact h2)] | rw [if_neg (by exact z_nle h2)] | rw [if_pos (by exact z_le h2)] | rw [if_neg (by exact z_nlt h2)] | rw [if_pos (by exact z_lt h2)] | rw [if_neg (by rw [h2]; decide)] | rw [if_pos (by rw [h2])] | rw [if_neg (by exact tf_t h2)] | rw [if_neg (by exact tf_f h2)] | simp only [h2] | skip
        try rfl
      exact vv_zret C hr hlk rfl (by rw [hE]; rfl) rfl d_A_standsBefore_38
    · skip
      refine vv_aload_n C d_A_standsBefore_22 rfl ?_
      refine g_A_A_number C hk d_A_standsBefore_23 ?_
      refine vv_aload_n C d_A_standsBefore_26 rfl ?_
      refine g_A_A_number C hj d_A_standsBefore_27 ?_
      refine vv_icmp_ge C 37 d_A_standsBefore_30 rfl (fun h3 => ?_) (fun h3 => ?_)
      · skip
        refine vv_iconst C (0) d_A_standsBefore_37 (by decide) ?_
        have hE : kBefore u k j = false := by
          unfold kBefore
          try dsimp only
          first | rw [if_pos h1] | rw [if_neg h1] | rw [if_pos (by exact h1)] | rw [if_neg (by exact h1)] | rw [if_neg (by exact z_nle h1)] | rw [if_pos (by exact z_le h1)] | rw [if_neg (by exact z_nlt h1)] | rw [if_pos (by exact z_lt h1)] | rw [if_neg (by rw [h1]; decide)] | rw [if_pos (by rw [h1])] | rw [if_neg (by exact tf_t h1)] | rw [if_neg (by exact tf_f h1)] | simp only [h1] | skip
          first | rw [if_pos h2] | rw [if_neg h2] | rw [if_pos (by exact h2)] | rw [if_neg (by exact h2)] | rw [if_neg (by exact z_nle h2)] | rw [if_pos (by exact z_le h2)] | rw [if_neg (by exact z_nlt h2)] | rw [if_pos (by exact z_lt h2)] | rw [if_neg (by rw [h2]; decide)] | rw [if_pos (by rw [h2])] | rw [if_neg (by exact tf_t h2)] | rw [if_neg (by exact tf_f h2)] | simp only [h2] | skip
          first | rw [if_pos h3] | rw [if_neg h3] | rw [if_pos (by exact h3)] | rw [if_neg (by exact h3)] | rw [if_neg (by exact z_nle h3)] | rw [if_pos (by exact z_le h3)] | rw [if_neg (by exact z_nlt h3)] | rw [if_pos (by exact z_lt h3)] | rw [if_neg (by rw [h3]; decide)] | rw [if_pos (by rw [h3])] | rw [if_neg (by exact tf_t h3)] | rw [if_neg (by exact tf_f h3)] | simp only [h3] | skip
          try rfl
        exact vv_zret C hr hlk rfl (by rw [hE]; rfl) rfl d_A_standsBefore_38
      · skip
        refine vv_iconst C (1) d_A_standsBefore_33 (by decide) ?_
        refine vv_goto C 38 d_A_standsBefore_34 rfl ?_
        have hE : kBefore u k j = true := by
          unfold kBefore
          try dsimp only
          first | rw [if_pos h1] | rw [if_neg h1] | rw [if_pos (by exact h1)] | rw [if_neg (by exact h1)] | rw [if_neg (by exact z_nle h1)] | rw [if_pos (by exact z_le h1)] | rw [if_neg (by exact z_nlt h1)] | rw [if_pos (by exact z_lt h1)] | rw [if_neg (by rw [h1]; decide)] | rw [if_pos (by rw [h1])] | rw [if_neg (by exact tf_t h1)] | rw [if_neg (by exact tf_f h1)] | simp only [h1] | skip
          first | rw [if_pos h2] | rw [if_neg h2] | rw [if_pos (by exact h2)] | rw [if_neg (by exact h2)] | rw [if_neg (by exact z_nle h2)] | rw [if_pos (by exact z_le h2)] | rw [if_neg (by exact z_nlt h2)] | rw [if_pos (by exact z_lt h2)] | rw [if_neg (by rw [h2]; decide)] | rw [if_pos (by rw [h2])] | rw [if_neg (by exact tf_t h2)] | rw [if_neg (by exact tf_f h2)] | simp only [h2] | skip
          first | rw [if_pos h3] | rw [if_neg h3] | rw [if_pos (by exact h3)] | rw [if_neg (by exact h3)] | rw [if_neg (by exact z_nle h3)] | rw [if_pos (by exact z_le h3)] | rw [if_neg (by exact z_nlt h3)] | rw [if_pos (by exact z_lt h3)] | rw [if_neg (by rw [h3]; decide)] | rw [if_pos (by rw [h3])] | rw [if_neg (by exact tf_t h3)] | rw [if_neg (by exact tf_f h3)] | simp only [h3] | skip
          try rfl
        exact vv_zret C hr hlk rfl (by rw [hE]; rfl) rfl d_A_standsBefore_38
set_option maxHeartbeats 4000000 in
set_option maxRecDepth 100000 in
theorem c_K_failsOn (l : Launch) (Γ : Geo) (u : SC) (k : Nat) (hk : k < 12) (x : Int32) : CtC l Γ y_K_failsOn b_K_failsOn 2 (some .boolean) 0 [.ref (Γ.2.1 (k + 15)), .int x] u (some (.int (bI (kFailsOn u k x)))) u := by
  refine ct_of (by decide +kernel) (Nat.le_of_ble_eq_true rfl) ?_
  intro p e s m args below meth c C hr hlk
  refine vv_aload_n C d_K_failsOn_0 rfl ?_
  refine g_K_K_exception C hk d_K_failsOn_1 ?_
  refine vv_if_eq C 19 d_K_failsOn_4 rfl (fun h1 => ?_) (fun h1 => ?_)
  · skip
    refine vv_iconst C (0) d_K_failsOn_19 (by decide) ?_
    have hE : kFailsOn u k x = false := by
      unfold kFailsOn
      try dsimp only
      first | rw [if_pos h1] | rw [if_neg h1] | rw [if_pos (by exact h1)] | rw [if_neg (by exact h1)] | rw [if_neg (by exact z_nle h1)] | rw [if_pos (by exact z_le h1)] | rw [if_neg (by exact z_nlt h1)] | rw [if_pos (by exact z_lt h1)] | rw [if_neg (by rw [h1]; decide)] | rw [if_pos (by rw [h1])] | rw [if_neg (by exact tf_t h1)] | rw [if_neg (by exact tf_f h1)] | simp only [h1] | skip
      try rfl
    exact vv_zret C hr hlk rfl (by rw [hE]; rfl) rfl d_K_failsOn_20
  · skip
    refine vv_iload_n C d_K_failsOn_7 rfl ?_
    refine vv_aload_n C d_K_failsOn_8 rfl ?_
    refine g_K_K_failsAt C hk d_K_failsOn_9 ?_
    refine vv_icmp_ne C 19 d_K_failsOn_12 rfl (fun h2 => ?_) (fun h2 => ?_)
    · skip
      refine vv_iconst C (0) d_K_failsOn_19 (by decide) ?_
      have hE : kFailsOn u k x = false := by
        unfold kFailsOn
        try dsimp only
        first | rw [if_pos h1] | rw [if_neg h1] | rw [if_pos (by exact h1)] | rw [if_neg (by exact h1)] | rw [if_neg (by exact z_nle h1)] | rw [if_pos (by exact z_le h1)] | rw [if_neg (by exact z_nlt h1)] | rw [if_pos (by exact z_lt h1)] | rw [if_neg (by rw [h1]; decide)] | rw [if_pos (by rw [h1])] | rw [if_neg (by exact tf_t h1)] | rw [if_neg (by exact tf_f h1)] | simp only [h1] | skip
        first | rw [if_pos h2] | rw [if_neg h2] | rw [if_pos (by exact h2)] | rw [if_neg (by exact h2)] | rw [if_neg (by exact z_nle h2)] | rw [if_pos (by exact z_le h2)] | rw [if_neg (by exact z_nlt h2)] | rw [if_pos (by exact z_lt h2)] | rw [if_neg (by rw [h2]; decide)] | rw [if_pos (by rw [h2])] | rw [if_neg (by exact tf_t h2)] | rw [if_neg (by exact tf_f h2)] | simp only [h2] | skip
        try rfl
      exact vv_zret C hr hlk rfl (by rw [hE]; rfl) rfl d_K_failsOn_20
    · skip
      refine vv_iconst C (1) d_K_failsOn_15 (by decide) ?_
      refine vv_goto C 20 d_K_failsOn_16 rfl ?_
      have hE : kFailsOn u k x = true := by
        unfold kFailsOn
        try dsimp only
        first | rw [if_pos h1] | rw [if_neg h1] | rw [if_pos (by exact h1)] | rw [if_neg (by exact h1)] | rw [if_neg (by exact z_nle h1)] | rw [if_pos (by exact z_le h1)] | rw [if_neg (by exact z_nlt h1)] | rw [if_pos (by exact z_lt h1)] | rw [if_neg (by rw [h1]; decide)] | rw [if_pos (by rw [h1])] | rw [if_neg (by exact tf_t h1)] | rw [if_neg (by exact tf_f h1)] | simp only [h1] | skip
        first | rw [if_pos h2] | rw [if_neg h2] | rw [if_pos (by exact h2)] | rw [if_neg (by exact h2)] | rw [if_neg (by exact z_nle h2)] | rw [if_pos (by exact z_le h2)] | rw [if_neg (by exact z_nlt h2)] | rw [if_pos (by exact z_lt h2)] | rw [if_neg (by rw [h2]; decide)] | rw [if_pos (by rw [h2])] | rw [if_neg (by exact tf_t h2)] | rw [if_neg (by exact tf_f h2)] | simp only [h2] | skip
        try rfl
      exact vv_zret C hr hlk rfl (by rw [hE]; rfl) rfl d_K_failsOn_20
set_option maxHeartbeats 4000000 in
set_option maxRecDepth 100000 in
theorem c_K_reckon (l : Launch) (Γ : Geo) (u : SC) (k : Nat) (hk : k < 12) (x : Int32) : CtC l Γ y_K_reckon b_K_reckon 2 (some .int) 0 [.ref (Γ.2.1 (k + 15)), .int x] u (some (.int (kReckon u k x))) u := by
  refine ct_of (by decide +kernel) (Nat.le_of_ble_eq_true rfl) ?_
  intro p e s m args below meth c C hr hlk
  refine vv_aload_n C d_K_reckon_0 rfl ?_
  refine g_K_K_factor C hk d_K_reckon_1 ?_
  refine vv_iload_n C d_K_reckon_4 rfl ?_
  refine vv_imul C d_K_reckon_5 ?_
  refine vv_aload_n C d_K_reckon_6 rfl ?_
  refine g_K_K_addend C hk d_K_reckon_7 ?_
  refine vv_iadd C d_K_reckon_10 ?_
  have hE : kReckon u k x = ((u.1 22 k) * x) + (u.1 23 k) := by
    unfold kReckon
    try dsimp only
    try rfl
  exact vv_iret C hr hlk (by rw [hE] <;> rfl) rfl d_K_reckon_11
set_option maxHeartbeats 4000000 in
set_option maxRecDepth 100000 in
theorem c_T_clear (l : Launch) (Γ : Geo) (u : SC) : CtC l Γ y_T_clear b_T_clear 1 none 0 [.ref (Γ.2.1 4)] u none (wr u 8 0 0) := by
  refine ct_of (by decide +kernel) (Nat.le_of_ble_eq_true rfl) ?_
  intro p e s m args below meth c C hr hlk
  refine vv_aload_n C d_T_clear_0 rfl ?_
  refine vv_iconst C (0) d_T_clear_1 (by decide) ?_
  refine p_T_T_length C d_T_clear_2 ?_
  have hE : wr u 8 0 0 = (wr u 8 0 0) := by
    try rfl
  exact vv_vret C hr hlk rfl (by rw [hE]) d_T_clear_5
set_option maxHeartbeats 4000000 in
set_option maxRecDepth 100000 in
theorem c_T_has (l : Launch) (Γ : Geo) (u : SC) (i : Int32) : CtC l Γ y_T_has b_T_has 2 (some .boolean) 0 [.ref (Γ.2.1 4), .int i] u (some (.int (bI (kHas u i)))) u := by
  refine ct_of (by decide +kernel) (Nat.le_of_ble_eq_true rfl) ?_
  intro p e s m args below meth c C hr hlk
  refine vv_iload_n C d_T_has_0 rfl ?_
  refine vv_if_lt C 16 d_T_has_1 rfl (fun h1 => ?_) (fun h1 => ?_)
  · skip
    refine vv_iconst C (0) d_T_has_16 (by decide) ?_
    have hE : kHas u i = false := by
      unfold kHas
      try dsimp only
      first | rw [if_pos h1] | rw [if_neg h1] | rw [if_pos (by exact h1)] | rw [if_neg (by exact h1)] | rw [if_neg (by exact z_nle h1)] | rw [if_pos (by exact z_le h1)] | rw [if_neg (by exact z_nlt h1)] | rw [if_pos (by exact z_lt h1)] | rw [if_neg (by rw [h1]; decide)] | rw [if_pos (by rw [h1])] | rw [if_neg (by exact tf_t h1)] | rw [if_neg (by exact tf_f h1)] | simp only [h1] | skip
      try rfl
    exact vv_zret C hr hlk rfl (by rw [hE]; rfl) rfl d_T_has_17
  · skip
    refine vv_iload_n C d_T_has_4 rfl ?_
    refine vv_aload_n C d_T_has_5 rfl ?_
    refine g_T_T_length C d_T_has_6 ?_
    refine vv_icmp_ge C 16 d_T_has_9 rfl (fun h2 => ?_) (fun h2 => ?_)
    · skip
      refine vv_iconst C (0) d_T_has_16 (by decide) ?_
      have hE : kHas u i = false := by
        unfold kHas
        try dsimp only
        first | rw [if_pos h1] | rw [if_neg h1] | rw [if_pos (by exact h1)] | rw [if_neg (by exact h1)] | rw [if_neg (by exact z_nle h1)] | rw [if_pos (by exact z_le h1)] | rw [if_neg (by exact z_nlt h1)] | rw [if_pos (by exact z_lt h1)] | rw [if_neg (by rw [h1]; decide)] | rw [if_pos (by rw [h1])] | rw [if_neg (by exact tf_t h1)] | rw [if_neg (by exact tf_f h1)] | simp only [h1] | skip
        first | rw [if_pos h2] | rw [if_neg h2] | rw [if_pos (by exact h2)] | rw [if_neg (by exact h2)] | rw [if_neg (by exact z_nle h2)] | rw [if_pos (by exact z_le h2)] | rw [if_neg (by exact z_nlt h2)] | rw [if_pos (by exact z_lt h2)] | rw [if_neg (by rw [h2]; decide)] | rw [if_pos (by rw [h2])] | rw [if_neg (by exact tf_t h2)] | rw [if_neg (by exact tf_f h2)] | simp only [h2] | skip
        try rfl
      exact vv_zret C hr hlk rfl (by rw [hE]; rfl) rfl d_T_has_17
    · skip
      refine vv_iconst C (1) d_T_has_12 (by decide) ?_
      refine vv_goto C 17 d_T_has_13 rfl ?_
      have hE : kHas u i = true := by
        unfold kHas
        try dsimp only
        first | rw [if_pos h1] | rw [if_neg h1] | rw [if_pos (by exact h1)] | rw [if_neg (by exact h1)] | rw [if_neg (by exact z_nle h1)] | rw [if_pos (by exact z_le h1)] | rw [if_neg (by exact z_nlt h1)] | rw [if_pos (by exact z_lt h1)] | rw [if_neg (by rw [h1]; decide)] | rw [if_pos (by rw [h1])] | rw [if_neg (by exact tf_t h1)] | rw [if_neg (by exact tf_f h1)] | simp only [h1] | skip
        first | rw [if_pos h2] | rw [if_neg h2] | rw [if_pos (by exact h2)] | rw [if_neg (by exact h2)] | rw [if_neg (by exact z_nle h2)] | rw [if_pos (by exact z_le h2)] | rw [if_neg (by exact z_nlt h2)] | rw [if_pos (by exact z_lt h2)] | rw [if_neg (by rw [h2]; decide)] | rw [if_pos (by rw [h2])] | rw [if_neg (by exact tf_t h2)] | rw [if_neg (by exact tf_f h2)] | simp only [h2] | skip
        try rfl
      exact vv_zret C hr hlk rfl (by rw [hE]; rfl) rfl d_T_has_17
theorem IC_len {u : SC} (h : IC u) (hl : u.1 8 0 < (100 : Int32)) : vp_in (u.1 8 0) 100 := by
  obtain ⟨-, ⟨n, hn, e⟩, -⟩ := h
  rw [e, show (100 : Int32) = nI 100 from rfl, nlt (by omega) (by omega)] at hl
  rw [e]
  exact vp_in_nI (by omega) (by omega)
set_option maxHeartbeats 4000000 in
set_option maxRecDepth 100000 in
theorem c_T_note (l : Launch) (Γ : Geo) (u : SC) (hI : IC u) (a b : Int32) : CtC l Γ y_T_note b_T_note 3 (some .boolean) 0 [.ref (Γ.2.1 4), .int a, .int b] u (some (.int (bI (kNote u a b).1))) (kNote u a b).2 := by
  refine ct_of (by decide +kernel) (Nat.le_of_ble_eq_true rfl) ?_
  intro p e s m args below meth c C hr hlk
  refine vv_aload_n C d_T_note_0 rfl ?_
  refine g_T_T_length C d_T_note_1 ?_
  refine vv_bipush C (100) d_T_note_4 (by decide) ?_
  refine vv_icmp_lt C 11 d_T_note_6 rfl (fun h1 => ?_) (fun h1 => ?_)
  · skip
    try have hb0 : vp_in (u.1 8 0) 100 := IC_len hI h1
    refine vv_aload_n C d_T_note_11 rfl ?_
    refine g_T_T_noters C d_T_note_12 ?_
    refine vv_aload_n C d_T_note_15 rfl ?_
    refine g_T_T_length C d_T_note_16 ?_
    refine vv_iload_n C d_T_note_19 rfl ?_
    refine sr_2_5 C hb0 d_T_note_20 ?_
    refine vv_aload_n C d_T_note_21 rfl ?_
    refine g_T_T_words C d_T_note_22 ?_
    refine vv_aload_n C d_T_note_25 rfl ?_
    refine g_T_T_length C d_T_note_26 ?_
    refine vv_iload_n C d_T_note_29 rfl ?_
    refine sr_2_6 C hb0 d_T_note_30 ?_
    refine vv_aload_n C d_T_note_31 rfl ?_
    refine vv_dup C d_T_note_32 rfl ?_
    refine g_T_T_length C d_T_note_33 ?_
    refine vv_iconst C (1) d_T_note_36 (by decide) ?_
    refine vv_iadd C d_T_note_37 ?_
    refine p_T_T_length C d_T_note_38 ?_
    refine vv_iconst C (1) d_T_note_41 (by decide) ?_
    have hE : kNote u a b = (true, (wr (wr (wr u 11 (ix (u.1 8 0)) a) 12 (ix ((wr u 11 (ix (u.1 8 0)) a).1 8 0)) b) 8 0 (((wr (wr u 11 (ix (u.1 8 0)) a) 12 (ix ((wr u 11 (ix (u.1 8 0)) a).1 8 0)) b).1 8 0) + 1))) := by
      unfold kNote
      try dsimp only
      first | rw [if_pos h1] | rw [if_neg h1] | rw [if_pos (by exact h1)] | rw [if_neg (by exact h1)] | rw [if_neg (by exact z_nle h1)] | rw [if_pos (by exact z_le h1)] | rw [if_neg (by exact z_nlt h1)] | rw [if_pos (by exact z_lt h1)] | rw [if_neg (by rw [h1]; decide)] | rw [if_pos (by rw [h1])] | rw [if_neg (by exact tf_t h1)] | rw [if_neg (by exact tf_f h1)] | simp only [h1] | skip
      try rfl
    exact vv_zret C hr hlk rfl (by rw [hE]; rfl) (by rw [hE] <;> rfl) d_T_note_42
  · skip
    try have hb0 : vp_in (u.1 8 0) 100 := IC_len hI h1
    refine vv_iconst C (0) d_T_note_9 (by decide) ?_
    have hE : kNote u a b = (false, u) := by
      unfold kNote
      try dsimp only
      first | rw [if_pos h1] | rw [if_neg h1] | rw [if_pos (by exact h1)] | rw [if_neg (by exact h1)] | rw [if_neg (by exact z_nle h1)] | rw [if_pos (by exact z_le h1)] | rw [if_neg (by exact z_nlt h1)] | rw [if_pos (by exact z_lt h1)] | rw [if_neg (by rw [h1]; decide)] | rw [if_pos (by rw [h1])] | rw [if_neg (by exact tf_t h1)] | rw [if_neg (by exact tf_f h1)] | simp only [h1] | skip
      try rfl
    exact vv_zret C hr hlk rfl (by rw [hE]; rfl) (by rw [hE] <;> rfl) d_T_note_10
set_option maxHeartbeats 4000000 in
set_option maxRecDepth 100000 in
theorem c_R_isFull (l : Launch) (Γ : Geo) (u : SC) : CtC l Γ y_R_isFull b_R_isFull 1 (some .boolean) 0 [.ref (Γ.2.1 1)] u (some (.int (bI (kIsFull u)))) u := by
  refine ct_of (by decide +kernel) (Nat.le_of_ble_eq_true rfl) ?_
  intro p e s m args below meth c C hr hlk
  refine vv_aload_n C d_R_isFull_0 rfl ?_
  refine g_R_R_there C d_R_isFull_1 ?_
  refine vv_bipush C (6) d_R_isFull_4 (by decide) ?_
  refine vv_icmp_ne C 13 d_R_isFull_6 rfl (fun h1 => ?_) (fun h1 => ?_)
  · skip
    refine vv_iconst C (0) d_R_isFull_13 (by decide) ?_
    have hE : kIsFull u = false := by
      unfold kIsFull
      try dsimp only
      first | rw [if_pos h1] | rw [if_neg h1] | rw [if_pos (by exact h1)] | rw [if_neg (by exact h1)] | rw [if_neg (by exact z_nle h1)] | rw [if_pos (by exact z_le h1)] | rw [if_neg (by exact z_nlt h1)] | rw [if_pos (by exact z_lt h1)] | rw [if_neg (by rw [h1]; decide)] | rw [if_pos (by rw [h1])] | rw [if_neg (by exact tf_t h1)] | rw [if_neg (by exact tf_f h1)] | simp only [h1] | skip
      try rfl
    exact vv_zret C hr hlk rfl (by rw [hE]; rfl) rfl d_R_isFull_14
  · skip
    refine vv_iconst C (1) d_R_isFull_9 (by decide) ?_
    refine vv_goto C 14 d_R_isFull_10 rfl ?_
    have hE : kIsFull u = true := by
      unfold kIsFull
      try dsimp only
      first | rw [if_pos h1] | rw [if_neg h1] | rw [if_pos (by exact h1)] | rw [if_neg (by exact h1)] | rw [if_neg (by exact z_nle h1)] | rw [if_pos (by exact z_le h1)] | rw [if_neg (by exact z_nlt h1)] | rw [if_pos (by exact z_lt h1)] | rw [if_neg (by rw [h1]; decide)] | rw [if_pos (by rw [h1])] | rw [if_neg (by exact tf_t h1)] | rw [if_neg (by exact tf_f h1)] | simp only [h1] | skip
      try rfl
    exact vv_zret C hr hlk rfl (by rw [hE]; rfl) rfl d_R_isFull_14
set_option maxHeartbeats 4000000 in
set_option maxRecDepth 100000 in
theorem c_R_at (l : Launch) (Γ : Geo) (u : SC) (x : Int32) (hx : vp_in x 6) : CtC l Γ y_R_at b_R_at 2 (some (.object "AdviceLinks$Advisor")) 0 [.ref (Γ.2.1 1), .int x] u (some (.ref (Γ.2.1 (u.2 (ix x) + 9)))) u := by
  refine ct_of (by decide +kernel) (Nat.le_of_ble_eq_true rfl) ?_
  intro p e s m args below meth c C hr hlk
  refine vv_aload_n C d_R_at_0 rfl ?_
  refine g_R_R_row C d_R_at_1 ?_
  refine vv_iload_n C d_R_at_4 rfl ?_
  refine ld_1_2 C hx d_R_at_5 ?_
  exact vv_aret C hr hlk rfl rfl d_R_at_6
theorem IC_pi {u : SC} (h : IC u) {x : Int32} (hx : vp_in x 6) : u.2 (ix x) < 6 := by
  obtain ⟨j, hj, rfl⟩ := vp_in_of hx (by omega)
  rw [ixn (by omega)]
  exact h.2.2.1 j hj
set_option maxHeartbeats 4000000 in
set_option maxRecDepth 100000 in
theorem c_R_swapWithNext (l : Launch) (Γ : Geo) (u : SC) (hI : IC u) (x : Int32) (hx : vp_in x 6) (hx2 : vp_in (x + 1) 6) : CtC l Γ y_R_swapWithNext b_R_swapWithNext 3 none 0 [.ref (Γ.2.1 1), .int x] u none (kSwap u x) := by
  refine ct_of (by decide +kernel) (Nat.le_of_ble_eq_true rfl) ?_
  intro p e s m args below meth c C hr hlk
  refine vv_aload_n C d_R_swapWithNext_0 rfl ?_
  refine g_R_R_row C d_R_swapWithNext_1 ?_
  refine vv_iload_n C d_R_swapWithNext_4 rfl ?_
  refine ld_1_2 C hx d_R_swapWithNext_5 ?_
  refine vv_astore_n (lv' := [(2, .ref (Γ.2.1 (u.2 (ix x) + 9))), (0, .ref (Γ.2.1 1)), (1, .int x)]) C d_R_swapWithNext_6 rfl (by decide) rfl ?_
  refine vv_aload_n C d_R_swapWithNext_7 rfl ?_
  refine g_R_R_row C d_R_swapWithNext_8 ?_
  refine vv_iload_n C d_R_swapWithNext_11 rfl ?_
  refine vv_aload_n C d_R_swapWithNext_12 rfl ?_
  refine g_R_R_row C d_R_swapWithNext_13 ?_
  refine vv_iload_n C d_R_swapWithNext_16 rfl ?_
  refine vv_iconst C (1) d_R_swapWithNext_17 (by decide) ?_
  refine vv_iadd C d_R_swapWithNext_18 ?_
  refine ld_1_2 C hx2 d_R_swapWithNext_19 ?_
  refine sr_1_2 C (IC_pi hI hx2) hx d_R_swapWithNext_20 ?_
  refine vv_aload_n C d_R_swapWithNext_21 rfl ?_
  refine g_R_R_row C d_R_swapWithNext_22 ?_
  refine vv_iload_n C d_R_swapWithNext_25 rfl ?_
  refine vv_iconst C (1) d_R_swapWithNext_26 (by decide) ?_
  refine vv_iadd C d_R_swapWithNext_27 ?_
  refine vv_aload_n C d_R_swapWithNext_28 rfl ?_
  refine sr_1_2 C (IC_pi hI hx) hx2 d_R_swapWithNext_29 ?_
  have hE : kSwap u x = ((u.1, va_up u.2 (ix x) (u.2 (ix (x + 1)))).1, va_up (u.1, va_up u.2 (ix x) (u.2 (ix (x + 1)))).2 (ix (x + 1)) (u.2 (ix x))) := by
    unfold kSwap
    try dsimp only
    try rfl
  exact vv_vret C hr hlk rfl (by rw [hE]) d_R_swapWithNext_30
set_option maxHeartbeats 4000000 in
set_option maxRecDepth 100000 in
theorem c_L_workOf (l : Launch) (Γ : Geo) (u : SC) (x y : Int32) (hx : vp_in (x * 6 + y) 12) : CtC l Γ y_L_workOf b_L_workOf 3 (some (.object "AdviceLinks$Work")) 0 [.ref (Γ.2.1 0), .int x, .int y] u (some (.ref (Γ.2.1 (ix (x * 6 + y) + 15)))) u := by
  refine ct_of (by decide +kernel) (Nat.le_of_ble_eq_true rfl) ?_
  intro p e s m args below meth c C hr hlk
  refine vv_aload_n C d_L_workOf_0 rfl ?_
  refine g_L_L_works C d_L_workOf_1 ?_
  refine vv_iload_n C d_L_workOf_4 rfl ?_
  refine vv_bipush C (6) d_L_workOf_5 (by decide) ?_
  refine vv_imul C d_L_workOf_7 ?_
  refine vv_iload_n C d_L_workOf_8 rfl ?_
  refine vv_iadd C d_L_workOf_9 ?_
  refine ld_4_3 C hx d_L_workOf_10 ?_
  exact vv_aret C hr hlk rfl rfl d_L_workOf_11
set_option maxHeartbeats 4000000 in
set_option maxRecDepth 100000 in
theorem c_L_returned (l : Launch) (Γ : Geo) (u : SC) (x : Int32) : CtC l Γ y_L_returned b_L_returned 2 (some .int) 0 [.ref (Γ.2.1 0), .int x] u (some (.int 0)) (wr u 5 0 x) := by
  refine ct_of (by decide +kernel) (Nat.le_of_ble_eq_true rfl) ?_
  intro p e s m args below meth c C hr hlk
  refine vv_aload_n C d_L_returned_0 rfl ?_
  refine vv_iload_n C d_L_returned_1 rfl ?_
  refine p_L_L_value C d_L_returned_2 ?_
  refine vv_iconst C (0) d_L_returned_5 (by decide) ?_
  exact vv_iret C hr hlk rfl rfl d_L_returned_6
set_option maxHeartbeats 4000000 in
set_option maxRecDepth 100000 in
theorem c_L_thrown (l : Launch) (Γ : Geo) (u : SC) (x : Int32) : CtC l Γ y_L_thrown b_L_thrown 2 (some .int) 0 [.ref (Γ.2.1 0), .int x] u (some (.int 1)) (wr u 5 0 x) := by
  refine ct_of (by decide +kernel) (Nat.le_of_ble_eq_true rfl) ?_
  intro p e s m args below meth c C hr hlk
  refine vv_aload_n C d_L_thrown_0 rfl ?_
  refine vv_iload_n C d_L_thrown_1 rfl ?_
  refine p_L_L_value C d_L_thrown_2 ?_
  refine vv_iconst C (1) d_L_thrown_5 (by decide) ?_
  exact vv_iret C hr hlk rfl rfl d_L_thrown_6
set_option maxHeartbeats 4000000 in
set_option maxRecDepth 100000 in
theorem c_L_brokenOff (l : Launch) (Γ : Geo) (u : SC) : CtC l Γ y_L_brokenOff b_L_brokenOff 1 (some .int) 0 [.ref (Γ.2.1 0)] u (some (.int 2)) (wr u 5 0 0) := by
  refine ct_of (by decide +kernel) (Nat.le_of_ble_eq_true rfl) ?_
  intro p e s m args below meth c C hr hlk
  refine vv_aload_n C d_L_brokenOff_0 rfl ?_
  refine vv_iconst C (0) d_L_brokenOff_1 (by decide) ?_
  refine p_L_L_value C d_L_brokenOff_2 ?_
  refine vv_iconst C (2) d_L_brokenOff_5 (by decide) ?_
  exact vv_iret C hr hlk rfl rfl d_L_brokenOff_6
set_option maxHeartbeats 4000000 in
set_option maxRecDepth 100000 in
theorem c_L_takeTarget (l : Launch) (Γ : Geo) (u : SC) : CtC l Γ y_L_takeTarget b_L_takeTarget 2 (some .int) 0 [.ref (Γ.2.1 0)] u (some (.int (kTake u).1)) (kTake u).2 := by
  refine ct_of (by decide +kernel) (Nat.le_of_ble_eq_true rfl) ?_
  intro p e s m args below meth c C hr hlk
  refine vv_aload_n C d_L_takeTarget_0 rfl ?_
  refine vv_dup C d_L_takeTarget_1 rfl ?_
  refine g_L_L_targetsTaken C d_L_takeTarget_2 ?_
  refine vv_iconst C (1) d_L_takeTarget_5 (by decide) ?_
  refine vv_iadd C d_L_takeTarget_6 ?_
  refine p_L_L_targetsTaken C d_L_takeTarget_7 ?_
  refine vv_aload_n C d_L_takeTarget_10 rfl ?_
  refine g_L_L_targetSource C d_L_takeTarget_11 ?_
  refine vv_iconst C (2) d_L_takeTarget_14 (by decide) ?_
  refine vv_icmp_eq C 23 d_L_takeTarget_15 rfl (fun h1 => ?_) (fun h1 => ?_)
  · skip
    refine vv_aload_n C d_L_takeTarget_23 rfl ?_
    refine g_L_L_nextInTurn C d_L_takeTarget_24 ?_
    refine vv_istore_n (lv' := [(1, .int ((wr u 4 0 ((u.1 4 0) + 1)).1 2 0)), (0, .ref (Γ.2.1 0))]) C d_L_takeTarget_27 rfl (by decide) rfl ?_
    refine vv_aload_n C d_L_takeTarget_28 rfl ?_
    refine vv_iconst C (1) d_L_takeTarget_29 (by decide) ?_
    refine vv_iload_n C d_L_takeTarget_30 rfl ?_
    refine vv_isub C d_L_takeTarget_31 ?_
    refine p_L_L_nextInTurn C d_L_takeTarget_32 ?_
    refine vv_iload_n C d_L_takeTarget_35 rfl ?_
    have hE : kTake u = ((wr u 4 0 ((u.1 4 0) + 1)).1 2 0, (wr (wr u 4 0 ((u.1 4 0) + 1)) 2 0 (1 - ((wr u 4 0 ((u.1 4 0) + 1)).1 2 0)))) := by
      unfold kTake
      try dsimp only
      first | rw [if_pos h1] | rw [if_neg h1] | rw [if_pos (by exact h1)] | rw [if_neg (by exact h1)] | rw [if_neg (by exact z_nle h1)] | rw [if_pos (by exact z_le h1)] | rw [if_neg (by exact z_nlt h1)] | rw [if_pos (by exact z_lt h1)] | rw [if_neg (by rw [h1]; decide)] | rw [if_pos (by rw [h1])] | rw [if_neg (by exact tf_t h1)] | rw [if_neg (by exact tf_f h1)] | simp only [h1] | skip
      try rfl
    exact vv_iret C hr hlk (by rw [hE] <;> rfl) (by rw [hE] <;> rfl) d_L_takeTarget_36
  · skip
    refine vv_aload_n C d_L_takeTarget_18 rfl ?_
    refine g_L_L_targetSource C d_L_takeTarget_19 ?_
    have hE : kTake u = ((wr u 4 0 ((u.1 4 0) + 1)).1 1 0, (wr u 4 0 ((u.1 4 0) + 1))) := by
      unfold kTake
      try dsimp only
      first | rw [if_pos h1] | rw [if_neg h1] | rw [if_pos (by exact h1)] | rw [if_neg (by exact h1)] | rw [if_neg (by exact z_nle h1)] | rw [if_pos (by exact z_le h1)] | rw [if_neg (by exact z_nlt h1)] | rw [if_pos (by exact z_lt h1)] | rw [if_neg (by rw [h1]; decide)] | rw [if_pos (by rw [h1])] | rw [if_neg (by exact tf_t h1)] | rw [if_neg (by exact tf_f h1)] | simp only [h1] | skip
      try rfl
    exact vv_iret C hr hlk (by rw [hE] <;> rfl) (by rw [hE] <;> rfl) d_L_takeTarget_22
set_option maxHeartbeats 4000000 in
set_option maxRecDepth 100000 in
theorem c_L_result (l : Launch) (Γ : Geo) (u : SC) : CtC l Γ y_L_result b_L_result 1 (some .int) 0 [.ref (Γ.2.1 0)] u (some (.int (u.1 5 0))) u := by
  refine ct_of (by decide +kernel) (Nat.le_of_ble_eq_true rfl) ?_
  intro p e s m args below meth c C hr hlk
  refine vv_aload_n C d_L_result_0 rfl ?_
  refine g_L_L_value C d_L_result_1 ?_
  exact vv_iret C hr hlk rfl rfl d_L_result_4
set_option maxHeartbeats 4000000 in
set_option maxRecDepth 100000 in
theorem c_L_asked (l : Launch) (Γ : Geo) (u : SC) : CtC l Γ y_L_asked b_L_asked 1 (some .int) 0 [.ref (Γ.2.1 0)] u (some (.int (u.1 3 0))) u := by
  refine ct_of (by decide +kernel) (Nat.le_of_ble_eq_true rfl) ?_
  intro p e s m args below meth c C hr hlk
  refine vv_aload_n C d_L_asked_0 rfl ?_
  refine g_L_L_timesAsked C d_L_asked_1 ?_
  exact vv_iret C hr hlk rfl rfl d_L_asked_4
set_option maxHeartbeats 4000000 in
set_option maxRecDepth 100000 in
theorem c_L_taken (l : Launch) (Γ : Geo) (u : SC) : CtC l Γ y_L_taken b_L_taken 1 (some .int) 0 [.ref (Γ.2.1 0)] u (some (.int (u.1 4 0))) u := by
  refine ct_of (by decide +kernel) (Nat.le_of_ble_eq_true rfl) ?_
  intro p e s m args below meth c C hr hlk
  refine vv_aload_n C d_L_taken_0 rfl ?_
  refine g_L_L_targetsTaken C d_L_taken_1 ?_
  exact vv_iret C hr hlk rfl rfl d_L_taken_4
set_option maxHeartbeats 4000000 in
set_option maxRecDepth 100000 in
theorem c_L_events (l : Launch) (Γ : Geo) (u : SC) : CtC l Γ y_L_events b_L_events 1 (some .int) 0 [.ref (Γ.2.1 0)] u (some (.int (u.1 8 0))) u := by
  refine ct_of (by decide +kernel) (Nat.le_of_ble_eq_true rfl) ?_
  intro p e s m args below meth c C hr hlk
  refine vv_aload_n C d_L_events_0 rfl ?_
  refine g_L_L_trace C d_L_events_1 ?_
  refine g_L_T_length C d_L_events_4 ?_
  exact vv_iret C hr hlk rfl rfl d_L_events_7
set_option maxHeartbeats 4000000 in
set_option maxRecDepth 100000 in
theorem c_L_freeze (l : Launch) (Γ : Geo) (u : SC) (b : Bool) : CtC l Γ y_L_freeze b_L_freeze 2 none 0 [.ref (Γ.2.1 0), .int (bI b)] u none (kFreeze u b) := by
  refine ct_of (by decide +kernel) (Nat.le_of_ble_eq_true rfl) ?_
  intro p e s m args below meth c C hr hlk
  refine vv_aload_n C d_L_freeze_0 rfl ?_
  refine vv_iload_n C d_L_freeze_1 rfl ?_
  refine p_L_L_frozen C (bI_nar _) (bI_fit _) d_L_freeze_2 ?_
  have hE : kFreeze u b = (wr u 0 0 (bI b)) := by
    unfold kFreeze
    try dsimp only
    try rfl
  exact vv_vret C hr hlk rfl (by rw [hE]) d_L_freeze_5
set_option maxHeartbeats 4000000 in
set_option maxRecDepth 100000 in
theorem c_L_source (l : Launch) (Γ : Geo) (u : SC) (x : Int32) : CtC l Γ y_L_source b_L_source 2 (some .boolean) 0 [.ref (Γ.2.1 0), .int x] u (some (.int (bI (kSource u x).1))) (kSource u x).2 := by
  refine ct_of (by decide +kernel) (Nat.le_of_ble_eq_true rfl) ?_
  intro p e s m args below meth c C hr hlk
  refine vv_iload_n C d_L_source_0 rfl ?_
  refine vv_if_lt C 9 d_L_source_1 rfl (fun h1 => ?_) (fun h1 => ?_)
  · skip
    refine vv_iconst C (0) d_L_source_9 (by decide) ?_
    have hE : kSource u x = (false, u) := by
      unfold kSource
      try dsimp only
      first | rw [if_pos h1] | rw [if_neg h1] | rw [if_pos (by exact h1)] | rw [if_neg (by exact h1)] | rw [if_neg (by exact z_nle h1)] | rw [if_pos (by exact z_le h1)] | rw [if_neg (by exact z_nlt h1)] | rw [if_pos (by exact z_lt h1)] | rw [if_neg (by rw [h1]; decide)] | rw [if_pos (by rw [h1])] | rw [if_neg (by exact tf_t h1)] | rw [if_neg (by exact tf_f h1)] | simp only [h1] | skip
      try rfl
    exact vv_zret C hr hlk rfl (by rw [hE]; rfl) (by rw [hE] <;> rfl) d_L_source_10
  · skip
    refine vv_iload_n C d_L_source_4 rfl ?_
    refine vv_iconst C (2) d_L_source_5 (by decide) ?_
    refine vv_icmp_le C 11 d_L_source_6 rfl (fun h2 => ?_) (fun h2 => ?_)
    · skip
      refine vv_aload_n C d_L_source_11 rfl ?_
      refine vv_iload_n C d_L_source_12 rfl ?_
      refine p_L_L_targetSource C d_L_source_13 ?_
      refine vv_aload_n C d_L_source_16 rfl ?_
      refine vv_iconst C (0) d_L_source_17 (by decide) ?_
      refine p_L_L_nextInTurn C d_L_source_18 ?_
      refine vv_iconst C (1) d_L_source_21 (by decide) ?_
      have hE : kSource u x = (true, (wr (wr u 1 0 x) 2 0 0)) := by
        unfold kSource
        try dsimp only
        first | rw [if_pos h1] | rw [if_neg h1] | rw [if_pos (by exact h1)] | rw [if_neg (by exact h1)] | rw [if_neg (by exact z_nle h1)] | rw [if_pos (by exact z_le h1)] | rw [if_neg (by exact z_nlt h1)] | rw [if_pos (by exact z_lt h1)] | rw [if_neg (by rw [h1]; decide)] | rw [if_pos (by rw [h1])] | rw [if_neg (by exact tf_t h1)] | rw [if_neg (by exact tf_f h1)] | simp only [h1] | skip
        first | rw [if_pos h2] | rw [if_neg h2] | rw [if_pos (by exact h2)] | rw [if_neg (by exact h2)] | rw [if_neg (by exact z_nle h2)] | rw [if_pos (by exact z_le h2)] | rw [if_neg (by exact z_nlt h2)] | rw [if_pos (by exact z_lt h2)] | rw [if_neg (by rw [h2]; decide)] | rw [if_pos (by rw [h2])] | rw [if_neg (by exact tf_t h2)] | rw [if_neg (by exact tf_f h2)] | simp only [h2] | skip
        try rfl
      exact vv_zret C hr hlk rfl (by rw [hE]; rfl) (by rw [hE] <;> rfl) d_L_source_22
    · skip
      refine vv_iconst C (0) d_L_source_9 (by decide) ?_
      have hE : kSource u x = (false, u) := by
        unfold kSource
        try dsimp only
        first | rw [if_pos h1] | rw [if_neg h1] | rw [if_pos (by exact h1)] | rw [if_neg (by exact h1)] | rw [if_neg (by exact z_nle h1)] | rw [if_pos (by exact z_le h1)] | rw [if_neg (by exact z_nlt h1)] | rw [if_pos (by exact z_lt h1)] | rw [if_neg (by rw [h1]; decide)] | rw [if_pos (by rw [h1])] | rw [if_neg (by exact tf_t h1)] | rw [if_neg (by exact tf_f h1)] | simp only [h1] | skip
        first | rw [if_pos h2] | rw [if_neg h2] | rw [if_pos (by exact h2)] | rw [if_neg (by exact h2)] | rw [if_neg (by exact z_nle h2)] | rw [if_pos (by exact z_le h2)] | rw [if_neg (by exact z_nlt h2)] | rw [if_pos (by exact z_lt h2)] | rw [if_neg (by rw [h2]; decide)] | rw [if_pos (by rw [h2])] | rw [if_neg (by exact tf_t h2)] | rw [if_neg (by exact tf_f h2)] | simp only [h2] | skip
        try rfl
      exact vv_zret C hr hlk rfl (by rw [hE]; rfl) (by rw [hE] <;> rfl) d_L_source_10
