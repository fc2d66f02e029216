def GoC (n : Nat) : Prop := ∀ (l : Launch) (Γ : Geo) (u : SC) (dd ff : Nat) (x : Int32), dd < 3 → ff ≤ 6 → (2 - dd) * 7 + (6 - ff) < n → IC u → CtC l Γ y_L_goAlong b_L_goAlong 6 (some .int) (3 * n) [.ref (Γ.2.1 0), .int (nI dd), .int (nI ff), .int x] u (some (.int (kGo n (nI dd) (nI ff) x u).1)) (kGo n (nI dd) (nI ff) x u).2
theorem in3 {p : Nat} (h : p < 3) : vp_in (nI p) 3 := vp_in_nI h (by omega)
theorem lt3_of {d : Nat} (hd : d ≤ 3) (h : nI d < 3) : d < 3 := by
  rw [show (3 : Int32) = nI 3 from rfl, nlt (by omega) (by omega)] at h
  exact h
theorem IC_beg {u : SC} (h : IC u) {x : Int32} (hx : ∃ q, q < 6 ∧ x = nI q) (i : Nat) : IC (wr (kTake (wr u 9 i x)).2 10 i (kTake (wr u 9 i x)).1) := by
  obtain ⟨q, hq, rfl⟩ := hx
  obtain ⟨h1, b, hb, e⟩ := IC_take (IC_set9 h i hq)
  rw [e]
  exact IC_set10 h1 i hb
theorem w_in {u : SC} (h : IC u) {dd : Nat} (hd : dd < 3) : vp_in (u.1 10 (ix (nI dd)) * 6 + u.1 9 (ix (nI dd))) 12 ∧ ix (u.1 10 (ix (nI dd)) * 6 + u.1 9 (ix (nI dd))) < 12 := by
  obtain ⟨a, ha, ea⟩ := h.2.2.2.1 dd hd
  obtain ⟨b, hb, eb⟩ := h.2.2.2.2.1 dd hd
  rw [ixn (by omega : dd < 1000), ea, eb, show (6 : Int32) = nI 6 from rfl, pk_mul, nI_add]
  exact ⟨vp_in_nI (by omega) (by omega), by rw [ixn (by omega)]; omega⟩
theorem nx_ok {u : SC} (h : IC u) {j : Nat} (hj : j < 12) (hn : ¬ u.1 26 j = -1) : ∃ q, q < 6 ∧ u.1 26 j = nI q := (h.2.2.2.2.2.2.2 j hj).elim (fun z => absurd z hn) id
theorem ch_ok {u : SC} (h : IC u) {ff : Nat} {x : Int32} (hf : ff ≤ 6) (hn : ¬ kChainP u x (nI ff) = -1) : ∃ q, ff ≤ q ∧ q < 6 ∧ kChainP u x (nI ff) = nI q := by
  obtain ⟨t, ht, h6⟩ := h.1
  by_cases c : ff ≤ t
  · rcases kChainL_spec u x ht h6 7 ff c (by omega) with ⟨z, -⟩ | ⟨q, z1, z2, z3, -⟩
    · exact absurd z hn
    · exact ⟨q, z1, by omega, z3⟩
  · exfalso
    apply hn
    show kChainL u x 7 (nI ff) = -1
    rw [kChainL, h6, if_pos ((nle (by omega) (by omega)).mpr (by omega))]
theorem sw_out {x : Int32} {m : Nat} (hm : m < 20) (h : ∀ j, j ≤ m → ¬ x = nI j) : x.toInt < 0 ∨ (m : Int) < x.toInt := by
  by_cases c : x < 0
  · simp only [Int32.lt_iff_toInt_lt] at c
    exact Or.inl c
  · obtain ⟨j, hj, rfl⟩ := nI_of c
    rw [nI_toInt hj]
    right
    by_cases c2 : j ≤ m
    · exact absurd rfl (h j c2)
    · omega
set_option maxHeartbeats 4000000 in
set_option maxRecDepth 100000 in
theorem c_L_begin (l : Launch) (Γ : Geo) (u : SC) {n : Nat} (hG : GoC n) (x0 a : Int32) (d1 : Nat) (hd1 : d1 ≤ 3) (hmu : d1 < 3 → (2 - d1) * 7 + (6 - 0) < n) (hm : ∃ q, q < 6 ∧ x0 = nI q) (hI : IC u) : CtC l Γ y_L_begin b_L_begin 4 (some .int) (3 * n + 1) [.ref (Γ.2.1 0), .int x0, .int a, .int (nI d1)] u (some (.int (kBegin (kGo n) x0 a (nI d1) u).1)) (kBegin (kGo n) x0 a (nI d1) u).2 := by
  refine ct_of (by decide +kernel) (Nat.le_of_ble_eq_true rfl) ?_
  intro p e s m args below meth c C hr hlk
  refine vv_iload_n C d_L_begin_0 rfl ?_
  refine vv_iconst C (3) d_L_begin_1 (by decide) ?_
  refine vv_icmp_lt C 12 d_L_begin_2 rfl (fun h1 => ?_) (fun h1 => ?_)
  · skip
    have hd3 := lt3_of hd1 h1
    refine vv_aload_n C d_L_begin_12 rfl ?_
    refine g_L_L_methodAt C d_L_begin_13 ?_
    refine vv_iload_n C d_L_begin_16 rfl ?_
    refine vv_iload_n C d_L_begin_17 rfl ?_
    refine sr_4_7 C (in3 hd3) d_L_begin_18 ?_
    refine vv_aload_n C d_L_begin_19 rfl ?_
    refine g_L_L_targetAt C d_L_begin_20 ?_
    refine vv_iload_n C d_L_begin_23 rfl ?_
    refine vv_aload_n C d_L_begin_24 rfl ?_
    refine callC (rest := [.int (nI d1), .ref (Γ.2.1 8)]) C (c_L_takeTarget l Γ (wr u 9 (ix (nI d1)) x0)) cw_L_L_takeTarget rfl 0 (by decide) rfl rfl rfl rfl (Nat.le_of_ble_eq_true rfl) (by decide) (by omega) d_L_begin_25 ?_
    refine vv_st (st' := [.int ((kTake (wr u 9 (ix (nI d1)) x0)).1), .int (nI d1), .ref (Γ.2.1 8)]) rfl ?_
    refine sr_4_8 C (in3 hd3) d_L_begin_28 ?_
    refine vv_aload_n C d_L_begin_29 rfl ?_
    refine vv_iload_n C d_L_begin_30 rfl ?_
    refine vv_iconst C (0) d_L_begin_31 (by decide) ?_
    refine vv_iload_n C d_L_begin_32 rfl ?_
    refine callC (rest := []) C (hG l Γ (wr ((kTake (wr u 9 (ix (nI d1)) x0)).2) 10 (ix (nI d1)) ((kTake (wr u 9 (ix (nI d1)) x0)).1)) d1 0 a hd3 (by omega) (hmu hd3) (IC_beg hI hm (ix (nI d1)))) cw_L_L_goAlong rfl 0 (by decide) rfl rfl rfl rfl (Nat.le_of_ble_eq_true rfl) (by decide) (by omega) d_L_begin_33 ?_
    refine vv_st (st' := [.int ((kGo n (nI d1) 0 a (wr ((kTake (wr u 9 (ix (nI d1)) x0)).2) 10 (ix (nI d1)) ((kTake (wr u 9 (ix (nI d1)) x0)).1))).1)]) rfl ?_
    have hE : kBegin (kGo n) x0 a (nI d1) u = ((kGo n (nI d1) 0 a (wr ((kTake (wr u 9 (ix (nI d1)) x0)).2) 10 (ix (nI d1)) ((kTake (wr u 9 (ix (nI d1)) x0)).1))).1, ((kGo n (nI d1) 0 a (wr ((kTake (wr u 9 (ix (nI d1)) x0)).2) 10 (ix (nI d1)) ((kTake (wr u 9 (ix (nI d1)) x0)).1))).2)) := by
      unfold kBegin
      try dsimp only
      first | rw [if_pos h1] | rw [if_neg h1] | rw [if_pos (by exact h1)] | rw [if_neg (by exact h1)] | rw [if_neg (by exact z_nle h1)] | rw [if_pos (by exact z_le h1)] | rw [if_neg (by exact z_nlt h1)] | rw [if_pos (by exact z_lt h1)] | rw [if_neg (by rw [h1]; decide)] | rw [if_pos (by rw [h1])] | rw [if_neg (by exact tf_t h1)] | rw [if_neg (by exact tf_f h1)] | simp only [h1] | skip
      try rfl
    exact vv_iret C hr hlk (by rw [hE] <;> rfl) (by rw [hE] <;> rfl) d_L_begin_36
  · skip
    refine vv_aload_n C d_L_begin_5 rfl ?_
    refine vv_bipush C (15) d_L_begin_6 (by decide) ?_
    refine callC (rest := []) C (c_L_thrown l Γ u 15) cw_L_L_thrown rfl 0 (by decide) rfl rfl rfl rfl (Nat.le_of_ble_eq_true rfl) (by decide) (by omega) d_L_begin_8 ?_
    refine vv_st (st' := [.int 1]) rfl ?_
    have hE : kBegin (kGo n) x0 a (nI d1) u = (1, (wr u 5 0 15)) := by
      unfold kBegin
      try dsimp only
      first | rw [if_pos h1] | rw [if_neg h1] | rw [if_pos (by exact h1)] | rw [if_neg (by exact h1)] | rw [if_neg (by exact z_nle h1)] | rw [if_pos (by exact z_le h1)] | rw [if_neg (by exact z_nlt h1)] | rw [if_pos (by exact z_lt h1)] | rw [if_neg (by rw [h1]; decide)] | rw [if_pos (by rw [h1])] | rw [if_neg (by exact tf_t h1)] | rw [if_neg (by exact tf_f h1)] | simp only [h1] | skip
      try rfl
    exact vv_iret C hr hlk (by rw [hE] <;> rfl) (by rw [hE] <;> rfl) d_L_begin_11
set_option maxHeartbeats 4000000 in
set_option maxRecDepth 100000 in
theorem c_L_actBefore (l : Launch) (Γ : Geo) (u : SC) {n : Nat} (hG : GoC n) (k : Nat) (hk : k < 6) (dd bb : Nat) (x : Int32) (hdd : dd < 3) (hbb : bb ≤ 6) (hmu : (2 - dd) * 7 + (6 - bb) < n) (hI : IC u) : CtC l Γ y_L_actBefore b_L_actBefore 5 (some .int) (3 * n + 1) [.ref (Γ.2.1 0), .ref (Γ.2.1 (k + 9)), .int (nI dd), .int (nI bb), .int x] u (some (.int (kBef (kGo n) k (nI dd) (nI bb) x u).1)) (kBef (kGo n) k (nI dd) (nI bb) x u).2 := by
  refine ct_of (by decide +kernel) (Nat.le_of_ble_eq_true rfl) ?_
  intro p e s m args below meth c C hr hlk
  refine vv_aload_n C d_L_actBefore_0 rfl ?_
  refine g_L_L_trace C d_L_actBefore_1 ?_
  refine vv_aload_n C d_L_actBefore_4 rfl ?_
  refine g_L_A_number C hk d_L_actBefore_5 ?_
  refine vv_iload C d_L_actBefore_8 rfl ?_
  refine callC (rest := []) C (c_T_note l Γ u hI (u.1 13 k) x) cw_L_T_note rfl 4 (by decide) rfl rfl rfl rfl (Nat.le_of_ble_eq_true rfl) (by decide) (by omega) d_L_actBefore_10 ?_
  refine vv_st (st' := [.int (bI (kNote u (u.1 13 k) x).1)]) rfl ?_
  refine vv_if_ne C 21 d_L_actBefore_13 rfl (fun h1 => ?_) (fun h1 => ?_)
  · skip
    replace h1 := bI_t h1
    refine vv_iload C d_L_actBefore_21 rfl ?_
    refine vv_aload_n C d_L_actBefore_23 rfl ?_
    refine g_L_A_a C hk d_L_actBefore_24 ?_
    refine vv_icmp_ne C 41 d_L_actBefore_27 rfl (fun h2 => ?_) (fun h2 => ?_)
    · skip
      refine vv_aload_n C d_L_actBefore_41 rfl ?_
      refine vv_iload_n C d_L_actBefore_42 rfl ?_
      refine vv_iload_n C d_L_actBefore_43 rfl ?_
      refine vv_iload C d_L_actBefore_44 rfl ?_
      refine callC (rest := []) C (hG l Γ ((kNote u (u.1 13 k) x).2) dd bb x hdd hbb hmu (IC_note hI (u.1 13 k) x)) cw_L_L_goAlong rfl 0 (by decide) rfl rfl rfl rfl (Nat.le_of_ble_eq_true rfl) (by decide) (by omega) d_L_actBefore_46 ?_
      refine vv_st (st' := [.int ((kGo n (nI dd) (nI bb) x ((kNote u (u.1 13 k) x).2)).1)]) rfl ?_
      have hE : kBef (kGo n) k (nI dd) (nI bb) x u = ((kGo n (nI dd) (nI bb) x ((kNote u (u.1 13 k) x).2)).1, ((kGo n (nI dd) (nI bb) x ((kNote u (u.1 13 k) x).2)).2)) := by
        unfold kBef
        try dsimp only
        first | rw [if_pos h1] | rw [if_neg h1] | rw [if_pos (by exact h1)] | rw [if_neg (by exact h1)] | rw [if_neg (by exact z_nle h1)] | rw [if_pos (by exact z_le h1)] | rw [if_neg (by exact z_nlt h1)] | rw [if_pos (by exact z_lt h1)] | rw [if_neg (by rw [h1]; decide)] | rw [if_pos (by rw [h1])] | rw [if_neg (by exact tf_t h1)] | rw [if_neg (by exact tf_f h1)] | simp only [h1] | skip
        first | rw [if_pos h2] | rw [if_neg h2] | rw [if_pos (by exact h2)] | rw [if_neg (by exact h2)] | rw [if_neg (by exact z_nle h2)] | rw [if_pos (by exact z_le h2)] | rw [if_neg (by exact z_nlt h2)] | rw [if_pos (by exact z_lt h2)] | rw [if_neg (by rw [h2]; decide)] | rw [if_pos (by rw [h2])] | rw [if_neg (by exact tf_t h2)] | rw [if_neg (by exact tf_f h2)] | simp only [h2] | skip
        try rfl
      exact vv_iret C hr hlk (by rw [hE] <;> rfl) (by rw [hE] <;> rfl) d_L_actBefore_49
    · skip
      refine vv_aload_n C d_L_actBefore_30 rfl ?_
      refine vv_aload_n C d_L_actBefore_31 rfl ?_
      refine g_L_A_b C hk d_L_actBefore_32 ?_
      refine callC (rest := []) C (c_L_thrown l Γ ((kNote u (u.1 13 k) x).2) (((kNote u (u.1 13 k) x).2).1 18 k)) cw_L_L_thrown rfl 0 (by decide) rfl rfl rfl rfl (Nat.le_of_ble_eq_true rfl) (by decide) (by omega) d_L_actBefore_35 ?_
      refine vv_st (st' := [.int 1]) rfl ?_
      refine vv_goto C 49 d_L_actBefore_38 rfl ?_
      have hE : kBef (kGo n) k (nI dd) (nI bb) x u = (1, (wr ((kNote u (u.1 13 k) x).2) 5 0 (((kNote u (u.1 13 k) x).2).1 18 k))) := by
        unfold kBef
        try dsimp only
        first | rw [if_pos h1] | rw [if_neg h1] | rw [if_pos (by exact h1)] | rw [if_neg (by exact h1)] | rw [if_neg (by exact z_nle h1)] | rw [if_pos (by exact z_le h1)] | rw [if_neg (by exact z_nlt h1)] | rw [if_pos (by exact z_lt h1)] | rw [if_neg (by rw [h1]; decide)] | rw [if_pos (by rw [h1])] | rw [if_neg (by exact tf_t h1)] | rw [if_neg (by exact tf_f h1)] | simp only [h1] | skip
        first | rw [if_pos h2] | rw [if_neg h2] | rw [if_pos (by exact h2)] | rw [if_neg (by exact h2)] | rw [if_neg (by exact z_nle h2)] | rw [if_pos (by exact z_le h2)] | rw [if_neg (by exact z_nlt h2)] | rw [if_pos (by exact z_lt h2)] | rw [if_neg (by rw [h2]; decide)] | rw [if_pos (by rw [h2])] | rw [if_neg (by exact tf_t h2)] | rw [if_neg (by exact tf_f h2)] | simp only [h2] | skip
        try rfl
      exact vv_iret C hr hlk (by rw [hE] <;> rfl) (by rw [hE] <;> rfl) d_L_actBefore_49
  · skip
    replace h1 := bI_f h1
    refine vv_aload_n C d_L_actBefore_16 rfl ?_
    refine callC (rest := []) C (c_L_brokenOff l Γ ((kNote u (u.1 13 k) x).2)) cw_L_L_brokenOff rfl 0 (by decide) rfl rfl rfl rfl (Nat.le_of_ble_eq_true rfl) (by decide) (by omega) d_L_actBefore_17 ?_
    refine vv_st (st' := [.int 2]) rfl ?_
    have hE : kBef (kGo n) k (nI dd) (nI bb) x u = (2, (wr ((kNote u (u.1 13 k) x).2) 5 0 0)) := by
      unfold kBef
      try dsimp only
      first | rw [if_pos h1] | rw [if_neg h1] | rw [if_pos (by exact h1)] | rw [if_neg (by exact h1)] | rw [if_neg (by exact z_nle h1)] | rw [if_pos (by exact z_le h1)] | rw [if_neg (by exact z_nlt h1)] | rw [if_pos (by exact z_lt h1)] | rw [if_neg (by rw [h1]; decide)] | rw [if_pos (by rw [h1])] | rw [if_neg (by exact tf_t h1)] | rw [if_neg (by exact tf_f h1)] | simp only [h1] | skip
      try rfl
    exact vv_iret C hr hlk (by rw [hE] <;> rfl) (by rw [hE] <;> rfl) d_L_actBefore_20
set_option maxHeartbeats 4000000 in
set_option maxRecDepth 100000 in
theorem c_L_actChange (l : Launch) (Γ : Geo) (u : SC) {n : Nat} (hG : GoC n) (k : Nat) (hk : k < 6) (dd bb : Nat) (x : Int32) (hdd : dd < 3) (hbb : bb ≤ 6) (hmu : (2 - dd) * 7 + (6 - bb) < n) (hI : IC u) : CtC l Γ y_L_actChange b_L_actChange 6 (some .int) (3 * n + 1) [.ref (Γ.2.1 0), .ref (Γ.2.1 (k + 9)), .int (nI dd), .int (nI bb), .int x] u (some (.int (kChg (kGo n) k (nI dd) (nI bb) x u).1)) (kChg (kGo n) k (nI dd) (nI bb) x u).2 := by
  refine ct_of (by decide +kernel) (Nat.le_of_ble_eq_true rfl) ?_
  intro p e s m args below meth c C hr hlk
  refine vv_aload_n C d_L_actChange_0 rfl ?_
  refine g_L_L_trace C d_L_actChange_1 ?_
  refine vv_aload_n C d_L_actChange_4 rfl ?_
  refine g_L_A_number C hk d_L_actChange_5 ?_
  refine vv_iload C d_L_actChange_8 rfl ?_
  refine callC (rest := []) C (c_T_note l Γ u hI (u.1 13 k) x) cw_L_T_note rfl 4 (by decide) rfl rfl rfl rfl (Nat.le_of_ble_eq_true rfl) (by decide) (by omega) d_L_actChange_10 ?_
  refine vv_st (st' := [.int (bI (kNote u (u.1 13 k) x).1)]) rfl ?_
  refine vv_if_ne C 21 d_L_actChange_13 rfl (fun h1 => ?_) (fun h1 => ?_)
  · skip
    replace h1 := bI_t h1
    refine vv_aload_n C d_L_actChange_21 rfl ?_
    refine vv_iload_n C d_L_actChange_22 rfl ?_
    refine vv_iload_n C d_L_actChange_23 rfl ?_
    refine vv_iload C d_L_actChange_24 rfl ?_
    refine vv_aload_n C d_L_actChange_26 rfl ?_
    refine g_L_A_a C hk d_L_actChange_27 ?_
    refine vv_iadd C d_L_actChange_30 ?_
    refine callC (rest := []) C (hG l Γ ((kNote u (u.1 13 k) x).2) dd bb (x + (((kNote u (u.1 13 k) x).2).1 17 k)) hdd hbb hmu (IC_note hI (u.1 13 k) x)) cw_L_L_goAlong rfl 0 (by decide) rfl rfl rfl rfl (Nat.le_of_ble_eq_true rfl) (by decide) (by omega) d_L_actChange_31 ?_
    refine vv_st (st' := [.int ((kGo n (nI dd) (nI bb) (x + (((kNote u (u.1 13 k) x).2).1 17 k)) ((kNote u (u.1 13 k) x).2)).1)]) rfl ?_
    refine vv_istore (lv' := [(5, .int ((kGo n (nI dd) (nI bb) (x + (((kNote u (u.1 13 k) x).2).1 17 k)) ((kNote u (u.1 13 k) x).2)).1)), (0, .ref (Γ.2.1 0)), (1, .ref (Γ.2.1 (k + 9))), (2, .int (nI dd)), (3, .int (nI bb)), (4, .int x)]) C d_L_actChange_34 (by decide) rfl ?_
    refine vv_iload C d_L_actChange_36 rfl ?_
    refine vv_if_ne C 57 d_L_actChange_38 rfl (fun h2 => ?_) (fun h2 => ?_)
    · skip
      refine vv_iload C d_L_actChange_57 rfl ?_
      have hE : kChg (kGo n) k (nI dd) (nI bb) x u = ((kGo n (nI dd) (nI bb) (x + (((kNote u (u.1 13 k) x).2).1 17 k)) ((kNote u (u.1 13 k) x).2)).1, ((kGo n (nI dd) (nI bb) (x + (((kNote u (u.1 13 k) x).2).1 17 k)) ((kNote u (u.1 13 k) x).2)).2)) := by
        unfold kChg
        try dsimp only
        first | rw [if_pos h1] | rw [if_neg h1] | rw [if_pos (by exact h1)] | rw [if_neg (by exact h1)] | rw [if_neg (by exact z_nle h1)] | rw [if_pos (by exact z_le h1)] | rw [if_neg (by exact z_nlt h1)] | rw [if_pos (by exact z_lt h1)] | rw [if_neg (by rw [h1]; decide)] | rw [if_pos (by rw [h1])] | rw [if_neg (by exact tf_t h1)] | rw [if_neg (by exact tf_f h1)] | simp only [h1] | skip
        first | rw [if_pos h2] | rw [if_neg h2] | rw [if_pos (by exact h2)] | rw [if_neg (by exact h2)] | rw [if_neg (by exact z_nle h2)] | rw [if_pos (by exact z_le h2)] | rw [if_neg (by exact z_nlt h2)] | rw [if_pos (by exact z_lt h2)] | rw [if_neg (by rw [h2]; decide)] | rw [if_pos (by rw [h2])] | rw [if_neg (by exact tf_t h2)] | rw [if_neg (by exact tf_f h2)] | simp only [h2] | skip
        try rfl
      exact vv_iret C hr hlk (by rw [hE] <;> rfl) (by rw [hE] <;> rfl) d_L_actChange_59
    · skip
      refine vv_aload_n C d_L_actChange_41 rfl ?_
      refine vv_aload_n C d_L_actChange_42 rfl ?_
      refine g_L_L_value C d_L_actChange_43 ?_
      refine vv_aload_n C d_L_actChange_46 rfl ?_
      refine g_L_A_b C hk d_L_actChange_47 ?_
      refine vv_iadd C d_L_actChange_50 ?_
      refine callC (rest := []) C (c_L_returned l Γ ((kGo n (nI dd) (nI bb) (x + (((kNote u (u.1 13 k) x).2).1 17 k)) ((kNote u (u.1 13 k) x).2)).2) ((((kGo n (nI dd) (nI bb) (x + (((kNote u (u.1 13 k) x).2).1 17 k)) ((kNote u (u.1 13 k) x).2)).2).1 5 0) + (((kGo n (nI dd) (nI bb) (x + (((kNote u (u.1 13 k) x).2).1 17 k)) ((kNote u (u.1 13 k) x).2)).2).1 18 k))) cw_L_L_returned rfl 0 (by decide) rfl rfl rfl rfl (Nat.le_of_ble_eq_true rfl) (by decide) (by omega) d_L_actChange_51 ?_
      refine vv_st (st' := [.int 0]) rfl ?_
      refine vv_goto C 59 d_L_actChange_54 rfl ?_
      have hE : kChg (kGo n) k (nI dd) (nI bb) x u = (0, (wr ((kGo n (nI dd) (nI bb) (x + (((kNote u (u.1 13 k) x).2).1 17 k)) ((kNote u (u.1 13 k) x).2)).2) 5 0 ((((kGo n (nI dd) (nI bb) (x + (((kNote u (u.1 13 k) x).2).1 17 k)) ((kNote u (u.1 13 k) x).2)).2).1 5 0) + (((kGo n (nI dd) (nI bb) (x + (((kNote u (u.1 13 k) x).2).1 17 k)) ((kNote u (u.1 13 k) x).2)).2).1 18 k)))) := by
        unfold kChg
        try dsimp only
        first | rw [if_pos h1] | rw [if_neg h1] | rw [if_pos (by exact h1)] | rw [if_neg (by exact h1)] | rw [if_neg (by exact z_nle h1)] | rw [if_pos (by exact z_le h1)] | rw [if_neg (by exact z_nlt h1)] | rw [if_pos (by exact z_lt h1)] | rw [if_neg (by rw [h1]; decide)] | rw [if_pos (by rw [h1])] | rw [if_neg (by exact tf_t h1)] | rw [if_neg (by exact tf_f h1)] | simp only [h1] | skip
        first | rw [if_pos h2] | rw [if_neg h2] | rw [if_pos (by exact h2)] | rw [if_neg (by exact h2)] | rw [if_neg (by exact z_nle h2)] | rw [if_pos (by exact z_le h2)] | rw [if_neg (by exact z_nlt h2)] | rw [if_pos (by exact z_lt h2)] | rw [if_neg (by rw [h2]; decide)] | rw [if_pos (by rw [h2])] | rw [if_neg (by exact tf_t h2)] | rw [if_neg (by exact tf_f h2)] | simp only [h2] | skip
        try rfl
      exact vv_iret C hr hlk (by rw [hE] <;> rfl) (by rw [hE] <;> rfl) d_L_actChange_59
  · skip
    replace h1 := bI_f h1
    refine vv_aload_n C d_L_actChange_16 rfl ?_
    refine callC (rest := []) C (c_L_brokenOff l Γ ((kNote u (u.1 13 k) x).2)) cw_L_L_brokenOff rfl 0 (by decide) rfl rfl rfl rfl (Nat.le_of_ble_eq_true rfl) (by decide) (by omega) d_L_actChange_17 ?_
    refine vv_st (st' := [.int 2]) rfl ?_
    have hE : kChg (kGo n) k (nI dd) (nI bb) x u = (2, (wr ((kNote u (u.1 13 k) x).2) 5 0 0)) := by
      unfold kChg
      try dsimp only
      first | rw [if_pos h1] | rw [if_neg h1] | rw [if_pos (by exact h1)] | rw [if_neg (by exact h1)] | rw [if_neg (by exact z_nle h1)] | rw [if_pos (by exact z_le h1)] | rw [if_neg (by exact z_nlt h1)] | rw [if_pos (by exact z_lt h1)] | rw [if_neg (by rw [h1]; decide)] | rw [if_pos (by rw [h1])] | rw [if_neg (by exact tf_t h1)] | rw [if_neg (by exact tf_f h1)] | simp only [h1] | skip
      try rfl
    exact vv_iret C hr hlk (by rw [hE] <;> rfl) (by rw [hE] <;> rfl) d_L_actChange_20
set_option maxHeartbeats 4000000 in
set_option maxRecDepth 100000 in
theorem c_L_actSkip (l : Launch) (Γ : Geo) (u : SC) {n : Nat} (hG : GoC n) (k : Nat) (hk : k < 6) (dd bb : Nat) (x : Int32) (hdd : dd < 3) (hbb : bb ≤ 6) (hmu : (2 - dd) * 7 + (6 - bb) < n) (hI : IC u) : CtC l Γ y_L_actSkip b_L_actSkip 5 (some .int) (3 * n + 1) [.ref (Γ.2.1 0), .ref (Γ.2.1 (k + 9)), .int (nI dd), .int (nI bb), .int x] u (some (.int (kSkp (kGo n) k (nI dd) (nI bb) x u).1)) (kSkp (kGo n) k (nI dd) (nI bb) x u).2 := by
  refine ct_of (by decide +kernel) (Nat.le_of_ble_eq_true rfl) ?_
  intro p e s m args below meth c C hr hlk
  refine vv_aload_n C d_L_actSkip_0 rfl ?_
  refine g_L_L_trace C d_L_actSkip_1 ?_
  refine vv_aload_n C d_L_actSkip_4 rfl ?_
  refine g_L_A_number C hk d_L_actSkip_5 ?_
  refine vv_iload C d_L_actSkip_8 rfl ?_
  refine callC (rest := []) C (c_T_note l Γ u hI (u.1 13 k) x) cw_L_T_note rfl 4 (by decide) rfl rfl rfl rfl (Nat.le_of_ble_eq_true rfl) (by decide) (by omega) d_L_actSkip_10 ?_
  refine vv_st (st' := [.int (bI (kNote u (u.1 13 k) x).1)]) rfl ?_
  refine vv_if_ne C 21 d_L_actSkip_13 rfl (fun h1 => ?_) (fun h1 => ?_)
  · skip
    replace h1 := bI_t h1
    refine vv_iload C d_L_actSkip_21 rfl ?_
    refine vv_aload_n C d_L_actSkip_23 rfl ?_
    refine g_L_A_a C hk d_L_actSkip_24 ?_
    refine vv_icmp_ge C 41 d_L_actSkip_27 rfl (fun h2 => ?_) (fun h2 => ?_)
    · skip
      refine vv_aload_n C d_L_actSkip_41 rfl ?_
      refine vv_iload_n C d_L_actSkip_42 rfl ?_
      refine vv_iload_n C d_L_actSkip_43 rfl ?_
      refine vv_iload C d_L_actSkip_44 rfl ?_
      refine callC (rest := []) C (hG l Γ ((kNote u (u.1 13 k) x).2) dd bb x hdd hbb hmu (IC_note hI (u.1 13 k) x)) cw_L_L_goAlong rfl 0 (by decide) rfl rfl rfl rfl (Nat.le_of_ble_eq_true rfl) (by decide) (by omega) d_L_actSkip_46 ?_
      refine vv_st (st' := [.int ((kGo n (nI dd) (nI bb) x ((kNote u (u.1 13 k) x).2)).1)]) rfl ?_
      have hE : kSkp (kGo n) k (nI dd) (nI bb) x u = ((kGo n (nI dd) (nI bb) x ((kNote u (u.1 13 k) x).2)).1, ((kGo n (nI dd) (nI bb) x ((kNote u (u.1 13 k) x).2)).2)) := by
        unfold kSkp
        try dsimp only
        first | rw [if_pos h1] | rw [if_neg h1] | rw [if_pos (by exact h1)] | rw [if_neg (by exact h1)] | rw [if_neg (by exact z_nle h1)] | rw [if_pos (by exact z_le h1)] | rw [if_neg (by exact z_nlt h1)] | rw [if_pos (by exact z_lt h1)] | rw [if_neg (by rw [h1]; decide)] | rw [if_pos (by rw [h1])] | rw [if_neg (by exact tf_t h1)] | rw [if_neg (by exact tf_f h1)] | simp only [h1] | skip
        first | rw [if_pos h2] | rw [if_neg h2] | rw [if_pos (by exact h2)] | rw [if_neg (by exact h2)] | rw [if_neg (by exact z_nle h2)] | rw [if_pos (by exact z_le h2)] | rw [if_neg (by exact z_nlt h2)] | rw [if_pos (by exact z_lt h2)] | rw [if_neg (by rw [h2]; decide)] | rw [if_pos (by rw [h2])] | rw [if_neg (by exact tf_t h2)] | rw [if_neg (by exact tf_f h2)] | simp only [h2] | skip
        try rfl
      exact vv_iret C hr hlk (by rw [hE] <;> rfl) (by rw [hE] <;> rfl) d_L_actSkip_49
    · skip
      refine vv_aload_n C d_L_actSkip_30 rfl ?_
      refine vv_aload_n C d_L_actSkip_31 rfl ?_
      refine g_L_A_b C hk d_L_actSkip_32 ?_
      refine callC (rest := []) C (c_L_returned l Γ ((kNote u (u.1 13 k) x).2) (((kNote u (u.1 13 k) x).2).1 18 k)) cw_L_L_returned rfl 0 (by decide) rfl rfl rfl rfl (Nat.le_of_ble_eq_true rfl) (by decide) (by omega) d_L_actSkip_35 ?_
      refine vv_st (st' := [.int 0]) rfl ?_
      refine vv_goto C 49 d_L_actSkip_38 rfl ?_
      have hE : kSkp (kGo n) k (nI dd) (nI bb) x u = (0, (wr ((kNote u (u.1 13 k) x).2) 5 0 (((kNote u (u.1 13 k) x).2).1 18 k))) := by
        unfold kSkp
        try dsimp only
        first | rw [if_pos h1] | rw [if_neg h1] | rw [if_pos (by exact h1)] | rw [if_neg (by exact h1)] | rw [if_neg (by exact z_nle h1)] | rw [if_pos (by exact z_le h1)] | rw [if_neg (by exact z_nlt h1)] | rw [if_pos (by exact z_lt h1)] | rw [if_neg (by rw [h1]; decide)] | rw [if_pos (by rw [h1])] | rw [if_neg (by exact tf_t h1)] | rw [if_neg (by exact tf_f h1)] | simp only [h1] | skip
        first | rw [if_pos h2] | rw [if_neg h2] | rw [if_pos (by exact h2)] | rw [if_neg (by exact h2)] | rw [if_neg (by exact z_nle h2)] | rw [if_pos (by exact z_le h2)] | rw [if_neg (by exact z_nlt h2)] | rw [if_pos (by exact z_lt h2)] | rw [if_neg (by rw [h2]; decide)] | rw [if_pos (by rw [h2])] | rw [if_neg (by exact tf_t h2)] | rw [if_neg (by exact tf_f h2)] | simp only [h2] | skip
        try rfl
      exact vv_iret C hr hlk (by rw [hE] <;> rfl) (by rw [hE] <;> rfl) d_L_actSkip_49
  · skip
    replace h1 := bI_f h1
    refine vv_aload_n C d_L_actSkip_16 rfl ?_
    refine callC (rest := []) C (c_L_brokenOff l Γ ((kNote u (u.1 13 k) x).2)) cw_L_L_brokenOff rfl 0 (by decide) rfl rfl rfl rfl (Nat.le_of_ble_eq_true rfl) (by decide) (by omega) d_L_actSkip_17 ?_
    refine vv_st (st' := [.int 2]) rfl ?_
    have hE : kSkp (kGo n) k (nI dd) (nI bb) x u = (2, (wr ((kNote u (u.1 13 k) x).2) 5 0 0)) := by
      unfold kSkp
      try dsimp only
      first | rw [if_pos h1] | rw [if_neg h1] | rw [if_pos (by exact h1)] | rw [if_neg (by exact h1)] | rw [if_neg (by exact z_nle h1)] | rw [if_pos (by exact z_le h1)] | rw [if_neg (by exact z_nlt h1)] | rw [if_pos (by exact z_lt h1)] | rw [if_neg (by rw [h1]; decide)] | rw [if_pos (by rw [h1])] | rw [if_neg (by exact tf_t h1)] | rw [if_neg (by exact tf_f h1)] | simp only [h1] | skip
      try rfl
    exact vv_iret C hr hlk (by rw [hE] <;> rfl) (by rw [hE] <;> rfl) d_L_actSkip_20
set_option maxHeartbeats 4000000 in
set_option maxRecDepth 100000 in
theorem c_L_actTwice (l : Launch) (Γ : Geo) (u : SC) {n : Nat} (hG : GoC n) (k : Nat) (hk : k < 6) (dd bb : Nat) (x : Int32) (hdd : dd < 3) (hbb : bb ≤ 6) (hmu : (2 - dd) * 7 + (6 - bb) < n) (hI : IC u) : CtC l Γ y_L_actTwice b_L_actTwice 8 (some .int) (3 * n + 1) [.ref (Γ.2.1 0), .ref (Γ.2.1 (k + 9)), .int (nI dd), .int (nI bb), .int x] u (some (.int (kTwi (kGo n) k (nI dd) (nI bb) x u).1)) (kTwi (kGo n) k (nI dd) (nI bb) x u).2 := by
  refine ct_of (by decide +kernel) (Nat.le_of_ble_eq_true rfl) ?_
  intro p e s m args below meth c C hr hlk
  refine vv_aload_n C d_L_actTwice_0 rfl ?_
  refine g_L_L_trace C d_L_actTwice_1 ?_
  refine vv_aload_n C d_L_actTwice_4 rfl ?_
  refine g_L_A_number C hk d_L_actTwice_5 ?_
  refine vv_iload C d_L_actTwice_8 rfl ?_
  refine callC (rest := []) C (c_T_note l Γ u hI (u.1 13 k) x) cw_L_T_note rfl 4 (by decide) rfl rfl rfl rfl (Nat.le_of_ble_eq_true rfl) (by decide) (by omega) d_L_actTwice_10 ?_
  refine vv_st (st' := [.int (bI (kNote u (u.1 13 k) x).1)]) rfl ?_
  refine vv_if_ne C 21 d_L_actTwice_13 rfl (fun h1 => ?_) (fun h1 => ?_)
  · skip
    replace h1 := bI_t h1
    refine vv_aload_n C d_L_actTwice_21 rfl ?_
    refine vv_iload_n C d_L_actTwice_22 rfl ?_
    refine vv_iload_n C d_L_actTwice_23 rfl ?_
    refine vv_iload C d_L_actTwice_24 rfl ?_
    refine callC (rest := []) C (hG l Γ ((kNote u (u.1 13 k) x).2) dd bb x hdd hbb hmu (IC_note hI (u.1 13 k) x)) cw_L_L_goAlong rfl 0 (by decide) rfl rfl rfl rfl (Nat.le_of_ble_eq_true rfl) (by decide) (by omega) d_L_actTwice_26 ?_
    refine vv_st (st' := [.int ((kGo n (nI dd) (nI bb) x ((kNote u (u.1 13 k) x).2)).1)]) rfl ?_
    refine vv_istore (lv' := [(5, .int ((kGo n (nI dd) (nI bb) x ((kNote u (u.1 13 k) x).2)).1)), (0, .ref (Γ.2.1 0)), (1, .ref (Γ.2.1 (k + 9))), (2, .int (nI dd)), (3, .int (nI bb)), (4, .int x)]) C d_L_actTwice_29 (by decide) rfl ?_
    refine vv_iload C d_L_actTwice_31 rfl ?_
    refine vv_if_eq C 39 d_L_actTwice_33 rfl (fun h2 => ?_) (fun h2 => ?_)
    · skip
      refine vv_aload_n C d_L_actTwice_39 rfl ?_
      refine g_L_L_value C d_L_actTwice_40 ?_
      refine vv_istore (lv' := [(6, .int (((kGo n (nI dd) (nI bb) x ((kNote u (u.1 13 k) x).2)).2).1 5 0)), (5, .int ((kGo n (nI dd) (nI bb) x ((kNote u (u.1 13 k) x).2)).1)), (0, .ref (Γ.2.1 0)), (1, .ref (Γ.2.1 (k + 9))), (2, .int (nI dd)), (3, .int (nI bb)), (4, .int x)]) C d_L_actTwice_43 (by decide) rfl ?_
      refine vv_aload_n C d_L_actTwice_45 rfl ?_
      refine vv_iload_n C d_L_actTwice_46 rfl ?_
      refine vv_iload_n C d_L_actTwice_47 rfl ?_
      refine vv_iload C d_L_actTwice_48 rfl ?_
      refine vv_aload_n C d_L_actTwice_50 rfl ?_
      refine g_L_A_a C hk d_L_actTwice_51 ?_
      refine vv_iadd C d_L_actTwice_54 ?_
      refine callC (rest := []) C (hG l Γ ((kGo n (nI dd) (nI bb) x ((kNote u (u.1 13 k) x).2)).2) dd bb (x + (((kGo n (nI dd) (nI bb) x ((kNote u (u.1 13 k) x).2)).2).1 17 k)) hdd hbb hmu (IC_go n dd hdd (nI bb) x ((kNote u (u.1 13 k) x).2) (IC_note hI (u.1 13 k) x))) cw_L_L_goAlong rfl 0 (by decide) rfl rfl rfl rfl (Nat.le_of_ble_eq_true rfl) (by decide) (by omega) d_L_actTwice_55 ?_
      refine vv_st (st' := [.int ((kGo n (nI dd) (nI bb) (x + (((kGo n (nI dd) (nI bb) x ((kNote u (u.1 13 k) x).2)).2).1 17 k)) ((kGo n (nI dd) (nI bb) x ((kNote u (u.1 13 k) x).2)).2)).1)]) rfl ?_
      refine vv_istore (lv' := [(7, .int ((kGo n (nI dd) (nI bb) (x + (((kGo n (nI dd) (nI bb) x ((kNote u (u.1 13 k) x).2)).2).1 17 k)) ((kGo n (nI dd) (nI bb) x ((kNote u (u.1 13 k) x).2)).2)).1)), (6, .int (((kGo n (nI dd) (nI bb) x ((kNote u (u.1 13 k) x).2)).2).1 5 0)), (5, .int ((kGo n (nI dd) (nI bb) x ((kNote u (u.1 13 k) x).2)).1)), (0, .ref (Γ.2.1 0)), (1, .ref (Γ.2.1 (k + 9))), (2, .int (nI dd)), (3, .int (nI bb)), (4, .int x)]) C d_L_actTwice_58 (by decide) rfl ?_
      refine vv_iload C d_L_actTwice_60 rfl ?_
      refine vv_if_ne C 84 d_L_actTwice_62 rfl (fun h3 => ?_) (fun h3 => ?_)
      · skip
        refine vv_iload C d_L_actTwice_84 rfl ?_
        have hE : kTwi (kGo n) k (nI dd) (nI bb) x u = ((kGo n (nI dd) (nI bb) (x + (((kGo n (nI dd) (nI bb) x ((kNote u (u.1 13 k) x).2)).2).1 17 k)) ((kGo n (nI dd) (nI bb) x ((kNote u (u.1 13 k) x).2)).2)).1, ((kGo n (nI dd) (nI bb) (x + (((kGo n (nI dd) (nI bb) x ((kNote u (u.1 13 k) x).2)).2).1 17 k)) ((kGo n (nI dd) (nI bb) x ((kNote u (u.1 13 k) x).2)).2)).2)) := by
          unfold kTwi
          try dsimp only
          first | rw [if_pos h1] | rw [if_neg h1] | rw [if_pos (by exact h1)] | rw [if_neg (by exact h1)] | rw [if_neg (by exact z_nle h1)] | rw [if_pos (by exact z_le h1)] | rw [if_neg (by exact z_nlt h1)] | rw [if_pos (by exact z_lt h1)] | rw [if_neg (by rw [h1]; decide)] | rw [if_pos (by rw [h1])] | rw [if_neg (by exact tf_t h1)] | rw [if_neg (by exact tf_f h1)] | simp only [h1] | skip
          first | rw [if_pos h2] | rw [if_neg h2] | rw [if_pos (by exact h2)] | rw [if_neg (by exact h2)] | rw [if_neg (by exact z_nle h2)] | rw [if_pos (by exact z_le h2)] | rw [if_neg (by exact z_nlt h2)] | rw [if_pos (by exact z_lt h2)] | rw [if_neg (by rw [h2]; decide)] | rw [if_pos (by rw [h2])] | rw [if_neg (by exact tf_t h2)] | rw [if_neg (by exact tf_f h2)] | simp only [h2] | skip
          first | rw [if_pos h3] | rw [if_neg h3] | rw [if_pos (by exact h3)] | rw [if_neg (by exact h3)] | rw [if_neg (by exact z_nle h3)] | rw [if_pos (by exact z_le h3)] | rw [if_neg (by exact z_nlt h3)] | rw [if_pos (by exact z_lt h3)] | rw [if_neg (by rw [h3]; decide)] | rw [if_pos (by rw [h3])] | rw [if_neg (by exact tf_t h3)] | rw [if_neg (by exact tf_f h3)] | simp only [h3] | skip
          try rfl
        exact vv_iret C hr hlk (by rw [hE] <;> rfl) (by rw [hE] <;> rfl) d_L_actTwice_86
      · skip
        refine vv_aload_n C d_L_actTwice_65 rfl ?_
        refine vv_iload C d_L_actTwice_66 rfl ?_
        refine vv_aload_n C d_L_actTwice_68 rfl ?_
        refine g_L_L_value C d_L_actTwice_69 ?_
        refine vv_iadd C d_L_actTwice_72 ?_
        refine vv_aload_n C d_L_actTwice_73 rfl ?_
        refine g_L_A_b C hk d_L_actTwice_74 ?_
        refine vv_iadd C d_L_actTwice_77 ?_
        refine callC (rest := []) C (c_L_returned l Γ ((kGo n (nI dd) (nI bb) (x + (((kGo n (nI dd) (nI bb) x ((kNote u (u.1 13 k) x).2)).2).1 17 k)) ((kGo n (nI dd) (nI bb) x ((kNote u (u.1 13 k) x).2)).2)).2) (((((kGo n (nI dd) (nI bb) x ((kNote u (u.1 13 k) x).2)).2).1 5 0) + (((kGo n (nI dd) (nI bb) (x + (((kGo n (nI dd) (nI bb) x ((kNote u (u.1 13 k) x).2)).2).1 17 k)) ((kGo n (nI dd) (nI bb) x ((kNote u (u.1 13 k) x).2)).2)).2).1 5 0)) + (((kGo n (nI dd) (nI bb) (x + (((kGo n (nI dd) (nI bb) x ((kNote u (u.1 13 k) x).2)).2).1 17 k)) ((kGo n (nI dd) (nI bb) x ((kNote u (u.1 13 k) x).2)).2)).2).1 18 k))) cw_L_L_returned rfl 0 (by decide) rfl rfl rfl rfl (Nat.le_of_ble_eq_true rfl) (by decide) (by omega) d_L_actTwice_78 ?_
        refine vv_st (st' := [.int 0]) rfl ?_
        refine vv_goto C 86 d_L_actTwice_81 rfl ?_
        have hE : kTwi (kGo n) k (nI dd) (nI bb) x u = (0, (wr ((kGo n (nI dd) (nI bb) (x + (((kGo n (nI dd) (nI bb) x ((kNote u (u.1 13 k) x).2)).2).1 17 k)) ((kGo n (nI dd) (nI bb) x ((kNote u (u.1 13 k) x).2)).2)).2) 5 0 (((((kGo n (nI dd) (nI bb) x ((kNote u (u.1 13 k) x).2)).2).1 5 0) + (((kGo n (nI dd) (nI bb) (x + (((kGo n (nI dd) (nI bb) x ((kNote u (u.1 13 k) x).2)).2).1 17 k)) ((kGo n (nI dd) (nI bb) x ((kNote u (u.1 13 k) x).2)).2)).2).1 5 0)) + (((kGo n (nI dd) (nI bb) (x + (((kGo n (nI dd) (nI bb) x ((kNote u (u.1 13 k) x).2)).2).1 17 k)) ((kGo n (nI dd) (nI bb) x ((kNote u (u.1 13 k) x).2)).2)).2).1 18 k)))) := by
          unfold kTwi
          try dsimp only
          first | rw [if_pos h1] | rw [if_neg h1] | rw [if_pos (by exact h1)] | rw [if_neg (by exact h1)] | rw [if_neg (by exact z_nle h1)] | rw [if_pos (by exact z_le h1)] | rw [if_neg (by exact z_nlt h1)] | rw [if_pos (by exact z_lt h1)] | rw [if_neg (by rw [h1]; decide)] | rw [if_pos (by rw [h1])] | rw [if_neg (by exact tf_t h1)] | rw [if_neg (by exact tf_f h1)] | simp only [h1] | skip
          first | rw [if_pos h2] | rw [if_neg h2] | rw [if_pos (by exact h2)] | rw [if_neg (by exact h2)] | rw [if_neg (by exact z_nle h2)] | rw [if_pos (by exact z_le h2)] | rw [if_neg (by exact z_nlt h2)] | rw [if_pos (by exact z_lt h2)] | rw [if_neg (by rw [h2]; decide)] | rw [if_pos (by rw [h2])] | rw [if_neg (by exact tf_t h2)] | rw [if_neg (by exact tf_f h2)] | simp only [h2] | skip
          first | rw [if_pos h3] | rw [if_neg h3] | rw [if_pos (by exact h3)] | rw [if_neg (by exact h3)] | rw [if_neg (by exact z_nle h3)] | rw [if_pos (by exact z_le h3)] | rw [if_neg (by exact z_nlt h3)] | rw [if_pos (by exact z_lt h3)] | rw [if_neg (by rw [h3]; decide)] | rw [if_pos (by rw [h3])] | rw [if_neg (by exact tf_t h3)] | rw [if_neg (by exact tf_f h3)] | simp only [h3] | skip
          try rfl
        exact vv_iret C hr hlk (by rw [hE] <;> rfl) (by rw [hE] <;> rfl) d_L_actTwice_86
    · skip
      refine vv_iload C d_L_actTwice_36 rfl ?_
      have hE : kTwi (kGo n) k (nI dd) (nI bb) x u = ((kGo n (nI dd) (nI bb) x ((kNote u (u.1 13 k) x).2)).1, ((kGo n (nI dd) (nI bb) x ((kNote u (u.1 13 k) x).2)).2)) := by
        unfold kTwi
        try dsimp only
        first | rw [if_pos h1] | rw [if_neg h1] | rw [if_pos (by exact h1)] | rw [if_neg (by exact h1)] | rw [if_neg (by exact z_nle h1)] | rw [if_pos (by exact z_le h1)] | rw [if_neg (by exact z_nlt h1)] | rw [if_pos (by exact z_lt h1)] | rw [if_neg (by rw [h1]; decide)] | rw [if_pos (by rw [h1])] | rw [if_neg (by exact tf_t h1)] | rw [if_neg (by exact tf_f h1)] | simp only [h1] | skip
        first | rw [if_pos h2] | rw [if_neg h2] | rw [if_pos (by exact h2)] | rw [if_neg (by exact h2)] | rw [if_neg (by exact z_nle h2)] | rw [if_pos (by exact z_le h2)] | rw [if_neg (by exact z_nlt h2)] | rw [if_pos (by exact z_lt h2)] | rw [if_neg (by rw [h2]; decide)] | rw [if_pos (by rw [h2])] | rw [if_neg (by exact tf_t h2)] | rw [if_neg (by exact tf_f h2)] | simp only [h2] | skip
        try rfl
      exact vv_iret C hr hlk (by rw [hE] <;> rfl) (by rw [hE] <;> rfl) d_L_actTwice_38
  · skip
    replace h1 := bI_f h1
    refine vv_aload_n C d_L_actTwice_16 rfl ?_
    refine callC (rest := []) C (c_L_brokenOff l Γ ((kNote u (u.1 13 k) x).2)) cw_L_L_brokenOff rfl 0 (by decide) rfl rfl rfl rfl (Nat.le_of_ble_eq_true rfl) (by decide) (by omega) d_L_actTwice_17 ?_
    refine vv_st (st' := [.int 2]) rfl ?_
    have hE : kTwi (kGo n) k (nI dd) (nI bb) x u = (2, (wr ((kNote u (u.1 13 k) x).2) 5 0 0)) := by
      unfold kTwi
      try dsimp only
      first | rw [if_pos h1] | rw [if_neg h1] | rw [if_pos (by exact h1)] | rw [if_neg (by exact h1)] | rw [if_neg (by exact z_nle h1)] | rw [if_pos (by exact z_le h1)] | rw [if_neg (by exact z_nlt h1)] | rw [if_pos (by exact z_lt h1)] | rw [if_neg (by rw [h1]; decide)] | rw [if_pos (by rw [h1])] | rw [if_neg (by exact tf_t h1)] | rw [if_neg (by exact tf_f h1)] | simp only [h1] | skip
      try rfl
    exact vv_iret C hr hlk (by rw [hE] <;> rfl) (by rw [hE] <;> rfl) d_L_actTwice_20
set_option maxHeartbeats 4000000 in
set_option maxRecDepth 100000 in
theorem c_L_actReturning (l : Launch) (Γ : Geo) (u : SC) {n : Nat} (hG : GoC n) (k : Nat) (hk : k < 6) (dd bb : Nat) (x : Int32) (hdd : dd < 3) (hbb : bb ≤ 6) (hmu : (2 - dd) * 7 + (6 - bb) < n) (hI : IC u) : CtC l Γ y_L_actReturning b_L_actReturning 6 (some .int) (3 * n + 1) [.ref (Γ.2.1 0), .ref (Γ.2.1 (k + 9)), .int (nI dd), .int (nI bb), .int x] u (some (.int (kRet (kGo n) k (nI dd) (nI bb) x u).1)) (kRet (kGo n) k (nI dd) (nI bb) x u).2 := by
  refine ct_of (by decide +kernel) (Nat.le_of_ble_eq_true rfl) ?_
  intro p e s m args below meth c C hr hlk
  refine vv_aload_n C d_L_actReturning_0 rfl ?_
  refine vv_iload_n C d_L_actReturning_1 rfl ?_
  refine vv_iload_n C d_L_actReturning_2 rfl ?_
  refine vv_iload C d_L_actReturning_3 rfl ?_
  refine callC (rest := []) C (hG l Γ u dd bb x hdd hbb hmu hI) cw_L_L_goAlong rfl 0 (by decide) rfl rfl rfl rfl (Nat.le_of_ble_eq_true rfl) (by decide) (by omega) d_L_actReturning_5 ?_
  refine vv_st (st' := [.int ((kGo n (nI dd) (nI bb) x u).1)]) rfl ?_
  refine vv_istore (lv' := [(5, .int ((kGo n (nI dd) (nI bb) x u).1)), (0, .ref (Γ.2.1 0)), (1, .ref (Γ.2.1 (k + 9))), (2, .int (nI dd)), (3, .int (nI bb)), (4, .int x)]) C d_L_actReturning_8 (by decide) rfl ?_
  refine vv_iload C d_L_actReturning_10 rfl ?_
  refine vv_if_eq C 18 d_L_actReturning_12 rfl (fun h1 => ?_) (fun h1 => ?_)
  · skip
    refine vv_aload_n C d_L_actReturning_18 rfl ?_
    refine g_L_L_trace C d_L_actReturning_19 ?_
    refine vv_aload_n C d_L_actReturning_22 rfl ?_
    refine g_L_A_number C hk d_L_actReturning_23 ?_
    refine vv_aload_n C d_L_actReturning_26 rfl ?_
    refine g_L_L_value C d_L_actReturning_27 ?_
    refine callC (rest := []) C (c_T_note l Γ ((kGo n (nI dd) (nI bb) x u).2) (IC_go n dd hdd (nI bb) x u hI) (((kGo n (nI dd) (nI bb) x u).2).1 13 k) (((kGo n (nI dd) (nI bb) x u).2).1 5 0)) cw_L_T_note rfl 4 (by decide) rfl rfl rfl rfl (Nat.le_of_ble_eq_true rfl) (by decide) (by omega) d_L_actReturning_30 ?_
    refine vv_st (st' := [.int (bI (kNote ((kGo n (nI dd) (nI bb) x u).2) (((kGo n (nI dd) (nI bb) x u).2).1 13 k) (((kGo n (nI dd) (nI bb) x u).2).1 5 0)).1)]) rfl ?_
    refine vv_if_ne C 41 d_L_actReturning_33 rfl (fun h2 => ?_) (fun h2 => ?_)
    · skip
      replace h2 := bI_t h2
      refine vv_aload_n C d_L_actReturning_41 rfl ?_
      refine g_L_L_value C d_L_actReturning_42 ?_
      refine vv_aload_n C d_L_actReturning_45 rfl ?_
      refine g_L_A_a C hk d_L_actReturning_46 ?_
      refine vv_icmp_ne C 63 d_L_actReturning_49 rfl (fun h3 => ?_) (fun h3 => ?_)
      · skip
        refine vv_iconst C (0) d_L_actReturning_63 (by decide) ?_
        have hE : kRet (kGo n) k (nI dd) (nI bb) x u = (0, ((kNote ((kGo n (nI dd) (nI bb) x u).2) (((kGo n (nI dd) (nI bb) x u).2).1 13 k) (((kGo n (nI dd) (nI bb) x u).2).1 5 0)).2)) := by
          unfold kRet
          try dsimp only
          first | rw [if_pos h1] | rw [if_neg h1] | rw [if_pos (by exact h1)] | rw [if_neg (by exact h1)] | rw [if_neg (by exact z_nle h1)] | rw [if_pos (by exact z_le h1)] | rw [if_neg (by exact z_nlt h1)] | rw [if_pos (by exact z_lt h1)] | rw [if_neg (by rw [h1]; decide)] | rw [if_pos (by rw [h1])] | rw [if_neg (by exact tf_t h1)] | rw [if_neg (by exact tf_f h1)] | simp only [h1] | skip
          first | rw [if_pos h2] | rw [if_neg h2] | rw [if_pos (by exact h2)] | rw [if_neg (by exact h2)] | rw [if_neg (by exact z_nle h2)] | rw [if_pos (by exact z_le h2)] | rw [if_neg (by exact z_nlt h2)] | rw [if_pos (by exact z_lt h2)] | rw [if_neg (by rw [h2]; decide)] | rw [if_pos (by rw [h2])] | rw [if_neg (by exact tf_t h2)] | rw [if_neg (by exact tf_f h2)] | simp only [h2] | skip
          first | rw [if_pos h3] | rw [if_neg h3] | rw [if_pos (by exact h3)] | rw [if_neg (by exact h3)] | rw [if_neg (by exact z_nle h3)] | rw [if_pos (by exact z_le h3)] | rw [if_neg (by exact z_nlt h3)] | rw [if_pos (by exact z_lt h3)] | rw [if_neg (by rw [h3]; decide)] | rw [if_pos (by rw [h3])] | rw [if_neg (by exact tf_t h3)] | rw [if_neg (by exact tf_f h3)] | simp only [h3] | skip
          try rfl
        exact vv_iret C hr hlk (by rw [hE] <;> rfl) (by rw [hE] <;> rfl) d_L_actReturning_64
      · skip
        refine vv_aload_n C d_L_actReturning_52 rfl ?_
        refine vv_aload_n C d_L_actReturning_53 rfl ?_
        refine g_L_A_b C hk d_L_actReturning_54 ?_
        refine callC (rest := []) C (c_L_thrown l Γ ((kNote ((kGo n (nI dd) (nI bb) x u).2) (((kGo n (nI dd) (nI bb) x u).2).1 13 k) (((kGo n (nI dd) (nI bb) x u).2).1 5 0)).2) (((kNote ((kGo n (nI dd) (nI bb) x u).2) (((kGo n (nI dd) (nI bb) x u).2).1 13 k) (((kGo n (nI dd) (nI bb) x u).2).1 5 0)).2).1 18 k)) cw_L_L_thrown rfl 0 (by decide) rfl rfl rfl rfl (Nat.le_of_ble_eq_true rfl) (by decide) (by omega) d_L_actReturning_57 ?_
        refine vv_st (st' := [.int 1]) rfl ?_
        refine vv_goto C 64 d_L_actReturning_60 rfl ?_
        have hE : kRet (kGo n) k (nI dd) (nI bb) x u = (1, (wr ((kNote ((kGo n (nI dd) (nI bb) x u).2) (((kGo n (nI dd) (nI bb) x u).2).1 13 k) (((kGo n (nI dd) (nI bb) x u).2).1 5 0)).2) 5 0 (((kNote ((kGo n (nI dd) (nI bb) x u).2) (((kGo n (nI dd) (nI bb) x u).2).1 13 k) (((kGo n (nI dd) (nI bb) x u).2).1 5 0)).2).1 18 k))) := by
          unfold kRet
          try dsimp only
          first | rw [if_pos h1] | rw [if_neg h1] | rw [if_pos (by exact h1)] | rw [if_neg (by exact h1)] | rw [if_neg (by exact z_nle h1)] | rw [if_pos (by exact z_le h1)] | rw [if_neg (by exact z_nlt h1)] | rw [if_pos (by exact z_lt h1)] | rw [if_neg (by rw [h1]; decide)] | rw [if_pos (by rw [h1])] | rw [if_neg (by exact tf_t h1)] | rw [if_neg (by exact tf_f h1)] | simp only [h1] | skip
          first | rw [if_pos h2] | rw [if_neg h2] | rw [if_pos (by exact h2)] | rw [if_neg (by exact h2)] | rw [if_neg (by exact z_nle h2)] | rw [if_pos (by exact z_le h2)] | rw [if_neg (by exact z_nlt h2)] | rw [if_pos (by exact z_lt h2)] | rw [if_neg (by rw [h2]; decide)] | rw [if_pos (by rw [h2])] | rw [if_neg (by exact tf_t h2)] | rw [if_neg (by exact tf_f h2)] | simp only [h2] | skip
          first | rw [if_pos h3] | rw [if_neg h3] | rw [if_pos (by exact h3)] | rw [if_neg (by exact h3)] | rw [if_neg (by exact z_nle h3)] | rw [if_pos (by exact z_le h3)] | rw [if_neg (by exact z_nlt h3)] | rw [if_pos (by exact z_lt h3)] | rw [if_neg (by rw [h3]; decide)] | rw [if_pos (by rw [h3])] | rw [if_neg (by exact tf_t h3)] | rw [if_neg (by exact tf_f h3)] | simp only [h3] | skip
          try rfl
        exact vv_iret C hr hlk (by rw [hE] <;> rfl) (by rw [hE] <;> rfl) d_L_actReturning_64
    · skip
      replace h2 := bI_f h2
      refine vv_aload_n C d_L_actReturning_36 rfl ?_
      refine callC (rest := []) C (c_L_brokenOff l Γ ((kNote ((kGo n (nI dd) (nI bb) x u).2) (((kGo n (nI dd) (nI bb) x u).2).1 13 k) (((kGo n (nI dd) (nI bb) x u).2).1 5 0)).2)) cw_L_L_brokenOff rfl 0 (by decide) rfl rfl rfl rfl (Nat.le_of_ble_eq_true rfl) (by decide) (by omega) d_L_actReturning_37 ?_
      refine vv_st (st' := [.int 2]) rfl ?_
      have hE : kRet (kGo n) k (nI dd) (nI bb) x u = (2, (wr ((kNote ((kGo n (nI dd) (nI bb) x u).2) (((kGo n (nI dd) (nI bb) x u).2).1 13 k) (((kGo n (nI dd) (nI bb) x u).2).1 5 0)).2) 5 0 0)) := by
        unfold kRet
        try dsimp only
        first | rw [if_pos h1] | rw [if_neg h1] | rw [if_pos (by exact h1)] | rw [if_neg (by exact h1)] | rw [if_neg (by exact z_nle h1)] | rw [if_pos (by exact z_le h1)] | rw [if_neg (by exact z_nlt h1)] | rw [if_pos (by exact z_lt h1)] | rw [if_neg (by rw [h1]; decide)] | rw [if_pos (by rw [h1])] | rw [if_neg (by exact tf_t h1)] | rw [if_neg (by exact tf_f h1)] | simp only [h1] | skip
        first | rw [if_pos h2] | rw [if_neg h2] | rw [if_pos (by exact h2)] | rw [if_neg (by exact h2)] | rw [if_neg (by exact z_nle h2)] | rw [if_pos (by exact z_le h2)] | rw [if_neg (by exact z_nlt h2)] | rw [if_pos (by exact z_lt h2)] | rw [if_neg (by rw [h2]; decide)] | rw [if_pos (by rw [h2])] | rw [if_neg (by exact tf_t h2)] | rw [if_neg (by exact tf_f h2)] | simp only [h2] | skip
        try rfl
      exact vv_iret C hr hlk (by rw [hE] <;> rfl) (by rw [hE] <;> rfl) d_L_actReturning_40
  · skip
    refine vv_iload C d_L_actReturning_15 rfl ?_
    have hE : kRet (kGo n) k (nI dd) (nI bb) x u = ((kGo n (nI dd) (nI bb) x u).1, ((kGo n (nI dd) (nI bb) x u).2)) := by
      unfold kRet
      try dsimp only
      first | rw [if_pos h1] | rw [if_neg h1] | rw [if_pos (by exact h1)] | rw [if_neg (by exact h1)] | rw [if_neg (by exact z_nle h1)] | rw [if_pos (by exact z_le h1)] | rw [if_neg (by exact z_nlt h1)] | rw [if_pos (by exact z_lt h1)] | rw [if_neg (by rw [h1]; decide)] | rw [if_pos (by rw [h1])] | rw [if_neg (by exact tf_t h1)] | rw [if_neg (by exact tf_f h1)] | simp only [h1] | skip
      try rfl
    exact vv_iret C hr hlk (by rw [hE] <;> rfl) (by rw [hE] <;> rfl) d_L_actReturning_17
set_option maxHeartbeats 4000000 in
set_option maxRecDepth 100000 in
theorem c_L_actThrowing (l : Launch) (Γ : Geo) (u : SC) {n : Nat} (hG : GoC n) (k : Nat) (hk : k < 6) (dd bb : Nat) (x : Int32) (hdd : dd < 3) (hbb : bb ≤ 6) (hmu : (2 - dd) * 7 + (6 - bb) < n) (hI : IC u) : CtC l Γ y_L_actThrowing b_L_actThrowing 6 (some .int) (3 * n + 1) [.ref (Γ.2.1 0), .ref (Γ.2.1 (k + 9)), .int (nI dd), .int (nI bb), .int x] u (some (.int (kThr (kGo n) k (nI dd) (nI bb) x u).1)) (kThr (kGo n) k (nI dd) (nI bb) x u).2 := by
  refine ct_of (by decide +kernel) (Nat.le_of_ble_eq_true rfl) ?_
  intro p e s m args below meth c C hr hlk
  refine vv_aload_n C d_L_actThrowing_0 rfl ?_
  refine vv_iload_n C d_L_actThrowing_1 rfl ?_
  refine vv_iload_n C d_L_actThrowing_2 rfl ?_
  refine vv_iload C d_L_actThrowing_3 rfl ?_
  refine callC (rest := []) C (hG l Γ u dd bb x hdd hbb hmu hI) cw_L_L_goAlong rfl 0 (by decide) rfl rfl rfl rfl (Nat.le_of_ble_eq_true rfl) (by decide) (by omega) d_L_actThrowing_5 ?_
  refine vv_st (st' := [.int ((kGo n (nI dd) (nI bb) x u).1)]) rfl ?_
  refine vv_istore (lv' := [(5, .int ((kGo n (nI dd) (nI bb) x u).1)), (0, .ref (Γ.2.1 0)), (1, .ref (Γ.2.1 (k + 9))), (2, .int (nI dd)), (3, .int (nI bb)), (4, .int x)]) C d_L_actThrowing_8 (by decide) rfl ?_
  refine vv_iload C d_L_actThrowing_10 rfl ?_
  refine vv_iconst C (1) d_L_actThrowing_12 (by decide) ?_
  refine vv_icmp_ne C 30 d_L_actThrowing_13 rfl (fun h1 => ?_) (fun h1 => ?_)
  · skip
    refine vv_iload C d_L_actThrowing_30 rfl ?_
    have hE : kThr (kGo n) k (nI dd) (nI bb) x u = ((kGo n (nI dd) (nI bb) x u).1, ((kGo n (nI dd) (nI bb) x u).2)) := by
      unfold kThr
      try dsimp only
      first | rw [if_pos h1] | rw [if_neg h1] | rw [if_pos (by exact h1)] | rw [if_neg (by exact h1)] | rw [if_neg (by exact z_nle h1)] | rw [if_pos (by exact z_le h1)] | rw [if_neg (by exact z_nlt h1)] | rw [if_pos (by exact z_lt h1)] | rw [if_neg (by rw [h1]; decide)] | rw [if_pos (by rw [h1])] | rw [if_neg (by exact tf_t h1)] | rw [if_neg (by exact tf_f h1)] | simp only [h1] | skip
      try rfl
    exact vv_iret C hr hlk (by rw [hE] <;> rfl) (by rw [hE] <;> rfl) d_L_actThrowing_32
  · skip
    refine vv_aload_n C d_L_actThrowing_16 rfl ?_
    refine g_L_L_value C d_L_actThrowing_17 ?_
    refine vv_aload_n C d_L_actThrowing_20 rfl ?_
    refine g_L_A_a C hk d_L_actThrowing_21 ?_
    refine callCS (rest := []) C (c_L_isKindOf l Γ ((kGo n (nI dd) (nI bb) x u).2) (((kGo n (nI dd) (nI bb) x u).2).1 5 0) (((kGo n (nI dd) (nI bb) x u).2).1 17 k)) cw_L_L_isKindOf rfl rfl (Nat.le_of_ble_eq_true rfl) (by decide) (by omega) d_L_actThrowing_24 ?_
    refine vv_st (st' := [.int (bI (kKindOf (((kGo n (nI dd) (nI bb) x u).2).1 5 0) (((kGo n (nI dd) (nI bb) x u).2).1 17 k)))]) rfl ?_
    refine vv_if_ne C 33 d_L_actThrowing_27 rfl (fun h2 => ?_) (fun h2 => ?_)
    · skip
      replace h2 := bI_t h2
      refine vv_aload_n C d_L_actThrowing_33 rfl ?_
      refine g_L_L_trace C d_L_actThrowing_34 ?_
      refine vv_aload_n C d_L_actThrowing_37 rfl ?_
      refine g_L_A_number C hk d_L_actThrowing_38 ?_
      refine vv_aload_n C d_L_actThrowing_41 rfl ?_
      refine g_L_L_value C d_L_actThrowing_42 ?_
      refine callC (rest := []) C (c_T_note l Γ ((kGo n (nI dd) (nI bb) x u).2) (IC_go n dd hdd (nI bb) x u hI) (((kGo n (nI dd) (nI bb) x u).2).1 13 k) (((kGo n (nI dd) (nI bb) x u).2).1 5 0)) cw_L_T_note rfl 4 (by decide) rfl rfl rfl rfl (Nat.le_of_ble_eq_true rfl) (by decide) (by omega) d_L_actThrowing_45 ?_
      refine vv_st (st' := [.int (bI (kNote ((kGo n (nI dd) (nI bb) x u).2) (((kGo n (nI dd) (nI bb) x u).2).1 13 k) (((kGo n (nI dd) (nI bb) x u).2).1 5 0)).1)]) rfl ?_
      refine vv_if_ne C 56 d_L_actThrowing_48 rfl (fun h3 => ?_) (fun h3 => ?_)
      · skip
        replace h3 := bI_t h3
        refine vv_aload_n C d_L_actThrowing_56 rfl ?_
        refine g_L_A_b C hk d_L_actThrowing_57 ?_
        refine vv_if_ne C 67 d_L_actThrowing_60 rfl (fun h4 => ?_) (fun h4 => ?_)
        · skip
          refine vv_aload_n C d_L_actThrowing_67 rfl ?_
          refine vv_aload_n C d_L_actThrowing_68 rfl ?_
          refine g_L_A_b C hk d_L_actThrowing_69 ?_
          refine callC (rest := []) C (c_L_thrown l Γ ((kNote ((kGo n (nI dd) (nI bb) x u).2) (((kGo n (nI dd) (nI bb) x u).2).1 13 k) (((kGo n (nI dd) (nI bb) x u).2).1 5 0)).2) (((kNote ((kGo n (nI dd) (nI bb) x u).2) (((kGo n (nI dd) (nI bb) x u).2).1 13 k) (((kGo n (nI dd) (nI bb) x u).2).1 5 0)).2).1 18 k)) cw_L_L_thrown rfl 0 (by decide) rfl rfl rfl rfl (Nat.le_of_ble_eq_true rfl) (by decide) (by omega) d_L_actThrowing_72 ?_
          refine vv_st (st' := [.int 1]) rfl ?_
          have hE : kThr (kGo n) k (nI dd) (nI bb) x u = (1, (wr ((kNote ((kGo n (nI dd) (nI bb) x u).2) (((kGo n (nI dd) (nI bb) x u).2).1 13 k) (((kGo n (nI dd) (nI bb) x u).2).1 5 0)).2) 5 0 (((kNote ((kGo n (nI dd) (nI bb) x u).2) (((kGo n (nI dd) (nI bb) x u).2).1 13 k) (((kGo n (nI dd) (nI bb) x u).2).1 5 0)).2).1 18 k))) := by
            unfold kThr
            try dsimp only
            first | rw [if_pos h1] | rw [if_neg h1] | rw [if_pos (by exact h1)] | rw [if_neg (by exact h1)] | rw [if_neg (by exact z_nle h1)] | rw [if_pos (by exact z_le h1)] | rw [if_neg (by exact z_nlt h1)] | rw [if_pos (by exact z_lt h1)] | rw [if_neg (by rw [h1]; decide)] | rw [if_pos (by rw [h1])] | rw [if_neg (by exact tf_t h1)] | rw [if_neg (by exact tf_f h1)] | simp only [h1] | skip
            first | rw [if_pos h2] | rw [if_neg h2] | rw [if_pos (by exact h2)] | rw [if_neg (by exact h2)] | rw [if_neg (by exact z_nle h2)] | rw [if_pos (by exact z_le h2)] | rw [if_neg (by exact z_nlt h2)] | rw [if_pos (by exact z_lt h2)] | rw [if_neg (by rw [h2]; decide)] | rw [if_pos (by rw [h2])] | rw [if_neg (by exact tf_t h2)] | rw [if_neg (by exact tf_f h2)] | simp only [h2] | skip
            first | rw [if_pos h3] | rw [if_neg h3] | rw [if_pos (by exact h3)] | rw [if_neg (by exact h3)] | rw [if_neg (by exact z_nle h3)] | rw [if_pos (by exact z_le h3)] | rw [if_neg (by exact z_nlt h3)] | rw [if_pos (by exact z_lt h3)] | rw [if_neg (by rw [h3]; decide)] | rw [if_pos (by rw [h3])] | rw [if_neg (by exact tf_t h3)] | rw [if_neg (by exact tf_f h3)] | simp only [h3] | skip
            first | rw [if_pos h4] | rw [if_neg h4] | rw [if_pos (by exact h4)] | rw [if_neg (by exact h4)] | rw [if_neg (by exact z_nle h4)] | rw [if_pos (by exact z_le h4)] | rw [if_neg (by exact z_nlt h4)] | rw [if_pos (by exact z_lt h4)] | rw [if_neg (by rw [h4]; decide)] | rw [if_pos (by rw [h4])] | rw [if_neg (by exact tf_t h4)] | rw [if_neg (by exact tf_f h4)] | simp only [h4] | skip
            try rfl
          exact vv_iret C hr hlk (by rw [hE] <;> rfl) (by rw [hE] <;> rfl) d_L_actThrowing_75
        · skip
          refine vv_iconst C (1) d_L_actThrowing_63 (by decide) ?_
          refine vv_goto C 75 d_L_actThrowing_64 rfl ?_
          have hE : kThr (kGo n) k (nI dd) (nI bb) x u = (1, ((kNote ((kGo n (nI dd) (nI bb) x u).2) (((kGo n (nI dd) (nI bb) x u).2).1 13 k) (((kGo n (nI dd) (nI bb) x u).2).1 5 0)).2)) := by
            unfold kThr
            try dsimp only
            first | rw [if_pos h1] | rw [if_neg h1] | rw [if_pos (by exact h1)] | rw [if_neg (by exact h1)] | rw [if_neg (by exact z_nle h1)] | rw [if_pos (by exact z_le h1)] | rw [if_neg (by exact z_nlt h1)] | rw [if_pos (by exact z_lt h1)] | rw [if_neg (by rw [h1]; decide)] | rw [if_pos (by rw [h1])] | rw [if_neg (by exact tf_t h1)] | rw [if_neg (by exact tf_f h1)] | simp only [h1] | skip
            first | rw [if_pos h2] | rw [if_neg h2] | rw [if_pos (by exact h2)] | rw [if_neg (by exact h2)] | rw [if_neg (by exact z_nle h2)] | rw [if_pos (by exact z_le h2)] | rw [if_neg (by exact z_nlt h2)] | rw [if_pos (by exact z_lt h2)] | rw [if_neg (by rw [h2]; decide)] | rw [if_pos (by rw [h2])] | rw [if_neg (by exact tf_t h2)] | rw [if_neg (by exact tf_f h2)] | simp only [h2] | skip
            first | rw [if_pos h3] | rw [if_neg h3] | rw [if_pos (by exact h3)] | rw [if_neg (by exact h3)] | rw [if_neg (by exact z_nle h3)] | rw [if_pos (by exact z_le h3)] | rw [if_neg (by exact z_nlt h3)] | rw [if_pos (by exact z_lt h3)] | rw [if_neg (by rw [h3]; decide)] | rw [if_pos (by rw [h3])] | rw [if_neg (by exact tf_t h3)] | rw [if_neg (by exact tf_f h3)] | simp only [h3] | skip
            first | rw [if_pos h4] | rw [if_neg h4] | rw [if_pos (by exact h4)] | rw [if_neg (by exact h4)] | rw [if_neg (by exact z_nle h4)] | rw [if_pos (by exact z_le h4)] | rw [if_neg (by exact z_nlt h4)] | rw [if_pos (by exact z_lt h4)] | rw [if_neg (by rw [h4]; decide)] | rw [if_pos (by rw [h4])] | rw [if_neg (by exact tf_t h4)] | rw [if_neg (by exact tf_f h4)] | simp only [h4] | skip
            try rfl
          exact vv_iret C hr hlk (by rw [hE] <;> rfl) (by rw [hE] <;> rfl) d_L_actThrowing_75
      · skip
        replace h3 := bI_f h3
        refine vv_aload_n C d_L_actThrowing_51 rfl ?_
        refine callC (rest := []) C (c_L_brokenOff l Γ ((kNote ((kGo n (nI dd) (nI bb) x u).2) (((kGo n (nI dd) (nI bb) x u).2).1 13 k) (((kGo n (nI dd) (nI bb) x u).2).1 5 0)).2)) cw_L_L_brokenOff rfl 0 (by decide) rfl rfl rfl rfl (Nat.le_of_ble_eq_true rfl) (by decide) (by omega) d_L_actThrowing_52 ?_
        refine vv_st (st' := [.int 2]) rfl ?_
        have hE : kThr (kGo n) k (nI dd) (nI bb) x u = (2, (wr ((kNote ((kGo n (nI dd) (nI bb) x u).2) (((kGo n (nI dd) (nI bb) x u).2).1 13 k) (((kGo n (nI dd) (nI bb) x u).2).1 5 0)).2) 5 0 0)) := by
          unfold kThr
          try dsimp only
          first | rw [if_pos h1] | rw [if_neg h1] | rw [if_pos (by exact h1)] | rw [if_neg (by exact h1)] | rw [if_neg (by exact z_nle h1)] | rw [if_pos (by exact z_le h1)] | rw [if_neg (by exact z_nlt h1)] | rw [if_pos (by exact z_lt h1)] | rw [if_neg (by rw [h1]; decide)] | rw [if_pos (by rw [h1])] | rw [if_neg (by exact tf_t h1)] | rw [if_neg (by exact tf_f h1)] | simp only [h1] | skip
          first | rw [if_pos h2] | rw [if_neg h2] | rw [if_pos (by exact h2)] | rw [if_neg (by exact h2)] | rw [if_neg (by exact z_nle h2)] | rw [if_pos (by exact z_le h2)] | rw [if_neg (by exact z_nlt h2)] | rw [if_pos (by exact z_lt h2)] | rw [if_neg (by rw [h2]; decide)] | rw [if_pos (by rw [h2])] | rw [if_neg (by exact tf_t h2)] | rw [if_neg (by exact tf_f h2)] | simp only [h2] | skip
          first | rw [if_pos h3] | rw [if_neg h3] | rw [if_pos (by exact h3)] | rw [if_neg (by exact h3)] | rw [if_neg (by exact z_nle h3)] | rw [if_pos (by exact z_le h3)] | rw [if_neg (by exact z_nlt h3)] | rw [if_pos (by exact z_lt h3)] | rw [if_neg (by rw [h3]; decide)] | rw [if_pos (by rw [h3])] | rw [if_neg (by exact tf_t h3)] | rw [if_neg (by exact tf_f h3)] | simp only [h3] | skip
          try rfl
        exact vv_iret C hr hlk (by rw [hE] <;> rfl) (by rw [hE] <;> rfl) d_L_actThrowing_55
    · skip
      replace h2 := bI_f h2
      refine vv_iload C d_L_actThrowing_30 rfl ?_
      have hE : kThr (kGo n) k (nI dd) (nI bb) x u = ((kGo n (nI dd) (nI bb) x u).1, ((kGo n (nI dd) (nI bb) x u).2)) := by
        unfold kThr
        try dsimp only
        first | rw [if_pos h1] | rw [if_neg h1] | rw [if_pos (by exact h1)] | rw [if_neg (by exact h1)] | rw [if_neg (by exact z_nle h1)] | rw [if_pos (by exact z_le h1)] | rw [if_neg (by exact z_nlt h1)] | rw [if_pos (by exact z_lt h1)] | rw [if_neg (by rw [h1]; decide)] | rw [if_pos (by rw [h1])] | rw [if_neg (by exact tf_t h1)] | rw [if_neg (by exact tf_f h1)] | simp only [h1] | skip
        first | rw [if_pos h2] | rw [if_neg h2] | rw [if_pos (by exact h2)] | rw [if_neg (by exact h2)] | rw [if_neg (by exact z_nle h2)] | rw [if_pos (by exact z_le h2)] | rw [if_neg (by exact z_nlt h2)] | rw [if_pos (by exact z_lt h2)] | rw [if_neg (by rw [h2]; decide)] | rw [if_pos (by rw [h2])] | rw [if_neg (by exact tf_t h2)] | rw [if_neg (by exact tf_f h2)] | simp only [h2] | skip
        try rfl
      exact vv_iret C hr hlk (by rw [hE] <;> rfl) (by rw [hE] <;> rfl) d_L_actThrowing_32
set_option maxHeartbeats 4000000 in
set_option maxRecDepth 100000 in
theorem c_L_actFinally (l : Launch) (Γ : Geo) (u : SC) {n : Nat} (hG : GoC n) (k : Nat) (hk : k < 6) (dd bb : Nat) (x : Int32) (hdd : dd < 3) (hbb : bb ≤ 6) (hmu : (2 - dd) * 7 + (6 - bb) < n) (hI : IC u) : CtC l Γ y_L_actFinally b_L_actFinally 6 (some .int) (3 * n + 1) [.ref (Γ.2.1 0), .ref (Γ.2.1 (k + 9)), .int (nI dd), .int (nI bb), .int x] u (some (.int (kFin (kGo n) k (nI dd) (nI bb) x u).1)) (kFin (kGo n) k (nI dd) (nI bb) x u).2 := by
  refine ct_of (by decide +kernel) (Nat.le_of_ble_eq_true rfl) ?_
  intro p e s m args below meth c C hr hlk
  refine vv_aload_n C d_L_actFinally_0 rfl ?_
  refine vv_iload_n C d_L_actFinally_1 rfl ?_
  refine vv_iload_n C d_L_actFinally_2 rfl ?_
  refine vv_iload C d_L_actFinally_3 rfl ?_
  refine callC (rest := []) C (hG l Γ u dd bb x hdd hbb hmu hI) cw_L_L_goAlong rfl 0 (by decide) rfl rfl rfl rfl (Nat.le_of_ble_eq_true rfl) (by decide) (by omega) d_L_actFinally_5 ?_
  refine vv_st (st' := [.int ((kGo n (nI dd) (nI bb) x u).1)]) rfl ?_
  refine vv_istore (lv' := [(5, .int ((kGo n (nI dd) (nI bb) x u).1)), (0, .ref (Γ.2.1 0)), (1, .ref (Γ.2.1 (k + 9))), (2, .int (nI dd)), (3, .int (nI bb)), (4, .int x)]) C d_L_actFinally_8 (by decide) rfl ?_
  refine vv_iload C d_L_actFinally_10 rfl ?_
  refine vv_iconst C (2) d_L_actFinally_12 (by decide) ?_
  refine vv_icmp_ne C 18 d_L_actFinally_13 rfl (fun h1 => ?_) (fun h1 => ?_)
  · skip
    refine vv_aload_n C d_L_actFinally_18 rfl ?_
    refine g_L_L_trace C d_L_actFinally_19 ?_
    refine vv_aload_n C d_L_actFinally_22 rfl ?_
    refine g_L_A_number C hk d_L_actFinally_23 ?_
    refine vv_iload C d_L_actFinally_26 rfl ?_
    refine callC (rest := []) C (c_T_note l Γ ((kGo n (nI dd) (nI bb) x u).2) (IC_go n dd hdd (nI bb) x u hI) (((kGo n (nI dd) (nI bb) x u).2).1 13 k) x) cw_L_T_note rfl 4 (by decide) rfl rfl rfl rfl (Nat.le_of_ble_eq_true rfl) (by decide) (by omega) d_L_actFinally_28 ?_
    refine vv_st (st' := [.int (bI (kNote ((kGo n (nI dd) (nI bb) x u).2) (((kGo n (nI dd) (nI bb) x u).2).1 13 k) x).1)]) rfl ?_
    refine vv_if_ne C 39 d_L_actFinally_31 rfl (fun h2 => ?_) (fun h2 => ?_)
    · skip
      replace h2 := bI_t h2
      refine vv_iload C d_L_actFinally_39 rfl ?_
      refine vv_aload_n C d_L_actFinally_41 rfl ?_
      refine g_L_A_a C hk d_L_actFinally_42 ?_
      refine vv_icmp_ne C 59 d_L_actFinally_45 rfl (fun h3 => ?_) (fun h3 => ?_)
      · skip
        refine vv_iload C d_L_actFinally_59 rfl ?_
        have hE : kFin (kGo n) k (nI dd) (nI bb) x u = ((kGo n (nI dd) (nI bb) x u).1, ((kNote ((kGo n (nI dd) (nI bb) x u).2) (((kGo n (nI dd) (nI bb) x u).2).1 13 k) x).2)) := by
          unfold kFin
          try dsimp only
          first | rw [if_pos h1] | rw [if_neg h1] | rw [if_pos (by exact h1)] | rw [if_neg (by exact h1)] | rw [if_neg (by exact z_nle h1)] | rw [if_pos (by exact z_le h1)] | rw [if_neg (by exact z_nlt h1)] | rw [if_pos (by exact z_lt h1)] | rw [if_neg (by rw [h1]; decide)] | rw [if_pos (by rw [h1])] | rw [if_neg (by exact tf_t h1)] | rw [if_neg (by exact tf_f h1)] | simp only [h1] | skip
          first | rw [if_pos h2] | rw [if_neg h2] | rw [if_pos (by exact h2)] | rw [if_neg (by exact h2)] | rw [if_neg (by exact z_nle h2)] | rw [if_pos (by exact z_le h2)] | rw [if_neg (by exact z_nlt h2)] | rw [if_pos (by exact z_lt h2)] | rw [if_neg (by rw [h2]; decide)] | rw [if_pos (by rw [h2])] | rw [if_neg (by exact tf_t h2)] | rw [if_neg (by exact tf_f h2)] | simp only [h2] | skip
          first | rw [if_pos h3] | rw [if_neg h3] | rw [if_pos (by exact h3)] | rw [if_neg (by exact h3)] | rw [if_neg (by exact z_nle h3)] | rw [if_pos (by exact z_le h3)] | rw [if_neg (by exact z_nlt h3)] | rw [if_pos (by exact z_lt h3)] | rw [if_neg (by rw [h3]; decide)] | rw [if_pos (by rw [h3])] | rw [if_neg (by exact tf_t h3)] | rw [if_neg (by exact tf_f h3)] | simp only [h3] | skip
          try rfl
        exact vv_iret C hr hlk (by rw [hE] <;> rfl) (by rw [hE] <;> rfl) d_L_actFinally_61
      · skip
        refine vv_aload_n C d_L_actFinally_48 rfl ?_
        refine vv_aload_n C d_L_actFinally_49 rfl ?_
        refine g_L_A_b C hk d_L_actFinally_50 ?_
        refine callC (rest := []) C (c_L_thrown l Γ ((kNote ((kGo n (nI dd) (nI bb) x u).2) (((kGo n (nI dd) (nI bb) x u).2).1 13 k) x).2) (((kNote ((kGo n (nI dd) (nI bb) x u).2) (((kGo n (nI dd) (nI bb) x u).2).1 13 k) x).2).1 18 k)) cw_L_L_thrown rfl 0 (by decide) rfl rfl rfl rfl (Nat.le_of_ble_eq_true rfl) (by decide) (by omega) d_L_actFinally_53 ?_
        refine vv_st (st' := [.int 1]) rfl ?_
        refine vv_goto C 61 d_L_actFinally_56 rfl ?_
        have hE : kFin (kGo n) k (nI dd) (nI bb) x u = (1, (wr ((kNote ((kGo n (nI dd) (nI bb) x u).2) (((kGo n (nI dd) (nI bb) x u).2).1 13 k) x).2) 5 0 (((kNote ((kGo n (nI dd) (nI bb) x u).2) (((kGo n (nI dd) (nI bb) x u).2).1 13 k) x).2).1 18 k))) := by
          unfold kFin
          try dsimp only
          first | rw [if_pos h1] | rw [if_neg h1] | rw [if_pos (by exact h1)] | rw [if_neg (by exact h1)] | rw [if_neg (by exact z_nle h1)] | rw [if_pos (by exact z_le h1)] | rw [if_neg (by exact z_nlt h1)] | rw [if_pos (by exact z_lt h1)] | rw [if_neg (by rw [h1]; decide)] | rw [if_pos (by rw [h1])] | rw [if_neg (by exact tf_t h1)] | rw [if_neg (by exact tf_f h1)] | simp only [h1] | skip
          first | rw [if_pos h2] | rw [if_neg h2] | rw [if_pos (by exact h2)] | rw [if_neg (by exact h2)] | rw [if_neg (by exact z_nle h2)] | rw [if_pos (by exact z_le h2)] | rw [if_neg (by exact z_nlt h2)] | rw [if_pos (by exact z_lt h2)] | rw [if_neg (by rw [h2]; decide)] | rw [if_pos (by rw [h2])] | rw [if_neg (by exact tf_t h2)] | rw [if_neg (by exact tf_f h2)] | simp only [h2] | skip
          first | rw [if_pos h3] | rw [if_neg h3] | rw [if_pos (by exact h3)] | rw [if_neg (by exact h3)] | rw [if_neg (by exact z_nle h3)] | rw [if_pos (by exact z_le h3)] | rw [if_neg (by exact z_nlt h3)] | rw [if_pos (by exact z_lt h3)] | rw [if_neg (by rw [h3]; decide)] | rw [if_pos (by rw [h3])] | rw [if_neg (by exact tf_t h3)] | rw [if_neg (by exact tf_f h3)] | simp only [h3] | skip
          try rfl
        exact vv_iret C hr hlk (by rw [hE] <;> rfl) (by rw [hE] <;> rfl) d_L_actFinally_61
    · skip
      replace h2 := bI_f h2
      refine vv_aload_n C d_L_actFinally_34 rfl ?_
      refine callC (rest := []) C (c_L_brokenOff l Γ ((kNote ((kGo n (nI dd) (nI bb) x u).2) (((kGo n (nI dd) (nI bb) x u).2).1 13 k) x).2)) cw_L_L_brokenOff rfl 0 (by decide) rfl rfl rfl rfl (Nat.le_of_ble_eq_true rfl) (by decide) (by omega) d_L_actFinally_35 ?_
      refine vv_st (st' := [.int 2]) rfl ?_
      have hE : kFin (kGo n) k (nI dd) (nI bb) x u = (2, (wr ((kNote ((kGo n (nI dd) (nI bb) x u).2) (((kGo n (nI dd) (nI bb) x u).2).1 13 k) x).2) 5 0 0)) := by
        unfold kFin
        try dsimp only
        first | rw [if_pos h1] | rw [if_neg h1] | rw [if_pos (by exact h1)] | rw [if_neg (by exact h1)] | rw [if_neg (by exact z_nle h1)] | rw [if_pos (by exact z_le h1)] | rw [if_neg (by exact z_nlt h1)] | rw [if_pos (by exact z_lt h1)] | rw [if_neg (by rw [h1]; decide)] | rw [if_pos (by rw [h1])] | rw [if_neg (by exact tf_t h1)] | rw [if_neg (by exact tf_f h1)] | simp only [h1] | skip
        first | rw [if_pos h2] | rw [if_neg h2] | rw [if_pos (by exact h2)] | rw [if_neg (by exact h2)] | rw [if_neg (by exact z_nle h2)] | rw [if_pos (by exact z_le h2)] | rw [if_neg (by exact z_nlt h2)] | rw [if_pos (by exact z_lt h2)] | rw [if_neg (by rw [h2]; decide)] | rw [if_pos (by rw [h2])] | rw [if_neg (by exact tf_t h2)] | rw [if_neg (by exact tf_f h2)] | simp only [h2] | skip
        try rfl
      exact vv_iret C hr hlk (by rw [hE] <;> rfl) (by rw [hE] <;> rfl) d_L_actFinally_38
  · skip
    refine vv_iconst C (2) d_L_actFinally_16 (by decide) ?_
    have hE : kFin (kGo n) k (nI dd) (nI bb) x u = (2, ((kGo n (nI dd) (nI bb) x u).2)) := by
      unfold kFin
      try dsimp only
      first | rw [if_pos h1] | rw [if_neg h1] | rw [if_pos (by exact h1)] | rw [if_neg (by exact h1)] | rw [if_neg (by exact z_nle h1)] | rw [if_pos (by exact z_le h1)] | rw [if_neg (by exact z_nlt h1)] | rw [if_pos (by exact z_lt h1)] | rw [if_neg (by rw [h1]; decide)] | rw [if_pos (by rw [h1])] | rw [if_neg (by exact tf_t h1)] | rw [if_neg (by exact tf_f h1)] | simp only [h1] | skip
      try rfl
    exact vv_iret C hr hlk (by rw [hE] <;> rfl) (by rw [hE] <;> rfl) d_L_actFinally_17
set_option maxHeartbeats 4000000 in
set_option maxRecDepth 100000 in
theorem c_L_actRecover (l : Launch) (Γ : Geo) (u : SC) {n : Nat} (hG : GoC n) (k : Nat) (hk : k < 6) (dd bb : Nat) (x : Int32) (hdd : dd < 3) (hbb : bb ≤ 6) (hmu : (2 - dd) * 7 + (6 - bb) < n) (hI : IC u) : CtC l Γ y_L_actRecover b_L_actRecover 6 (some .int) (3 * n + 1) [.ref (Γ.2.1 0), .ref (Γ.2.1 (k + 9)), .int (nI dd), .int (nI bb), .int x] u (some (.int (kRec (kGo n) k (nI dd) (nI bb) x u).1)) (kRec (kGo n) k (nI dd) (nI bb) x u).2 := by
  refine ct_of (by decide +kernel) (Nat.le_of_ble_eq_true rfl) ?_
  intro p e s m args below meth c C hr hlk
  refine vv_aload_n C d_L_actRecover_0 rfl ?_
  refine vv_iload_n C d_L_actRecover_1 rfl ?_
  refine vv_iload_n C d_L_actRecover_2 rfl ?_
  refine vv_iload C d_L_actRecover_3 rfl ?_
  refine callC (rest := []) C (hG l Γ u dd bb x hdd hbb hmu hI) cw_L_L_goAlong rfl 0 (by decide) rfl rfl rfl rfl (Nat.le_of_ble_eq_true rfl) (by decide) (by omega) d_L_actRecover_5 ?_
  refine vv_st (st' := [.int ((kGo n (nI dd) (nI bb) x u).1)]) rfl ?_
  refine vv_istore (lv' := [(5, .int ((kGo n (nI dd) (nI bb) x u).1)), (0, .ref (Γ.2.1 0)), (1, .ref (Γ.2.1 (k + 9))), (2, .int (nI dd)), (3, .int (nI bb)), (4, .int x)]) C d_L_actRecover_8 (by decide) rfl ?_
  refine vv_iload C d_L_actRecover_10 rfl ?_
  refine vv_iconst C (1) d_L_actRecover_12 (by decide) ?_
  refine vv_icmp_ne C 30 d_L_actRecover_13 rfl (fun h1 => ?_) (fun h1 => ?_)
  · skip
    refine vv_iload C d_L_actRecover_30 rfl ?_
    have hE : kRec (kGo n) k (nI dd) (nI bb) x u = ((kGo n (nI dd) (nI bb) x u).1, ((kGo n (nI dd) (nI bb) x u).2)) := by
      unfold kRec
      try dsimp only
      first | rw [if_pos h1] | rw [if_neg h1] | rw [if_pos (by exact h1)] | rw [if_neg (by exact h1)] | rw [if_neg (by exact z_nle h1)] | rw [if_pos (by exact z_le h1)] | rw [if_neg (by exact z_nlt h1)] | rw [if_pos (by exact z_lt h1)] | rw [if_neg (by rw [h1]; decide)] | rw [if_pos (by rw [h1])] | rw [if_neg (by exact tf_t h1)] | rw [if_neg (by exact tf_f h1)] | simp only [h1] | skip
      try rfl
    exact vv_iret C hr hlk (by rw [hE] <;> rfl) (by rw [hE] <;> rfl) d_L_actRecover_32
  · skip
    refine vv_aload_n C d_L_actRecover_16 rfl ?_
    refine g_L_L_value C d_L_actRecover_17 ?_
    refine vv_aload_n C d_L_actRecover_20 rfl ?_
    refine g_L_A_a C hk d_L_actRecover_21 ?_
    refine callCS (rest := []) C (c_L_isKindOf l Γ ((kGo n (nI dd) (nI bb) x u).2) (((kGo n (nI dd) (nI bb) x u).2).1 5 0) (((kGo n (nI dd) (nI bb) x u).2).1 17 k)) cw_L_L_isKindOf rfl rfl (Nat.le_of_ble_eq_true rfl) (by decide) (by omega) d_L_actRecover_24 ?_
    refine vv_st (st' := [.int (bI (kKindOf (((kGo n (nI dd) (nI bb) x u).2).1 5 0) (((kGo n (nI dd) (nI bb) x u).2).1 17 k)))]) rfl ?_
    refine vv_if_ne C 33 d_L_actRecover_27 rfl (fun h2 => ?_) (fun h2 => ?_)
    · skip
      replace h2 := bI_t h2
      refine vv_aload_n C d_L_actRecover_33 rfl ?_
      refine g_L_L_trace C d_L_actRecover_34 ?_
      refine vv_aload_n C d_L_actRecover_37 rfl ?_
      refine g_L_A_number C hk d_L_actRecover_38 ?_
      refine vv_aload_n C d_L_actRecover_41 rfl ?_
      refine g_L_L_value C d_L_actRecover_42 ?_
      refine callC (rest := []) C (c_T_note l Γ ((kGo n (nI dd) (nI bb) x u).2) (IC_go n dd hdd (nI bb) x u hI) (((kGo n (nI dd) (nI bb) x u).2).1 13 k) (((kGo n (nI dd) (nI bb) x u).2).1 5 0)) cw_L_T_note rfl 4 (by decide) rfl rfl rfl rfl (Nat.le_of_ble_eq_true rfl) (by decide) (by omega) d_L_actRecover_45 ?_
      refine vv_st (st' := [.int (bI (kNote ((kGo n (nI dd) (nI bb) x u).2) (((kGo n (nI dd) (nI bb) x u).2).1 13 k) (((kGo n (nI dd) (nI bb) x u).2).1 5 0)).1)]) rfl ?_
      refine vv_if_ne C 56 d_L_actRecover_48 rfl (fun h3 => ?_) (fun h3 => ?_)
      · skip
        replace h3 := bI_t h3
        refine vv_aload_n C d_L_actRecover_56 rfl ?_
        refine vv_aload_n C d_L_actRecover_57 rfl ?_
        refine g_L_A_b C hk d_L_actRecover_58 ?_
        refine callC (rest := []) C (c_L_returned l Γ ((kNote ((kGo n (nI dd) (nI bb) x u).2) (((kGo n (nI dd) (nI bb) x u).2).1 13 k) (((kGo n (nI dd) (nI bb) x u).2).1 5 0)).2) (((kNote ((kGo n (nI dd) (nI bb) x u).2) (((kGo n (nI dd) (nI bb) x u).2).1 13 k) (((kGo n (nI dd) (nI bb) x u).2).1 5 0)).2).1 18 k)) cw_L_L_returned rfl 0 (by decide) rfl rfl rfl rfl (Nat.le_of_ble_eq_true rfl) (by decide) (by omega) d_L_actRecover_61 ?_
        refine vv_st (st' := [.int 0]) rfl ?_
        have hE : kRec (kGo n) k (nI dd) (nI bb) x u = (0, (wr ((kNote ((kGo n (nI dd) (nI bb) x u).2) (((kGo n (nI dd) (nI bb) x u).2).1 13 k) (((kGo n (nI dd) (nI bb) x u).2).1 5 0)).2) 5 0 (((kNote ((kGo n (nI dd) (nI bb) x u).2) (((kGo n (nI dd) (nI bb) x u).2).1 13 k) (((kGo n (nI dd) (nI bb) x u).2).1 5 0)).2).1 18 k))) := by
          unfold kRec
          try dsimp only
          first | rw [if_pos h1] | rw [if_neg h1] | rw [if_pos (by exact h1)] | rw [if_neg (by exact h1)] | rw [if_neg (by exact z_nle h1)] | rw [if_pos (by exact z_le h1)] | rw [if_neg (by exact z_nlt h1)] | rw [if_pos (by exact z_lt h1)] | rw [if_neg (by rw [h1]; decide)] | rw [if_pos (by rw [h1])] | rw [if_neg (by exact tf_t h1)] | rw [if_neg (by exact tf_f h1)] | simp only [h1] | skip
          first | rw [if_pos h2] | rw [if_neg h2] | rw [if_pos (by exact h2)] | rw [if_neg (by exact h2)] | rw [if_neg (by exact z_nle h2)] | rw [if_pos (by exact z_le h2)] | rw [if_neg (by exact z_nlt h2)] | rw [if_pos (by exact z_lt h2)] | rw [if_neg (by rw [h2]; decide)] | rw [if_pos (by rw [h2])] | rw [if_neg (by exact tf_t h2)] | rw [if_neg (by exact tf_f h2)] | simp only [h2] | skip
          first | rw [if_pos h3] | rw [if_neg h3] | rw [if_pos (by exact h3)] | rw [if_neg (by exact h3)] | rw [if_neg (by exact z_nle h3)] | rw [if_pos (by exact z_le h3)] | rw [if_neg (by exact z_nlt h3)] | rw [if_pos (by exact z_lt h3)] | rw [if_neg (by rw [h3]; decide)] | rw [if_pos (by rw [h3])] | rw [if_neg (by exact tf_t h3)] | rw [if_neg (by exact tf_f h3)] | simp only [h3] | skip
          try rfl
        exact vv_iret C hr hlk (by rw [hE] <;> rfl) (by rw [hE] <;> rfl) d_L_actRecover_64
      · skip
        replace h3 := bI_f h3
        refine vv_aload_n C d_L_actRecover_51 rfl ?_
        refine callC (rest := []) C (c_L_brokenOff l Γ ((kNote ((kGo n (nI dd) (nI bb) x u).2) (((kGo n (nI dd) (nI bb) x u).2).1 13 k) (((kGo n (nI dd) (nI bb) x u).2).1 5 0)).2)) cw_L_L_brokenOff rfl 0 (by decide) rfl rfl rfl rfl (Nat.le_of_ble_eq_true rfl) (by decide) (by omega) d_L_actRecover_52 ?_
        refine vv_st (st' := [.int 2]) rfl ?_
        have hE : kRec (kGo n) k (nI dd) (nI bb) x u = (2, (wr ((kNote ((kGo n (nI dd) (nI bb) x u).2) (((kGo n (nI dd) (nI bb) x u).2).1 13 k) (((kGo n (nI dd) (nI bb) x u).2).1 5 0)).2) 5 0 0)) := by
          unfold kRec
          try dsimp only
          first | rw [if_pos h1] | rw [if_neg h1] | rw [if_pos (by exact h1)] | rw [if_neg (by exact h1)] | rw [if_neg (by exact z_nle h1)] | rw [if_pos (by exact z_le h1)] | rw [if_neg (by exact z_nlt h1)] | rw [if_pos (by exact z_lt h1)] | rw [if_neg (by rw [h1]; decide)] | rw [if_pos (by rw [h1])] | rw [if_neg (by exact tf_t h1)] | rw [if_neg (by exact tf_f h1)] | simp only [h1] | skip
          first | rw [if_pos h2] | rw [if_neg h2] | rw [if_pos (by exact h2)] | rw [if_neg (by exact h2)] | rw [if_neg (by exact z_nle h2)] | rw [if_pos (by exact z_le h2)] | rw [if_neg (by exact z_nlt h2)] | rw [if_pos (by exact z_lt h2)] | rw [if_neg (by rw [h2]; decide)] | rw [if_pos (by rw [h2])] | rw [if_neg (by exact tf_t h2)] | rw [if_neg (by exact tf_f h2)] | simp only [h2] | skip
          first | rw [if_pos h3] | rw [if_neg h3] | rw [if_pos (by exact h3)] | rw [if_neg (by exact h3)] | rw [if_neg (by exact z_nle h3)] | rw [if_pos (by exact z_le h3)] | rw [if_neg (by exact z_nlt h3)] | rw [if_pos (by exact z_lt h3)] | rw [if_neg (by rw [h3]; decide)] | rw [if_pos (by rw [h3])] | rw [if_neg (by exact tf_t h3)] | rw [if_neg (by exact tf_f h3)] | simp only [h3] | skip
          try rfl
        exact vv_iret C hr hlk (by rw [hE] <;> rfl) (by rw [hE] <;> rfl) d_L_actRecover_55
    · skip
      replace h2 := bI_f h2
      refine vv_iload C d_L_actRecover_30 rfl ?_
      have hE : kRec (kGo n) k (nI dd) (nI bb) x u = ((kGo n (nI dd) (nI bb) x u).1, ((kGo n (nI dd) (nI bb) x u).2)) := by
        unfold kRec
        try dsimp only
        first | rw [if_pos h1] | rw [if_neg h1] | rw [if_pos (by exact h1)] | rw [if_neg (by exact h1)] | rw [if_neg (by exact z_nle h1)] | rw [if_pos (by exact z_le h1)] | rw [if_neg (by exact z_nlt h1)] | rw [if_pos (by exact z_lt h1)] | rw [if_neg (by rw [h1]; decide)] | rw [if_pos (by rw [h1])] | rw [if_neg (by exact tf_t h1)] | rw [if_neg (by exact tf_f h1)] | simp only [h1] | skip
        first | rw [if_pos h2] | rw [if_neg h2] | rw [if_pos (by exact h2)] | rw [if_neg (by exact h2)] | rw [if_neg (by exact z_nle h2)] | rw [if_pos (by exact z_le h2)] | rw [if_neg (by exact z_nlt h2)] | rw [if_pos (by exact z_lt h2)] | rw [if_neg (by rw [h2]; decide)] | rw [if_pos (by rw [h2])] | rw [if_neg (by exact tf_t h2)] | rw [if_neg (by exact tf_f h2)] | simp only [h2] | skip
        try rfl
      exact vv_iret C hr hlk (by rw [hE] <;> rfl) (by rw [hE] <;> rfl) d_L_actRecover_32
set_option maxHeartbeats 4000000 in
set_option maxRecDepth 100000 in
theorem c_L_act (l : Launch) (Γ : Geo) (u : SC) {n : Nat} (hG : GoC n) (k : Nat) (hk : k < 6) (dd bb : Nat) (x : Int32) (hdd : dd < 3) (hbb : bb ≤ 6) (hmu : (2 - dd) * 7 + (6 - bb) < n) (hI : IC u) : CtC l Γ y_L_act b_L_act 5 (some .int) (3 * n + 2) [.ref (Γ.2.1 0), .ref (Γ.2.1 (k + 9)), .int (nI dd), .int (nI bb), .int x] u (some (.int (kAct (kGo n) k (nI dd) (nI bb) x u).1)) (kAct (kGo n) k (nI dd) (nI bb) x u).2 := by
  refine ct_of (by decide +kernel) (Nat.le_of_ble_eq_true rfl) ?_
  intro p e s m args below meth c C hr hlk
  refine vv_aload_n C d_L_act_0 rfl ?_
  refine g_L_A_kind C hk d_L_act_1 ?_
  by_cases z0 : u.1 14 k = 0
  · skip
    refine vv_tableIn C 48 d_L_act_4 (by rw [z0]; decide) (by rw [z0]; decide) (by rw [z0]; rfl) rfl ?_
    refine vv_aload_n C d_L_act_48 rfl ?_
    refine vv_aload_n C d_L_act_49 rfl ?_
    refine vv_iload_n C d_L_act_50 rfl ?_
    refine vv_iload_n C d_L_act_51 rfl ?_
    refine vv_iload C d_L_act_52 rfl ?_
    refine callC (rest := []) C (c_L_actBefore l Γ u hG k hk dd bb x hdd hbb hmu hI) cw_L_L_actBefore rfl 0 (by decide) rfl rfl rfl rfl (Nat.le_of_ble_eq_true rfl) (by decide) (by omega) d_L_act_54 ?_
    refine vv_st (st' := [.int ((kBef (kGo n) k (nI dd) (nI bb) x u).1)]) rfl ?_
    have hE : kAct (kGo n) k (nI dd) (nI bb) x u = ((kBef (kGo n) k (nI dd) (nI bb) x u).1, ((kBef (kGo n) k (nI dd) (nI bb) x u).2)) := by
      unfold kAct
      try dsimp only
      first | rw [if_pos z0] | rw [if_neg z0] | rw [if_pos (by exact z0)] | rw [if_neg (by exact z0)] | rw [if_neg (by exact z_nle z0)] | rw [if_pos (by exact z_le z0)] | rw [if_neg (by exact z_nlt z0)] | rw [if_pos (by exact z_lt z0)] | rw [if_neg (by rw [z0]; decide)] | rw [if_pos (by rw [z0])] | rw [if_neg (by exact tf_t z0)] | rw [if_neg (by exact tf_f z0)] | simp only [z0] | skip
      try rfl
    exact vv_iret C hr hlk (by rw [hE] <;> rfl) (by rw [hE] <;> rfl) d_L_act_57
  by_cases z1 : u.1 14 k = 1
  · skip
    refine vv_tableIn C 58 d_L_act_4 (by rw [z1]; decide) (by rw [z1]; decide) (by rw [z1]; rfl) rfl ?_
    refine vv_aload_n C d_L_act_58 rfl ?_
    refine vv_aload_n C d_L_act_59 rfl ?_
    refine vv_iload_n C d_L_act_60 rfl ?_
    refine vv_iload_n C d_L_act_61 rfl ?_
    refine vv_iload C d_L_act_62 rfl ?_
    refine callC (rest := []) C (c_L_actChange l Γ u hG k hk dd bb x hdd hbb hmu hI) cw_L_L_actChange rfl 0 (by decide) rfl rfl rfl rfl (Nat.le_of_ble_eq_true rfl) (by decide) (by omega) d_L_act_64 ?_
    refine vv_st (st' := [.int ((kChg (kGo n) k (nI dd) (nI bb) x u).1)]) rfl ?_
    have hE : kAct (kGo n) k (nI dd) (nI bb) x u = ((kChg (kGo n) k (nI dd) (nI bb) x u).1, ((kChg (kGo n) k (nI dd) (nI bb) x u).2)) := by
      unfold kAct
      try dsimp only
      first | rw [if_pos z0] | rw [if_neg z0] | rw [if_pos (by exact z0)] | rw [if_neg (by exact z0)] | rw [if_neg (by exact z_nle z0)] | rw [if_pos (by exact z_le z0)] | rw [if_neg (by exact z_nlt z0)] | rw [if_pos (by exact z_lt z0)] | rw [if_neg (by rw [z0]; decide)] | rw [if_pos (by rw [z0])] | rw [if_neg (by exact tf_t z0)] | rw [if_neg (by exact tf_f z0)] | simp only [z0] | skip
      first | rw [if_pos z1] | rw [if_neg z1] | rw [if_pos (by exact z1)] | rw [if_neg (by exact z1)] | rw [if_neg (by exact z_nle z1)] | rw [if_pos (by exact z_le z1)] | rw [if_neg (by exact z_nlt z1)] | rw [if_pos (by exact z_lt z1)] | rw [if_neg (by rw [z1]; decide)] | rw [if_pos (by rw [z1])] | rw [if_neg (by exact tf_t z1)] | rw [if_neg (by exact tf_f z1)] | simp only [z1] | skip
      try rfl
    exact vv_iret C hr hlk (by rw [hE] <;> rfl) (by rw [hE] <;> rfl) d_L_act_67
  by_cases z2 : u.1 14 k = 2
  · skip
    refine vv_tableIn C 68 d_L_act_4 (by rw [z2]; decide) (by rw [z2]; decide) (by rw [z2]; rfl) rfl ?_
    refine vv_aload_n C d_L_act_68 rfl ?_
    refine vv_aload_n C d_L_act_69 rfl ?_
    refine vv_iload_n C d_L_act_70 rfl ?_
    refine vv_iload_n C d_L_act_71 rfl ?_
    refine vv_iload C d_L_act_72 rfl ?_
    refine callC (rest := []) C (c_L_actSkip l Γ u hG k hk dd bb x hdd hbb hmu hI) cw_L_L_actSkip rfl 0 (by decide) rfl rfl rfl rfl (Nat.le_of_ble_eq_true rfl) (by decide) (by omega) d_L_act_74 ?_
    refine vv_st (st' := [.int ((kSkp (kGo n) k (nI dd) (nI bb) x u).1)]) rfl ?_
    have hE : kAct (kGo n) k (nI dd) (nI bb) x u = ((kSkp (kGo n) k (nI dd) (nI bb) x u).1, ((kSkp (kGo n) k (nI dd) (nI bb) x u).2)) := by
      unfold kAct
      try dsimp only
      first | rw [if_pos z0] | rw [if_neg z0] | rw [if_pos (by exact z0)] | rw [if_neg (by exact z0)] | rw [if_neg (by exact z_nle z0)] | rw [if_pos (by exact z_le z0)] | rw [if_neg (by exact z_nlt z0)] | rw [if_pos (by exact z_lt z0)] | rw [if_neg (by rw [z0]; decide)] | rw [if_pos (by rw [z0])] | rw [if_neg (by exact tf_t z0)] | rw [if_neg (by exact tf_f z0)] | simp only [z0] | skip
      first | rw [if_pos z1] | rw [if_neg z1] | rw [if_pos (by exact z1)] | rw [if_neg (by exact z1)] | rw [if_neg (by exact z_nle z1)] | rw [if_pos (by exact z_le z1)] | rw [if_neg (by exact z_nlt z1)] | rw [if_pos (by exact z_lt z1)] | rw [if_neg (by rw [z1]; decide)] | rw [if_pos (by rw [z1])] | rw [if_neg (by exact tf_t z1)] | rw [if_neg (by exact tf_f z1)] | simp only [z1] | skip
      first | rw [if_pos z2] | rw [if_neg z2] | rw [if_pos (by exact z2)] | rw [if_neg (by exact z2)] | rw [if_neg (by exact z_nle z2)] | rw [if_pos (by exact z_le z2)] | rw [if_neg (by exact z_nlt z2)] | rw [if_pos (by exact z_lt z2)] | rw [if_neg (by rw [z2]; decide)] | rw [if_pos (by rw [z2])] | rw [if_neg (by exact tf_t z2)] | rw [if_neg (by exact tf_f z2)] | simp only [z2] | skip
      try rfl
    exact vv_iret C hr hlk (by rw [hE] <;> rfl) (by rw [hE] <;> rfl) d_L_act_77
  by_cases z3 : u.1 14 k = 3
  · skip
    refine vv_tableIn C 78 d_L_act_4 (by rw [z3]; decide) (by rw [z3]; decide) (by rw [z3]; rfl) rfl ?_
    refine vv_aload_n C d_L_act_78 rfl ?_
    refine vv_aload_n C d_L_act_79 rfl ?_
    refine vv_iload_n C d_L_act_80 rfl ?_
    refine vv_iload_n C d_L_act_81 rfl ?_
    refine vv_iload C d_L_act_82 rfl ?_
    refine callC (rest := []) C (c_L_actTwice l Γ u hG k hk dd bb x hdd hbb hmu hI) cw_L_L_actTwice rfl 0 (by decide) rfl rfl rfl rfl (Nat.le_of_ble_eq_true rfl) (by decide) (by omega) d_L_act_84 ?_
    refine vv_st (st' := [.int ((kTwi (kGo n) k (nI dd) (nI bb) x u).1)]) rfl ?_
    have hE : kAct (kGo n) k (nI dd) (nI bb) x u = ((kTwi (kGo n) k (nI dd) (nI bb) x u).1, ((kTwi (kGo n) k (nI dd) (nI bb) x u).2)) := by
      unfold kAct
      try dsimp only
      first | rw [if_pos z0] | rw [if_neg z0] | rw [if_pos (by exact z0)] | rw [if_neg (by exact z0)] | rw [if_neg (by exact z_nle z0)] | rw [if_pos (by exact z_le z0)] | rw [if_neg (by exact z_nlt z0)] | rw [if_pos (by exact z_lt z0)] | rw [if_neg (by rw [z0]; decide)] | rw [if_pos (by rw [z0])] | rw [if_neg (by exact tf_t z0)] | rw [if_neg (by exact tf_f z0)] | simp only [z0] | skip
      first | rw [if_pos z1] | rw [if_neg z1] | rw [if_pos (by exact z1)] | rw [if_neg (by exact z1)] | rw [if_neg (by exact z_nle z1)] | rw [if_pos (by exact z_le z1)] | rw [if_neg (by exact z_nlt z1)] | rw [if_pos (by exact z_lt z1)] | rw [if_neg (by rw [z1]; decide)] | rw [if_pos (by rw [z1])] | rw [if_neg (by exact tf_t z1)] | rw [if_neg (by exact tf_f z1)] | simp only [z1] | skip
      first | rw [if_pos z2] | rw [if_neg z2] | rw [if_pos (by exact z2)] | rw [if_neg (by exact z2)] | rw [if_neg (by exact z_nle z2)] | rw [if_pos (by exact z_le z2)] | rw [if_neg (by exact z_nlt z2)] | rw [if_pos (by exact z_lt z2)] | rw [if_neg (by rw [z2]; decide)] | rw [if_pos (by rw [z2])] | rw [if_neg (by exact tf_t z2)] | rw [if_neg (by exact tf_f z2)] | simp only [z2] | skip
      first | rw [if_pos z3] | rw [if_neg z3] | rw [if_pos (by exact z3)] | rw [if_neg (by exact z3)] | rw [if_neg (by exact z_nle z3)] | rw [if_pos (by exact z_le z3)] | rw [if_neg (by exact z_nlt z3)] | rw [if_pos (by exact z_lt z3)] | rw [if_neg (by rw [z3]; decide)] | rw [if_pos (by rw [z3])] | rw [if_neg (by exact tf_t z3)] | rw [if_neg (by exact tf_f z3)] | simp only [z3] | skip
      try rfl
    exact vv_iret C hr hlk (by rw [hE] <;> rfl) (by rw [hE] <;> rfl) d_L_act_87
  by_cases z4 : u.1 14 k = 4
  · skip
    refine vv_tableIn C 88 d_L_act_4 (by rw [z4]; decide) (by rw [z4]; decide) (by rw [z4]; rfl) rfl ?_
    refine vv_aload_n C d_L_act_88 rfl ?_
    refine vv_aload_n C d_L_act_89 rfl ?_
    refine vv_iload_n C d_L_act_90 rfl ?_
    refine vv_iload_n C d_L_act_91 rfl ?_
    refine vv_iload C d_L_act_92 rfl ?_
    refine callC (rest := []) C (c_L_actReturning l Γ u hG k hk dd bb x hdd hbb hmu hI) cw_L_L_actReturning rfl 0 (by decide) rfl rfl rfl rfl (Nat.le_of_ble_eq_true rfl) (by decide) (by omega) d_L_act_94 ?_
    refine vv_st (st' := [.int ((kRet (kGo n) k (nI dd) (nI bb) x u).1)]) rfl ?_
    have hE : kAct (kGo n) k (nI dd) (nI bb) x u = ((kRet (kGo n) k (nI dd) (nI bb) x u).1, ((kRet (kGo n) k (nI dd) (nI bb) x u).2)) := by
      unfold kAct
      try dsimp only
      first | rw [if_pos z0] | rw [if_neg z0] | rw [if_pos (by exact z0)] | rw [if_neg (by exact z0)] | rw [if_neg (by exact z_nle z0)] | rw [if_pos (by exact z_le z0)] | rw [if_neg (by exact z_nlt z0)] | rw [if_pos (by exact z_lt z0)] | rw [if_neg (by rw [z0]; decide)] | rw [if_pos (by rw [z0])] | rw [if_neg (by exact tf_t z0)] | rw [if_neg (by exact tf_f z0)] | simp only [z0] | skip
      first | rw [if_pos z1] | rw [if_neg z1] | rw [if_pos (by exact z1)] | rw [if_neg (by exact z1)] | rw [if_neg (by exact z_nle z1)] | rw [if_pos (by exact z_le z1)] | rw [if_neg (by exact z_nlt z1)] | rw [if_pos (by exact z_lt z1)] | rw [if_neg (by rw [z1]; decide)] | rw [if_pos (by rw [z1])] | rw [if_neg (by exact tf_t z1)] | rw [if_neg (by exact tf_f z1)] | simp only [z1] | skip
      first | rw [if_pos z2] | rw [if_neg z2] | rw [if_pos (by exact z2)] | rw [if_neg (by exact z2)] | rw [if_neg (by exact z_nle z2)] | rw [if_pos (by exact z_le z2)] | rw [if_neg (by exact z_nlt z2)] | rw [if_pos (by exact z_lt z2)] | rw [if_neg (by rw [z2]; decide)] | rw [if_pos (by rw [z2])] | rw [if_neg (by exact tf_t z2)] | rw [if_neg (by exact tf_f z2)] | simp only [z2] | skip
      first | rw [if_pos z3] | rw [if_neg z3] | rw [if_pos (by exact z3)] | rw [if_neg (by exact z3)] | rw [if_neg (by exact z_nle z3)] | rw [if_pos (by exact z_le z3)] | rw [if_neg (by exact z_nlt z3)] | rw [if_pos (by exact z_lt z3)] | rw [if_neg (by rw [z3]; decide)] | rw [if_pos (by rw [z3])] | rw [if_neg (by exact tf_t z3)] | rw [if_neg (by exact tf_f z3)] | simp only [z3] | skip
      first | rw [if_pos z4] | rw [if_neg z4] | rw [if_pos (by exact z4)] | rw [if_neg (by exact z4)] | rw [if_neg (by exact z_nle z4)] | rw [if_pos (by exact z_le z4)] | rw [if_neg (by exact z_nlt z4)] | rw [if_pos (by exact z_lt z4)] | rw [if_neg (by rw [z4]; decide)] | rw [if_pos (by rw [z4])] | rw [if_neg (by exact tf_t z4)] | rw [if_neg (by exact tf_f z4)] | simp only [z4] | skip
      try rfl
    exact vv_iret C hr hlk (by rw [hE] <;> rfl) (by rw [hE] <;> rfl) d_L_act_97
  by_cases z5 : u.1 14 k = 5
  · skip
    refine vv_tableIn C 98 d_L_act_4 (by rw [z5]; decide) (by rw [z5]; decide) (by rw [z5]; rfl) rfl ?_
    refine vv_aload_n C d_L_act_98 rfl ?_
    refine vv_aload_n C d_L_act_99 rfl ?_
    refine vv_iload_n C d_L_act_100 rfl ?_
    refine vv_iload_n C d_L_act_101 rfl ?_
    refine vv_iload C d_L_act_102 rfl ?_
    refine callC (rest := []) C (c_L_actThrowing l Γ u hG k hk dd bb x hdd hbb hmu hI) cw_L_L_actThrowing rfl 0 (by decide) rfl rfl rfl rfl (Nat.le_of_ble_eq_true rfl) (by decide) (by omega) d_L_act_104 ?_
    refine vv_st (st' := [.int ((kThr (kGo n) k (nI dd) (nI bb) x u).1)]) rfl ?_
    have hE : kAct (kGo n) k (nI dd) (nI bb) x u = ((kThr (kGo n) k (nI dd) (nI bb) x u).1, ((kThr (kGo n) k (nI dd) (nI bb) x u).2)) := by
      unfold kAct
      try dsimp only
      first | rw [if_pos z0] | rw [if_neg z0] | rw [if_pos (by exact z0)] | rw [if_neg (by exact z0)] | rw [if_neg (by exact z_nle z0)] | rw [if_pos (by exact z_le z0)] | rw [if_neg (by exact z_nlt z0)] | rw [if_pos (by exact z_lt z0)] | rw [if_neg (by rw [z0]; decide)] | rw [if_pos (by rw [z0])] | rw [if_neg (by exact tf_t z0)] | rw [if_neg (by exact tf_f z0)] | simp only [z0] | skip
      first | rw [if_pos z1] | rw [if_neg z1] | rw [if_pos (by exact z1)] | rw [if_neg (by exact z1)] | rw [if_neg (by exact z_nle z1)] | rw [if_pos (by exact z_le z1)] | rw [if_neg (by exact z_nlt z1)] | rw [if_pos (by exact z_lt z1)] | rw [if_neg (by rw [z1]; decide)] | rw [if_pos (by rw [z1])] | rw [if_neg (by exact tf_t z1)] | rw [if_neg (by exact tf_f z1)] | simp only [z1] | skip
      first | rw [if_pos z2] | rw [if_neg z2] | rw [if_pos (by exact z2)] | rw [if_neg (by exact z2)] | rw [if_neg (by exact z_nle z2)] | rw [if_pos (by exact z_le z2)] | rw [if_neg (by exact z_nlt z2)] | rw [if_pos (by exact z_lt z2)] | rw [if_neg (by rw [z2]; decide)] | rw [if_pos (by rw [z2])] | rw [if_neg (by exact tf_t z2)] | rw [if_neg (by exact tf_f z2)] | simp only [z2] | skip
      first | rw [if_pos z3] | rw [if_neg z3] | rw [if_pos (by exact z3)] | rw [if_neg (by exact z3)] | rw [if_neg (by exact z_nle z3)] | rw [if_pos (by exact z_le z3)] | rw [if_neg (by exact z_nlt z3)] | rw [if_pos (by exact z_lt z3)] | rw [if_neg (by rw [z3]; decide)] | rw [if_pos (by rw [z3])] | rw [if_neg (by exact tf_t z3)] | rw [if_neg (by exact tf_f z3)] | simp only [z3] | skip
      first | rw [if_pos z4] | rw [if_neg z4] | rw [if_pos (by exact z4)] | rw [if_neg (by exact z4)] | rw [if_neg (by exact z_nle z4)] | rw [if_pos (by exact z_le z4)] | rw [if_neg (by exact z_nlt z4)] | rw [if_pos (by exact z_lt z4)] | rw [if_neg (by rw [z4]; decide)] | rw [if_pos (by rw [z4])] | rw [if_neg (by exact tf_t z4)] | rw [if_neg (by exact tf_f z4)] | simp only [z4] | skip
      first | rw [if_pos z5] | rw [if_neg z5] | rw [if_pos (by exact z5)] | rw [if_neg (by exact z5)] | rw [if_neg (by exact z_nle z5)] | rw [if_pos (by exact z_le z5)] | rw [if_neg (by exact z_nlt z5)] | rw [if_pos (by exact z_lt z5)] | rw [if_neg (by rw [z5]; decide)] | rw [if_pos (by rw [z5])] | rw [if_neg (by exact tf_t z5)] | rw [if_neg (by exact tf_f z5)] | simp only [z5] | skip
      try rfl
    exact vv_iret C hr hlk (by rw [hE] <;> rfl) (by rw [hE] <;> rfl) d_L_act_107
  by_cases z6 : u.1 14 k = 6
  · skip
    refine vv_tableIn C 108 d_L_act_4 (by rw [z6]; decide) (by rw [z6]; decide) (by rw [z6]; rfl) rfl ?_
    refine vv_aload_n C d_L_act_108 rfl ?_
    refine vv_aload_n C d_L_act_109 rfl ?_
    refine vv_iload_n C d_L_act_110 rfl ?_
    refine vv_iload_n C d_L_act_111 rfl ?_
    refine vv_iload C d_L_act_112 rfl ?_
    refine callC (rest := []) C (c_L_actFinally l Γ u hG k hk dd bb x hdd hbb hmu hI) cw_L_L_actFinally rfl 0 (by decide) rfl rfl rfl rfl (Nat.le_of_ble_eq_true rfl) (by decide) (by omega) d_L_act_114 ?_
    refine vv_st (st' := [.int ((kFin (kGo n) k (nI dd) (nI bb) x u).1)]) rfl ?_
    have hE : kAct (kGo n) k (nI dd) (nI bb) x u = ((kFin (kGo n) k (nI dd) (nI bb) x u).1, ((kFin (kGo n) k (nI dd) (nI bb) x u).2)) := by
      unfold kAct
      try dsimp only
      first | rw [if_pos z0] | rw [if_neg z0] | rw [if_pos (by exact z0)] | rw [if_neg (by exact z0)] | rw [if_neg (by exact z_nle z0)] | rw [if_pos (by exact z_le z0)] | rw [if_neg (by exact z_nlt z0)] | rw [if_pos (by exact z_lt z0)] | rw [if_neg (by rw [z0]; decide)] | rw [if_pos (by rw [z0])] | rw [if_neg (by exact tf_t z0)] | rw [if_neg (by exact tf_f z0)] | simp only [z0] | skip
      first | rw [if_pos z1] | rw [if_neg z1] | rw [if_pos (by exact z1)] | rw [if_neg (by exact z1)] | rw [if_neg (by exact z_nle z1)] | rw [if_pos (by exact z_le z1)] | rw [if_neg (by exact z_nlt z1)] | rw [if_pos (by exact z_lt z1)] | rw [if_neg (by rw [z1]; decide)] | rw [if_pos (by rw [z1])] | rw [if_neg (by exact tf_t z1)] | rw [if_neg (by exact tf_f z1)] | simp only [z1] | skip
      first | rw [if_pos z2] | rw [if_neg z2] | rw [if_pos (by exact z2)] | rw [if_neg (by exact z2)] | rw [if_neg (by exact z_nle z2)] | rw [if_pos (by exact z_le z2)] | rw [if_neg (by exact z_nlt z2)] | rw [if_pos (by exact z_lt z2)] | rw [if_neg (by rw [z2]; decide)] | rw [if_pos (by rw [z2])] | rw [if_neg (by exact tf_t z2)] | rw [if_neg (by exact tf_f z2)] | simp only [z2] | skip
      first | rw [if_pos z3] | rw [if_neg z3] | rw [if_pos (by exact z3)] | rw [if_neg (by exact z3)] | rw [if_neg (by exact z_nle z3)] | rw [if_pos (by exact z_le z3)] | rw [if_neg (by exact z_nlt z3)] | rw [if_pos (by exact z_lt z3)] | rw [if_neg (by rw [z3]; decide)] | rw [if_pos (by rw [z3])] | rw [if_neg (by exact tf_t z3)] | rw [if_neg (by exact tf_f z3)] | simp only [z3] | skip
      first | rw [if_pos z4] | rw [if_neg z4] | rw [if_pos (by exact z4)] | rw [if_neg (by exact z4)] | rw [if_neg (by exact z_nle z4)] | rw [if_pos (by exact z_le z4)] | rw [if_neg (by exact z_nlt z4)] | rw [if_pos (by exact z_lt z4)] | rw [if_neg (by rw [z4]; decide)] | rw [if_pos (by rw [z4])] | rw [if_neg (by exact tf_t z4)] | rw [if_neg (by exact tf_f z4)] | simp only [z4] | skip
      first | rw [if_pos z5] | rw [if_neg z5] | rw [if_pos (by exact z5)] | rw [if_neg (by exact z5)] | rw [if_neg (by exact z_nle z5)] | rw [if_pos (by exact z_le z5)] | rw [if_neg (by exact z_nlt z5)] | rw [if_pos (by exact z_lt z5)] | rw [if_neg (by rw [z5]; decide)] | rw [if_pos (by rw [z5])] | rw [if_neg (by exact tf_t z5)] | rw [if_neg (by exact tf_f z5)] | simp only [z5] | skip
      first | rw [if_pos z6] | rw [if_neg z6] | rw [if_pos (by exact z6)] | rw [if_neg (by exact z6)] | rw [if_neg (by exact z_nle z6)] | rw [if_pos (by exact z_le z6)] | rw [if_neg (by exact z_nlt z6)] | rw [if_pos (by exact z_lt z6)] | rw [if_neg (by rw [z6]; decide)] | rw [if_pos (by rw [z6])] | rw [if_neg (by exact tf_t z6)] | rw [if_neg (by exact tf_f z6)] | simp only [z6] | skip
      try rfl
    exact vv_iret C hr hlk (by rw [hE] <;> rfl) (by rw [hE] <;> rfl) d_L_act_117
  have hout : (u.1 14 k).toInt < 0 ∨ ((6 : Nat) : Int) < (u.1 14 k).toInt := sw_out (by omega) (fun j hj => by
    have hj' : j = 0 ∨ j = 1 ∨ j = 2 ∨ j = 3 ∨ j = 4 ∨ j = 5 ∨ j = 6 := by omega
    rcases hj' with rfl | rfl | rfl | rfl | rfl | rfl | rfl
    · exact z0
    · exact z1
    · exact z2
    · exact z3
    · exact z4
    · exact z5
    · exact z6
    )
  refine vv_tableOut C 118 d_L_act_4 hout rfl ?_
  refine vv_aload_n C d_L_act_118 rfl ?_
  refine vv_aload_n C d_L_act_119 rfl ?_
  refine vv_iload_n C d_L_act_120 rfl ?_
  refine vv_iload_n C d_L_act_121 rfl ?_
  refine vv_iload C d_L_act_122 rfl ?_
  refine callC (rest := []) C (c_L_actRecover l Γ u hG k hk dd bb x hdd hbb hmu hI) cw_L_L_actRecover rfl 0 (by decide) rfl rfl rfl rfl (Nat.le_of_ble_eq_true rfl) (by decide) (by omega) d_L_act_124 ?_
  refine vv_st (st' := [.int ((kRec (kGo n) k (nI dd) (nI bb) x u).1)]) rfl ?_
  have hE : kAct (kGo n) k (nI dd) (nI bb) x u = ((kRec (kGo n) k (nI dd) (nI bb) x u).1, ((kRec (kGo n) k (nI dd) (nI bb) x u).2)) := by
    unfold kAct
    try dsimp only
    first | rw [if_pos z0] | rw [if_neg z0] | rw [if_pos (by exact z0)] | rw [if_neg (by exact z0)] | rw [if_neg (by exact z_nle z0)] | rw [if_pos (by exact z_le z0)] | rw [if_neg (by exact z_nlt z0)] | rw [if_pos (by exact z_lt z0)] | rw [if_neg (by rw [z0]; decide)] | rw [if_pos (by rw [z0])] | rw [if_neg (by exact tf_t z0)] | rw [if_neg (by exact tf_f z0)] | simp only [z0] | skip
    first | rw [if_pos z1] | rw [if_neg z1] | rw [if_pos (by exact z1)] | rw [if_neg (by exact z1)] | rw [if_neg (by exact z_nle z1)] | rw [if_pos (by exact z_le z1)] | rw [if_neg (by exact z_nlt z1)] | rw [if_pos (by exact z_lt z1)] | rw [if_neg (by rw [z1]; decide)] | rw [if_pos (by rw [z1])] | rw [if_neg (by exact tf_t z1)] | rw [if_neg (by exact tf_f z1)] | simp only [z1] | skip
    first | rw [if_pos z2] | rw [if_neg z2] | rw [if_pos (by exact z2)] | rw [if_neg (by exact z2)] | rw [if_neg (by exact z_nle z2)] | rw [if_pos (by exact z_le z2)] | rw [if_neg (by exact z_nlt z2)] | rw [if_pos (by exact z_lt z2)] | rw [if_neg (by rw [z2]; decide)] | rw [if_pos (by rw [z2])] | rw [if_neg (by exact tf_t z2)] | rw [if_neg (by exact tf_f z2)] | simp only [z2] | skip
    first | rw [if_pos z3] | rw [if_neg z3] | rw [if_pos (by exact z3)] | rw [if_neg (by exact z3)] | rw [if_neg (by exact z_nle z3)] | rw [if_pos (by exact z_le z3)] | rw [if_neg (by exact z_nlt z3)] | rw [if_pos (by exact z_lt z3)] | rw [if_neg (by rw [z3]; decide)] | rw [if_pos (by rw [z3])] | rw [if_neg (by exact tf_t z3)] | rw [if_neg (by exact tf_f z3)] | simp only [z3] | skip
    first | rw [if_pos z4] | rw [if_neg z4] | rw [if_pos (by exact z4)] | rw [if_neg (by exact z4)] | rw [if_neg (by exact z_nle z4)] | rw [if_pos (by exact z_le z4)] | rw [if_neg (by exact z_nlt z4)] | rw [if_pos (by exact z_lt z4)] | rw [if_neg (by rw [z4]; decide)] | rw [if_pos (by rw [z4])] | rw [if_neg (by exact tf_t z4)] | rw [if_neg (by exact tf_f z4)] | simp only [z4] | skip
    first | rw [if_pos z5] | rw [if_neg z5] | rw [if_pos (by exact z5)] | rw [if_neg (by exact z5)] | rw [if_neg (by exact z_nle z5)] | rw [if_pos (by exact z_le z5)] | rw [if_neg (by exact z_nlt z5)] | rw [if_pos (by exact z_lt z5)] | rw [if_neg (by rw [z5]; decide)] | rw [if_pos (by rw [z5])] | rw [if_neg (by exact tf_t z5)] | rw [if_neg (by exact tf_f z5)] | simp only [z5] | skip
    first | rw [if_pos z6] | rw [if_neg z6] | rw [if_pos (by exact z6)] | rw [if_neg (by exact z6)] | rw [if_neg (by exact z_nle z6)] | rw [if_pos (by exact z_le z6)] | rw [if_neg (by exact z_nlt z6)] | rw [if_pos (by exact z_lt z6)] | rw [if_neg (by rw [z6]; decide)] | rw [if_pos (by rw [z6])] | rw [if_neg (by exact tf_t z6)] | rw [if_neg (by exact tf_f z6)] | simp only [z6] | skip
    try rfl
  exact vv_iret C hr hlk (by rw [hE] <;> rfl) (by rw [hE] <;> rfl) d_L_act_127
set_option maxHeartbeats 4000000 in
set_option maxRecDepth 100000 in
theorem c_L_workOn (l : Launch) (Γ : Geo) (u : SC) {n : Nat} (hG : GoC n) (dd : Nat) (x : Int32) (hdd : dd < 3) (hmu : (2 - dd) * 7 ≤ n) (hI : IC u) : CtC l Γ y_L_workOn b_L_workOn 6 (some .int) (3 * n + 2) [.ref (Γ.2.1 0), .int (nI dd), .int x] u (some (.int (kWork (kGo n) (nI dd) x u).1)) (kWork (kGo n) (nI dd) x u).2 := by
  refine ct_of (by decide +kernel) (Nat.le_of_ble_eq_true rfl) ?_
  intro p e s m args below meth c C hr hlk
  obtain ⟨hw1, hw2⟩ := w_in hI hdd
  refine vv_aload_n C d_L_workOn_0 rfl ?_
  refine g_L_L_methodAt C d_L_workOn_1 ?_
  refine vv_iload_n C d_L_workOn_4 rfl ?_
  refine ld_4_7 C (in3 hdd) d_L_workOn_5 ?_
  refine vv_istore_n (lv' := [(3, .int (u.1 9 (ix (nI dd)))), (0, .ref (Γ.2.1 0)), (1, .int (nI dd)), (2, .int x)]) C d_L_workOn_6 rfl (by decide) rfl ?_
  refine vv_aload_n C d_L_workOn_7 rfl ?_
  refine vv_aload_n C d_L_workOn_8 rfl ?_
  refine g_L_L_targetAt C d_L_workOn_9 ?_
  refine vv_iload_n C d_L_workOn_12 rfl ?_
  refine ld_4_8 C (in3 hdd) d_L_workOn_13 ?_
  refine vv_iload_n C d_L_workOn_14 rfl ?_
  refine callC (rest := []) C (c_L_workOf l Γ u (u.1 10 (ix (nI dd))) (u.1 9 (ix (nI dd))) hw1) cw_L_L_workOf rfl 0 (by decide) rfl rfl rfl rfl (Nat.le_of_ble_eq_true rfl) (by decide) (by omega) d_L_workOn_15 ?_
  refine vv_st (st' := [.ref (Γ.2.1 (ix ((u.1 10 (ix (nI dd))) * 6 + (u.1 9 (ix (nI dd)))) + 15))]) rfl ?_
  refine vv_astore (lv' := [(4, .ref (Γ.2.1 (ix ((u.1 10 (ix (nI dd))) * 6 + (u.1 9 (ix (nI dd)))) + 15))), (3, .int (u.1 9 (ix (nI dd)))), (0, .ref (Γ.2.1 0)), (1, .int (nI dd)), (2, .int x)]) C d_L_workOn_18 (by decide) rfl ?_
  refine vv_aload_n C d_L_workOn_20 rfl ?_
  refine g_L_L_trace C d_L_workOn_21 ?_
  refine vv_bipush C (100) d_L_workOn_24 (by decide) ?_
  refine vv_iload_n C d_L_workOn_26 rfl ?_
  refine vv_iadd C d_L_workOn_27 ?_
  refine vv_iload_n C d_L_workOn_28 rfl ?_
  refine callC (rest := []) C (c_T_note l Γ u hI (100 + (u.1 9 (ix (nI dd)))) x) cw_L_T_note rfl 4 (by decide) rfl rfl rfl rfl (Nat.le_of_ble_eq_true rfl) (by decide) (by omega) d_L_workOn_29 ?_
  refine vv_st (st' := [.int (bI (kNote u (100 + (u.1 9 (ix (nI dd)))) x).1)]) rfl ?_
  refine vv_if_ne C 40 d_L_workOn_32 rfl (fun h1 => ?_) (fun h1 => ?_)
  · skip
    replace h1 := bI_t h1
    refine vv_aload C d_L_workOn_40 rfl ?_
    refine vv_iload_n C d_L_workOn_42 rfl ?_
    refine callC (rest := []) C (c_K_failsOn l Γ ((kNote u (100 + (u.1 9 (ix (nI dd)))) x).2) (ix ((u.1 10 (ix (nI dd))) * 6 + (u.1 9 (ix (nI dd))))) hw2 x) cw_L_K_failsOn rfl (ix ((u.1 10 (ix (nI dd))) * 6 + (u.1 9 (ix (nI dd)))) + 15) (by have := hw2; omega) rfl eC_wrk rfl rfl (Nat.le_of_ble_eq_true rfl) (by decide) (by omega) d_L_workOn_43 ?_
    refine vv_st (st' := [.int (bI (kFailsOn ((kNote u (100 + (u.1 9 (ix (nI dd)))) x).2) (ix ((u.1 10 (ix (nI dd))) * 6 + (u.1 9 (ix (nI dd))))) x))]) rfl ?_
    refine vv_if_eq C 59 d_L_workOn_46 rfl (fun h2 => ?_) (fun h2 => ?_)
    · skip
      replace h2 := bI_f h2
      refine vv_aload C d_L_workOn_59 rfl ?_
      refine g_L_K_next C hw2 d_L_workOn_61 ?_
      refine vv_iconst C (-1) d_L_workOn_64 (by decide) ?_
      refine vv_icmp_eq C 72 d_L_workOn_65 rfl (fun h3 => ?_) (fun h3 => ?_)
      · skip
        refine vv_aload_n C d_L_workOn_72 rfl ?_
        refine vv_aload C d_L_workOn_73 rfl ?_
        refine vv_iload_n C d_L_workOn_75 rfl ?_
        refine callC (rest := [.ref (Γ.2.1 0)]) C (c_K_reckon l Γ ((kNote u (100 + (u.1 9 (ix (nI dd)))) x).2) (ix ((u.1 10 (ix (nI dd))) * 6 + (u.1 9 (ix (nI dd))))) hw2 x) cw_L_K_reckon rfl (ix ((u.1 10 (ix (nI dd))) * 6 + (u.1 9 (ix (nI dd)))) + 15) (by have := hw2; omega) rfl eC_wrk rfl rfl (Nat.le_of_ble_eq_true rfl) (by decide) (by omega) d_L_workOn_76 ?_
        refine vv_st (st' := [.int (kReckon ((kNote u (100 + (u.1 9 (ix (nI dd)))) x).2) (ix ((u.1 10 (ix (nI dd))) * 6 + (u.1 9 (ix (nI dd))))) x), .ref (Γ.2.1 0)]) rfl ?_
        refine callC (rest := []) C (c_L_returned l Γ ((kNote u (100 + (u.1 9 (ix (nI dd)))) x).2) (kReckon ((kNote u (100 + (u.1 9 (ix (nI dd)))) x).2) (ix ((u.1 10 (ix (nI dd))) * 6 + (u.1 9 (ix (nI dd))))) x)) cw_L_L_returned rfl 0 (by decide) rfl rfl rfl rfl (Nat.le_of_ble_eq_true rfl) (by decide) (by omega) d_L_workOn_79 ?_
        refine vv_st (st' := [.int 0]) rfl ?_
        have hE : kWork (kGo n) (nI dd) x u = (0, (wr ((kNote u (100 + (u.1 9 (ix (nI dd)))) x).2) 5 0 (kReckon ((kNote u (100 + (u.1 9 (ix (nI dd)))) x).2) (ix ((u.1 10 (ix (nI dd))) * 6 + (u.1 9 (ix (nI dd))))) x))) := by
          unfold kWork kWorkR
          try rw [nI_1]
          try dsimp only
          first | rw [if_pos h1] | rw [if_neg h1] | rw [if_pos (by exact h1)] | rw [if_neg (by exact h1)] | rw [if_neg (by exact z_nle h1)] | rw [if_pos (by exact z_le h1)] | rw [if_neg (by exact z_nlt h1)] | rw [if_pos (by exact z_lt h1)] | rw [if_neg (by rw [h1]; decide)] | rw [if_pos (by rw [h1])] | rw [if_neg (by exact tf_t h1)] | rw [if_neg (by exact tf_f h1)] | simp only [h1] | skip
          first | rw [if_pos h2] | rw [if_neg h2] | rw [if_pos (by exact h2)] | rw [if_neg (by exact h2)] | rw [if_neg (by exact z_nle h2)] | rw [if_pos (by exact z_le h2)] | rw [if_neg (by exact z_nlt h2)] | rw [if_pos (by exact z_lt h2)] | rw [if_neg (by rw [h2]; decide)] | rw [if_pos (by rw [h2])] | rw [if_neg (by exact tf_t h2)] | rw [if_neg (by exact tf_f h2)] | simp only [h2] | skip
          first | rw [if_pos h3] | rw [if_neg h3] | rw [if_pos (by exact h3)] | rw [if_neg (by exact h3)] | rw [if_neg (by exact z_nle h3)] | rw [if_pos (by exact z_le h3)] | rw [if_neg (by exact z_nlt h3)] | rw [if_pos (by exact z_lt h3)] | rw [if_neg (by rw [h3]; decide)] | rw [if_pos (by rw [h3])] | rw [if_neg (by exact tf_t h3)] | rw [if_neg (by exact tf_f h3)] | simp only [h3] | skip
          try rfl
        exact vv_iret C hr hlk (by rw [hE] <;> rfl) (by rw [hE] <;> rfl) d_L_workOn_82
      · skip
        refine vv_iload_n C d_L_workOn_68 rfl ?_
        refine vv_if_gt C 83 d_L_workOn_69 rfl (fun h4 => ?_) (fun h4 => ?_)
        · skip
          refine vv_aload_n C d_L_workOn_83 rfl ?_
          refine vv_aload C d_L_workOn_84 rfl ?_
          refine g_L_K_next C hw2 d_L_workOn_86 ?_
          refine vv_iload_n C d_L_workOn_89 rfl ?_
          refine vv_iconst C (1) d_L_workOn_90 (by decide) ?_
          refine vv_isub C d_L_workOn_91 ?_
          refine vv_iload_n C d_L_workOn_92 rfl ?_
          refine vv_iconst C (1) d_L_workOn_93 (by decide) ?_
          refine vv_iadd C d_L_workOn_94 ?_
          rw [nI_1]
          refine callC (rest := []) C (c_L_begin l Γ ((kNote u (100 + (u.1 9 (ix (nI dd)))) x).2) hG (((kNote u (100 + (u.1 9 (ix (nI dd)))) x).2).1 26 (ix ((u.1 10 (ix (nI dd))) * 6 + (u.1 9 (ix (nI dd)))))) (x - 1) (dd + 1) (by omega) (fun _ => by omega) (nx_ok (IC_note hI (100 + (u.1 9 (ix (nI dd)))) x) hw2 h3) (IC_note hI (100 + (u.1 9 (ix (nI dd)))) x)) cw_L_L_begin rfl 0 (by decide) rfl rfl rfl rfl (Nat.le_of_ble_eq_true rfl) (by decide) (by omega) d_L_workOn_95 ?_
          refine vv_st (st' := [.int ((kBegin (kGo n) (((kNote u (100 + (u.1 9 (ix (nI dd)))) x).2).1 26 (ix ((u.1 10 (ix (nI dd))) * 6 + (u.1 9 (ix (nI dd)))))) (x - 1) (nI (dd + 1)) ((kNote u (100 + (u.1 9 (ix (nI dd)))) x).2)).1)]) rfl ?_
          refine vv_istore (lv' := [(5, .int ((kBegin (kGo n) (((kNote u (100 + (u.1 9 (ix (nI dd)))) x).2).1 26 (ix ((u.1 10 (ix (nI dd))) * 6 + (u.1 9 (ix (nI dd)))))) (x - 1) (nI (dd + 1)) ((kNote u (100 + (u.1 9 (ix (nI dd)))) x).2)).1)), (4, .ref (Γ.2.1 (ix ((u.1 10 (ix (nI dd))) * 6 + (u.1 9 (ix (nI dd)))) + 15))), (3, .int (u.1 9 (ix (nI dd)))), (0, .ref (Γ.2.1 0)), (1, .int (nI dd)), (2, .int x)]) C d_L_workOn_98 (by decide) rfl ?_
          refine vv_iload C d_L_workOn_100 rfl ?_
          refine vv_if_ne C 121 d_L_workOn_102 rfl (fun h5 => ?_) (fun h5 => ?_)
          · skip
            refine vv_iload C d_L_workOn_121 rfl ?_
            have hE : kWork (kGo n) (nI dd) x u = ((kBegin (kGo n) (((kNote u (100 + (u.1 9 (ix (nI dd)))) x).2).1 26 (ix ((u.1 10 (ix (nI dd))) * 6 + (u.1 9 (ix (nI dd)))))) (x - 1) (nI (dd + 1)) ((kNote u (100 + (u.1 9 (ix (nI dd)))) x).2)).1, ((kBegin (kGo n) (((kNote u (100 + (u.1 9 (ix (nI dd)))) x).2).1 26 (ix ((u.1 10 (ix (nI dd))) * 6 + (u.1 9 (ix (nI dd)))))) (x - 1) (nI (dd + 1)) ((kNote u (100 + (u.1 9 (ix (nI dd)))) x).2)).2)) := by
              unfold kWork kWorkR
              try rw [nI_1]
              try dsimp only
              first | rw [if_pos h1] | rw [if_neg h1] | rw [if_pos (by exact h1)] | rw [if_neg (by exact h1)] | rw [if_neg (by exact z_nle h1)] | rw [if_pos (by exact z_le h1)] | rw [if_neg (by exact z_nlt h1)] | rw [if_pos (by exact z_lt h1)] | rw [if_neg (by rw [h1]; decide)] | rw [if_pos (by rw [h1])] | rw [if_neg (by exact tf_t h1)] | rw [if_neg (by exact tf_f h1)] | simp only [h1] | skip
              first | rw [if_pos h2] | rw [if_neg h2] | rw [if_pos (by exact h2)] | rw [if_neg (by exact h2)] | rw [if_neg (by exact z_nle h2)] | rw [if_pos (by exact z_le h2)] | rw [if_neg (by exact z_nlt h2)] | rw [if_pos (by exact z_lt h2)] | rw [if_neg (by rw [h2]; decide)] | rw [if_pos (by rw [h2])] | rw [if_neg (by exact tf_t h2)] | rw [if_neg (by exact tf_f h2)] | simp only [h2] | skip
              first | rw [if_pos h3] | rw [if_neg h3] | rw [if_pos (by exact h3)] | rw [if_neg (by exact h3)] | rw [if_neg (by exact z_nle h3)] | rw [if_pos (by exact z_le h3)] | rw [if_neg (by exact z_nlt h3)] | rw [if_pos (by exact z_lt h3)] | rw [if_neg (by rw [h3]; decide)] | rw [if_pos (by rw [h3])] | rw [if_neg (by exact tf_t h3)] | rw [if_neg (by exact tf_f h3)] | simp only [h3] | skip
              first | rw [if_pos h4] | rw [if_neg h4] | rw [if_pos (by exact h4)] | rw [if_neg (by exact h4)] | rw [if_neg (by exact z_nle h4)] | rw [if_pos (by exact z_le h4)] | rw [if_neg (by exact z_nlt h4)] | rw [if_pos (by exact z_lt h4)] | rw [if_neg (by rw [h4]; decide)] | rw [if_pos (by rw [h4])] | rw [if_neg (by exact tf_t h4)] | rw [if_neg (by exact tf_f h4)] | simp only [h4] | skip
              first | rw [if_pos h5] | rw [if_neg h5] | rw [if_pos (by exact h5)] | rw [if_neg (by exact h5)] | rw [if_neg (by exact z_nle h5)] | rw [if_pos (by exact z_le h5)] | rw [if_neg (by exact z_nlt h5)] | rw [if_pos (by exact z_lt h5)] | rw [if_neg (by rw [h5]; decide)] | rw [if_pos (by rw [h5])] | rw [if_neg (by exact tf_t h5)] | rw [if_neg (by exact tf_f h5)] | simp only [h5] | skip
              try rfl
            exact vv_iret C hr hlk (by rw [hE] <;> rfl) (by rw [hE] <;> rfl) d_L_workOn_123
          · skip
            refine vv_aload_n C d_L_workOn_105 rfl ?_
            refine vv_aload C d_L_workOn_106 rfl ?_
            refine vv_aload_n C d_L_workOn_108 rfl ?_
            refine g_L_L_value C d_L_workOn_109 ?_
            refine callC (rest := [.ref (Γ.2.1 0)]) C (c_K_reckon l Γ ((kBegin (kGo n) (((kNote u (100 + (u.1 9 (ix (nI dd)))) x).2).1 26 (ix ((u.1 10 (ix (nI dd))) * 6 + (u.1 9 (ix (nI dd)))))) (x - 1) (nI (dd + 1)) ((kNote u (100 + (u.1 9 (ix (nI dd)))) x).2)).2) (ix ((u.1 10 (ix (nI dd))) * 6 + (u.1 9 (ix (nI dd))))) hw2 (((kBegin (kGo n) (((kNote u (100 + (u.1 9 (ix (nI dd)))) x).2).1 26 (ix ((u.1 10 (ix (nI dd))) * 6 + (u.1 9 (ix (nI dd)))))) (x - 1) (nI (dd + 1)) ((kNote u (100 + (u.1 9 (ix (nI dd)))) x).2)).2).1 5 0)) cw_L_K_reckon rfl (ix ((u.1 10 (ix (nI dd))) * 6 + (u.1 9 (ix (nI dd)))) + 15) (by have := hw2; omega) rfl eC_wrk rfl rfl (Nat.le_of_ble_eq_true rfl) (by decide) (by omega) d_L_workOn_112 ?_
            refine vv_st (st' := [.int (kReckon ((kBegin (kGo n) (((kNote u (100 + (u.1 9 (ix (nI dd)))) x).2).1 26 (ix ((u.1 10 (ix (nI dd))) * 6 + (u.1 9 (ix (nI dd)))))) (x - 1) (nI (dd + 1)) ((kNote u (100 + (u.1 9 (ix (nI dd)))) x).2)).2) (ix ((u.1 10 (ix (nI dd))) * 6 + (u.1 9 (ix (nI dd))))) (((kBegin (kGo n) (((kNote u (100 + (u.1 9 (ix (nI dd)))) x).2).1 26 (ix ((u.1 10 (ix (nI dd))) * 6 + (u.1 9 (ix (nI dd)))))) (x - 1) (nI (dd + 1)) ((kNote u (100 + (u.1 9 (ix (nI dd)))) x).2)).2).1 5 0)), .ref (Γ.2.1 0)]) rfl ?_
            refine callC (rest := []) C (c_L_returned l Γ ((kBegin (kGo n) (((kNote u (100 + (u.1 9 (ix (nI dd)))) x).2).1 26 (ix ((u.1 10 (ix (nI dd))) * 6 + (u.1 9 (ix (nI dd)))))) (x - 1) (nI (dd + 1)) ((kNote u (100 + (u.1 9 (ix (nI dd)))) x).2)).2) (kReckon ((kBegin (kGo n) (((kNote u (100 + (u.1 9 (ix (nI dd)))) x).2).1 26 (ix ((u.1 10 (ix (nI dd))) * 6 + (u.1 9 (ix (nI dd)))))) (x - 1) (nI (dd + 1)) ((kNote u (100 + (u.1 9 (ix (nI dd)))) x).2)).2) (ix ((u.1 10 (ix (nI dd))) * 6 + (u.1 9 (ix (nI dd))))) (((kBegin (kGo n) (((kNote u (100 + (u.1 9 (ix (nI dd)))) x).2).1 26 (ix ((u.1 10 (ix (nI dd))) * 6 + (u.1 9 (ix (nI dd)))))) (x - 1) (nI (dd + 1)) ((kNote u (100 + (u.1 9 (ix (nI dd)))) x).2)).2).1 5 0))) cw_L_L_returned rfl 0 (by decide) rfl rfl rfl rfl (Nat.le_of_ble_eq_true rfl) (by decide) (by omega) d_L_workOn_115 ?_
            refine vv_st (st' := [.int 0]) rfl ?_
            refine vv_goto C 123 d_L_workOn_118 rfl ?_
            have hE : kWork (kGo n) (nI dd) x u = (0, (wr ((kBegin (kGo n) (((kNote u (100 + (u.1 9 (ix (nI dd)))) x).2).1 26 (ix ((u.1 10 (ix (nI dd))) * 6 + (u.1 9 (ix (nI dd)))))) (x - 1) (nI (dd + 1)) ((kNote u (100 + (u.1 9 (ix (nI dd)))) x).2)).2) 5 0 (kReckon ((kBegin (kGo n) (((kNote u (100 + (u.1 9 (ix (nI dd)))) x).2).1 26 (ix ((u.1 10 (ix (nI dd))) * 6 + (u.1 9 (ix (nI dd)))))) (x - 1) (nI (dd + 1)) ((kNote u (100 + (u.1 9 (ix (nI dd)))) x).2)).2) (ix ((u.1 10 (ix (nI dd))) * 6 + (u.1 9 (ix (nI dd))))) (((kBegin (kGo n) (((kNote u (100 + (u.1 9 (ix (nI dd)))) x).2).1 26 (ix ((u.1 10 (ix (nI dd))) * 6 + (u.1 9 (ix (nI dd)))))) (x - 1) (nI (dd + 1)) ((kNote u (100 + (u.1 9 (ix (nI dd)))) x).2)).2).1 5 0)))) := by
              unfold kWork kWorkR
              try rw [nI_1]
              try dsimp only
              first | rw [if_pos h1] | rw [if_neg h1] | rw [if_pos (by exact h1)] | rw [if_neg (by exact h1)] | rw [if_neg (by exact z_nle h1)] | rw [if_pos (by exact z_le h1)] | rw [if_neg (by exact z_nlt h1)] | rw [if_pos (by exact z_lt h1)] | rw [if_neg (by rw [h1]; decide)] | rw [if_pos (by rw [h1])] | rw [if_neg (by exact tf_t h1)] | rw [if_neg (by exact tf_f h1)] | simp only [h1] | skip
              first | rw [if_pos h2] | rw [if_neg h2] | rw [if_pos (by exact h2)] | rw [if_neg (by exact h2)] | rw [if_neg (by exact z_nle h2)] | rw [if_pos (by exact z_le h2)] | rw [if_neg (by exact z_nlt h2)] | rw [if_pos (by exact z_lt h2)] | rw [if_neg (by rw [h2]; decide)] | rw [if_pos (by rw [h2])] | rw [if_neg (by exact tf_t h2)] | rw [if_neg (by exact tf_f h2)] | simp only [h2] | skip
              first | rw [if_pos h3] | rw [if_neg h3] | rw [if_pos (by exact h3)] | rw [if_neg (by exact h3)] | rw [if_neg (by exact z_nle h3)] | rw [if_pos (by exact z_le h3)] | rw [if_neg (by exact z_nlt h3)] | rw [if_pos (by exact z_lt h3)] | rw [if_neg (by rw [h3]; decide)] | rw [if_pos (by rw [h3])] | rw [if_neg (by exact tf_t h3)] | rw [if_neg (by exact tf_f h3)] | simp only [h3] | skip
              first | rw [if_pos h4] | rw [if_neg h4] | rw [if_pos (by exact h4)] | rw [if_neg (by exact h4)] | rw [if_neg (by exact z_nle h4)] | rw [if_pos (by exact z_le h4)] | rw [if_neg (by exact z_nlt h4)] | rw [if_pos (by exact z_lt h4)] | rw [if_neg (by rw [h4]; decide)] | rw [if_pos (by rw [h4])] | rw [if_neg (by exact tf_t h4)] | rw [if_neg (by exact tf_f h4)] | simp only [h4] | skip
              first | rw [if_pos h5] | rw [if_neg h5] | rw [if_pos (by exact h5)] | rw [if_neg (by exact h5)] | rw [if_neg (by exact z_nle h5)] | rw [if_pos (by exact z_le h5)] | rw [if_neg (by exact z_nlt h5)] | rw [if_pos (by exact z_lt h5)] | rw [if_neg (by rw [h5]; decide)] | rw [if_pos (by rw [h5])] | rw [if_neg (by exact tf_t h5)] | rw [if_neg (by exact tf_f h5)] | simp only [h5] | skip
              try rfl
            exact vv_iret C hr hlk (by rw [hE] <;> rfl) (by rw [hE] <;> rfl) d_L_workOn_123
        · skip
          refine vv_aload_n C d_L_workOn_72 rfl ?_
          refine vv_aload C d_L_workOn_73 rfl ?_
          refine vv_iload_n C d_L_workOn_75 rfl ?_
          refine callC (rest := [.ref (Γ.2.1 0)]) C (c_K_reckon l Γ ((kNote u (100 + (u.1 9 (ix (nI dd)))) x).2) (ix ((u.1 10 (ix (nI dd))) * 6 + (u.1 9 (ix (nI dd))))) hw2 x) cw_L_K_reckon rfl (ix ((u.1 10 (ix (nI dd))) * 6 + (u.1 9 (ix (nI dd)))) + 15) (by have := hw2; omega) rfl eC_wrk rfl rfl (Nat.le_of_ble_eq_true rfl) (by decide) (by omega) d_L_workOn_76 ?_
          refine vv_st (st' := [.int (kReckon ((kNote u (100 + (u.1 9 (ix (nI dd)))) x).2) (ix ((u.1 10 (ix (nI dd))) * 6 + (u.1 9 (ix (nI dd))))) x), .ref (Γ.2.1 0)]) rfl ?_
          refine callC (rest := []) C (c_L_returned l Γ ((kNote u (100 + (u.1 9 (ix (nI dd)))) x).2) (kReckon ((kNote u (100 + (u.1 9 (ix (nI dd)))) x).2) (ix ((u.1 10 (ix (nI dd))) * 6 + (u.1 9 (ix (nI dd))))) x)) cw_L_L_returned rfl 0 (by decide) rfl rfl rfl rfl (Nat.le_of_ble_eq_true rfl) (by decide) (by omega) d_L_workOn_79 ?_
          refine vv_st (st' := [.int 0]) rfl ?_
          have hE : kWork (kGo n) (nI dd) x u = (0, (wr ((kNote u (100 + (u.1 9 (ix (nI dd)))) x).2) 5 0 (kReckon ((kNote u (100 + (u.1 9 (ix (nI dd)))) x).2) (ix ((u.1 10 (ix (nI dd))) * 6 + (u.1 9 (ix (nI dd))))) x))) := by
            unfold kWork kWorkR
            try rw [nI_1]
            try dsimp only
            first | rw [if_pos h1] | rw [if_neg h1] | rw [if_pos (by exact h1)] | rw [if_neg (by exact h1)] | rw [if_neg (by exact z_nle h1)] | rw [if_pos (by exact z_le h1)] | rw [if_neg (by exact z_nlt h1)] | rw [if_pos (by exact z_lt h1)] | rw [if_neg (by rw [h1]; decide)] | rw [if_pos (by rw [h1])] | rw [if_neg (by exact tf_t h1)] | rw [if_neg (by exact tf_f h1)] | simp only [h1] | skip
            first | rw [if_pos h2] | rw [if_neg h2] | rw [if_pos (by exact h2)] | rw [if_neg (by exact h2)] | rw [if_neg (by exact z_nle h2)] | rw [if_pos (by exact z_le h2)] | rw [if_neg (by exact z_nlt h2)] | rw [if_pos (by exact z_lt h2)] | rw [if_neg (by rw [h2]; decide)] | rw [if_pos (by rw [h2])] | rw [if_neg (by exact tf_t h2)] | rw [if_neg (by exact tf_f h2)] | simp only [h2] | skip
            first | rw [if_pos h3] | rw [if_neg h3] | rw [if_pos (by exact h3)] | rw [if_neg (by exact h3)] | rw [if_neg (by exact z_nle h3)] | rw [if_pos (by exact z_le h3)] | rw [if_neg (by exact z_nlt h3)] | rw [if_pos (by exact z_lt h3)] | rw [if_neg (by rw [h3]; decide)] | rw [if_pos (by rw [h3])] | rw [if_neg (by exact tf_t h3)] | rw [if_neg (by exact tf_f h3)] | simp only [h3] | skip
            first | rw [if_pos h4] | rw [if_neg h4] | rw [if_pos (by exact h4)] | rw [if_neg (by exact h4)] | rw [if_neg (by exact z_nle h4)] | rw [if_pos (by exact z_le h4)] | rw [if_neg (by exact z_nlt h4)] | rw [if_pos (by exact z_lt h4)] | rw [if_neg (by rw [h4]; decide)] | rw [if_pos (by rw [h4])] | rw [if_neg (by exact tf_t h4)] | rw [if_neg (by exact tf_f h4)] | simp only [h4] | skip
            try rfl
          exact vv_iret C hr hlk (by rw [hE] <;> rfl) (by rw [hE] <;> rfl) d_L_workOn_82
    · skip
      replace h2 := bI_t h2
      refine vv_aload_n C d_L_workOn_49 rfl ?_
      refine vv_aload C d_L_workOn_50 rfl ?_
      refine g_L_K_exception C hw2 d_L_workOn_52 ?_
      refine callC (rest := []) C (c_L_thrown l Γ ((kNote u (100 + (u.1 9 (ix (nI dd)))) x).2) (((kNote u (100 + (u.1 9 (ix (nI dd)))) x).2).1 25 (ix ((u.1 10 (ix (nI dd))) * 6 + (u.1 9 (ix (nI dd))))))) cw_L_L_thrown rfl 0 (by decide) rfl rfl rfl rfl (Nat.le_of_ble_eq_true rfl) (by decide) (by omega) d_L_workOn_55 ?_
      refine vv_st (st' := [.int 1]) rfl ?_
      have hE : kWork (kGo n) (nI dd) x u = (1, (wr ((kNote u (100 + (u.1 9 (ix (nI dd)))) x).2) 5 0 (((kNote u (100 + (u.1 9 (ix (nI dd)))) x).2).1 25 (ix ((u.1 10 (ix (nI dd))) * 6 + (u.1 9 (ix (nI dd)))))))) := by
        unfold kWork kWorkR
        try rw [nI_1]
        try dsimp only
        first | rw [if_pos h1] | rw [if_neg h1] | rw [if_pos (by exact h1)] | rw [if_neg (by exact h1)] | rw [if_neg (by exact z_nle h1)] | rw [if_pos (by exact z_le h1)] | rw [if_neg (by exact z_nlt h1)] | rw [if_pos (by exact z_lt h1)] | rw [if_neg (by rw [h1]; decide)] | rw [if_pos (by rw [h1])] | rw [if_neg (by exact tf_t h1)] | rw [if_neg (by exact tf_f h1)] | simp only [h1] | skip
        first | rw [if_pos h2] | rw [if_neg h2] | rw [if_pos (by exact h2)] | rw [if_neg (by exact h2)] | rw [if_neg (by exact z_nle h2)] | rw [if_pos (by exact z_le h2)] | rw [if_neg (by exact z_nlt h2)] | rw [if_pos (by exact z_lt h2)] | rw [if_neg (by rw [h2]; decide)] | rw [if_pos (by rw [h2])] | rw [if_neg (by exact tf_t h2)] | rw [if_neg (by exact tf_f h2)] | simp only [h2] | skip
        try rfl
      exact vv_iret C hr hlk (by rw [hE] <;> rfl) (by rw [hE] <;> rfl) d_L_workOn_58
  · skip
    replace h1 := bI_f h1
    refine vv_aload_n C d_L_workOn_35 rfl ?_
    refine callC (rest := []) C (c_L_brokenOff l Γ ((kNote u (100 + (u.1 9 (ix (nI dd)))) x).2)) cw_L_L_brokenOff rfl 0 (by decide) rfl rfl rfl rfl (Nat.le_of_ble_eq_true rfl) (by decide) (by omega) d_L_workOn_36 ?_
    refine vv_st (st' := [.int 2]) rfl ?_
    have hE : kWork (kGo n) (nI dd) x u = (2, (wr ((kNote u (100 + (u.1 9 (ix (nI dd)))) x).2) 5 0 0)) := by
      unfold kWork kWorkR
      try rw [nI_1]
      try dsimp only
      first | rw [if_pos h1] | rw [if_neg h1] | rw [if_pos (by exact h1)] | rw [if_neg (by exact h1)] | rw [if_neg (by exact z_nle h1)] | rw [if_pos (by exact z_le h1)] | rw [if_neg (by exact z_nlt h1)] | rw [if_pos (by exact z_lt h1)] | rw [if_neg (by rw [h1]; decide)] | rw [if_pos (by rw [h1])] | rw [if_neg (by exact tf_t h1)] | rw [if_neg (by exact tf_f h1)] | simp only [h1] | skip
      try rfl
    exact vv_iret C hr hlk (by rw [hE] <;> rfl) (by rw [hE] <;> rfl) d_L_workOn_39
set_option maxHeartbeats 4000000 in
set_option maxRecDepth 100000 in
theorem c_L_goAlong (l : Launch) (Γ : Geo) (u : SC) {n : Nat} (hG : GoC n) (dd ff : Nat) (x : Int32) (hdd : dd < 3) (hff : ff ≤ 6) (hmu : (2 - dd) * 7 + (6 - ff) < n + 1) (hI : IC u) : CtC l Γ y_L_goAlong b_L_goAlong 6 (some .int) (3 * (n + 1)) [.ref (Γ.2.1 0), .int (nI dd), .int (nI ff), .int x] u (some (.int (kGo (n + 1) (nI dd) (nI ff) x u).1)) (kGo (n + 1) (nI dd) (nI ff) x u).2 := by
  refine ct_of (by decide +kernel) (Nat.le_of_ble_eq_true rfl) ?_
  intro p e s m args below meth c C hr hlk
  refine vv_aload_n C d_L_goAlong_0 rfl ?_
  refine g_L_L_advisors C d_L_goAlong_1 ?_
  refine vv_aload_n C d_L_goAlong_4 rfl ?_
  refine g_L_L_methodAt C d_L_goAlong_5 ?_
  refine vv_iload_n C d_L_goAlong_8 rfl ?_
  refine ld_4_7 C (in3 hdd) d_L_goAlong_9 ?_
  refine vv_iload_n C d_L_goAlong_10 rfl ?_
  refine callC (rest := []) C (c_R_placeInChain l Γ u hI (u.1 9 (ix (nI dd))) ff hff) cw_L_R_placeInChain rfl 1 (by decide) rfl rfl rfl rfl (Nat.le_of_ble_eq_true rfl) (by decide) (by omega) d_L_goAlong_11 ?_
  refine vv_st (st' := [.int (kChainP u (u.1 9 (ix (nI dd))) (nI ff))]) rfl ?_
  refine vv_istore (lv' := [(4, .int (kChainP u (u.1 9 (ix (nI dd))) (nI ff))), (0, .ref (Γ.2.1 0)), (1, .int (nI dd)), (2, .int (nI ff)), (3, .int x)]) C d_L_goAlong_14 (by decide) rfl ?_
  refine vv_iload C d_L_goAlong_16 rfl ?_
  refine vv_iconst C (-1) d_L_goAlong_18 (by decide) ?_
  refine vv_icmp_ne C 29 d_L_goAlong_19 rfl (fun h1 => ?_) (fun h1 => ?_)
  · skip
    obtain ⟨pp, hfp, hpp, hpe⟩ := ch_ok hI hff h1
    have hpk : u.2 (ix (nI pp)) < 6 := IC_pi hI (in6 hpp)
    rw [hpe]
    refine vv_aload_n C d_L_goAlong_29 rfl ?_
    refine g_L_L_advisors C d_L_goAlong_30 ?_
    refine vv_iload C d_L_goAlong_33 rfl ?_
    refine callC (rest := []) C (c_R_at l Γ u (nI pp) (in6 hpp)) cw_L_R_at rfl 1 (by decide) rfl rfl rfl rfl (Nat.le_of_ble_eq_true rfl) (by decide) (by omega) d_L_goAlong_35 ?_
    refine vv_st (st' := [.ref (Γ.2.1 (u.2 (ix (nI pp)) + 9))]) rfl ?_
    refine vv_astore (lv' := [(5, .ref (Γ.2.1 (u.2 (ix (nI pp)) + 9))), (4, .int (nI pp)), (0, .ref (Γ.2.1 0)), (1, .int (nI dd)), (2, .int (nI ff)), (3, .int x)]) C d_L_goAlong_38 (by decide) rfl ?_
    refine vv_aload C d_L_goAlong_40 rfl ?_
    refine g_L_A_hasRange C hpk d_L_goAlong_42 ?_
    refine vv_if_eq C 78 d_L_goAlong_45 rfl (fun h2 => ?_) (fun h2 => ?_)
    · skip
      refine vv_aload_n C d_L_goAlong_78 rfl ?_
      refine vv_aload C d_L_goAlong_79 rfl ?_
      refine vv_iload_n C d_L_goAlong_81 rfl ?_
      refine vv_iload C d_L_goAlong_82 rfl ?_
      refine vv_iconst C (1) d_L_goAlong_84 (by decide) ?_
      refine vv_iadd C d_L_goAlong_85 ?_
      refine vv_iload_n C d_L_goAlong_86 rfl ?_
      rw [nI_1]
      refine callC (rest := []) C (c_L_act l Γ u hG (u.2 (ix (nI pp))) hpk dd (pp + 1) x hdd (by omega) (by omega) hI) cw_L_L_act rfl 0 (by decide) rfl rfl rfl rfl (Nat.le_of_ble_eq_true rfl) (by decide) (by omega) d_L_goAlong_87 ?_
      refine vv_st (st' := [.int ((kAct (kGo n) (u.2 (ix (nI pp))) (nI dd) (nI (pp + 1)) x u).1)]) rfl ?_
      have hE : kAlong (kGo n) (nI dd) (nI ff) x u = ((kAct (kGo n) (u.2 (ix (nI pp))) (nI dd) (nI (pp + 1)) x u).1, ((kAct (kGo n) (u.2 (ix (nI pp))) (nI dd) (nI (pp + 1)) x u).2)) := by
        unfold kAlong
        dsimp only
        first | rw [if_pos h1] | rw [if_neg h1]
        rw [hpe, nI_1]
        first | rw [if_pos h2] | rw [if_neg h2] | rw [if_pos (by exact h2)] | rw [if_neg (by exact h2)] | rw [if_neg (by exact tf_f h2)]
        try rfl
      exact vv_iret C hr hlk (by show some (Value.int (kAlong (kGo n) (nI dd) (nI ff) x u).1) = _; rw [hE]) (by show _ = wC Γ (kAlong (kGo n) (nI dd) (nI ff) x u).2; rw [hE]) d_L_goAlong_90
    · skip
      refine vv_aload_n C d_L_goAlong_48 rfl ?_
      refine vv_dup C d_L_goAlong_49 rfl ?_
      refine g_L_L_timesAsked C d_L_goAlong_50 ?_
      refine vv_iconst C (1) d_L_goAlong_53 (by decide) ?_
      refine vv_iadd C d_L_goAlong_54 ?_
      refine p_L_L_timesAsked C d_L_goAlong_55 ?_
      refine vv_aload C d_L_goAlong_58 rfl ?_
      refine vv_iload_n C d_L_goAlong_60 rfl ?_
      refine callC (rest := []) C (c_A_isInRange l Γ (wr u 3 0 ((u.1 3 0) + 1)) (u.2 (ix (nI pp))) hpk x) cw_L_A_isInRange rfl (u.2 (ix (nI pp)) + 9) (by have := hpk; omega) rfl (eC_adv hpk) rfl rfl (Nat.le_of_ble_eq_true rfl) (by decide) (by omega) d_L_goAlong_61 ?_
      refine vv_st (st' := [.int (bI (kInRange (wr u 3 0 ((u.1 3 0) + 1)) (u.2 (ix (nI pp))) x))]) rfl ?_
      refine vv_if_ne C 78 d_L_goAlong_64 rfl (fun h3 => ?_) (fun h3 => ?_)
      · skip
        replace h3 := bI_t h3
        refine vv_aload_n C d_L_goAlong_78 rfl ?_
        refine vv_aload C d_L_goAlong_79 rfl ?_
        refine vv_iload_n C d_L_goAlong_81 rfl ?_
        refine vv_iload C d_L_goAlong_82 rfl ?_
        refine vv_iconst C (1) d_L_goAlong_84 (by decide) ?_
        refine vv_iadd C d_L_goAlong_85 ?_
        refine vv_iload_n C d_L_goAlong_86 rfl ?_
        rw [nI_1]
        refine callC (rest := []) C (c_L_act l Γ (wr u 3 0 ((u.1 3 0) + 1)) hG (u.2 (ix (nI pp))) hpk dd (pp + 1) x hdd (by omega) (by omega) hI) cw_L_L_act rfl 0 (by decide) rfl rfl rfl rfl (Nat.le_of_ble_eq_true rfl) (by decide) (by omega) d_L_goAlong_87 ?_
        refine vv_st (st' := [.int ((kAct (kGo n) (u.2 (ix (nI pp))) (nI dd) (nI (pp + 1)) x (wr u 3 0 ((u.1 3 0) + 1))).1)]) rfl ?_
        have hE : kAlong (kGo n) (nI dd) (nI ff) x u = ((kAct (kGo n) (u.2 (ix (nI pp))) (nI dd) (nI (pp + 1)) x (wr u 3 0 ((u.1 3 0) + 1))).1, ((kAct (kGo n) (u.2 (ix (nI pp))) (nI dd) (nI (pp + 1)) x (wr u 3 0 ((u.1 3 0) + 1))).2)) := by
          unfold kAlong
          dsimp only
          first | rw [if_pos h1] | rw [if_neg h1]
          rw [hpe, nI_1]
          first | rw [if_pos h2] | rw [if_neg h2] | rw [if_pos (by exact h2)] | rw [if_neg (by exact h2)] | rw [if_neg (by exact tf_f h2)]
          first | rw [if_pos h3] | rw [if_neg h3] | rw [if_pos (by exact h3)] | rw [if_neg (by exact h3)] | rw [if_neg (by exact tf_f h3)]
          try rfl
        exact vv_iret C hr hlk (by show some (Value.int (kAlong (kGo n) (nI dd) (nI ff) x u).1) = _; rw [hE]) (by show _ = wC Γ (kAlong (kGo n) (nI dd) (nI ff) x u).2; rw [hE]) d_L_goAlong_90
      · skip
        replace h3 := bI_f h3
        refine vv_aload_n C d_L_goAlong_67 rfl ?_
        refine vv_iload_n C d_L_goAlong_68 rfl ?_
        refine vv_iload C d_L_goAlong_69 rfl ?_
        refine vv_iconst C (1) d_L_goAlong_71 (by decide) ?_
        refine vv_iadd C d_L_goAlong_72 ?_
        refine vv_iload_n C d_L_goAlong_73 rfl ?_
        rw [nI_1]
        refine callC (rest := []) C (hG l Γ (wr u 3 0 ((u.1 3 0) + 1)) dd (pp + 1) x hdd (by omega) (by omega) hI) cw_L_L_goAlong rfl 0 (by decide) rfl rfl rfl rfl (Nat.le_of_ble_eq_true rfl) (by decide) (by omega) d_L_goAlong_74 ?_
        refine vv_st (st' := [.int ((kGo n (nI dd) (nI (pp + 1)) x (wr u 3 0 ((u.1 3 0) + 1))).1)]) rfl ?_
        have hE : kAlong (kGo n) (nI dd) (nI ff) x u = ((kGo n (nI dd) (nI (pp + 1)) x (wr u 3 0 ((u.1 3 0) + 1))).1, ((kGo n (nI dd) (nI (pp + 1)) x (wr u 3 0 ((u.1 3 0) + 1))).2)) := by
          unfold kAlong
          dsimp only
          first | rw [if_pos h1] | rw [if_neg h1]
          rw [hpe, nI_1]
          first | rw [if_pos h2] | rw [if_neg h2] | rw [if_pos (by exact h2)] | rw [if_neg (by exact h2)] | rw [if_neg (by exact tf_f h2)]
          first | rw [if_pos h3] | rw [if_neg h3] | rw [if_pos (by exact h3)] | rw [if_neg (by exact h3)] | rw [if_neg (by exact tf_f h3)]
          try rfl
        exact vv_iret C hr hlk (by show some (Value.int (kAlong (kGo n) (nI dd) (nI ff) x u).1) = _; rw [hE]) (by show _ = wC Γ (kAlong (kGo n) (nI dd) (nI ff) x u).2; rw [hE]) d_L_goAlong_77
  · skip
    refine vv_aload_n C d_L_goAlong_22 rfl ?_
    refine vv_iload_n C d_L_goAlong_23 rfl ?_
    refine vv_iload_n C d_L_goAlong_24 rfl ?_
    refine callC (rest := []) C (c_L_workOn l Γ u hG dd x hdd (by omega) hI) cw_L_L_workOn rfl 0 (by decide) rfl rfl rfl rfl (Nat.le_of_ble_eq_true rfl) (by decide) (by omega) d_L_goAlong_25 ?_
    refine vv_st (st' := [.int ((kWork (kGo n) (nI dd) x u).1)]) rfl ?_
    have hE : kAlong (kGo n) (nI dd) (nI ff) x u = ((kWork (kGo n) (nI dd) x u).1, ((kWork (kGo n) (nI dd) x u).2)) := by
      unfold kAlong
      dsimp only
      first | rw [if_pos h1] | rw [if_neg h1]
      try rfl
    exact vv_iret C hr hlk (by show some (Value.int (kAlong (kGo n) (nI dd) (nI ff) x u).1) = _; rw [hE]) (by show _ = wC Γ (kAlong (kGo n) (nI dd) (nI ff) x u).2; rw [hE]) d_L_goAlong_28
theorem goC : ∀ n, GoC n
  | 0 => fun _ _ _ _ _ _ _ _ h => by omega
  | n + 1 => fun l Γ u dd ff x h1 h2 h3 h4 => c_L_goAlong l Γ u (goC n) dd ff x h1 h2 h3 h4
