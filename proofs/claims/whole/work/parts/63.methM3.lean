theorem qNote_k (t : M2) (a b : Int32) {k : Nat} (h : ¬ k = 19 ∧ ¬ k = 20 ∧ ¬ k = 21 ∧ ¬ k = 25) : qNote t a b k = t k := by
  unfold qNote
  split
  · simp only [up2]; rw [if_neg h.2.2.2]
  · simp only [up2]; rw [if_neg h.1, if_neg h.2.2.1, if_neg h.2.1]
def qW3 (t : M2) (c : Int32) : M2 := qComes t false (t 12 (ix c) * t 38 0 + t 13 (ix c))
def qW2 (t : M2) (c : Int32) : M2 := if t 16 (ix c) = -1 then qW3 t c else if t 38 0 ≤ 0 then qW3 t c else qEnter (qAwait t 8 c) (t 16 (ix c)) (t 38 0 - 1)
def qW1 (t : M2) (c : Int32) : M2 := if t 15 (ix c) ≤ 0 then qW2 t c else if t 14 (ix c) = t 38 0 then qComes t true (t 15 (ix c)) else qW2 t c
theorem qW2_eq (t : M2) (c : Int32) : (if ¬ t 16 (ix c) = -1 ∧ 0 < t 38 0 then qEnter (qAwait t 8 c) (t 16 (ix c)) (t 38 0 - 1) else qComes t false (t 12 (ix c) * t 38 0 + t 13 (ix c))) = qW2 t c := by
  unfold qW2 qW3
  by_cases h1 : t 16 (ix c) = -1
  · rw [if_pos h1, if_neg (fun z => z.1 h1)]
  · rw [if_neg h1]
    by_cases h2 : t 38 0 ≤ 0
    · rw [if_pos h2, if_neg (fun z => z_nlt h2 z.2)]
    · rw [if_neg h2, if_pos ⟨h1, z_lt h2⟩]
theorem qW1_eq (t : M2) (c : Int32) : qWorkR t c = qW1 t c := by
  unfold qWorkR qW1
  rw [qW2_eq]
  by_cases h1 : t 15 (ix c) ≤ 0
  · rw [if_pos h1, if_neg (fun z => z_nlt h1 z.1)]
  · rw [if_neg h1]
    by_cases h2 : t 14 (ix c) = t 38 0
    · rw [if_pos h2, if_pos ⟨z_lt h1, h2⟩]
    · rw [if_neg h2, if_neg (fun z => h2 z.2)]
def qSG (t : M2) (k : Int32) : M2 := qGo (qAwait t (t 4 (ix k)) k) (t 37 0 + 1) (if t 4 (ix k) = 1 then t 38 0 + t 7 (ix k) else t 38 0)
def qSP (t : M2) (k : Int32) : M2 := if t 4 (ix k) = 0 then up2 t 37 0 (t 37 0 + 1) else if t 4 (ix k) = 2 then up2 t 37 0 (t 37 0 + 1) else qSG t k
def qSQ (t : M2) (k : Int32) : M2 := if t 4 (ix k) = 2 then (if t 7 (ix k) ≤ t 38 0 then qSP t k else qComes t false (t 8 (ix k))) else qSP t k
def qSR (t : M2) (k : Int32) : M2 := if t 25 0 = 0 then (if t 4 (ix k) = 0 then (if t 38 0 = t 7 (ix k) then qComes t true (t 8 (ix k)) else qSQ t k) else qSQ t k) else t
theorem qSR_eq (t : M2) (k : Int32) : qStepC t k = qSR t k := by
  unfold qStepC qSR
  by_cases h0 : t 25 0 = 0
  · rw [if_pos h0, if_pos h0]
    have hQ : (if t 4 (ix k) = 2 ∧ t 38 0 < t 7 (ix k) then qComes t false (t 8 (ix k)) else if t 4 (ix k) = 0 ∨ t 4 (ix k) = 2 then up2 t 37 0 (t 37 0 + 1) else qGo (qAwait t (t 4 (ix k)) k) (t 37 0 + 1) (if t 4 (ix k) = 1 then t 38 0 + t 7 (ix k) else t 38 0)) = qSQ t k := by
      have hP : (if t 4 (ix k) = 0 ∨ t 4 (ix k) = 2 then up2 t 37 0 (t 37 0 + 1) else qGo (qAwait t (t 4 (ix k)) k) (t 37 0 + 1) (if t 4 (ix k) = 1 then t 38 0 + t 7 (ix k) else t 38 0)) = qSP t k := by
        unfold qSP qSG
        by_cases h1 : t 4 (ix k) = 0
        · rw [if_pos (Or.inl h1), if_pos h1]
        · rw [if_neg h1]
          by_cases h2 : t 4 (ix k) = 2
          · rw [if_pos (Or.inr h2), if_pos h2]
          · rw [if_neg (fun z => z.elim h1 h2), if_neg h2]
      rw [hP]
      unfold qSQ
      by_cases h1 : t 4 (ix k) = 2
      · rw [if_pos h1]
        by_cases h2 : t 7 (ix k) ≤ t 38 0
        · rw [if_pos h2, if_neg (fun z => z_nlt h2 z.2)]
        · rw [if_neg h2, if_pos ⟨h1, z_lt h2⟩]
      · rw [if_neg h1, if_neg (fun z => h1 z.1)]
    rw [hQ]
    by_cases h1 : t 4 (ix k) = 0
    · rw [if_pos h1]
      by_cases h2 : t 38 0 = t 7 (ix k)
      · rw [if_pos h2, if_pos ⟨h1, h2⟩]
      · rw [if_neg h2, if_neg (fun z => h2 z.2)]
    · rw [if_neg h1, if_neg (fun z => h1 z.1)]
  · rw [if_neg h0, if_neg h0]
def qB5 (t : M2) (w k : Int32) : M2 :=
  if w < 5 then t else if t 39 0 = 0 then t else if qIsOne (t 40 0) (t 7 (ix k)) = true then
    (if w = 5 then (if (qNote t (t 3 (ix k)) (t 40 0)) 8 (ix k) = 0 then qComes (qNote t (t 3 (ix k)) (t 40 0)) true ((qNote t (t 3 (ix k)) (t 40 0)) 40 0) else qComes (qNote t (t 3 (ix k)) (t 40 0)) true ((qNote t (t 3 (ix k)) (t 40 0)) 8 (ix k))) else qComes (qNote t (t 3 (ix k)) (t 40 0)) false ((qNote t (t 3 (ix k)) (t 40 0)) 8 (ix k))) else t
def qBN (t : M2) (w k : Int32) : M2 :=
  if w = 9 then up2 t 26 0 (t 26 0 - 1)
  else if w = 8 then up2 t 40 0 (if t 39 0 = 0 then t 12 (ix k) * t 40 0 + t 13 (ix k) else t 40 0)
  else if w = 1 then up2 t 40 0 (if t 39 0 = 0 then t 40 0 + t 8 (ix k) else t 40 0)
  else if w = 3 then qTwice t k
  else if w = 6 then (if (qNote t (t 3 (ix k)) (t 33 (ix (t 29 0)))) 33 (ix ((qNote t (t 3 (ix k)) (t 33 (ix (t 29 0)))) 29 0)) = (qNote t (t 3 (ix k)) (t 33 (ix (t 29 0)))) 7 (ix k) then qComes (qNote t (t 3 (ix k)) (t 33 (ix (t 29 0)))) true ((qNote t (t 3 (ix k)) (t 33 (ix (t 29 0)))) 8 (ix k)) else qNote t (t 3 (ix k)) (t 33 (ix (t 29 0))))
  else if w = 4 then (if t 39 0 = 0 then (if (qNote t (t 3 (ix k)) (t 40 0)) 40 0 = (qNote t (t 3 (ix k)) (t 40 0)) 7 (ix k) then qComes (qNote t (t 3 (ix k)) (t 40 0)) true ((qNote t (t 3 (ix k)) (t 40 0)) 8 (ix k)) else qNote t (t 3 (ix k)) (t 40 0)) else qB5 t w k)
  else qB5 t w k
theorem qB5_eq (t : M2) (w k : Int32) : (if 5 ≤ w ∧ ¬ t 39 0 = 0 ∧ qIsOne (t 40 0) (t 7 (ix k)) = true then (let v := qNote t (t 3 (ix k)) (t 40 0); if w = 5 then qComes v true (if v 8 (ix k) = 0 then v 40 0 else v 8 (ix k)) else qComes v false (v 8 (ix k))) else t) = qB5 t w k := by
  unfold qB5
  dsimp only
  by_cases h1 : w < 5
  · rw [if_pos h1, if_neg (fun z => z_nle h1 z.1)]
  · rw [if_neg h1]
    by_cases h2 : t 39 0 = 0
    · rw [if_pos h2, if_neg (fun z => z.2.1 h2)]
    · rw [if_neg h2]
      by_cases h3 : qIsOne (t 40 0) (t 7 (ix k)) = true
      · rw [if_pos h3, if_pos ⟨z_le h1, h2, h3⟩]
        by_cases h4 : w = 5
        · rw [if_pos h4, if_pos h4]
          by_cases h5 : (qNote t (t 3 (ix k)) (t 40 0)) 8 (ix k) = 0
          · rw [if_pos h5, if_pos h5]
          · rw [if_neg h5, if_neg h5]
        · rw [if_neg h4, if_neg h4]
      · rw [if_neg h3, if_neg (fun z => h3 z.2.2)]
theorem qBN_eq (t : M2) (w k : Int32) : qBackR t w k = qBN t w k := by
  unfold qBackR qBN
  rw [qB5_eq]
  dsimp only
  by_cases h9 : w = 9
  · rw [if_pos h9, if_pos h9]
  rw [if_neg h9, if_neg h9]
  by_cases h8 : w = 8
  · rw [if_pos h8, if_pos h8]
  rw [if_neg h8, if_neg h8]
  by_cases h1 : w = 1
  · rw [if_pos h1, if_pos h1]
  rw [if_neg h1, if_neg h1]
  by_cases h3 : w = 3
  · rw [if_pos h3, if_pos h3]
  rw [if_neg h3, if_neg h3]
  by_cases h6 : w = 6
  · rw [if_pos h6, if_pos h6]
  rw [if_neg h6, if_neg h6]
  by_cases h4 : w = 4
  · rw [if_pos h4]
    by_cases h39 : t 39 0 = 0
    · rw [if_pos h39, if_pos ⟨h4, h39⟩]
    · rw [if_neg h39, if_neg (fun z => h39 z.2)]
  · rw [if_neg h4, if_neg (fun z => h4 z.1)]
theorem vp_nt {t : M2} {a b : Int32} {n : Nat} (h : vp_in (t 29 0) n) : vp_in ((qNote t a b) 29 0) n := by
  rw [qNote_k t a b (k := 29) (by omega)]
  exact h
theorem vp_nt26 {t : M2} {a b : Int32} (h : ∃ d, d ≤ 3 ∧ t 26 0 = nI d) : ∃ d, d ≤ 3 ∧ (qNote t a b) 26 0 = nI d := by
  rw [qNote_k t a b (k := 26) (by omega)]
  exact h
theorem vp_nt29 {t : M2} {a b : Int32} {w : Nat} (h : t 29 0 = nI w) (hw : w < 29) : vp_in ((qNote t a b) 29 0 + 1) 30 := by
  rw [qNote_k t a b (k := 29) (by omega), h, nI_1]
  exact in30 (by omega)
theorem cl_in {t : M2} {d mm tt : Nat} (hd : d < 1000) (e26 : t 26 0 = nI d) (hmm : mm < 6) (e27 : t 27 d = nI mm) (htt : tt < 2) (e28 : t 28 d = nI tt) : vp_in (6 * t 28 (ix (t 26 0)) + t 27 (ix (t 26 0))) 12 := by
  rw [e26, ixn hd, e27, e28, show (6 : Int32) = nI 6 from rfl, pk_mul, nI_add]
  exact in12 (by omega)
set_option maxHeartbeats 4000000 in
set_option maxRecDepth 100000 in
theorem c_M_work (l : Launch) (Γ : Geo) (t : M2) (h0 : ∃ n, n ≤ 6 ∧ t 0 0 = nI n) (h19 : ∃ n, n ≤ 100 ∧ t 19 0 = nI n) (d w : Nat) (hd1 : 1 ≤ d) (hd3 : d ≤ 3) (e26 : t 26 0 = nI d) (hw : w ≤ 28) (e29 : t 29 0 = nI w) (mm tt : Nat) (hmm : mm < 6) (e27 : t 27 d = nI mm) (htt : tt < 2) (e28 : t 28 d = nI tt) : CtM l Γ y_M_work b_M_work 2 none 2 [.ref (Γ.2.1 27)] t none (qWork t) := by
  refine ct_of (by decide +kernel) (Nat.le_of_ble_eq_true rfl) ?_
  intro p e s m args below meth c C hr hlk
  have hbD : vp_in (t 26 0) 4 := by rw [e26]; exact in4 (by omega)
  have hbC := cl_in (by omega) e26 hmm e27 htt e28
  have hb29 : vp_in (t 29 0) 30 := by rw [e29]; exact in30 (by omega)
  refine vv_bipush C (6) d_M_work_0 (by decide) ?_
  refine vv_aload_n C d_M_work_2 rfl ?_
  refine g_M_target C d_M_work_3 ?_
  refine vv_aload_n C d_M_work_6 rfl ?_
  refine g_M_depth C d_M_work_7 ?_
  refine ld_M_target C hbD d_M_work_10 ?_
  refine vv_imul C d_M_work_11 ?_
  refine vv_aload_n C d_M_work_12 rfl ?_
  refine g_M_method C d_M_work_13 ?_
  refine vv_aload_n C d_M_work_16 rfl ?_
  refine g_M_depth C d_M_work_17 ?_
  refine ld_M_method C hbD d_M_work_20 ?_
  refine vv_iadd C d_M_work_21 ?_
  refine vv_istore_n (lv' := [(1, .int ((6 * (t 28 (ix (t 26 0)))) + (t 27 (ix (t 26 0))))), (0, .ref (Γ.2.1 27))]) C d_M_work_22 rfl (by decide) rfl ?_
  refine vv_aload_n C d_M_work_23 rfl ?_
  refine vv_bipush C (100) d_M_work_24 (by decide) ?_
  refine vv_aload_n C d_M_work_26 rfl ?_
  refine g_M_method C d_M_work_27 ?_
  refine vv_aload_n C d_M_work_30 rfl ?_
  refine g_M_depth C d_M_work_31 ?_
  refine ld_M_method C hbD d_M_work_34 ?_
  refine vv_iadd C d_M_work_35 ?_
  refine vv_aload_n C d_M_work_36 rfl ?_
  refine g_M_x C d_M_work_37 ?_
  refine cllM (rest := []) C (c_M_note l Γ t h19 (100 + (t 27 (ix (t 26 0)))) (t 38 0)) cw_M_M_note rfl rfl (Nat.le_of_ble_eq_true rfl) (by decide) (by decide) d_M_work_40 ?_
  refine vv_st (st' := []) rfl ?_
  refine vv_aload_n C d_M_work_43 rfl ?_
  refine g_M_broken C d_M_work_44 ?_
  refine vv_if_eq C 51 d_M_work_47 rfl (fun h1 => ?_) (fun h1 => ?_)
  · skip
    refine vv_aload_n C d_M_work_51 rfl ?_
    refine g_M_failure C d_M_work_52 ?_
    refine vv_iload_n C d_M_work_55 rfl ?_
    refine ld_M_failure C hbC d_M_work_56 ?_
    refine vv_if_le C 87 d_M_work_57 rfl (fun h2 => ?_) (fun h2 => ?_)
    · skip
      refine vv_aload_n C d_M_work_87 rfl ?_
      refine g_M_leads C d_M_work_88 ?_
      refine vv_iload_n C d_M_work_91 rfl ?_
      refine ld_M_leads C hbC d_M_work_92 ?_
      refine vv_iconst C (-1) d_M_work_93 (by decide) ?_
      refine vv_icmp_eq C 130 d_M_work_94 rfl (fun h3 => ?_) (fun h3 => ?_)
      · skip
        refine vv_aload_n C d_M_work_130 rfl ?_
        refine vv_iconst C (0) d_M_work_131 (by decide) ?_
        refine vv_aload_n C d_M_work_132 rfl ?_
        refine g_M_factor C d_M_work_133 ?_
        refine vv_iload_n C d_M_work_136 rfl ?_
        refine ld_M_factor C hbC d_M_work_137 ?_
        refine vv_aload_n C d_M_work_138 rfl ?_
        refine g_M_x C d_M_work_139 ?_
        refine vv_imul C d_M_work_142 ?_
        refine vv_aload_n C d_M_work_143 rfl ?_
        refine g_M_addend C d_M_work_144 ?_
        refine vv_iload_n C d_M_work_147 rfl ?_
        refine ld_M_addend C hbC d_M_work_148 ?_
        refine vv_iadd C d_M_work_149 ?_
        refine cllM (rest := []) C (c_M_comes l Γ (qNote t (100 + (t 27 (ix (t 26 0)))) (t 38 0)) false ((((qNote t (100 + (t 27 (ix (t 26 0)))) (t 38 0)) 12 (ix ((6 * (t 28 (ix (t 26 0)))) + (t 27 (ix (t 26 0)))))) * ((qNote t (100 + (t 27 (ix (t 26 0)))) (t 38 0)) 38 0)) + ((qNote t (100 + (t 27 (ix (t 26 0)))) (t 38 0)) 13 (ix ((6 * (t 28 (ix (t 26 0)))) + (t 27 (ix (t 26 0)))))))) cw_M_M_comes rfl rfl (Nat.le_of_ble_eq_true rfl) (by decide) (by decide) d_M_work_150 ?_
        refine vv_st (st' := []) rfl ?_
        have hE : qWork t = (qComes (qNote t (100 + (t 27 (ix (t 26 0)))) (t 38 0)) false ((((qNote t (100 + (t 27 (ix (t 26 0)))) (t 38 0)) 12 (ix ((6 * (t 28 (ix (t 26 0)))) + (t 27 (ix (t 26 0)))))) * ((qNote t (100 + (t 27 (ix (t 26 0)))) (t 38 0)) 38 0)) + ((qNote t (100 + (t 27 (ix (t 26 0)))) (t 38 0)) 13 (ix ((6 * (t 28 (ix (t 26 0)))) + (t 27 (ix (t 26 0)))))))) := by
          unfold qWork
          try dsimp only
          try rw [qW1_eq]
          unfold qW1 qW2 qW3
          first | rw [if_pos h1] | rw [if_neg h1] | rw [if_pos (by exact h1)] | rw [if_neg (by exact h1)] | rw [if_neg (by exact z_nle h1)] | rw [if_pos (by exact z_le h1)] | rw [if_neg (by exact z_nlt h1)] | rw [if_pos (by exact z_lt h1)] | rw [if_neg (by exact tf_t h1)] | rw [if_neg (by exact tf_f h1)] | rw [h1] | skip
          first | rw [if_pos h2] | rw [if_neg h2] | rw [if_pos (by exact h2)] | rw [if_neg (by exact h2)] | rw [if_neg (by exact z_nle h2)] | rw [if_pos (by exact z_le h2)] | rw [if_neg (by exact z_nlt h2)] | rw [if_pos (by exact z_lt h2)] | rw [if_neg (by exact tf_t h2)] | rw [if_neg (by exact tf_f h2)] | rw [h2] | skip
          first | rw [if_pos h3] | rw [if_neg h3] | rw [if_pos (by exact h3)] | rw [if_neg (by exact h3)] | rw [if_neg (by exact z_nle h3)] | rw [if_pos (by exact z_le h3)] | rw [if_neg (by exact z_nlt h3)] | rw [if_pos (by exact z_lt h3)] | rw [if_neg (by exact tf_t h3)] | rw [if_neg (by exact tf_f h3)] | rw [h3] | skip
          try rfl
        exact vv_vret C hr hlk rfl (by rw [hE] <;> rfl) d_M_work_153
      · skip
        refine vv_aload_n C d_M_work_97 rfl ?_
        refine g_M_x C d_M_work_98 ?_
        refine vv_if_le C 130 d_M_work_101 rfl (fun h4 => ?_) (fun h4 => ?_)
        · skip
          refine vv_aload_n C d_M_work_130 rfl ?_
          refine vv_iconst C (0) d_M_work_131 (by decide) ?_
          refine vv_aload_n C d_M_work_132 rfl ?_
          refine g_M_factor C d_M_work_133 ?_
          refine vv_iload_n C d_M_work_136 rfl ?_
          refine ld_M_factor C hbC d_M_work_137 ?_
          refine vv_aload_n C d_M_work_138 rfl ?_
          refine g_M_x C d_M_work_139 ?_
          refine vv_imul C d_M_work_142 ?_
          refine vv_aload_n C d_M_work_143 rfl ?_
          refine g_M_addend C d_M_work_144 ?_
          refine vv_iload_n C d_M_work_147 rfl ?_
          refine ld_M_addend C hbC d_M_work_148 ?_
          refine vv_iadd C d_M_work_149 ?_
          refine cllM (rest := []) C (c_M_comes l Γ (qNote t (100 + (t 27 (ix (t 26 0)))) (t 38 0)) false ((((qNote t (100 + (t 27 (ix (t 26 0)))) (t 38 0)) 12 (ix ((6 * (t 28 (ix (t 26 0)))) + (t 27 (ix (t 26 0)))))) * ((qNote t (100 + (t 27 (ix (t 26 0)))) (t 38 0)) 38 0)) + ((qNote t (100 + (t 27 (ix (t 26 0)))) (t 38 0)) 13 (ix ((6 * (t 28 (ix (t 26 0)))) + (t 27 (ix (t 26 0)))))))) cw_M_M_comes rfl rfl (Nat.le_of_ble_eq_true rfl) (by decide) (by decide) d_M_work_150 ?_
          refine vv_st (st' := []) rfl ?_
          have hE : qWork t = (qComes (qNote t (100 + (t 27 (ix (t 26 0)))) (t 38 0)) false ((((qNote t (100 + (t 27 (ix (t 26 0)))) (t 38 0)) 12 (ix ((6 * (t 28 (ix (t 26 0)))) + (t 27 (ix (t 26 0)))))) * ((qNote t (100 + (t 27 (ix (t 26 0)))) (t 38 0)) 38 0)) + ((qNote t (100 + (t 27 (ix (t 26 0)))) (t 38 0)) 13 (ix ((6 * (t 28 (ix (t 26 0)))) + (t 27 (ix (t 26 0)))))))) := by
            unfold qWork
            try dsimp only
            try rw [qW1_eq]
            unfold qW1 qW2 qW3
            first | rw [if_pos h1] | rw [if_neg h1] | rw [if_pos (by exact h1)] | rw [if_neg (by exact h1)] | rw [if_neg (by exact z_nle h1)] | rw [if_pos (by exact z_le h1)] | rw [if_neg (by exact z_nlt h1)] | rw [if_pos (by exact z_lt h1)] | rw [if_neg (by exact tf_t h1)] | rw [if_neg (by exact tf_f h1)] | rw [h1] | skip
            first | rw [if_pos h2] | rw [if_neg h2] | rw [if_pos (by exact h2)] | rw [if_neg (by exact h2)] | rw [if_neg (by exact z_nle h2)] | rw [if_pos (by exact z_le h2)] | rw [if_neg (by exact z_nlt h2)] | rw [if_pos (by exact z_lt h2)] | rw [if_neg (by exact tf_t h2)] | rw [if_neg (by exact tf_f h2)] | rw [h2] | skip
            first | rw [if_pos h3] | rw [if_neg h3] | rw [if_pos (by exact h3)] | rw [if_neg (by exact h3)] | rw [if_neg (by exact z_nle h3)] | rw [if_pos (by exact z_le h3)] | rw [if_neg (by exact z_nlt h3)] | rw [if_pos (by exact z_lt h3)] | rw [if_neg (by exact tf_t h3)] | rw [if_neg (by exact tf_f h3)] | rw [h3] | skip
            first | rw [if_pos h4] | rw [if_neg h4] | rw [if_pos (by exact h4)] | rw [if_neg (by exact h4)] | rw [if_neg (by exact z_nle h4)] | rw [if_pos (by exact z_le h4)] | rw [if_neg (by exact z_nlt h4)] | rw [if_pos (by exact z_lt h4)] | rw [if_neg (by exact tf_t h4)] | rw [if_neg (by exact tf_f h4)] | rw [h4] | skip
            try rfl
          exact vv_vret C hr hlk rfl (by rw [hE] <;> rfl) d_M_work_153
        · skip
          refine vv_aload_n C d_M_work_104 rfl ?_
          refine vv_bipush C (8) d_M_work_105 (by decide) ?_
          refine vv_iload_n C d_M_work_107 rfl ?_
          refine cllM (rest := []) C (c_M_await l Γ (qNote t (100 + (t 27 (ix (t 26 0)))) (t 38 0)) (vp_nt hb29) 8 ((6 * (t 28 (ix (t 26 0)))) + (t 27 (ix (t 26 0))))) cw_M_M_await rfl rfl (Nat.le_of_ble_eq_true rfl) (by decide) (by decide) d_M_work_108 ?_
          refine vv_st (st' := []) rfl ?_
          refine vv_aload_n C d_M_work_111 rfl ?_
          refine vv_aload_n C d_M_work_112 rfl ?_
          refine g_M_leads C d_M_work_113 ?_
          refine vv_iload_n C d_M_work_116 rfl ?_
          refine ld_M_leads C hbC d_M_work_117 ?_
          refine vv_aload_n C d_M_work_118 rfl ?_
          refine g_M_x C d_M_work_119 ?_
          refine vv_iconst C (1) d_M_work_122 (by decide) ?_
          refine vv_isub C d_M_work_123 ?_
          refine cllM (rest := []) C (c_M_enter l Γ (qAwait (qNote t (100 + (t 27 (ix (t 26 0)))) (t 38 0)) 8 ((6 * (t 28 (ix (t 26 0)))) + (t 27 (ix (t 26 0))))) (vp_nt26 ⟨d, hd3, e26⟩) (vp_nt29 e29 (by omega)) ((qAwait (qNote t (100 + (t 27 (ix (t 26 0)))) (t 38 0)) 8 ((6 * (t 28 (ix (t 26 0)))) + (t 27 (ix (t 26 0))))) 16 (ix ((6 * (t 28 (ix (t 26 0)))) + (t 27 (ix (t 26 0)))))) (((qAwait (qNote t (100 + (t 27 (ix (t 26 0)))) (t 38 0)) 8 ((6 * (t 28 (ix (t 26 0)))) + (t 27 (ix (t 26 0))))) 38 0) - 1)) cw_M_M_enter rfl rfl (Nat.le_of_ble_eq_true rfl) (by decide) (by decide) d_M_work_124 ?_
          refine vv_st (st' := []) rfl ?_
          refine vv_goto C 153 d_M_work_127 rfl ?_
          have hE : qWork t = (qEnter (qAwait (qNote t (100 + (t 27 (ix (t 26 0)))) (t 38 0)) 8 ((6 * (t 28 (ix (t 26 0)))) + (t 27 (ix (t 26 0))))) ((qAwait (qNote t (100 + (t 27 (ix (t 26 0)))) (t 38 0)) 8 ((6 * (t 28 (ix (t 26 0)))) + (t 27 (ix (t 26 0))))) 16 (ix ((6 * (t 28 (ix (t 26 0)))) + (t 27 (ix (t 26 0)))))) (((qAwait (qNote t (100 + (t 27 (ix (t 26 0)))) (t 38 0)) 8 ((6 * (t 28 (ix (t 26 0)))) + (t 27 (ix (t 26 0))))) 38 0) - 1)) := by
            unfold qWork
            try dsimp only
            try rw [qW1_eq]
            unfold qW1 qW2 qW3
            first | rw [if_pos h1] | rw [if_neg h1] | rw [if_pos (by exact h1)] | rw [if_neg (by exact h1)] | rw [if_neg (by exact z_nle h1)] | rw [if_pos (by exact z_le h1)] | rw [if_neg (by exact z_nlt h1)] | rw [if_pos (by exact z_lt h1)] | rw [if_neg (by exact tf_t h1)] | rw [if_neg (by exact tf_f h1)] | rw [h1] | skip
            first | rw [if_pos h2] | rw [if_neg h2] | rw [if_pos (by exact h2)] | rw [if_neg (by exact h2)] | rw [if_neg (by exact z_nle h2)] | rw [if_pos (by exact z_le h2)] | rw [if_neg (by exact z_nlt h2)] | rw [if_pos (by exact z_lt h2)] | rw [if_neg (by exact tf_t h2)] | rw [if_neg (by exact tf_f h2)] | rw [h2] | skip
            first | rw [if_pos h3] | rw [if_neg h3] | rw [if_pos (by exact h3)] | rw [if_neg (by exact h3)] | rw [if_neg (by exact z_nle h3)] | rw [if_pos (by exact z_le h3)] | rw [if_neg (by exact z_nlt h3)] | rw [if_pos (by exact z_lt h3)] | rw [if_neg (by exact tf_t h3)] | rw [if_neg (by exact tf_f h3)] | rw [h3] | skip
            first | rw [if_pos h4] | rw [if_neg h4] | rw [if_pos (by exact h4)] | rw [if_neg (by exact h4)] | rw [if_neg (by exact z_nle h4)] | rw [if_pos (by exact z_le h4)] | rw [if_neg (by exact z_nlt h4)] | rw [if_pos (by exact z_lt h4)] | rw [if_neg (by exact tf_t h4)] | rw [if_neg (by exact tf_f h4)] | rw [h4] | skip
            try rfl
          exact vv_vret C hr hlk rfl (by rw [hE] <;> rfl) d_M_work_153
    · skip
      refine vv_aload_n C d_M_work_60 rfl ?_
      refine g_M_failsAt C d_M_work_61 ?_
      refine vv_iload_n C d_M_work_64 rfl ?_
      refine ld_M_failsAt C hbC d_M_work_65 ?_
      refine vv_aload_n C d_M_work_66 rfl ?_
      refine g_M_x C d_M_work_67 ?_
      refine vv_icmp_ne C 87 d_M_work_70 rfl (fun h5 => ?_) (fun h5 => ?_)
      · skip
        refine vv_aload_n C d_M_work_87 rfl ?_
        refine g_M_leads C d_M_work_88 ?_
        refine vv_iload_n C d_M_work_91 rfl ?_
        refine ld_M_leads C hbC d_M_work_92 ?_
        refine vv_iconst C (-1) d_M_work_93 (by decide) ?_
        refine vv_icmp_eq C 130 d_M_work_94 rfl (fun h6 => ?_) (fun h6 => ?_)
        · skip
          refine vv_aload_n C d_M_work_130 rfl ?_
          refine vv_iconst C (0) d_M_work_131 (by decide) ?_
          refine vv_aload_n C d_M_work_132 rfl ?_
          refine g_M_factor C d_M_work_133 ?_
          refine vv_iload_n C d_M_work_136 rfl ?_
          refine ld_M_factor C hbC d_M_work_137 ?_
          refine vv_aload_n C d_M_work_138 rfl ?_
          refine g_M_x C d_M_work_139 ?_
          refine vv_imul C d_M_work_142 ?_
          refine vv_aload_n C d_M_work_143 rfl ?_
          refine g_M_addend C d_M_work_144 ?_
          refine vv_iload_n C d_M_work_147 rfl ?_
          refine ld_M_addend C hbC d_M_work_148 ?_
          refine vv_iadd C d_M_work_149 ?_
          refine cllM (rest := []) C (c_M_comes l Γ (qNote t (100 + (t 27 (ix (t 26 0)))) (t 38 0)) false ((((qNote t (100 + (t 27 (ix (t 26 0)))) (t 38 0)) 12 (ix ((6 * (t 28 (ix (t 26 0)))) + (t 27 (ix (t 26 0)))))) * ((qNote t (100 + (t 27 (ix (t 26 0)))) (t 38 0)) 38 0)) + ((qNote t (100 + (t 27 (ix (t 26 0)))) (t 38 0)) 13 (ix ((6 * (t 28 (ix (t 26 0)))) + (t 27 (ix (t 26 0)))))))) cw_M_M_comes rfl rfl (Nat.le_of_ble_eq_true rfl) (by decide) (by decide) d_M_work_150 ?_
          refine vv_st (st' := []) rfl ?_
          have hE : qWork t = (qComes (qNote t (100 + (t 27 (ix (t 26 0)))) (t 38 0)) false ((((qNote t (100 + (t 27 (ix (t 26 0)))) (t 38 0)) 12 (ix ((6 * (t 28 (ix (t 26 0)))) + (t 27 (ix (t 26 0)))))) * ((qNote t (100 + (t 27 (ix (t 26 0)))) (t 38 0)) 38 0)) + ((qNote t (100 + (t 27 (ix (t 26 0)))) (t 38 0)) 13 (ix ((6 * (t 28 (ix (t 26 0)))) + (t 27 (ix (t 26 0)))))))) := by
            unfold qWork
            try dsimp only
            try rw [qW1_eq]
            unfold qW1 qW2 qW3
            first | rw [if_pos h1] | rw [if_neg h1] | rw [if_pos (by exact h1)] | rw [if_neg (by exact h1)] | rw [if_neg (by exact z_nle h1)] | rw [if_pos (by exact z_le h1)] | rw [if_neg (by exact z_nlt h1)] | rw [if_pos (by exact z_lt h1)] | rw [if_neg (by exact tf_t h1)] | rw [if_neg (by exact tf_f h1)] | rw [h1] | skip
            first | rw [if_pos h2] | rw [if_neg h2] | rw [if_pos (by exact h2)] | rw [if_neg (by exact h2)] | rw [if_neg (by exact z_nle h2)] | rw [if_pos (by exact z_le h2)] | rw [if_neg (by exact z_nlt h2)] | rw [if_pos (by exact z_lt h2)] | rw [if_neg (by exact tf_t h2)] | rw [if_neg (by exact tf_f h2)] | rw [h2] | skip
            first | rw [if_pos h5] | rw [if_neg h5] | rw [if_pos (by exact h5)] | rw [if_neg (by exact h5)] | rw [if_neg (by exact z_nle h5)] | rw [if_pos (by exact z_le h5)] | rw [if_neg (by exact z_nlt h5)] | rw [if_pos (by exact z_lt h5)] | rw [if_neg (by exact tf_t h5)] | rw [if_neg (by exact tf_f h5)] | rw [h5] | skip
            first | rw [if_pos h6] | rw [if_neg h6] | rw [if_pos (by exact h6)] | rw [if_neg (by exact h6)] | rw [if_neg (by exact z_nle h6)] | rw [if_pos (by exact z_le h6)] | rw [if_neg (by exact z_nlt h6)] | rw [if_pos (by exact z_lt h6)] | rw [if_neg (by exact tf_t h6)] | rw [if_neg (by exact tf_f h6)] | rw [h6] | skip
            try rfl
          exact vv_vret C hr hlk rfl (by rw [hE] <;> rfl) d_M_work_153
        · skip
          refine vv_aload_n C d_M_work_97 rfl ?_
          refine g_M_x C d_M_work_98 ?_
          refine vv_if_le C 130 d_M_work_101 rfl (fun h7 => ?_) (fun h7 => ?_)
          · skip
            refine vv_aload_n C d_M_work_130 rfl ?_
            refine vv_iconst C (0) d_M_work_131 (by decide) ?_
            refine vv_aload_n C d_M_work_132 rfl ?_
            refine g_M_factor C d_M_work_133 ?_
            refine vv_iload_n C d_M_work_136 rfl ?_
            refine ld_M_factor C hbC d_M_work_137 ?_
            refine vv_aload_n C d_M_work_138 rfl ?_
            refine g_M_x C d_M_work_139 ?_
            refine vv_imul C d_M_work_142 ?_
            refine vv_aload_n C d_M_work_143 rfl ?_
            refine g_M_addend C d_M_work_144 ?_
            refine vv_iload_n C d_M_work_147 rfl ?_
            refine ld_M_addend C hbC d_M_work_148 ?_
            refine vv_iadd C d_M_work_149 ?_
            refine cllM (rest := []) C (c_M_comes l Γ (qNote t (100 + (t 27 (ix (t 26 0)))) (t 38 0)) false ((((qNote t (100 + (t 27 (ix (t 26 0)))) (t 38 0)) 12 (ix ((6 * (t 28 (ix (t 26 0)))) + (t 27 (ix (t 26 0)))))) * ((qNote t (100 + (t 27 (ix (t 26 0)))) (t 38 0)) 38 0)) + ((qNote t (100 + (t 27 (ix (t 26 0)))) (t 38 0)) 13 (ix ((6 * (t 28 (ix (t 26 0)))) + (t 27 (ix (t 26 0)))))))) cw_M_M_comes rfl rfl (Nat.le_of_ble_eq_true rfl) (by decide) (by decide) d_M_work_150 ?_
            refine vv_st (st' := []) rfl ?_
            have hE : qWork t = (qComes (qNote t (100 + (t 27 (ix (t 26 0)))) (t 38 0)) false ((((qNote t (100 + (t 27 (ix (t 26 0)))) (t 38 0)) 12 (ix ((6 * (t 28 (ix (t 26 0)))) + (t 27 (ix (t 26 0)))))) * ((qNote t (100 + (t 27 (ix (t 26 0)))) (t 38 0)) 38 0)) + ((qNote t (100 + (t 27 (ix (t 26 0)))) (t 38 0)) 13 (ix ((6 * (t 28 (ix (t 26 0)))) + (t 27 (ix (t 26 0)))))))) := by
              unfold qWork
              try dsimp only
              try rw [qW1_eq]
              unfold qW1 qW2 qW3
              first | rw [if_pos h1] | rw [if_neg h1] | rw [if_pos (by exact h1)] | rw [if_neg (by exact h1)] | rw [if_neg (by exact z_nle h1)] | rw [if_pos (by exact z_le h1)] | rw [if_neg (by exact z_nlt h1)] | rw [if_pos (by exact z_lt h1)] | rw [if_neg (by exact tf_t h1)] | rw [if_neg (by exact tf_f h1)] | rw [h1] | skip
              first | rw [if_pos h2] | rw [if_neg h2] | rw [if_pos (by exact h2)] | rw [if_neg (by exact h2)] | rw [if_neg (by exact z_nle h2)] | rw [if_pos (by exact z_le h2)] | rw [if_neg (by exact z_nlt h2)] | rw [if_pos (by exact z_lt h2)] | rw [if_neg (by exact tf_t h2)] | rw [if_neg (by exact tf_f h2)] | rw [h2] | skip
              first | rw [if_pos h5] | rw [if_neg h5] | rw [if_pos (by exact h5)] | rw [if_neg (by exact h5)] | rw [if_neg (by exact z_nle h5)] | rw [if_pos (by exact z_le h5)] | rw [if_neg (by exact z_nlt h5)] | rw [if_pos (by exact z_lt h5)] | rw [if_neg (by exact tf_t h5)] | rw [if_neg (by exact tf_f h5)] | rw [h5] | skip
              first | rw [if_pos h6] | rw [if_neg h6] | rw [if_pos (by exact h6)] | rw [if_neg (by exact h6)] | rw [if_neg (by exact z_nle h6)] | rw [if_pos (by exact z_le h6)] | rw [if_neg (by exact z_nlt h6)] | rw [if_pos (by exact z_lt h6)] | rw [if_neg (by exact tf_t h6)] | rw [if_neg (by exact tf_f h6)] | rw [h6] | skip
              first | rw [if_pos h7] | rw [if_neg h7] | rw [if_pos (by exact h7)] | rw [if_neg (by exact h7)] | rw [if_neg (by exact z_nle h7)] | rw [if_pos (by exact z_le h7)] | rw [if_neg (by exact z_nlt h7)] | rw [if_pos (by exact z_lt h7)] | rw [if_neg (by exact tf_t h7)] | rw [if_neg (by exact tf_f h7)] | rw [h7] | skip
              try rfl
            exact vv_vret C hr hlk rfl (by rw [hE] <;> rfl) d_M_work_153
          · skip
            refine vv_aload_n C d_M_work_104 rfl ?_
            refine vv_bipush C (8) d_M_work_105 (by decide) ?_
            refine vv_iload_n C d_M_work_107 rfl ?_
            refine cllM (rest := []) C (c_M_await l Γ (qNote t (100 + (t 27 (ix (t 26 0)))) (t 38 0)) (vp_nt hb29) 8 ((6 * (t 28 (ix (t 26 0)))) + (t 27 (ix (t 26 0))))) cw_M_M_await rfl rfl (Nat.le_of_ble_eq_true rfl) (by decide) (by decide) d_M_work_108 ?_
            refine vv_st (st' := []) rfl ?_
            refine vv_aload_n C d_M_work_111 rfl ?_
            refine vv_aload_n C d_M_work_112 rfl ?_
            refine g_M_leads C d_M_work_113 ?_
            refine vv_iload_n C d_M_work_116 rfl ?_
            refine ld_M_leads C hbC d_M_work_117 ?_
            refine vv_aload_n C d_M_work_118 rfl ?_
            refine g_M_x C d_M_work_119 ?_
            refine vv_iconst C (1) d_M_work_122 (by decide) ?_
            refine vv_isub C d_M_work_123 ?_
            refine cllM (rest := []) C (c_M_enter l Γ (qAwait (qNote t (100 + (t 27 (ix (t 26 0)))) (t 38 0)) 8 ((6 * (t 28 (ix (t 26 0)))) + (t 27 (ix (t 26 0))))) (vp_nt26 ⟨d, hd3, e26⟩) (vp_nt29 e29 (by omega)) ((qAwait (qNote t (100 + (t 27 (ix (t 26 0)))) (t 38 0)) 8 ((6 * (t 28 (ix (t 26 0)))) + (t 27 (ix (t 26 0))))) 16 (ix ((6 * (t 28 (ix (t 26 0)))) + (t 27 (ix (t 26 0)))))) (((qAwait (qNote t (100 + (t 27 (ix (t 26 0)))) (t 38 0)) 8 ((6 * (t 28 (ix (t 26 0)))) + (t 27 (ix (t 26 0))))) 38 0) - 1)) cw_M_M_enter rfl rfl (Nat.le_of_ble_eq_true rfl) (by decide) (by decide) d_M_work_124 ?_
            refine vv_st (st' := []) rfl ?_
            refine vv_goto C 153 d_M_work_127 rfl ?_
            have hE : qWork t = (qEnter (qAwait (qNote t (100 + (t 27 (ix (t 26 0)))) (t 38 0)) 8 ((6 * (t 28 (ix (t 26 0)))) + (t 27 (ix (t 26 0))))) ((qAwait (qNote t (100 + (t 27 (ix (t 26 0)))) (t 38 0)) 8 ((6 * (t 28 (ix (t 26 0)))) + (t 27 (ix (t 26 0))))) 16 (ix ((6 * (t 28 (ix (t 26 0)))) + (t 27 (ix (t 26 0)))))) (((qAwait (qNote t (100 + (t 27 (ix (t 26 0)))) (t 38 0)) 8 ((6 * (t 28 (ix (t 26 0)))) + (t 27 (ix (t 26 0))))) 38 0) - 1)) := by
              unfold qWork
              try dsimp only
              try rw [qW1_eq]
              unfold qW1 qW2 qW3
              first | rw [if_pos h1] | rw [if_neg h1] | rw [if_pos (by exact h1)] | rw [if_neg (by exact h1)] | rw [if_neg (by exact z_nle h1)] | rw [if_pos (by exact z_le h1)] | rw [if_neg (by exact z_nlt h1)] | rw [if_pos (by exact z_lt h1)] | rw [if_neg (by exact tf_t h1)] | rw [if_neg (by exact tf_f h1)] | rw [h1] | skip
              first | rw [if_pos h2] | rw [if_neg h2] | rw [if_pos (by exact h2)] | rw [if_neg (by exact h2)] | rw [if_neg (by exact z_nle h2)] | rw [if_pos (by exact z_le h2)] | rw [if_neg (by exact z_nlt h2)] | rw [if_pos (by exact z_lt h2)] | rw [if_neg (by exact tf_t h2)] | rw [if_neg (by exact tf_f h2)] | rw [h2] | skip
              first | rw [if_pos h5] | rw [if_neg h5] | rw [if_pos (by exact h5)] | rw [if_neg (by exact h5)] | rw [if_neg (by exact z_nle h5)] | rw [if_pos (by exact z_le h5)] | rw [if_neg (by exact z_nlt h5)] | rw [if_pos (by exact z_lt h5)] | rw [if_neg (by exact tf_t h5)] | rw [if_neg (by exact tf_f h5)] | rw [h5] | skip
              first | rw [if_pos h6] | rw [if_neg h6] | rw [if_pos (by exact h6)] | rw [if_neg (by exact h6)] | rw [if_neg (by exact z_nle h6)] | rw [if_pos (by exact z_le h6)] | rw [if_neg (by exact z_nlt h6)] | rw [if_pos (by exact z_lt h6)] | rw [if_neg (by exact tf_t h6)] | rw [if_neg (by exact tf_f h6)] | rw [h6] | skip
              first | rw [if_pos h7] | rw [if_neg h7] | rw [if_pos (by exact h7)] | rw [if_neg (by exact h7)] | rw [if_neg (by exact z_nle h7)] | rw [if_pos (by exact z_le h7)] | rw [if_neg (by exact z_nlt h7)] | rw [if_pos (by exact z_lt h7)] | rw [if_neg (by exact tf_t h7)] | rw [if_neg (by exact tf_f h7)] | rw [h7] | skip
              try rfl
            exact vv_vret C hr hlk rfl (by rw [hE] <;> rfl) d_M_work_153
      · skip
        refine vv_aload_n C d_M_work_73 rfl ?_
        refine vv_iconst C (1) d_M_work_74 (by decide) ?_
        refine vv_aload_n C d_M_work_75 rfl ?_
        refine g_M_failure C d_M_work_76 ?_
        refine vv_iload_n C d_M_work_79 rfl ?_
        refine ld_M_failure C hbC d_M_work_80 ?_
        refine cllM (rest := []) C (c_M_comes l Γ (qNote t (100 + (t 27 (ix (t 26 0)))) (t 38 0)) true ((qNote t (100 + (t 27 (ix (t 26 0)))) (t 38 0)) 15 (ix ((6 * (t 28 (ix (t 26 0)))) + (t 27 (ix (t 26 0))))))) cw_M_M_comes rfl rfl (Nat.le_of_ble_eq_true rfl) (by decide) (by decide) d_M_work_81 ?_
        refine vv_st (st' := []) rfl ?_
        refine vv_goto C 153 d_M_work_84 rfl ?_
        have hE : qWork t = (qComes (qNote t (100 + (t 27 (ix (t 26 0)))) (t 38 0)) true ((qNote t (100 + (t 27 (ix (t 26 0)))) (t 38 0)) 15 (ix ((6 * (t 28 (ix (t 26 0)))) + (t 27 (ix (t 26 0))))))) := by
          unfold qWork
          try dsimp only
          try rw [qW1_eq]
          unfold qW1 qW2 qW3
          first | rw [if_pos h1] | rw [if_neg h1] | rw [if_pos (by exact h1)] | rw [if_neg (by exact h1)] | rw [if_neg (by exact z_nle h1)] | rw [if_pos (by exact z_le h1)] | rw [if_neg (by exact z_nlt h1)] | rw [if_pos (by exact z_lt h1)] | rw [if_neg (by exact tf_t h1)] | rw [if_neg (by exact tf_f h1)] | rw [h1] | skip
          first | rw [if_pos h2] | rw [if_neg h2] | rw [if_pos (by exact h2)] | rw [if_neg (by exact h2)] | rw [if_neg (by exact z_nle h2)] | rw [if_pos (by exact z_le h2)] | rw [if_neg (by exact z_nlt h2)] | rw [if_pos (by exact z_lt h2)] | rw [if_neg (by exact tf_t h2)] | rw [if_neg (by exact tf_f h2)] | rw [h2] | skip
          first | rw [if_pos h5] | rw [if_neg h5] | rw [if_pos (by exact h5)] | rw [if_neg (by exact h5)] | rw [if_neg (by exact z_nle h5)] | rw [if_pos (by exact z_le h5)] | rw [if_neg (by exact z_nlt h5)] | rw [if_pos (by exact z_lt h5)] | rw [if_neg (by exact tf_t h5)] | rw [if_neg (by exact tf_f h5)] | rw [h5] | skip
          try rfl
        exact vv_vret C hr hlk rfl (by rw [hE] <;> rfl) d_M_work_153
  · skip
    have hE : qWork t = (qNote t (100 + (t 27 (ix (t 26 0)))) (t 38 0)) := by
      unfold qWork
      try dsimp only
      try rw [qW1_eq]
      unfold qW1 qW2 qW3
      first | rw [if_pos h1] | rw [if_neg h1] | rw [if_pos (by exact h1)] | rw [if_neg (by exact h1)] | rw [if_neg (by exact z_nle h1)] | rw [if_pos (by exact z_le h1)] | rw [if_neg (by exact z_nlt h1)] | rw [if_pos (by exact z_lt h1)] | rw [if_neg (by exact tf_t h1)] | rw [if_neg (by exact tf_f h1)] | rw [h1] | skip
      try rfl
    exact vv_vret C hr hlk rfl (by rw [hE] <;> rfl) d_M_work_50
set_option maxHeartbeats 4000000 in
set_option maxRecDepth 100000 in
theorem c_M_step (l : Launch) (Γ : Geo) (t : M2) (h0 : ∃ n, n ≤ 6 ∧ t 0 0 = nI n) (h19 : ∃ n, n ≤ 100 ∧ t 19 0 = nI n) (d w : Nat) (hd1 : 1 ≤ d) (hd3 : d ≤ 3) (e26 : t 26 0 = nI d) (hw : w ≤ 28) (e29 : t 29 0 = nI w) (mm tt : Nat) (hmm : mm < 6) (e27 : t 27 d = nI mm) (htt : tt < 2) (e28 : t 28 d = nI tt) : CtM l Γ y_M_step b_M_step 2 none 3 [.ref (Γ.2.1 27)] t none (qStep t) := by
  refine ct_of (by decide +kernel) (Nat.le_of_ble_eq_true rfl) ?_
  intro p e s m args below meth c C hr hlk
  have hbD : vp_in (t 26 0) 4 := by rw [e26]; exact in4 (by omega)
  have hbC := cl_in (by omega) e26 hmm e27 htt e28
  have hb29 : vp_in (t 29 0) 30 := by rw [e29]; exact in30 (by omega)
  refine vv_aload_n C d_M_step_0 rfl ?_
  refine vv_aload_n C d_M_step_1 rfl ?_
  refine g_M_method C d_M_step_2 ?_
  refine vv_aload_n C d_M_step_5 rfl ?_
  refine g_M_depth C d_M_step_6 ?_
  refine ld_M_method C hbD d_M_step_9 ?_
  refine vv_aload_n C d_M_step_10 rfl ?_
  refine g_M_place C d_M_step_11 ?_
  refine cllM (rest := []) C (c_M_linked l Γ t h0 (t 27 (ix (t 26 0))) (t 37 0)) cw_M_M_linked rfl rfl (Nat.le_of_ble_eq_true rfl) (by decide) (by decide) d_M_step_14 ?_
  refine vv_st (st' := [.int (qLinked t (t 27 (ix (t 26 0))) (t 37 0))]) rfl ?_
  refine vv_istore_n (lv' := [(1, .int (qLinked t (t 27 (ix (t 26 0))) (t 37 0))), (0, .ref (Γ.2.1 27))]) C d_M_step_17 rfl (by decide) rfl ?_
  refine vv_iload_n C d_M_step_18 rfl ?_
  refine vv_if_ge C 27 d_M_step_19 rfl (fun h1 => ?_) (fun h1 => ?_)
  · skip
    have hz := ge0_nn h1
    obtain ⟨jj, hjj, hJ⟩ := lk_in h0 hz
    have hbK : vp_in (qLinked t (t 27 (ix (t 26 0))) (t 37 0)) 6 := by rw [hJ]; exact in6 hjj
    refine vv_aload_n C d_M_step_27 rfl ?_
    refine g_M_ranged C d_M_step_28 ?_
    refine vv_iload_n C d_M_step_31 rfl ?_
    refine ld_M_ranged C hbK d_M_step_32 ?_
    refine vv_if_eq C 79 d_M_step_33 rfl (fun h2 => ?_) (fun h2 => ?_)
    · skip
      refine vv_aload_n C d_M_step_79 rfl ?_
      refine g_M_kind C d_M_step_80 ?_
      refine vv_iload_n C d_M_step_83 rfl ?_
      refine ld_M_kind C hbK d_M_step_84 ?_
      refine vv_iconst C (3) d_M_step_85 (by decide) ?_
      refine vv_icmp_gt C 103 d_M_step_86 rfl (fun h3 => ?_) (fun h3 => ?_)
      · skip
        refine vv_aload_n C d_M_step_103 rfl ?_
        refine g_M_broken C d_M_step_104 ?_
        refine vv_if_eq C 111 d_M_step_107 rfl (fun h4 => ?_) (fun h4 => ?_)
        · skip
          refine vv_aload_n C d_M_step_111 rfl ?_
          refine g_M_kind C d_M_step_112 ?_
          refine vv_iload_n C d_M_step_115 rfl ?_
          refine ld_M_kind C hbK d_M_step_116 ?_
          refine vv_if_ne C 147 d_M_step_117 rfl (fun h5 => ?_) (fun h5 => ?_)
          · skip
            refine vv_aload_n C d_M_step_147 rfl ?_
            refine g_M_kind C d_M_step_148 ?_
            refine vv_iload_n C d_M_step_151 rfl ?_
            refine ld_M_kind C hbK d_M_step_152 ?_
            refine vv_iconst C (2) d_M_step_153 (by decide) ?_
            refine vv_icmp_ne C 184 d_M_step_154 rfl (fun h6 => ?_) (fun h6 => ?_)
            · skip
              refine vv_aload_n C d_M_step_184 rfl ?_
              refine g_M_kind C d_M_step_185 ?_
              refine vv_iload_n C d_M_step_188 rfl ?_
              refine ld_M_kind C hbK d_M_step_189 ?_
              refine vv_if_eq C 203 d_M_step_190 rfl (fun z => absurd z h5) (fun _ => ?_)
              refine vv_aload_n C d_M_step_193 rfl ?_
              refine g_M_kind C d_M_step_194 ?_
              refine vv_iload_n C d_M_step_197 rfl ?_
              refine ld_M_kind C hbK d_M_step_198 ?_
              refine vv_iconst C (2) d_M_step_199 (by decide) ?_
              refine vv_icmp_ne C 216 d_M_step_200 rfl (fun _ => ?_) (fun z => absurd z h6)
              refine vv_aload_n C d_M_step_216 rfl ?_
              refine vv_aload_n C d_M_step_217 rfl ?_
              refine g_M_kind C d_M_step_218 ?_
              refine vv_iload_n C d_M_step_221 rfl ?_
              refine ld_M_kind C hbK d_M_step_222 ?_
              refine vv_iload_n C d_M_step_223 rfl ?_
              refine cllM (rest := []) C (c_M_await l Γ t hb29 (t 4 (ix (qLinked t (t 27 (ix (t 26 0))) (t 37 0)))) (qLinked t (t 27 (ix (t 26 0))) (t 37 0))) cw_M_M_await rfl rfl (Nat.le_of_ble_eq_true rfl) (by decide) (by decide) d_M_step_224 ?_
              refine vv_st (st' := []) rfl ?_
              refine vv_aload_n C d_M_step_227 rfl ?_
              refine vv_aload_n C d_M_step_228 rfl ?_
              refine g_M_place C d_M_step_229 ?_
              refine vv_iconst C (1) d_M_step_232 (by decide) ?_
              refine vv_iadd C d_M_step_233 ?_
              refine vv_aload_n C d_M_step_234 rfl ?_
              refine g_M_kind C d_M_step_235 ?_
              refine vv_iload_n C d_M_step_238 rfl ?_
              refine ld_M_kind C hbK d_M_step_239 ?_
              refine vv_iconst C (1) d_M_step_240 (by decide) ?_
              refine vv_icmp_ne C 258 d_M_step_241 rfl (fun h9 => ?_) (fun h9 => ?_)
              · skip
                refine vv_aload_n C d_M_step_258 rfl ?_
                refine g_M_x C d_M_step_259 ?_
                refine cllM (rest := []) C (c_M_go l Γ (qAwait t (t 4 (ix (qLinked t (t 27 (ix (t 26 0))) (t 37 0)))) (qLinked t (t 27 (ix (t 26 0))) (t 37 0))) (((qAwait t (t 4 (ix (qLinked t (t 27 (ix (t 26 0))) (t 37 0)))) (qLinked t (t 27 (ix (t 26 0))) (t 37 0))) 37 0) + 1) ((qAwait t (t 4 (ix (qLinked t (t 27 (ix (t 26 0))) (t 37 0)))) (qLinked t (t 27 (ix (t 26 0))) (t 37 0))) 38 0)) cw_M_M_go rfl rfl (Nat.le_of_ble_eq_true rfl) (by decide) (by decide) d_M_step_262 ?_
                refine vv_st (st' := []) rfl ?_
                have hE : qStep t = (qGo (qAwait t (t 4 (ix (qLinked t (t 27 (ix (t 26 0))) (t 37 0)))) (qLinked t (t 27 (ix (t 26 0))) (t 37 0))) (((qAwait t (t 4 (ix (qLinked t (t 27 (ix (t 26 0))) (t 37 0)))) (qLinked t (t 27 (ix (t 26 0))) (t 37 0))) 37 0) + 1) ((qAwait t (t 4 (ix (qLinked t (t 27 (ix (t 26 0))) (t 37 0)))) (qLinked t (t 27 (ix (t 26 0))) (t 37 0))) 38 0)) := by
                  unfold qStep
                  rw [if_neg hz]
                  unfold qStepA
                  first | rw [if_pos h2] | rw [if_neg h2] | rw [if_pos (by exact h2)] | rw [if_neg (by exact h2)] | rw [if_neg (by exact tf_f h2)]
                  unfold qStepB
                  first | rw [if_neg (by exact z_nle h3)] | rw [if_pos (by exact z_le h3)]
                  rw [qSR_eq]
                  unfold qSR qSQ qSP qSG
                  first | rw [if_pos h4] | rw [if_neg h4] | rw [if_pos (by exact h4)] | rw [if_neg (by exact h4)] | skip
                  first | rw [if_pos h5] | rw [if_neg h5] | rw [if_pos (by exact h5)] | rw [if_neg (by exact h5)] | skip
                  first | rw [if_pos h6] | rw [if_neg h6] | rw [if_pos (by exact h6)] | rw [if_neg (by exact h6)] | skip
                  first | rw [if_pos h5] | rw [if_neg h5] | rw [if_pos (by exact h5)] | rw [if_neg (by exact h5)] | skip
                  first | rw [if_pos h6] | rw [if_neg h6] | rw [if_pos (by exact h6)] | rw [if_neg (by exact h6)] | skip
                  first | rw [if_pos h9] | rw [if_neg h9] | rw [if_pos (by exact h9)] | rw [if_neg (by exact h9)] | skip
                  try rfl
                exact vv_vret C hr hlk rfl (by rw [hE] <;> rfl) d_M_step_265
              · skip
                refine vv_aload_n C d_M_step_244 rfl ?_
                refine g_M_x C d_M_step_245 ?_
                refine vv_aload_n C d_M_step_248 rfl ?_
                refine g_M_first C d_M_step_249 ?_
                refine vv_iload_n C d_M_step_252 rfl ?_
                refine ld_M_first C hbK d_M_step_253 ?_
                refine vv_iadd C d_M_step_254 ?_
                refine vv_goto C 262 d_M_step_255 rfl ?_
                refine cllM (rest := []) C (c_M_go l Γ (qAwait t (t 4 (ix (qLinked t (t 27 (ix (t 26 0))) (t 37 0)))) (qLinked t (t 27 (ix (t 26 0))) (t 37 0))) (((qAwait t (t 4 (ix (qLinked t (t 27 (ix (t 26 0))) (t 37 0)))) (qLinked t (t 27 (ix (t 26 0))) (t 37 0))) 37 0) + 1) (((qAwait t (t 4 (ix (qLinked t (t 27 (ix (t 26 0))) (t 37 0)))) (qLinked t (t 27 (ix (t 26 0))) (t 37 0))) 38 0) + ((qAwait t (t 4 (ix (qLinked t (t 27 (ix (t 26 0))) (t 37 0)))) (qLinked t (t 27 (ix (t 26 0))) (t 37 0))) 7 (ix (qLinked t (t 27 (ix (t 26 0))) (t 37 0)))))) cw_M_M_go rfl rfl (Nat.le_of_ble_eq_true rfl) (by decide) (by decide) d_M_step_262 ?_
                refine vv_st (st' := []) rfl ?_
                have hE : qStep t = (qGo (qAwait t (t 4 (ix (qLinked t (t 27 (ix (t 26 0))) (t 37 0)))) (qLinked t (t 27 (ix (t 26 0))) (t 37 0))) (((qAwait t (t 4 (ix (qLinked t (t 27 (ix (t 26 0))) (t 37 0)))) (qLinked t (t 27 (ix (t 26 0))) (t 37 0))) 37 0) + 1) (((qAwait t (t 4 (ix (qLinked t (t 27 (ix (t 26 0))) (t 37 0)))) (qLinked t (t 27 (ix (t 26 0))) (t 37 0))) 38 0) + ((qAwait t (t 4 (ix (qLinked t (t 27 (ix (t 26 0))) (t 37 0)))) (qLinked t (t 27 (ix (t 26 0))) (t 37 0))) 7 (ix (qLinked t (t 27 (ix (t 26 0))) (t 37 0)))))) := by
                  unfold qStep
                  rw [if_neg hz]
                  unfold qStepA
                  first | rw [if_pos h2] | rw [if_neg h2] | rw [if_pos (by exact h2)] | rw [if_neg (by exact h2)] | rw [if_neg (by exact tf_f h2)]
                  unfold qStepB
                  first | rw [if_neg (by exact z_nle h3)] | rw [if_pos (by exact z_le h3)]
                  rw [qSR_eq]
                  unfold qSR qSQ qSP qSG
                  first | rw [if_pos h4] | rw [if_neg h4] | rw [if_pos (by exact h4)] | rw [if_neg (by exact h4)] | skip
                  first | rw [if_pos h5] | rw [if_neg h5] | rw [if_pos (by exact h5)] | rw [if_neg (by exact h5)] | skip
                  first | rw [if_pos h6] | rw [if_neg h6] | rw [if_pos (by exact h6)] | rw [if_neg (by exact h6)] | skip
                  first | rw [if_pos h5] | rw [if_neg h5] | rw [if_pos (by exact h5)] | rw [if_neg (by exact h5)] | skip
                  first | rw [if_pos h6] | rw [if_neg h6] | rw [if_pos (by exact h6)] | rw [if_neg (by exact h6)] | skip
                  first | rw [if_pos h9] | rw [if_neg h9] | rw [if_pos (by exact h9)] | rw [if_neg (by exact h9)] | skip
                  try rfl
                exact vv_vret C hr hlk rfl (by rw [hE] <;> rfl) d_M_step_265
            · skip
              refine vv_aload_n C d_M_step_157 rfl ?_
              refine g_M_x C d_M_step_158 ?_
              refine vv_aload_n C d_M_step_161 rfl ?_
              refine g_M_first C d_M_step_162 ?_
              refine vv_iload_n C d_M_step_165 rfl ?_
              refine ld_M_first C hbK d_M_step_166 ?_
              refine vv_icmp_ge C 184 d_M_step_167 rfl (fun h10 => ?_) (fun h10 => ?_)
              · skip
                refine vv_aload_n C d_M_step_184 rfl ?_
                refine g_M_kind C d_M_step_185 ?_
                refine vv_iload_n C d_M_step_188 rfl ?_
                refine ld_M_kind C hbK d_M_step_189 ?_
                refine vv_if_eq C 203 d_M_step_190 rfl (fun z => absurd z h5) (fun _ => ?_)
                refine vv_aload_n C d_M_step_193 rfl ?_
                refine g_M_kind C d_M_step_194 ?_
                refine vv_iload_n C d_M_step_197 rfl ?_
                refine ld_M_kind C hbK d_M_step_198 ?_
                refine vv_iconst C (2) d_M_step_199 (by decide) ?_
                refine vv_icmp_ne C 216 d_M_step_200 rfl (fun z => absurd h6 z) (fun _ => ?_)
                refine vv_aload_n C d_M_step_203 rfl ?_
                refine vv_dup C d_M_step_204 rfl ?_
                refine g_M_place C d_M_step_205 ?_
                refine vv_iconst C (1) d_M_step_208 (by decide) ?_
                refine vv_iadd C d_M_step_209 ?_
                refine p_M_place C d_M_step_210 ?_
                refine vv_goto C 265 d_M_step_213 rfl ?_
                have hE : qStep t = (up2 t 37 0 ((t 37 0) + 1)) := by
                  unfold qStep
                  rw [if_neg hz]
                  unfold qStepA
                  first | rw [if_pos h2] | rw [if_neg h2] | rw [if_pos (by exact h2)] | rw [if_neg (by exact h2)] | rw [if_neg (by exact tf_f h2)]
                  unfold qStepB
                  first | rw [if_neg (by exact z_nle h3)] | rw [if_pos (by exact z_le h3)]
                  rw [qSR_eq]
                  unfold qSR qSQ qSP qSG
                  first | rw [if_pos h4] | rw [if_neg h4] | rw [if_pos (by exact h4)] | rw [if_neg (by exact h4)] | skip
                  first | rw [if_pos h5] | rw [if_neg h5] | rw [if_pos (by exact h5)] | rw [if_neg (by exact h5)] | skip
                  first | rw [if_pos h6] | rw [if_neg h6] | rw [if_pos (by exact h6)] | rw [if_neg (by exact h6)] | skip
                  first | rw [if_pos h10] | rw [if_neg h10] | rw [if_pos (by exact h10)] | rw [if_neg (by exact h10)] | skip
                  first | rw [if_pos h5] | rw [if_neg h5] | rw [if_pos (by exact h5)] | rw [if_neg (by exact h5)] | skip
                  first | rw [if_pos h6] | rw [if_neg h6] | rw [if_pos (by exact h6)] | rw [if_neg (by exact h6)] | skip
                  try rfl
                exact vv_vret C hr hlk rfl (by rw [hE] <;> rfl) d_M_step_265
              · skip
                refine vv_aload_n C d_M_step_170 rfl ?_
                refine vv_iconst C (0) d_M_step_171 (by decide) ?_
                refine vv_aload_n C d_M_step_172 rfl ?_
                refine g_M_second C d_M_step_173 ?_
                refine vv_iload_n C d_M_step_176 rfl ?_
                refine ld_M_second C hbK d_M_step_177 ?_
                refine cllM (rest := []) C (c_M_comes l Γ t false (t 8 (ix (qLinked t (t 27 (ix (t 26 0))) (t 37 0))))) cw_M_M_comes rfl rfl (Nat.le_of_ble_eq_true rfl) (by decide) (by decide) d_M_step_178 ?_
                refine vv_st (st' := []) rfl ?_
                refine vv_goto C 265 d_M_step_181 rfl ?_
                have hE : qStep t = (qComes t false (t 8 (ix (qLinked t (t 27 (ix (t 26 0))) (t 37 0))))) := by
                  unfold qStep
                  rw [if_neg hz]
                  unfold qStepA
                  first | rw [if_pos h2] | rw [if_neg h2] | rw [if_pos (by exact h2)] | rw [if_neg (by exact h2)] | rw [if_neg (by exact tf_f h2)]
                  unfold qStepB
                  first | rw [if_neg (by exact z_nle h3)] | rw [if_pos (by exact z_le h3)]
                  rw [qSR_eq]
                  unfold qSR qSQ qSP qSG
                  first | rw [if_pos h4] | rw [if_neg h4] | rw [if_pos (by exact h4)] | rw [if_neg (by exact h4)] | skip
                  first | rw [if_pos h5] | rw [if_neg h5] | rw [if_pos (by exact h5)] | rw [if_neg (by exact h5)] | skip
                  first | rw [if_pos h6] | rw [if_neg h6] | rw [if_pos (by exact h6)] | rw [if_neg (by exact h6)] | skip
                  first | rw [if_pos h10] | rw [if_neg h10] | rw [if_pos (by exact h10)] | rw [if_neg (by exact h10)] | skip
                  try rfl
                exact vv_vret C hr hlk rfl (by rw [hE] <;> rfl) d_M_step_265
          · skip
            refine vv_aload_n C d_M_step_120 rfl ?_
            refine g_M_x C d_M_step_121 ?_
            refine vv_aload_n C d_M_step_124 rfl ?_
            refine g_M_first C d_M_step_125 ?_
            refine vv_iload_n C d_M_step_128 rfl ?_
            refine ld_M_first C hbK d_M_step_129 ?_
            refine vv_icmp_ne C 147 d_M_step_130 rfl (fun h13 => ?_) (fun h13 => ?_)
            · skip
              refine vv_aload_n C d_M_step_147 rfl ?_
              refine g_M_kind C d_M_step_148 ?_
              refine vv_iload_n C d_M_step_151 rfl ?_
              refine ld_M_kind C hbK d_M_step_152 ?_
              refine vv_iconst C (2) d_M_step_153 (by decide) ?_
              refine vv_icmp_ne C 184 d_M_step_154 rfl (fun h14 => ?_) (fun h14 => ?_)
              · skip
                refine vv_aload_n C d_M_step_184 rfl ?_
                refine g_M_kind C d_M_step_185 ?_
                refine vv_iload_n C d_M_step_188 rfl ?_
                refine ld_M_kind C hbK d_M_step_189 ?_
                refine vv_if_eq C 203 d_M_step_190 rfl (fun _ => ?_) (fun z => absurd h5 z)
                refine vv_aload_n C d_M_step_203 rfl ?_
                refine vv_dup C d_M_step_204 rfl ?_
                refine g_M_place C d_M_step_205 ?_
                refine vv_iconst C (1) d_M_step_208 (by decide) ?_
                refine vv_iadd C d_M_step_209 ?_
                refine p_M_place C d_M_step_210 ?_
                refine vv_goto C 265 d_M_step_213 rfl ?_
                have hE : qStep t = (up2 t 37 0 ((t 37 0) + 1)) := by
                  unfold qStep
                  rw [if_neg hz]
                  unfold qStepA
                  first | rw [if_pos h2] | rw [if_neg h2] | rw [if_pos (by exact h2)] | rw [if_neg (by exact h2)] | rw [if_neg (by exact tf_f h2)]
                  unfold qStepB
                  first | rw [if_neg (by exact z_nle h3)] | rw [if_pos (by exact z_le h3)]
                  rw [qSR_eq]
                  unfold qSR qSQ qSP qSG
                  first | rw [if_pos h4] | rw [if_neg h4] | rw [if_pos (by exact h4)] | rw [if_neg (by exact h4)] | skip
                  first | rw [if_pos h5] | rw [if_neg h5] | rw [if_pos (by exact h5)] | rw [if_neg (by exact h5)] | skip
                  first | rw [if_pos h13] | rw [if_neg h13] | rw [if_pos (by exact h13)] | rw [if_neg (by exact h13)] | skip
                  first | rw [if_pos h14] | rw [if_neg h14] | rw [if_pos (by exact h14)] | rw [if_neg (by exact h14)] | skip
                  first | rw [if_pos h5] | rw [if_neg h5] | rw [if_pos (by exact h5)] | rw [if_neg (by exact h5)] | skip
                  try rfl
                exact vv_vret C hr hlk rfl (by rw [hE] <;> rfl) d_M_step_265
              · skip
                refine vv_aload_n C d_M_step_157 rfl ?_
                refine g_M_x C d_M_step_158 ?_
                refine vv_aload_n C d_M_step_161 rfl ?_
                refine g_M_first C d_M_step_162 ?_
                refine vv_iload_n C d_M_step_165 rfl ?_
                refine ld_M_first C hbK d_M_step_166 ?_
                refine vv_icmp_ge C 184 d_M_step_167 rfl (fun h16 => ?_) (fun h16 => ?_)
                · skip
                  refine vv_aload_n C d_M_step_184 rfl ?_
                  refine g_M_kind C d_M_step_185 ?_
                  refine vv_iload_n C d_M_step_188 rfl ?_
                  refine ld_M_kind C hbK d_M_step_189 ?_
                  refine vv_if_eq C 203 d_M_step_190 rfl (fun _ => ?_) (fun z => absurd h5 z)
                  refine vv_aload_n C d_M_step_203 rfl ?_
                  refine vv_dup C d_M_step_204 rfl ?_
                  refine g_M_place C d_M_step_205 ?_
                  refine vv_iconst C (1) d_M_step_208 (by decide) ?_
                  refine vv_iadd C d_M_step_209 ?_
                  refine p_M_place C d_M_step_210 ?_
                  refine vv_goto C 265 d_M_step_213 rfl ?_
                  have hE : qStep t = (up2 t 37 0 ((t 37 0) + 1)) := by
                    unfold qStep
                    rw [if_neg hz]
                    unfold qStepA
                    first | rw [if_pos h2] | rw [if_neg h2] | rw [if_pos (by exact h2)] | rw [if_neg (by exact h2)] | rw [if_neg (by exact tf_f h2)]
                    unfold qStepB
                    first | rw [if_neg (by exact z_nle h3)] | rw [if_pos (by exact z_le h3)]
                    rw [qSR_eq]
                    unfold qSR qSQ qSP qSG
                    first | rw [if_pos h4] | rw [if_neg h4] | rw [if_pos (by exact h4)] | rw [if_neg (by exact h4)] | skip
                    first | rw [if_pos h5] | rw [if_neg h5] | rw [if_pos (by exact h5)] | rw [if_neg (by exact h5)] | skip
                    first | rw [if_pos h13] | rw [if_neg h13] | rw [if_pos (by exact h13)] | rw [if_neg (by exact h13)] | skip
                    first | rw [if_pos h14] | rw [if_neg h14] | rw [if_pos (by exact h14)] | rw [if_neg (by exact h14)] | skip
                    first | rw [if_pos h16] | rw [if_neg h16] | rw [if_pos (by exact h16)] | rw [if_neg (by exact h16)] | skip
                    first | rw [if_pos h5] | rw [if_neg h5] | rw [if_pos (by exact h5)] | rw [if_neg (by exact h5)] | skip
                    try rfl
                  exact vv_vret C hr hlk rfl (by rw [hE] <;> rfl) d_M_step_265
                · skip
                  refine vv_aload_n C d_M_step_170 rfl ?_
                  refine vv_iconst C (0) d_M_step_171 (by decide) ?_
                  refine vv_aload_n C d_M_step_172 rfl ?_
                  refine g_M_second C d_M_step_173 ?_
                  refine vv_iload_n C d_M_step_176 rfl ?_
                  refine ld_M_second C hbK d_M_step_177 ?_
                  refine cllM (rest := []) C (c_M_comes l Γ t false (t 8 (ix (qLinked t (t 27 (ix (t 26 0))) (t 37 0))))) cw_M_M_comes rfl rfl (Nat.le_of_ble_eq_true rfl) (by decide) (by decide) d_M_step_178 ?_
                  refine vv_st (st' := []) rfl ?_
                  refine vv_goto C 265 d_M_step_181 rfl ?_
                  have hE : qStep t = (qComes t false (t 8 (ix (qLinked t (t 27 (ix (t 26 0))) (t 37 0))))) := by
                    unfold qStep
                    rw [if_neg hz]
                    unfold qStepA
                    first | rw [if_pos h2] | rw [if_neg h2] | rw [if_pos (by exact h2)] | rw [if_neg (by exact h2)] | rw [if_neg (by exact tf_f h2)]
                    unfold qStepB
                    first | rw [if_neg (by exact z_nle h3)] | rw [if_pos (by exact z_le h3)]
                    rw [qSR_eq]
                    unfold qSR qSQ qSP qSG
                    first | rw [if_pos h4] | rw [if_neg h4] | rw [if_pos (by exact h4)] | rw [if_neg (by exact h4)] | skip
                    first | rw [if_pos h5] | rw [if_neg h5] | rw [if_pos (by exact h5)] | rw [if_neg (by exact h5)] | skip
                    first | rw [if_pos h13] | rw [if_neg h13] | rw [if_pos (by exact h13)] | rw [if_neg (by exact h13)] | skip
                    first | rw [if_pos h14] | rw [if_neg h14] | rw [if_pos (by exact h14)] | rw [if_neg (by exact h14)] | skip
                    first | rw [if_pos h16] | rw [if_neg h16] | rw [if_pos (by exact h16)] | rw [if_neg (by exact h16)] | skip
                    try rfl
                  exact vv_vret C hr hlk rfl (by rw [hE] <;> rfl) d_M_step_265
            · skip
              refine vv_aload_n C d_M_step_133 rfl ?_
              refine vv_iconst C (1) d_M_step_134 (by decide) ?_
              refine vv_aload_n C d_M_step_135 rfl ?_
              refine g_M_second C d_M_step_136 ?_
              refine vv_iload_n C d_M_step_139 rfl ?_
              refine ld_M_second C hbK d_M_step_140 ?_
              refine cllM (rest := []) C (c_M_comes l Γ t true (t 8 (ix (qLinked t (t 27 (ix (t 26 0))) (t 37 0))))) cw_M_M_comes rfl rfl (Nat.le_of_ble_eq_true rfl) (by decide) (by decide) d_M_step_141 ?_
              refine vv_st (st' := []) rfl ?_
              refine vv_goto C 265 d_M_step_144 rfl ?_
              have hE : qStep t = (qComes t true (t 8 (ix (qLinked t (t 27 (ix (t 26 0))) (t 37 0))))) := by
                unfold qStep
                rw [if_neg hz]
                unfold qStepA
                first | rw [if_pos h2] | rw [if_neg h2] | rw [if_pos (by exact h2)] | rw [if_neg (by exact h2)] | rw [if_neg (by exact tf_f h2)]
                unfold qStepB
                first | rw [if_neg (by exact z_nle h3)] | rw [if_pos (by exact z_le h3)]
                rw [qSR_eq]
                unfold qSR qSQ qSP qSG
                first | rw [if_pos h4] | rw [if_neg h4] | rw [if_pos (by exact h4)] | rw [if_neg (by exact h4)] | skip
                first | rw [if_pos h5] | rw [if_neg h5] | rw [if_pos (by exact h5)] | rw [if_neg (by exact h5)] | skip
                first | rw [if_pos h13] | rw [if_neg h13] | rw [if_pos (by exact h13)] | rw [if_neg (by exact h13)] | skip
                try rfl
              exact vv_vret C hr hlk rfl (by rw [hE] <;> rfl) d_M_step_265
        · skip
          have hE : qStep t = t := by
            unfold qStep
            rw [if_neg hz]
            unfold qStepA
            first | rw [if_pos h2] | rw [if_neg h2] | rw [if_pos (by exact h2)] | rw [if_neg (by exact h2)] | rw [if_neg (by exact tf_f h2)]
            unfold qStepB
            first | rw [if_neg (by exact z_nle h3)] | rw [if_pos (by exact z_le h3)]
            rw [qSR_eq]
            unfold qSR qSQ qSP qSG
            first | rw [if_pos h4] | rw [if_neg h4] | rw [if_pos (by exact h4)] | rw [if_neg (by exact h4)] | skip
            try rfl
          exact vv_vret C hr hlk rfl (by rw [hE] <;> rfl) d_M_step_110
      · skip
        refine vv_aload_n C d_M_step_89 rfl ?_
        refine vv_aload_n C d_M_step_90 rfl ?_
        refine g_M_name C d_M_step_91 ?_
        refine vv_iload_n C d_M_step_94 rfl ?_
        refine ld_M_name C hbK d_M_step_95 ?_
        refine vv_aload_n C d_M_step_96 rfl ?_
        refine g_M_x C d_M_step_97 ?_
        refine cllM (rest := []) C (c_M_note l Γ t h19 (t 3 (ix (qLinked t (t 27 (ix (t 26 0))) (t 37 0)))) (t 38 0)) cw_M_M_note rfl rfl (Nat.le_of_ble_eq_true rfl) (by decide) (by decide) d_M_step_100 ?_
        refine vv_st (st' := []) rfl ?_
        refine vv_aload_n C d_M_step_103 rfl ?_
        refine g_M_broken C d_M_step_104 ?_
        refine vv_if_eq C 111 d_M_step_107 rfl (fun h18 => ?_) (fun h18 => ?_)
        · skip
          refine vv_aload_n C d_M_step_111 rfl ?_
          refine g_M_kind C d_M_step_112 ?_
          refine vv_iload_n C d_M_step_115 rfl ?_
          refine ld_M_kind C hbK d_M_step_116 ?_
          refine vv_if_ne C 147 d_M_step_117 rfl (fun h19 => ?_) (fun h19 => ?_)
          · skip
            refine vv_aload_n C d_M_step_147 rfl ?_
            refine g_M_kind C d_M_step_148 ?_
            refine vv_iload_n C d_M_step_151 rfl ?_
            refine ld_M_kind C hbK d_M_step_152 ?_
            refine vv_iconst C (2) d_M_step_153 (by decide) ?_
            refine vv_icmp_ne C 184 d_M_step_154 rfl (fun h20 => ?_) (fun h20 => ?_)
            · skip
              refine vv_aload_n C d_M_step_184 rfl ?_
              refine g_M_kind C d_M_step_185 ?_
              refine vv_iload_n C d_M_step_188 rfl ?_
              refine ld_M_kind C hbK d_M_step_189 ?_
              refine vv_if_eq C 203 d_M_step_190 rfl (fun z => absurd z h19) (fun _ => ?_)
              refine vv_aload_n C d_M_step_193 rfl ?_
              refine g_M_kind C d_M_step_194 ?_
              refine vv_iload_n C d_M_step_197 rfl ?_
              refine ld_M_kind C hbK d_M_step_198 ?_
              refine vv_iconst C (2) d_M_step_199 (by decide) ?_
              refine vv_icmp_ne C 216 d_M_step_200 rfl (fun _ => ?_) (fun z => absurd z h20)
              refine vv_aload_n C d_M_step_216 rfl ?_
              refine vv_aload_n C d_M_step_217 rfl ?_
              refine g_M_kind C d_M_step_218 ?_
              refine vv_iload_n C d_M_step_221 rfl ?_
              refine ld_M_kind C hbK d_M_step_222 ?_
              refine vv_iload_n C d_M_step_223 rfl ?_
              refine cllM (rest := []) C (c_M_await l Γ (qNote t (t 3 (ix (qLinked t (t 27 (ix (t 26 0))) (t 37 0)))) (t 38 0)) (vp_nt hb29) ((qNote t (t 3 (ix (qLinked t (t 27 (ix (t 26 0))) (t 37 0)))) (t 38 0)) 4 (ix (qLinked t (t 27 (ix (t 26 0))) (t 37 0)))) (qLinked t (t 27 (ix (t 26 0))) (t 37 0))) cw_M_M_await rfl rfl (Nat.le_of_ble_eq_true rfl) (by decide) (by decide) d_M_step_224 ?_
              refine vv_st (st' := []) rfl ?_
              refine vv_aload_n C d_M_step_227 rfl ?_
              refine vv_aload_n C d_M_step_228 rfl ?_
              refine g_M_place C d_M_step_229 ?_
              refine vv_iconst C (1) d_M_step_232 (by decide) ?_
              refine vv_iadd C d_M_step_233 ?_
              refine vv_aload_n C d_M_step_234 rfl ?_
              refine g_M_kind C d_M_step_235 ?_
              refine vv_iload_n C d_M_step_238 rfl ?_
              refine ld_M_kind C hbK d_M_step_239 ?_
              refine vv_iconst C (1) d_M_step_240 (by decide) ?_
              refine vv_icmp_ne C 258 d_M_step_241 rfl (fun h23 => ?_) (fun h23 => ?_)
              · skip
                refine vv_aload_n C d_M_step_258 rfl ?_
                refine g_M_x C d_M_step_259 ?_
                refine cllM (rest := []) C (c_M_go l Γ (qAwait (qNote t (t 3 (ix (qLinked t (t 27 (ix (t 26 0))) (t 37 0)))) (t 38 0)) ((qNote t (t 3 (ix (qLinked t (t 27 (ix (t 26 0))) (t 37 0)))) (t 38 0)) 4 (ix (qLinked t (t 27 (ix (t 26 0))) (t 37 0)))) (qLinked t (t 27 (ix (t 26 0))) (t 37 0))) (((qAwait (qNote t (t 3 (ix (qLinked t (t 27 (ix (t 26 0))) (t 37 0)))) (t 38 0)) ((qNote t (t 3 (ix (qLinked t (t 27 (ix (t 26 0))) (t 37 0)))) (t 38 0)) 4 (ix (qLinked t (t 27 (ix (t 26 0))) (t 37 0)))) (qLinked t (t 27 (ix (t 26 0))) (t 37 0))) 37 0) + 1) ((qAwait (qNote t (t 3 (ix (qLinked t (t 27 (ix (t 26 0))) (t 37 0)))) (t 38 0)) ((qNote t (t 3 (ix (qLinked t (t 27 (ix (t 26 0))) (t 37 0)))) (t 38 0)) 4 (ix (qLinked t (t 27 (ix (t 26 0))) (t 37 0)))) (qLinked t (t 27 (ix (t 26 0))) (t 37 0))) 38 0)) cw_M_M_go rfl rfl (Nat.le_of_ble_eq_true rfl) (by decide) (by decide) d_M_step_262 ?_
                refine vv_st (st' := []) rfl ?_
                have hE : qStep t = (qGo (qAwait (qNote t (t 3 (ix (qLinked t (t 27 (ix (t 26 0))) (t 37 0)))) (t 38 0)) ((qNote t (t 3 (ix (qLinked t (t 27 (ix (t 26 0))) (t 37 0)))) (t 38 0)) 4 (ix (qLinked t (t 27 (ix (t 26 0))) (t 37 0)))) (qLinked t (t 27 (ix (t 26 0))) (t 37 0))) (((qAwait (qNote t (t 3 (ix (qLinked t (t 27 (ix (t 26 0))) (t 37 0)))) (t 38 0)) ((qNote t (t 3 (ix (qLinked t (t 27 (ix (t 26 0))) (t 37 0)))) (t 38 0)) 4 (ix (qLinked t (t 27 (ix (t 26 0))) (t 37 0)))) (qLinked t (t 27 (ix (t 26 0))) (t 37 0))) 37 0) + 1) ((qAwait (qNote t (t 3 (ix (qLinked t (t 27 (ix (t 26 0))) (t 37 0)))) (t 38 0)) ((qNote t (t 3 (ix (qLinked t (t 27 (ix (t 26 0))) (t 37 0)))) (t 38 0)) 4 (ix (qLinked t (t 27 (ix (t 26 0))) (t 37 0)))) (qLinked t (t 27 (ix (t 26 0))) (t 37 0))) 38 0)) := by
                  unfold qStep
                  rw [if_neg hz]
                  unfold qStepA
                  first | rw [if_pos h2] | rw [if_neg h2] | rw [if_pos (by exact h2)] | rw [if_neg (by exact h2)] | rw [if_neg (by exact tf_f h2)]
                  unfold qStepB
                  first | rw [if_neg (by exact z_nle h3)] | rw [if_pos (by exact z_le h3)]
                  rw [qSR_eq]
                  unfold qSR qSQ qSP qSG
                  first | rw [if_pos h18] | rw [if_neg h18] | rw [if_pos (by exact h18)] | rw [if_neg (by exact h18)] | skip
                  first | rw [if_pos h19] | rw [if_neg h19] | rw [if_pos (by exact h19)] | rw [if_neg (by exact h19)] | skip
                  first | rw [if_pos h20] | rw [if_neg h20] | rw [if_pos (by exact h20)] | rw [if_neg (by exact h20)] | skip
                  first | rw [if_pos h19] | rw [if_neg h19] | rw [if_pos (by exact h19)] | rw [if_neg (by exact h19)] | skip
                  first | rw [if_pos h20] | rw [if_neg h20] | rw [if_pos (by exact h20)] | rw [if_neg (by exact h20)] | skip
                  first | rw [if_pos h23] | rw [if_neg h23] | rw [if_pos (by exact h23)] | rw [if_neg (by exact h23)] | skip
                  try rfl
                exact vv_vret C hr hlk rfl (by rw [hE] <;> rfl) d_M_step_265
              · skip
                refine vv_aload_n C d_M_step_244 rfl ?_
                refine g_M_x C d_M_step_245 ?_
                refine vv_aload_n C d_M_step_248 rfl ?_
                refine g_M_first C d_M_step_249 ?_
                refine vv_iload_n C d_M_step_252 rfl ?_
                refine ld_M_first C hbK d_M_step_253 ?_
                refine vv_iadd C d_M_step_254 ?_
                refine vv_goto C 262 d_M_step_255 rfl ?_
                refine cllM (rest := []) C (c_M_go l Γ (qAwait (qNote t (t 3 (ix (qLinked t (t 27 (ix (t 26 0))) (t 37 0)))) (t 38 0)) ((qNote t (t 3 (ix (qLinked t (t 27 (ix (t 26 0))) (t 37 0)))) (t 38 0)) 4 (ix (qLinked t (t 27 (ix (t 26 0))) (t 37 0)))) (qLinked t (t 27 (ix (t 26 0))) (t 37 0))) (((qAwait (qNote t (t 3 (ix (qLinked t (t 27 (ix (t 26 0))) (t 37 0)))) (t 38 0)) ((qNote t (t 3 (ix (qLinked t (t 27 (ix (t 26 0))) (t 37 0)))) (t 38 0)) 4 (ix (qLinked t (t 27 (ix (t 26 0))) (t 37 0)))) (qLinked t (t 27 (ix (t 26 0))) (t 37 0))) 37 0) + 1) (((qAwait (qNote t (t 3 (ix (qLinked t (t 27 (ix (t 26 0))) (t 37 0)))) (t 38 0)) ((qNote t (t 3 (ix (qLinked t (t 27 (ix (t 26 0))) (t 37 0)))) (t 38 0)) 4 (ix (qLinked t (t 27 (ix (t 26 0))) (t 37 0)))) (qLinked t (t 27 (ix (t 26 0))) (t 37 0))) 38 0) + ((qAwait (qNote t (t 3 (ix (qLinked t (t 27 (ix (t 26 0))) (t 37 0)))) (t 38 0)) ((qNote t (t 3 (ix (qLinked t (t 27 (ix (t 26 0))) (t 37 0)))) (t 38 0)) 4 (ix (qLinked t (t 27 (ix (t 26 0))) (t 37 0)))) (qLinked t (t 27 (ix (t 26 0))) (t 37 0))) 7 (ix (qLinked t (t 27 (ix (t 26 0))) (t 37 0)))))) cw_M_M_go rfl rfl (Nat.le_of_ble_eq_true rfl) (by decide) (by decide) d_M_step_262 ?_
                refine vv_st (st' := []) rfl ?_
                have hE : qStep t = (qGo (qAwait (qNote t (t 3 (ix (qLinked t (t 27 (ix (t 26 0))) (t 37 0)))) (t 38 0)) ((qNote t (t 3 (ix (qLinked t (t 27 (ix (t 26 0))) (t 37 0)))) (t 38 0)) 4 (ix (qLinked t (t 27 (ix (t 26 0))) (t 37 0)))) (qLinked t (t 27 (ix (t 26 0))) (t 37 0))) (((qAwait (qNote t (t 3 (ix (qLinked t (t 27 (ix (t 26 0))) (t 37 0)))) (t 38 0)) ((qNote t (t 3 (ix (qLinked t (t 27 (ix (t 26 0))) (t 37 0)))) (t 38 0)) 4 (ix (qLinked t (t 27 (ix (t 26 0))) (t 37 0)))) (qLinked t (t 27 (ix (t 26 0))) (t 37 0))) 37 0) + 1) (((qAwait (qNote t (t 3 (ix (qLinked t (t 27 (ix (t 26 0))) (t 37 0)))) (t 38 0)) ((qNote t (t 3 (ix (qLinked t (t 27 (ix (t 26 0))) (t 37 0)))) (t 38 0)) 4 (ix (qLinked t (t 27 (ix (t 26 0))) (t 37 0)))) (qLinked t (t 27 (ix (t 26 0))) (t 37 0))) 38 0) + ((qAwait (qNote t (t 3 (ix (qLinked t (t 27 (ix (t 26 0))) (t 37 0)))) (t 38 0)) ((qNote t (t 3 (ix (qLinked t (t 27 (ix (t 26 0))) (t 37 0)))) (t 38 0)) 4 (ix (qLinked t (t 27 (ix (t 26 0))) (t 37 0)))) (qLinked t (t 27 (ix (t 26 0))) (t 37 0))) 7 (ix (qLinked t (t 27 (ix (t 26 0))) (t 37 0)))))) := by
                  unfold qStep
                  rw [if_neg hz]
                  unfold qStepA
                  first | rw [if_pos h2] | rw [if_neg h2] | rw [if_pos (by exact h2)] | rw [if_neg (by exact h2)] | rw [if_neg (by exact tf_f h2)]
                  unfold qStepB
                  first | rw [if_neg (by exact z_nle h3)] | rw [if_pos (by exact z_le h3)]
                  rw [qSR_eq]
                  unfold qSR qSQ qSP qSG
                  first | rw [if_pos h18] | rw [if_neg h18] | rw [if_pos (by exact h18)] | rw [if_neg (by exact h18)] | skip
                  first | rw [if_pos h19] | rw [if_neg h19] | rw [if_pos (by exact h19)] | rw [if_neg (by exact h19)] | skip
                  first | rw [if_pos h20] | rw [if_neg h20] | rw [if_pos (by exact h20)] | rw [if_neg (by exact h20)] | skip
                  first | rw [if_pos h19] | rw [if_neg h19] | rw [if_pos (by exact h19)] | rw [if_neg (by exact h19)] | skip
                  first | rw [if_pos h20] | rw [if_neg h20] | rw [if_pos (by exact h20)] | rw [if_neg (by exact h20)] | skip
                  first | rw [if_pos h23] | rw [if_neg h23] | rw [if_pos (by exact h23)] | rw [if_neg (by exact h23)] | skip
                  try rfl
                exact vv_vret C hr hlk rfl (by rw [hE] <;> rfl) d_M_step_265
            · skip
              refine vv_aload_n C d_M_step_157 rfl ?_
              refine g_M_x C d_M_step_158 ?_
              refine vv_aload_n C d_M_step_161 rfl ?_
              refine g_M_first C d_M_step_162 ?_
              refine vv_iload_n C d_M_step_165 rfl ?_
              refine ld_M_first C hbK d_M_step_166 ?_
              refine vv_icmp_ge C 184 d_M_step_167 rfl (fun h24 => ?_) (fun h24 => ?_)
              · skip
                refine vv_aload_n C d_M_step_184 rfl ?_
                refine g_M_kind C d_M_step_185 ?_
                refine vv_iload_n C d_M_step_188 rfl ?_
                refine ld_M_kind C hbK d_M_step_189 ?_
                refine vv_if_eq C 203 d_M_step_190 rfl (fun z => absurd z h19) (fun _ => ?_)
                refine vv_aload_n C d_M_step_193 rfl ?_
                refine g_M_kind C d_M_step_194 ?_
                refine vv_iload_n C d_M_step_197 rfl ?_
                refine ld_M_kind C hbK d_M_step_198 ?_
                refine vv_iconst C (2) d_M_step_199 (by decide) ?_
                refine vv_icmp_ne C 216 d_M_step_200 rfl (fun z => absurd h20 z) (fun _ => ?_)
                refine vv_aload_n C d_M_step_203 rfl ?_
                refine vv_dup C d_M_step_204 rfl ?_
                refine g_M_place C d_M_step_205 ?_
                refine vv_iconst C (1) d_M_step_208 (by decide) ?_
                refine vv_iadd C d_M_step_209 ?_
                refine p_M_place C d_M_step_210 ?_
                refine vv_goto C 265 d_M_step_213 rfl ?_
                have hE : qStep t = (up2 (qNote t (t 3 (ix (qLinked t (t 27 (ix (t 26 0))) (t 37 0)))) (t 38 0)) 37 0 (((qNote t (t 3 (ix (qLinked t (t 27 (ix (t 26 0))) (t 37 0)))) (t 38 0)) 37 0) + 1)) := by
                  unfold qStep
                  rw [if_neg hz]
                  unfold qStepA
                  first | rw [if_pos h2] | rw [if_neg h2] | rw [if_pos (by exact h2)] | rw [if_neg (by exact h2)] | rw [if_neg (by exact tf_f h2)]
                  unfold qStepB
                  first | rw [if_neg (by exact z_nle h3)] | rw [if_pos (by exact z_le h3)]
                  rw [qSR_eq]
                  unfold qSR qSQ qSP qSG
                  first | rw [if_pos h18] | rw [if_neg h18] | rw [if_pos (by exact h18)] | rw [if_neg (by exact h18)] | skip
                  first | rw [if_pos h19] | rw [if_neg h19] | rw [if_pos (by exact h19)] | rw [if_neg (by exact h19)] | skip
                  first | rw [if_pos h20] | rw [if_neg h20] | rw [if_pos (by exact h20)] | rw [if_neg (by exact h20)] | skip
                  first | rw [if_pos h24] | rw [if_neg h24] | rw [if_pos (by exact h24)] | rw [if_neg (by exact h24)] | skip
                  first | rw [if_pos h19] | rw [if_neg h19] | rw [if_pos (by exact h19)] | rw [if_neg (by exact h19)] | skip
                  first | rw [if_pos h20] | rw [if_neg h20] | rw [if_pos (by exact h20)] | rw [if_neg (by exact h20)] | skip
                  try rfl
                exact vv_vret C hr hlk rfl (by rw [hE] <;> rfl) d_M_step_265
              · skip
                refine vv_aload_n C d_M_step_170 rfl ?_
                refine vv_iconst C (0) d_M_step_171 (by decide) ?_
                refine vv_aload_n C d_M_step_172 rfl ?_
                refine g_M_second C d_M_step_173 ?_
                refine vv_iload_n C d_M_step_176 rfl ?_
                refine ld_M_second C hbK d_M_step_177 ?_
                refine cllM (rest := []) C (c_M_comes l Γ (qNote t (t 3 (ix (qLinked t (t 27 (ix (t 26 0))) (t 37 0)))) (t 38 0)) false ((qNote t (t 3 (ix (qLinked t (t 27 (ix (t 26 0))) (t 37 0)))) (t 38 0)) 8 (ix (qLinked t (t 27 (ix (t 26 0))) (t 37 0))))) cw_M_M_comes rfl rfl (Nat.le_of_ble_eq_true rfl) (by decide) (by decide) d_M_step_178 ?_
                refine vv_st (st' := []) rfl ?_
                refine vv_goto C 265 d_M_step_181 rfl ?_
                have hE : qStep t = (qComes (qNote t (t 3 (ix (qLinked t (t 27 (ix (t 26 0))) (t 37 0)))) (t 38 0)) false ((qNote t (t 3 (ix (qLinked t (t 27 (ix (t 26 0))) (t 37 0)))) (t 38 0)) 8 (ix (qLinked t (t 27 (ix (t 26 0))) (t 37 0))))) := by
                  unfold qStep
                  rw [if_neg hz]
                  unfold qStepA
                  first | rw [if_pos h2] | rw [if_neg h2] | rw [if_pos (by exact h2)] | rw [if_neg (by exact h2)] | rw [if_neg (by exact tf_f h2)]
                  unfold qStepB
                  first | rw [if_neg (by exact z_nle h3)] | rw [if_pos (by exact z_le h3)]
                  rw [qSR_eq]
                  unfold qSR qSQ qSP qSG
                  first | rw [if_pos h18] | rw [if_neg h18] | rw [if_pos (by exact h18)] | rw [if_neg (by exact h18)] | skip
                  first | rw [if_pos h19] | rw [if_neg h19] | rw [if_pos (by exact h19)] | rw [if_neg (by exact h19)] | skip
                  first | rw [if_pos h20] | rw [if_neg h20] | rw [if_pos (by exact h20)] | rw [if_neg (by exact h20)] | skip
                  first | rw [if_pos h24] | rw [if_neg h24] | rw [if_pos (by exact h24)] | rw [if_neg (by exact h24)] | skip
                  try rfl
                exact vv_vret C hr hlk rfl (by rw [hE] <;> rfl) d_M_step_265
          · skip
            refine vv_aload_n C d_M_step_120 rfl ?_
            refine g_M_x C d_M_step_121 ?_
            refine vv_aload_n C d_M_step_124 rfl ?_
            refine g_M_first C d_M_step_125 ?_
            refine vv_iload_n C d_M_step_128 rfl ?_
            refine ld_M_first C hbK d_M_step_129 ?_
            refine vv_icmp_ne C 147 d_M_step_130 rfl (fun h27 => ?_) (fun h27 => ?_)
            · skip
              refine vv_aload_n C d_M_step_147 rfl ?_
              refine g_M_kind C d_M_step_148 ?_
              refine vv_iload_n C d_M_step_151 rfl ?_
              refine ld_M_kind C hbK d_M_step_152 ?_
              refine vv_iconst C (2) d_M_step_153 (by decide) ?_
              refine vv_icmp_ne C 184 d_M_step_154 rfl (fun h28 => ?_) (fun h28 => ?_)
              · skip
                refine vv_aload_n C d_M_step_184 rfl ?_
                refine g_M_kind C d_M_step_185 ?_
                refine vv_iload_n C d_M_step_188 rfl ?_
                refine ld_M_kind C hbK d_M_step_189 ?_
                refine vv_if_eq C 203 d_M_step_190 rfl (fun _ => ?_) (fun z => absurd h19 z)
                refine vv_aload_n C d_M_step_203 rfl ?_
                refine vv_dup C d_M_step_204 rfl ?_
                refine g_M_place C d_M_step_205 ?_
                refine vv_iconst C (1) d_M_step_208 (by decide) ?_
                refine vv_iadd C d_M_step_209 ?_
                refine p_M_place C d_M_step_210 ?_
                refine vv_goto C 265 d_M_step_213 rfl ?_
                have hE : qStep t = (up2 (qNote t (t 3 (ix (qLinked t (t 27 (ix (t 26 0))) (t 37 0)))) (t 38 0)) 37 0 (((qNote t (t 3 (ix (qLinked t (t 27 (ix (t 26 0))) (t 37 0)))) (t 38 0)) 37 0) + 1)) := by
                  unfold qStep
                  rw [if_neg hz]
                  unfold qStepA
                  first | rw [if_pos h2] | rw [if_neg h2] | rw [if_pos (by exact h2)] | rw [if_neg (by exact h2)] | rw [if_neg (by exact tf_f h2)]
                  unfold qStepB
                  first | rw [if_neg (by exact z_nle h3)] | rw [if_pos (by exact z_le h3)]
                  rw [qSR_eq]
                  unfold qSR qSQ qSP qSG
                  first | rw [if_pos h18] | rw [if_neg h18] | rw [if_pos (by exact h18)] | rw [if_neg (by exact h18)] | skip
                  first | rw [if_pos h19] | rw [if_neg h19] | rw [if_pos (by exact h19)] | rw [if_neg (by exact h19)] | skip
                  first | rw [if_pos h27] | rw [if_neg h27] | rw [if_pos (by exact h27)] | rw [if_neg (by exact h27)] | skip
                  first | rw [if_pos h28] | rw [if_neg h28] | rw [if_pos (by exact h28)] | rw [if_neg (by exact h28)] | skip
                  first | rw [if_pos h19] | rw [if_neg h19] | rw [if_pos (by exact h19)] | rw [if_neg (by exact h19)] | skip
                  try rfl
                exact vv_vret C hr hlk rfl (by rw [hE] <;> rfl) d_M_step_265
              · skip
                refine vv_aload_n C d_M_step_157 rfl ?_
                refine g_M_x C d_M_step_158 ?_
                refine vv_aload_n C d_M_step_161 rfl ?_
                refine g_M_first C d_M_step_162 ?_
                refine vv_iload_n C d_M_step_165 rfl ?_
                refine ld_M_first C hbK d_M_step_166 ?_
                refine vv_icmp_ge C 184 d_M_step_167 rfl (fun h30 => ?_) (fun h30 => ?_)
                · skip
                  refine vv_aload_n C d_M_step_184 rfl ?_
                  refine g_M_kind C d_M_step_185 ?_
                  refine vv_iload_n C d_M_step_188 rfl ?_
                  refine ld_M_kind C hbK d_M_step_189 ?_
                  refine vv_if_eq C 203 d_M_step_190 rfl (fun _ => ?_) (fun z => absurd h19 z)
                  refine vv_aload_n C d_M_step_203 rfl ?_
                  refine vv_dup C d_M_step_204 rfl ?_
                  refine g_M_place C d_M_step_205 ?_
                  refine vv_iconst C (1) d_M_step_208 (by decide) ?_
                  refine vv_iadd C d_M_step_209 ?_
                  refine p_M_place C d_M_step_210 ?_
                  refine vv_goto C 265 d_M_step_213 rfl ?_
                  have hE : qStep t = (up2 (qNote t (t 3 (ix (qLinked t (t 27 (ix (t 26 0))) (t 37 0)))) (t 38 0)) 37 0 (((qNote t (t 3 (ix (qLinked t (t 27 (ix (t 26 0))) (t 37 0)))) (t 38 0)) 37 0) + 1)) := by
                    unfold qStep
                    rw [if_neg hz]
                    unfold qStepA
                    first | rw [if_pos h2] | rw [if_neg h2] | rw [if_pos (by exact h2)] | rw [if_neg (by exact h2)] | rw [if_neg (by exact tf_f h2)]
                    unfold qStepB
                    first | rw [if_neg (by exact z_nle h3)] | rw [if_pos (by exact z_le h3)]
                    rw [qSR_eq]
                    unfold qSR qSQ qSP qSG
                    first | rw [if_pos h18] | rw [if_neg h18] | rw [if_pos (by exact h18)] | rw [if_neg (by exact h18)] | skip
                    first | rw [if_pos h19] | rw [if_neg h19] | rw [if_pos (by exact h19)] | rw [if_neg (by exact h19)] | skip
                    first | rw [if_pos h27] | rw [if_neg h27] | rw [if_pos (by exact h27)] | rw [if_neg (by exact h27)] | skip
                    first | rw [if_pos h28] | rw [if_neg h28] | rw [if_pos (by exact h28)] | rw [if_neg (by exact h28)] | skip
                    first | rw [if_pos h30] | rw [if_neg h30] | rw [if_pos (by exact h30)] | rw [if_neg (by exact h30)] | skip
                    first | rw [if_pos h19] | rw [if_neg h19] | rw [if_pos (by exact h19)] | rw [if_neg (by exact h19)] | skip
                    try rfl
                  exact vv_vret C hr hlk rfl (by rw [hE] <;> rfl) d_M_step_265
                · skip
                  refine vv_aload_n C d_M_step_170 rfl ?_
                  refine vv_iconst C (0) d_M_step_171 (by decide) ?_
                  refine vv_aload_n C d_M_step_172 rfl ?_
                  refine g_M_second C d_M_step_173 ?_
                  refine vv_iload_n C d_M_step_176 rfl ?_
                  refine ld_M_second C hbK d_M_step_177 ?_
                  refine cllM (rest := []) C (c_M_comes l Γ (qNote t (t 3 (ix (qLinked t (t 27 (ix (t 26 0))) (t 37 0)))) (t 38 0)) false ((qNote t (t 3 (ix (qLinked t (t 27 (ix (t 26 0))) (t 37 0)))) (t 38 0)) 8 (ix (qLinked t (t 27 (ix (t 26 0))) (t 37 0))))) cw_M_M_comes rfl rfl (Nat.le_of_ble_eq_true rfl) (by decide) (by decide) d_M_step_178 ?_
                  refine vv_st (st' := []) rfl ?_
                  refine vv_goto C 265 d_M_step_181 rfl ?_
                  have hE : qStep t = (qComes (qNote t (t 3 (ix (qLinked t (t 27 (ix (t 26 0))) (t 37 0)))) (t 38 0)) false ((qNote t (t 3 (ix (qLinked t (t 27 (ix (t 26 0))) (t 37 0)))) (t 38 0)) 8 (ix (qLinked t (t 27 (ix (t 26 0))) (t 37 0))))) := by
                    unfold qStep
                    rw [if_neg hz]
                    unfold qStepA
                    first | rw [if_pos h2] | rw [if_neg h2] | rw [if_pos (by exact h2)] | rw [if_neg (by exact h2)] | rw [if_neg (by exact tf_f h2)]
                    unfold qStepB
                    first | rw [if_neg (by exact z_nle h3)] | rw [if_pos (by exact z_le h3)]
                    rw [qSR_eq]
                    unfold qSR qSQ qSP qSG
                    first | rw [if_pos h18] | rw [if_neg h18] | rw [if_pos (by exact h18)] | rw [if_neg (by exact h18)] | skip
                    first | rw [if_pos h19] | rw [if_neg h19] | rw [if_pos (by exact h19)] | rw [if_neg (by exact h19)] | skip
                    first | rw [if_pos h27] | rw [if_neg h27] | rw [if_pos (by exact h27)] | rw [if_neg (by exact h27)] | skip
                    first | rw [if_pos h28] | rw [if_neg h28] | rw [if_pos (by exact h28)] | rw [if_neg (by exact h28)] | skip
                    first | rw [if_pos h30] | rw [if_neg h30] | rw [if_pos (by exact h30)] | rw [if_neg (by exact h30)] | skip
                    try rfl
                  exact vv_vret C hr hlk rfl (by rw [hE] <;> rfl) d_M_step_265
            · skip
              refine vv_aload_n C d_M_step_133 rfl ?_
              refine vv_iconst C (1) d_M_step_134 (by decide) ?_
              refine vv_aload_n C d_M_step_135 rfl ?_
              refine g_M_second C d_M_step_136 ?_
              refine vv_iload_n C d_M_step_139 rfl ?_
              refine ld_M_second C hbK d_M_step_140 ?_
              refine cllM (rest := []) C (c_M_comes l Γ (qNote t (t 3 (ix (qLinked t (t 27 (ix (t 26 0))) (t 37 0)))) (t 38 0)) true ((qNote t (t 3 (ix (qLinked t (t 27 (ix (t 26 0))) (t 37 0)))) (t 38 0)) 8 (ix (qLinked t (t 27 (ix (t 26 0))) (t 37 0))))) cw_M_M_comes rfl rfl (Nat.le_of_ble_eq_true rfl) (by decide) (by decide) d_M_step_141 ?_
              refine vv_st (st' := []) rfl ?_
              refine vv_goto C 265 d_M_step_144 rfl ?_
              have hE : qStep t = (qComes (qNote t (t 3 (ix (qLinked t (t 27 (ix (t 26 0))) (t 37 0)))) (t 38 0)) true ((qNote t (t 3 (ix (qLinked t (t 27 (ix (t 26 0))) (t 37 0)))) (t 38 0)) 8 (ix (qLinked t (t 27 (ix (t 26 0))) (t 37 0))))) := by
                unfold qStep
                rw [if_neg hz]
                unfold qStepA
                first | rw [if_pos h2] | rw [if_neg h2] | rw [if_pos (by exact h2)] | rw [if_neg (by exact h2)] | rw [if_neg (by exact tf_f h2)]
                unfold qStepB
                first | rw [if_neg (by exact z_nle h3)] | rw [if_pos (by exact z_le h3)]
                rw [qSR_eq]
                unfold qSR qSQ qSP qSG
                first | rw [if_pos h18] | rw [if_neg h18] | rw [if_pos (by exact h18)] | rw [if_neg (by exact h18)] | skip
                first | rw [if_pos h19] | rw [if_neg h19] | rw [if_pos (by exact h19)] | rw [if_neg (by exact h19)] | skip
                first | rw [if_pos h27] | rw [if_neg h27] | rw [if_pos (by exact h27)] | rw [if_neg (by exact h27)] | skip
                try rfl
              exact vv_vret C hr hlk rfl (by rw [hE] <;> rfl) d_M_step_265
        · skip
          have hE : qStep t = (qNote t (t 3 (ix (qLinked t (t 27 (ix (t 26 0))) (t 37 0)))) (t 38 0)) := by
            unfold qStep
            rw [if_neg hz]
            unfold qStepA
            first | rw [if_pos h2] | rw [if_neg h2] | rw [if_pos (by exact h2)] | rw [if_neg (by exact h2)] | rw [if_neg (by exact tf_f h2)]
            unfold qStepB
            first | rw [if_neg (by exact z_nle h3)] | rw [if_pos (by exact z_le h3)]
            rw [qSR_eq]
            unfold qSR qSQ qSP qSG
            first | rw [if_pos h18] | rw [if_neg h18] | rw [if_pos (by exact h18)] | rw [if_neg (by exact h18)] | skip
            try rfl
          exact vv_vret C hr hlk rfl (by rw [hE] <;> rfl) d_M_step_110
    · skip
      refine vv_aload_n C d_M_step_36 rfl ?_
      refine vv_dup C d_M_step_37 rfl ?_
      refine g_M_askedCount C d_M_step_38 ?_
      refine vv_iconst C (1) d_M_step_41 (by decide) ?_
      refine vv_iadd C d_M_step_42 ?_
      refine p_M_askedCount C d_M_step_43 ?_
      refine vv_aload_n C d_M_step_46 rfl ?_
      refine g_M_x C d_M_step_47 ?_
      refine vv_aload_n C d_M_step_50 rfl ?_
      refine g_M_low C d_M_step_51 ?_
      refine vv_iload_n C d_M_step_54 rfl ?_
      refine ld_M_low C hbK d_M_step_55 ?_
      refine vv_aload_n C d_M_step_56 rfl ?_
      refine g_M_high C d_M_step_57 ?_
      refine vv_iload_n C d_M_step_60 rfl ?_
      refine ld_M_high C hbK d_M_step_61 ?_
      refine cllMS (rest := []) C (c_M_within l Γ (up2 t 22 0 ((t 22 0) + 1)) ((up2 t 22 0 ((t 22 0) + 1)) 38 0) ((up2 t 22 0 ((t 22 0) + 1)) 10 (ix (qLinked t (t 27 (ix (t 26 0))) (t 37 0)))) ((up2 t 22 0 ((t 22 0) + 1)) 11 (ix (qLinked t (t 27 (ix (t 26 0))) (t 37 0))))) cw_M_M_within rfl rfl (Nat.le_of_ble_eq_true rfl) (by decide) (by decide) d_M_step_62 ?_
      refine vv_st (st' := [.int (bI (qWithin ((up2 t 22 0 ((t 22 0) + 1)) 38 0) ((up2 t 22 0 ((t 22 0) + 1)) 10 (ix (qLinked t (t 27 (ix (t 26 0))) (t 37 0)))) ((up2 t 22 0 ((t 22 0) + 1)) 11 (ix (qLinked t (t 27 (ix (t 26 0))) (t 37 0))))))]) rfl ?_
      refine vv_if_ne C 79 d_M_step_65 rfl (fun h32 => ?_) (fun h32 => ?_)
      · skip
        replace h32 := bI_t h32
        refine vv_aload_n C d_M_step_79 rfl ?_
        refine g_M_kind C d_M_step_80 ?_
        refine vv_iload_n C d_M_step_83 rfl ?_
        refine ld_M_kind C hbK d_M_step_84 ?_
        refine vv_iconst C (3) d_M_step_85 (by decide) ?_
        refine vv_icmp_gt C 103 d_M_step_86 rfl (fun h33 => ?_) (fun h33 => ?_)
        · skip
          refine vv_aload_n C d_M_step_103 rfl ?_
          refine g_M_broken C d_M_step_104 ?_
          refine vv_if_eq C 111 d_M_step_107 rfl (fun h34 => ?_) (fun h34 => ?_)
          · skip
            refine vv_aload_n C d_M_step_111 rfl ?_
            refine g_M_kind C d_M_step_112 ?_
            refine vv_iload_n C d_M_step_115 rfl ?_
            refine ld_M_kind C hbK d_M_step_116 ?_
            refine vv_if_ne C 147 d_M_step_117 rfl (fun h35 => ?_) (fun h35 => ?_)
            · skip
              refine vv_aload_n C d_M_step_147 rfl ?_
              refine g_M_kind C d_M_step_148 ?_
              refine vv_iload_n C d_M_step_151 rfl ?_
              refine ld_M_kind C hbK d_M_step_152 ?_
              refine vv_iconst C (2) d_M_step_153 (by decide) ?_
              refine vv_icmp_ne C 184 d_M_step_154 rfl (fun h36 => ?_) (fun h36 => ?_)
              · skip
                refine vv_aload_n C d_M_step_184 rfl ?_
                refine g_M_kind C d_M_step_185 ?_
                refine vv_iload_n C d_M_step_188 rfl ?_
                refine ld_M_kind C hbK d_M_step_189 ?_
                refine vv_if_eq C 203 d_M_step_190 rfl (fun z => absurd z h35) (fun _ => ?_)
                refine vv_aload_n C d_M_step_193 rfl ?_
                refine g_M_kind C d_M_step_194 ?_
                refine vv_iload_n C d_M_step_197 rfl ?_
                refine ld_M_kind C hbK d_M_step_198 ?_
                refine vv_iconst C (2) d_M_step_199 (by decide) ?_
                refine vv_icmp_ne C 216 d_M_step_200 rfl (fun _ => ?_) (fun z => absurd z h36)
                refine vv_aload_n C d_M_step_216 rfl ?_
                refine vv_aload_n C d_M_step_217 rfl ?_
                refine g_M_kind C d_M_step_218 ?_
                refine vv_iload_n C d_M_step_221 rfl ?_
                refine ld_M_kind C hbK d_M_step_222 ?_
                refine vv_iload_n C d_M_step_223 rfl ?_
                refine cllM (rest := []) C (c_M_await l Γ (up2 t 22 0 ((t 22 0) + 1)) hb29 ((up2 t 22 0 ((t 22 0) + 1)) 4 (ix (qLinked t (t 27 (ix (t 26 0))) (t 37 0)))) (qLinked t (t 27 (ix (t 26 0))) (t 37 0))) cw_M_M_await rfl rfl (Nat.le_of_ble_eq_true rfl) (by decide) (by decide) d_M_step_224 ?_
                refine vv_st (st' := []) rfl ?_
                refine vv_aload_n C d_M_step_227 rfl ?_
                refine vv_aload_n C d_M_step_228 rfl ?_
                refine g_M_place C d_M_step_229 ?_
                refine vv_iconst C (1) d_M_step_232 (by decide) ?_
                refine vv_iadd C d_M_step_233 ?_
                refine vv_aload_n C d_M_step_234 rfl ?_
                refine g_M_kind C d_M_step_235 ?_
                refine vv_iload_n C d_M_step_238 rfl ?_
                refine ld_M_kind C hbK d_M_step_239 ?_
                refine vv_iconst C (1) d_M_step_240 (by decide) ?_
                refine vv_icmp_ne C 258 d_M_step_241 rfl (fun h39 => ?_) (fun h39 => ?_)
                · skip
                  refine vv_aload_n C d_M_step_258 rfl ?_
                  refine g_M_x C d_M_step_259 ?_
                  refine cllM (rest := []) C (c_M_go l Γ (qAwait (up2 t 22 0 ((t 22 0) + 1)) ((up2 t 22 0 ((t 22 0) + 1)) 4 (ix (qLinked t (t 27 (ix (t 26 0))) (t 37 0)))) (qLinked t (t 27 (ix (t 26 0))) (t 37 0))) (((qAwait (up2 t 22 0 ((t 22 0) + 1)) ((up2 t 22 0 ((t 22 0) + 1)) 4 (ix (qLinked t (t 27 (ix (t 26 0))) (t 37 0)))) (qLinked t (t 27 (ix (t 26 0))) (t 37 0))) 37 0) + 1) ((qAwait (up2 t 22 0 ((t 22 0) + 1)) ((up2 t 22 0 ((t 22 0) + 1)) 4 (ix (qLinked t (t 27 (ix (t 26 0))) (t 37 0)))) (qLinked t (t 27 (ix (t 26 0))) (t 37 0))) 38 0)) cw_M_M_go rfl rfl (Nat.le_of_ble_eq_true rfl) (by decide) (by decide) d_M_step_262 ?_
                  refine vv_st (st' := []) rfl ?_
                  have hE : qStep t = (qGo (qAwait (up2 t 22 0 ((t 22 0) + 1)) ((up2 t 22 0 ((t 22 0) + 1)) 4 (ix (qLinked t (t 27 (ix (t 26 0))) (t 37 0)))) (qLinked t (t 27 (ix (t 26 0))) (t 37 0))) (((qAwait (up2 t 22 0 ((t 22 0) + 1)) ((up2 t 22 0 ((t 22 0) + 1)) 4 (ix (qLinked t (t 27 (ix (t 26 0))) (t 37 0)))) (qLinked t (t 27 (ix (t 26 0))) (t 37 0))) 37 0) + 1) ((qAwait (up2 t 22 0 ((t 22 0) + 1)) ((up2 t 22 0 ((t 22 0) + 1)) 4 (ix (qLinked t (t 27 (ix (t 26 0))) (t 37 0)))) (qLinked t (t 27 (ix (t 26 0))) (t 37 0))) 38 0)) := by
                    unfold qStep
                    rw [if_neg hz]
                    unfold qStepA
                    first | rw [if_pos h2] | rw [if_neg h2] | rw [if_pos (by exact h2)] | rw [if_neg (by exact h2)] | rw [if_neg (by exact tf_f h2)]
                    first | rw [if_pos h32] | rw [if_neg h32] | rw [if_pos (by exact h32)] | rw [if_neg (by exact h32)] | rw [if_neg (by exact tf_f h32)]
                    unfold qStepB
                    first | rw [if_neg (by exact z_nle h33)] | rw [if_pos (by exact z_le h33)]
                    rw [qSR_eq]
                    unfold qSR qSQ qSP qSG
                    first | rw [if_pos h34] | rw [if_neg h34] | rw [if_pos (by exact h34)] | rw [if_neg (by exact h34)] | skip
                    first | rw [if_pos h35] | rw [if_neg h35] | rw [if_pos (by exact h35)] | rw [if_neg (by exact h35)] | skip
                    first | rw [if_pos h36] | rw [if_neg h36] | rw [if_pos (by exact h36)] | rw [if_neg (by exact h36)] | skip
                    first | rw [if_pos h35] | rw [if_neg h35] | rw [if_pos (by exact h35)] | rw [if_neg (by exact h35)] | skip
                    first | rw [if_pos h36] | rw [if_neg h36] | rw [if_pos (by exact h36)] | rw [if_neg (by exact h36)] | skip
                    first | rw [if_pos h39] | rw [if_neg h39] | rw [if_pos (by exact h39)] | rw [if_neg (by exact h39)] | skip
                    try rfl
                  exact vv_vret C hr hlk rfl (by rw [hE] <;> rfl) d_M_step_265
                · skip
                  refine vv_aload_n C d_M_step_244 rfl ?_
                  refine g_M_x C d_M_step_245 ?_
                  refine vv_aload_n C d_M_step_248 rfl ?_
                  refine g_M_first C d_M_step_249 ?_
                  refine vv_iload_n C d_M_step_252 rfl ?_
                  refine ld_M_first C hbK d_M_step_253 ?_
                  refine vv_iadd C d_M_step_254 ?_
                  refine vv_goto C 262 d_M_step_255 rfl ?_
                  refine cllM (rest := []) C (c_M_go l Γ (qAwait (up2 t 22 0 ((t 22 0) + 1)) ((up2 t 22 0 ((t 22 0) + 1)) 4 (ix (qLinked t (t 27 (ix (t 26 0))) (t 37 0)))) (qLinked t (t 27 (ix (t 26 0))) (t 37 0))) (((qAwait (up2 t 22 0 ((t 22 0) + 1)) ((up2 t 22 0 ((t 22 0) + 1)) 4 (ix (qLinked t (t 27 (ix (t 26 0))) (t 37 0)))) (qLinked t (t 27 (ix (t 26 0))) (t 37 0))) 37 0) + 1) (((qAwait (up2 t 22 0 ((t 22 0) + 1)) ((up2 t 22 0 ((t 22 0) + 1)) 4 (ix (qLinked t (t 27 (ix (t 26 0))) (t 37 0)))) (qLinked t (t 27 (ix (t 26 0))) (t 37 0))) 38 0) + ((qAwait (up2 t 22 0 ((t 22 0) + 1)) ((up2 t 22 0 ((t 22 0) + 1)) 4 (ix (qLinked t (t 27 (ix (t 26 0))) (t 37 0)))) (qLinked t (t 27 (ix (t 26 0))) (t 37 0))) 7 (ix (qLinked t (t 27 (ix (t 26 0))) (t 37 0)))))) cw_M_M_go rfl rfl (Nat.le_of_ble_eq_true rfl) (by decide) (by decide) d_M_step_262 ?_
                  refine vv_st (st' := []) rfl ?_
                  have hE : qStep t = (qGo (qAwait (up2 t 22 0 ((t 22 0) + 1)) ((up2 t 22 0 ((t 22 0) + 1)) 4 (ix (qLinked t (t 27 (ix (t 26 0))) (t 37 0)))) (qLinked t (t 27 (ix (t 26 0))) (t 37 0))) (((qAwait (up2 t 22 0 ((t 22 0) + 1)) ((up2 t 22 0 ((t 22 0) + 1)) 4 (ix (qLinked t (t 27 (ix (t 26 0))) (t 37 0)))) (qLinked t (t 27 (ix (t 26 0))) (t 37 0))) 37 0) + 1) (((qAwait (up2 t 22 0 ((t 22 0) + 1)) ((up2 t 22 0 ((t 22 0) + 1)) 4 (ix (qLinked t (t 27 (ix (t 26 0))) (t 37 0)))) (qLinked t (t 27 (ix (t 26 0))) (t 37 0))) 38 0) + ((qAwait (up2 t 22 0 ((t 22 0) + 1)) ((up2 t 22 0 ((t 22 0) + 1)) 4 (ix (qLinked t (t 27 (ix (t 26 0))) (t 37 0)))) (qLinked t (t 27 (ix (t 26 0))) (t 37 0))) 7 (ix (qLinked t (t 27 (ix (t 26 0))) (t 37 0)))))) := by
                    unfold qStep
                    rw [if_neg hz]
                    unfold qStepA
                    first | rw [if_pos h2] | rw [if_neg h2] | rw [if_pos (by exact h2)] | rw [if_neg (by exact h2)] | rw [if_neg (by exact tf_f h2)]
                    first | rw [if_pos h32] | rw [if_neg h32] | rw [if_pos (by exact h32)] | rw [if_neg (by exact h32)] | rw [if_neg (by exact tf_f h32)]
                    unfold qStepB
                    first | rw [if_neg (by exact z_nle h33)] | rw [if_pos (by exact z_le h33)]
                    rw [qSR_eq]
                    unfold qSR qSQ qSP qSG
                    first | rw [if_pos h34] | rw [if_neg h34] | rw [if_pos (by exact h34)] | rw [if_neg (by exact h34)] | skip
                    first | rw [if_pos h35] | rw [if_neg h35] | rw [if_pos (by exact h35)] | rw [if_neg (by exact h35)] | skip
                    first | rw [if_pos h36] | rw [if_neg h36] | rw [if_pos (by exact h36)] | rw [if_neg (by exact h36)] | skip
                    first | rw [if_pos h35] | rw [if_neg h35] | rw [if_pos (by exact h35)] | rw [if_neg (by exact h35)] | skip
                    first | rw [if_pos h36] | rw [if_neg h36] | rw [if_pos (by exact h36)] | rw [if_neg (by exact h36)] | skip
                    first | rw [if_pos h39] | rw [if_neg h39] | rw [if_pos (by exact h39)] | rw [if_neg (by exact h39)] | skip
                    try rfl
                  exact vv_vret C hr hlk rfl (by rw [hE] <;> rfl) d_M_step_265
              · skip
                refine vv_aload_n C d_M_step_157 rfl ?_
                refine g_M_x C d_M_step_158 ?_
                refine vv_aload_n C d_M_step_161 rfl ?_
                refine g_M_first C d_M_step_162 ?_
                refine vv_iload_n C d_M_step_165 rfl ?_
                refine ld_M_first C hbK d_M_step_166 ?_
                refine vv_icmp_ge C 184 d_M_step_167 rfl (fun h40 => ?_) (fun h40 => ?_)
                · skip
                  refine vv_aload_n C d_M_step_184 rfl ?_
                  refine g_M_kind C d_M_step_185 ?_
                  refine vv_iload_n C d_M_step_188 rfl ?_
                  refine ld_M_kind C hbK d_M_step_189 ?_
                  refine vv_if_eq C 203 d_M_step_190 rfl (fun z => absurd z h35) (fun _ => ?_)
                  refine vv_aload_n C d_M_step_193 rfl ?_
                  refine g_M_kind C d_M_step_194 ?_
                  refine vv_iload_n C d_M_step_197 rfl ?_
                  refine ld_M_kind C hbK d_M_step_198 ?_
                  refine vv_iconst C (2) d_M_step_199 (by decide) ?_
                  refine vv_icmp_ne C 216 d_M_step_200 rfl (fun z => absurd h36 z) (fun _ => ?_)
                  refine vv_aload_n C d_M_step_203 rfl ?_
                  refine vv_dup C d_M_step_204 rfl ?_
                  refine g_M_place C d_M_step_205 ?_
                  refine vv_iconst C (1) d_M_step_208 (by decide) ?_
                  refine vv_iadd C d_M_step_209 ?_
                  refine p_M_place C d_M_step_210 ?_
                  refine vv_goto C 265 d_M_step_213 rfl ?_
                  have hE : qStep t = (up2 (up2 t 22 0 ((t 22 0) + 1)) 37 0 (((up2 t 22 0 ((t 22 0) + 1)) 37 0) + 1)) := by
                    unfold qStep
                    rw [if_neg hz]
                    unfold qStepA
                    first | rw [if_pos h2] | rw [if_neg h2] | rw [if_pos (by exact h2)] | rw [if_neg (by exact h2)] | rw [if_neg (by exact tf_f h2)]
                    first | rw [if_pos h32] | rw [if_neg h32] | rw [if_pos (by exact h32)] | rw [if_neg (by exact h32)] | rw [if_neg (by exact tf_f h32)]
                    unfold qStepB
                    first | rw [if_neg (by exact z_nle h33)] | rw [if_pos (by exact z_le h33)]
                    rw [qSR_eq]
                    unfold qSR qSQ qSP qSG
                    first | rw [if_pos h34] | rw [if_neg h34] | rw [if_pos (by exact h34)] | rw [if_neg (by exact h34)] | skip
                    first | rw [if_pos h35] | rw [if_neg h35] | rw [if_pos (by exact h35)] | rw [if_neg (by exact h35)] | skip
                    first | rw [if_pos h36] | rw [if_neg h36] | rw [if_pos (by exact h36)] | rw [if_neg (by exact h36)] | skip
                    first | rw [if_pos h40] | rw [if_neg h40] | rw [if_pos (by exact h40)] | rw [if_neg (by exact h40)] | skip
                    first | rw [if_pos h35] | rw [if_neg h35] | rw [if_pos (by exact h35)] | rw [if_neg (by exact h35)] | skip
                    first | rw [if_pos h36] | rw [if_neg h36] | rw [if_pos (by exact h36)] | rw [if_neg (by exact h36)] | skip
                    try rfl
                  exact vv_vret C hr hlk rfl (by rw [hE] <;> rfl) d_M_step_265
                · skip
                  refine vv_aload_n C d_M_step_170 rfl ?_
                  refine vv_iconst C (0) d_M_step_171 (by decide) ?_
                  refine vv_aload_n C d_M_step_172 rfl ?_
                  refine g_M_second C d_M_step_173 ?_
                  refine vv_iload_n C d_M_step_176 rfl ?_
                  refine ld_M_second C hbK d_M_step_177 ?_
                  refine cllM (rest := []) C (c_M_comes l Γ (up2 t 22 0 ((t 22 0) + 1)) false ((up2 t 22 0 ((t 22 0) + 1)) 8 (ix (qLinked t (t 27 (ix (t 26 0))) (t 37 0))))) cw_M_M_comes rfl rfl (Nat.le_of_ble_eq_true rfl) (by decide) (by decide) d_M_step_178 ?_
                  refine vv_st (st' := []) rfl ?_
                  refine vv_goto C 265 d_M_step_181 rfl ?_
                  have hE : qStep t = (qComes (up2 t 22 0 ((t 22 0) + 1)) false ((up2 t 22 0 ((t 22 0) + 1)) 8 (ix (qLinked t (t 27 (ix (t 26 0))) (t 37 0))))) := by
                    unfold qStep
                    rw [if_neg hz]
                    unfold qStepA
                    first | rw [if_pos h2] | rw [if_neg h2] | rw [if_pos (by exact h2)] | rw [if_neg (by exact h2)] | rw [if_neg (by exact tf_f h2)]
                    first | rw [if_pos h32] | rw [if_neg h32] | rw [if_pos (by exact h32)] | rw [if_neg (by exact h32)] | rw [if_neg (by exact tf_f h32)]
                    unfold qStepB
                    first | rw [if_neg (by exact z_nle h33)] | rw [if_pos (by exact z_le h33)]
                    rw [qSR_eq]
                    unfold qSR qSQ qSP qSG
                    first | rw [if_pos h34] | rw [if_neg h34] | rw [if_pos (by exact h34)] | rw [if_neg (by exact h34)] | skip
                    first | rw [if_pos h35] | rw [if_neg h35] | rw [if_pos (by exact h35)] | rw [if_neg (by exact h35)] | skip
                    first | rw [if_pos h36] | rw [if_neg h36] | rw [if_pos (by exact h36)] | rw [if_neg (by exact h36)] | skip
                    first | rw [if_pos h40] | rw [if_neg h40] | rw [if_pos (by exact h40)] | rw [if_neg (by exact h40)] | skip
                    try rfl
                  exact vv_vret C hr hlk rfl (by rw [hE] <;> rfl) d_M_step_265
            · skip
              refine vv_aload_n C d_M_step_120 rfl ?_
              refine g_M_x C d_M_step_121 ?_
              refine vv_aload_n C d_M_step_124 rfl ?_
              refine g_M_first C d_M_step_125 ?_
              refine vv_iload_n C d_M_step_128 rfl ?_
              refine ld_M_first C hbK d_M_step_129 ?_
              refine vv_icmp_ne C 147 d_M_step_130 rfl (fun h43 => ?_) (fun h43 => ?_)
              · skip
                refine vv_aload_n C d_M_step_147 rfl ?_
                refine g_M_kind C d_M_step_148 ?_
                refine vv_iload_n C d_M_step_151 rfl ?_
                refine ld_M_kind C hbK d_M_step_152 ?_
                refine vv_iconst C (2) d_M_step_153 (by decide) ?_
                refine vv_icmp_ne C 184 d_M_step_154 rfl (fun h44 => ?_) (fun h44 => ?_)
                · skip
                  refine vv_aload_n C d_M_step_184 rfl ?_
                  refine g_M_kind C d_M_step_185 ?_
                  refine vv_iload_n C d_M_step_188 rfl ?_
                  refine ld_M_kind C hbK d_M_step_189 ?_
                  refine vv_if_eq C 203 d_M_step_190 rfl (fun _ => ?_) (fun z => absurd h35 z)
                  refine vv_aload_n C d_M_step_203 rfl ?_
                  refine vv_dup C d_M_step_204 rfl ?_
                  refine g_M_place C d_M_step_205 ?_
                  refine vv_iconst C (1) d_M_step_208 (by decide) ?_
                  refine vv_iadd C d_M_step_209 ?_
                  refine p_M_place C d_M_step_210 ?_
                  refine vv_goto C 265 d_M_step_213 rfl ?_
                  have hE : qStep t = (up2 (up2 t 22 0 ((t 22 0) + 1)) 37 0 (((up2 t 22 0 ((t 22 0) + 1)) 37 0) + 1)) := by
                    unfold qStep
                    rw [if_neg hz]
                    unfold qStepA
                    first | rw [if_pos h2] | rw [if_neg h2] | rw [if_pos (by exact h2)] | rw [if_neg (by exact h2)] | rw [if_neg (by exact tf_f h2)]
                    first | rw [if_pos h32] | rw [if_neg h32] | rw [if_pos (by exact h32)] | rw [if_neg (by exact h32)] | rw [if_neg (by exact tf_f h32)]
                    unfold qStepB
                    first | rw [if_neg (by exact z_nle h33)] | rw [if_pos (by exact z_le h33)]
                    rw [qSR_eq]
                    unfold qSR qSQ qSP qSG
                    first | rw [if_pos h34] | rw [if_neg h34] | rw [if_pos (by exact h34)] | rw [if_neg (by exact h34)] | skip
                    first | rw [if_pos h35] | rw [if_neg h35] | rw [if_pos (by exact h35)] | rw [if_neg (by exact h35)] | skip
                    first | rw [if_pos h43] | rw [if_neg h43] | rw [if_pos (by exact h43)] | rw [if_neg (by exact h43)] | skip
                    first | rw [if_pos h44] | rw [if_neg h44] | rw [if_pos (by exact h44)] | rw [if_neg (by exact h44)] | skip
                    first | rw [if_pos h35] | rw [if_neg h35] | rw [if_pos (by exact h35)] | rw [if_neg (by exact h35)] | skip
                    try rfl
                  exact vv_vret C hr hlk rfl (by rw [hE] <;> rfl) d_M_step_265
                · skip
                  refine vv_aload_n C d_M_step_157 rfl ?_
                  refine g_M_x C d_M_step_158 ?_
                  refine vv_aload_n C d_M_step_161 rfl ?_
                  refine g_M_first C d_M_step_162 ?_
                  refine vv_iload_n C d_M_step_165 rfl ?_
                  refine ld_M_first C hbK d_M_step_166 ?_
                  refine vv_icmp_ge C 184 d_M_step_167 rfl (fun h46 => ?_) (fun h46 => ?_)
                  · skip
                    refine vv_aload_n C d_M_step_184 rfl ?_
                    refine g_M_kind C d_M_step_185 ?_
                    refine vv_iload_n C d_M_step_188 rfl ?_
                    refine ld_M_kind C hbK d_M_step_189 ?_
                    refine vv_if_eq C 203 d_M_step_190 rfl (fun _ => ?_) (fun z => absurd h35 z)
                    refine vv_aload_n C d_M_step_203 rfl ?_
                    refine vv_dup C d_M_step_204 rfl ?_
                    refine g_M_place C d_M_step_205 ?_
                    refine vv_iconst C (1) d_M_step_208 (by decide) ?_
                    refine vv_iadd C d_M_step_209 ?_
                    refine p_M_place C d_M_step_210 ?_
                    refine vv_goto C 265 d_M_step_213 rfl ?_
                    have hE : qStep t = (up2 (up2 t 22 0 ((t 22 0) + 1)) 37 0 (((up2 t 22 0 ((t 22 0) + 1)) 37 0) + 1)) := by
                      unfold qStep
                      rw [if_neg hz]
                      unfold qStepA
                      first | rw [if_pos h2] | rw [if_neg h2] | rw [if_pos (by exact h2)] | rw [if_neg (by exact h2)] | rw [if_neg (by exact tf_f h2)]
                      first | rw [if_pos h32] | rw [if_neg h32] | rw [if_pos (by exact h32)] | rw [if_neg (by exact h32)] | rw [if_neg (by exact tf_f h32)]
                      unfold qStepB
                      first | rw [if_neg (by exact z_nle h33)] | rw [if_pos (by exact z_le h33)]
                      rw [qSR_eq]
                      unfold qSR qSQ qSP qSG
                      first | rw [if_pos h34] | rw [if_neg h34] | rw [if_pos (by exact h34)] | rw [if_neg (by exact h34)] | skip
                      first | rw [if_pos h35] | rw [if_neg h35] | rw [if_pos (by exact h35)] | rw [if_neg (by exact h35)] | skip
                      first | rw [if_pos h43] | rw [if_neg h43] | rw [if_pos (by exact h43)] | rw [if_neg (by exact h43)] | skip
                      first | rw [if_pos h44] | rw [if_neg h44] | rw [if_pos (by exact h44)] | rw [if_neg (by exact h44)] | skip
                      first | rw [if_pos h46] | rw [if_neg h46] | rw [if_pos (by exact h46)] | rw [if_neg (by exact h46)] | skip
                      first | rw [if_pos h35] | rw [if_neg h35] | rw [if_pos (by exact h35)] | rw [if_neg (by exact h35)] | skip
                      try rfl
                    exact vv_vret C hr hlk rfl (by rw [hE] <;> rfl) d_M_step_265
                  · skip
                    refine vv_aload_n C d_M_step_170 rfl ?_
                    refine vv_iconst C (0) d_M_step_171 (by decide) ?_
                    refine vv_aload_n C d_M_step_172 rfl ?_
                    refine g_M_second C d_M_step_173 ?_
                    refine vv_iload_n C d_M_step_176 rfl ?_
                    refine ld_M_second C hbK d_M_step_177 ?_
                    refine cllM (rest := []) C (c_M_comes l Γ (up2 t 22 0 ((t 22 0) + 1)) false ((up2 t 22 0 ((t 22 0) + 1)) 8 (ix (qLinked t (t 27 (ix (t 26 0))) (t 37 0))))) cw_M_M_comes rfl rfl (Nat.le_of_ble_eq_true rfl) (by decide) (by decide) d_M_step_178 ?_
                    refine vv_st (st' := []) rfl ?_
                    refine vv_goto C 265 d_M_step_181 rfl ?_
                    have hE : qStep t = (qComes (up2 t 22 0 ((t 22 0) + 1)) false ((up2 t 22 0 ((t 22 0) + 1)) 8 (ix (qLinked t (t 27 (ix (t 26 0))) (t 37 0))))) := by
                      unfold qStep
                      rw [if_neg hz]
                      unfold qStepA
                      first | rw [if_pos h2] | rw [if_neg h2] | rw [if_pos (by exact h2)] | rw [if_neg (by exact h2)] | rw [if_neg (by exact tf_f h2)]
                      first | rw [if_pos h32] | rw [if_neg h32] | rw [if_pos (by exact h32)] | rw [if_neg (by exact h32)] | rw [if_neg (by exact tf_f h32)]
                      unfold qStepB
                      first | rw [if_neg (by exact z_nle h33)] | rw [if_pos (by exact z_le h33)]
                      rw [qSR_eq]
                      unfold qSR qSQ qSP qSG
                      first | rw [if_pos h34] | rw [if_neg h34] | rw [if_pos (by exact h34)] | rw [if_neg (by exact h34)] | skip
                      first | rw [if_pos h35] | rw [if_neg h35] | rw [if_pos (by exact h35)] | rw [if_neg (by exact h35)] | skip
                      first | rw [if_pos h43] | rw [if_neg h43] | rw [if_pos (by exact h43)] | rw [if_neg (by exact h43)] | skip
                      first | rw [if_pos h44] | rw [if_neg h44] | rw [if_pos (by exact h44)] | rw [if_neg (by exact h44)] | skip
                      first | rw [if_pos h46] | rw [if_neg h46] | rw [if_pos (by exact h46)] | rw [if_neg (by exact h46)] | skip
                      try rfl
                    exact vv_vret C hr hlk rfl (by rw [hE] <;> rfl) d_M_step_265
              · skip
                refine vv_aload_n C d_M_step_133 rfl ?_
                refine vv_iconst C (1) d_M_step_134 (by decide) ?_
                refine vv_aload_n C d_M_step_135 rfl ?_
                refine g_M_second C d_M_step_136 ?_
                refine vv_iload_n C d_M_step_139 rfl ?_
                refine ld_M_second C hbK d_M_step_140 ?_
                refine cllM (rest := []) C (c_M_comes l Γ (up2 t 22 0 ((t 22 0) + 1)) true ((up2 t 22 0 ((t 22 0) + 1)) 8 (ix (qLinked t (t 27 (ix (t 26 0))) (t 37 0))))) cw_M_M_comes rfl rfl (Nat.le_of_ble_eq_true rfl) (by decide) (by decide) d_M_step_141 ?_
                refine vv_st (st' := []) rfl ?_
                refine vv_goto C 265 d_M_step_144 rfl ?_
                have hE : qStep t = (qComes (up2 t 22 0 ((t 22 0) + 1)) true ((up2 t 22 0 ((t 22 0) + 1)) 8 (ix (qLinked t (t 27 (ix (t 26 0))) (t 37 0))))) := by
                  unfold qStep
                  rw [if_neg hz]
                  unfold qStepA
                  first | rw [if_pos h2] | rw [if_neg h2] | rw [if_pos (by exact h2)] | rw [if_neg (by exact h2)] | rw [if_neg (by exact tf_f h2)]
                  first | rw [if_pos h32] | rw [if_neg h32] | rw [if_pos (by exact h32)] | rw [if_neg (by exact h32)] | rw [if_neg (by exact tf_f h32)]
                  unfold qStepB
                  first | rw [if_neg (by exact z_nle h33)] | rw [if_pos (by exact z_le h33)]
                  rw [qSR_eq]
                  unfold qSR qSQ qSP qSG
                  first | rw [if_pos h34] | rw [if_neg h34] | rw [if_pos (by exact h34)] | rw [if_neg (by exact h34)] | skip
                  first | rw [if_pos h35] | rw [if_neg h35] | rw [if_pos (by exact h35)] | rw [if_neg (by exact h35)] | skip
                  first | rw [if_pos h43] | rw [if_neg h43] | rw [if_pos (by exact h43)] | rw [if_neg (by exact h43)] | skip
                  try rfl
                exact vv_vret C hr hlk rfl (by rw [hE] <;> rfl) d_M_step_265
          · skip
            have hE : qStep t = (up2 t 22 0 ((t 22 0) + 1)) := by
              unfold qStep
              rw [if_neg hz]
              unfold qStepA
              first | rw [if_pos h2] | rw [if_neg h2] | rw [if_pos (by exact h2)] | rw [if_neg (by exact h2)] | rw [if_neg (by exact tf_f h2)]
              first | rw [if_pos h32] | rw [if_neg h32] | rw [if_pos (by exact h32)] | rw [if_neg (by exact h32)] | rw [if_neg (by exact tf_f h32)]
              unfold qStepB
              first | rw [if_neg (by exact z_nle h33)] | rw [if_pos (by exact z_le h33)]
              rw [qSR_eq]
              unfold qSR qSQ qSP qSG
              first | rw [if_pos h34] | rw [if_neg h34] | rw [if_pos (by exact h34)] | rw [if_neg (by exact h34)] | skip
              try rfl
            exact vv_vret C hr hlk rfl (by rw [hE] <;> rfl) d_M_step_110
        · skip
          refine vv_aload_n C d_M_step_89 rfl ?_
          refine vv_aload_n C d_M_step_90 rfl ?_
          refine g_M_name C d_M_step_91 ?_
          refine vv_iload_n C d_M_step_94 rfl ?_
          refine ld_M_name C hbK d_M_step_95 ?_
          refine vv_aload_n C d_M_step_96 rfl ?_
          refine g_M_x C d_M_step_97 ?_
          refine cllM (rest := []) C (c_M_note l Γ (up2 t 22 0 ((t 22 0) + 1)) h19 ((up2 t 22 0 ((t 22 0) + 1)) 3 (ix (qLinked t (t 27 (ix (t 26 0))) (t 37 0)))) ((up2 t 22 0 ((t 22 0) + 1)) 38 0)) cw_M_M_note rfl rfl (Nat.le_of_ble_eq_true rfl) (by decide) (by decide) d_M_step_100 ?_
          refine vv_st (st' := []) rfl ?_
          refine vv_aload_n C d_M_step_103 rfl ?_
          refine g_M_broken C d_M_step_104 ?_
          refine vv_if_eq C 111 d_M_step_107 rfl (fun h48 => ?_) (fun h48 => ?_)
          · skip
            refine vv_aload_n C d_M_step_111 rfl ?_
            refine g_M_kind C d_M_step_112 ?_
            refine vv_iload_n C d_M_step_115 rfl ?_
            refine ld_M_kind C hbK d_M_step_116 ?_
            refine vv_if_ne C 147 d_M_step_117 rfl (fun h49 => ?_) (fun h49 => ?_)
            · skip
              refine vv_aload_n C d_M_step_147 rfl ?_
              refine g_M_kind C d_M_step_148 ?_
              refine vv_iload_n C d_M_step_151 rfl ?_
              refine ld_M_kind C hbK d_M_step_152 ?_
              refine vv_iconst C (2) d_M_step_153 (by decide) ?_
              refine vv_icmp_ne C 184 d_M_step_154 rfl (fun h50 => ?_) (fun h50 => ?_)
              · skip
                refine vv_aload_n C d_M_step_184 rfl ?_
                refine g_M_kind C d_M_step_185 ?_
                refine vv_iload_n C d_M_step_188 rfl ?_
                refine ld_M_kind C hbK d_M_step_189 ?_
                refine vv_if_eq C 203 d_M_step_190 rfl (fun z => absurd z h49) (fun _ => ?_)
                refine vv_aload_n C d_M_step_193 rfl ?_
                refine g_M_kind C d_M_step_194 ?_
                refine vv_iload_n C d_M_step_197 rfl ?_
                refine ld_M_kind C hbK d_M_step_198 ?_
                refine vv_iconst C (2) d_M_step_199 (by decide) ?_
                refine vv_icmp_ne C 216 d_M_step_200 rfl (fun _ => ?_) (fun z => absurd z h50)
                refine vv_aload_n C d_M_step_216 rfl ?_
                refine vv_aload_n C d_M_step_217 rfl ?_
                refine g_M_kind C d_M_step_218 ?_
                refine vv_iload_n C d_M_step_221 rfl ?_
                refine ld_M_kind C hbK d_M_step_222 ?_
                refine vv_iload_n C d_M_step_223 rfl ?_
                refine cllM (rest := []) C (c_M_await l Γ (qNote (up2 t 22 0 ((t 22 0) + 1)) ((up2 t 22 0 ((t 22 0) + 1)) 3 (ix (qLinked t (t 27 (ix (t 26 0))) (t 37 0)))) ((up2 t 22 0 ((t 22 0) + 1)) 38 0)) (vp_nt hb29) ((qNote (up2 t 22 0 ((t 22 0) + 1)) ((up2 t 22 0 ((t 22 0) + 1)) 3 (ix (qLinked t (t 27 (ix (t 26 0))) (t 37 0)))) ((up2 t 22 0 ((t 22 0) + 1)) 38 0)) 4 (ix (qLinked t (t 27 (ix (t 26 0))) (t 37 0)))) (qLinked t (t 27 (ix (t 26 0))) (t 37 0))) cw_M_M_await rfl rfl (Nat.le_of_ble_eq_true rfl) (by decide) (by decide) d_M_step_224 ?_
                refine vv_st (st' := []) rfl ?_
                refine vv_aload_n C d_M_step_227 rfl ?_
                refine vv_aload_n C d_M_step_228 rfl ?_
                refine g_M_place C d_M_step_229 ?_
                refine vv_iconst C (1) d_M_step_232 (by decide) ?_
                refine vv_iadd C d_M_step_233 ?_
                refine vv_aload_n C d_M_step_234 rfl ?_
                refine g_M_kind C d_M_step_235 ?_
                refine vv_iload_n C d_M_step_238 rfl ?_
                refine ld_M_kind C hbK d_M_step_239 ?_
                refine vv_iconst C (1) d_M_step_240 (by decide) ?_
                refine vv_icmp_ne C 258 d_M_step_241 rfl (fun h53 => ?_) (fun h53 => ?_)
                · skip
                  refine vv_aload_n C d_M_step_258 rfl ?_
                  refine g_M_x C d_M_step_259 ?_
                  refine cllM (rest := []) C (c_M_go l Γ (qAwait (qNote (up2 t 22 0 ((t 22 0) + 1)) ((up2 t 22 0 ((t 22 0) + 1)) 3 (ix (qLinked t (t 27 (ix (t 26 0))) (t 37 0)))) ((up2 t 22 0 ((t 22 0) + 1)) 38 0)) ((qNote (up2 t 22 0 ((t 22 0) + 1)) ((up2 t 22 0 ((t 22 0) + 1)) 3 (ix (qLinked t (t 27 (ix (t 26 0))) (t 37 0)))) ((up2 t 22 0 ((t 22 0) + 1)) 38 0)) 4 (ix (qLinked t (t 27 (ix (t 26 0))) (t 37 0)))) (qLinked t (t 27 (ix (t 26 0))) (t 37 0))) (((qAwait (qNote (up2 t 22 0 ((t 22 0) + 1)) ((up2 t 22 0 ((t 22 0) + 1)) 3 (ix (qLinked t (t 27 (ix (t 26 0))) (t 37 0)))) ((up2 t 22 0 ((t 22 0) + 1)) 38 0)) ((qNote (up2 t 22 0 ((t 22 0) + 1)) ((up2 t 22 0 ((t 22 0) + 1)) 3 (ix (qLinked t (t 27 (ix (t 26 0))) (t 37 0)))) ((up2 t 22 0 ((t 22 0) + 1)) 38 0)) 4 (ix (qLinked t (t 27 (ix (t 26 0))) (t 37 0)))) (qLinked t (t 27 (ix (t 26 0))) (t 37 0))) 37 0) + 1) ((qAwait (qNote (up2 t 22 0 ((t 22 0) + 1)) ((up2 t 22 0 ((t 22 0) + 1)) 3 (ix (qLinked t (t 27 (ix (t 26 0))) (t 37 0)))) ((up2 t 22 0 ((t 22 0) + 1)) 38 0)) ((qNote (up2 t 22 0 ((t 22 0) + 1)) ((up2 t 22 0 ((t 22 0) + 1)) 3 (ix (qLinked t (t 27 (ix (t 26 0))) (t 37 0)))) ((up2 t 22 0 ((t 22 0) + 1)) 38 0)) 4 (ix (qLinked t (t 27 (ix (t 26 0))) (t 37 0)))) (qLinked t (t 27 (ix (t 26 0))) (t 37 0))) 38 0)) cw_M_M_go rfl rfl (Nat.le_of_ble_eq_true rfl) (by decide) (by decide) d_M_step_262 ?_
                  refine vv_st (st' := []) rfl ?_
                  have hE : qStep t = (qGo (qAwait (qNote (up2 t 22 0 ((t 22 0) + 1)) ((up2 t 22 0 ((t 22 0) + 1)) 3 (ix (qLinked t (t 27 (ix (t 26 0))) (t 37 0)))) ((up2 t 22 0 ((t 22 0) + 1)) 38 0)) ((qNote (up2 t 22 0 ((t 22 0) + 1)) ((up2 t 22 0 ((t 22 0) + 1)) 3 (ix (qLinked t (t 27 (ix (t 26 0))) (t 37 0)))) ((up2 t 22 0 ((t 22 0) + 1)) 38 0)) 4 (ix (qLinked t (t 27 (ix (t 26 0))) (t 37 0)))) (qLinked t (t 27 (ix (t 26 0))) (t 37 0))) (((qAwait (qNote (up2 t 22 0 ((t 22 0) + 1)) ((up2 t 22 0 ((t 22 0) + 1)) 3 (ix (qLinked t (t 27 (ix (t 26 0))) (t 37 0)))) ((up2 t 22 0 ((t 22 0) + 1)) 38 0)) ((qNote (up2 t 22 0 ((t 22 0) + 1)) ((up2 t 22 0 ((t 22 0) + 1)) 3 (ix (qLinked t (t 27 (ix (t 26 0))) (t 37 0)))) ((up2 t 22 0 ((t 22 0) + 1)) 38 0)) 4 (ix (qLinked t (t 27 (ix (t 26 0))) (t 37 0)))) (qLinked t (t 27 (ix (t 26 0))) (t 37 0))) 37 0) + 1) ((qAwait (qNote (up2 t 22 0 ((t 22 0) + 1)) ((up2 t 22 0 ((t 22 0) + 1)) 3 (ix (qLinked t (t 27 (ix (t 26 0))) (t 37 0)))) ((up2 t 22 0 ((t 22 0) + 1)) 38 0)) ((qNote (up2 t 22 0 ((t 22 0) + 1)) ((up2 t 22 0 ((t 22 0) + 1)) 3 (ix (qLinked t (t 27 (ix (t 26 0))) (t 37 0)))) ((up2 t 22 0 ((t 22 0) + 1)) 38 0)) 4 (ix (qLinked t (t 27 (ix (t 26 0))) (t 37 0)))) (qLinked t (t 27 (ix (t 26 0))) (t 37 0))) 38 0)) := by
                    unfold qStep
                    rw [if_neg hz]
                    unfold qStepA
                    first | rw [if_pos h2] | rw [if_neg h2] | rw [if_pos (by exact h2)] | rw [if_neg (by exact h2)] | rw [if_neg (by exact tf_f h2)]
                    first | rw [if_pos h32] | rw [if_neg h32] | rw [if_pos (by exact h32)] | rw [if_neg (by exact h32)] | rw [if_neg (by exact tf_f h32)]
                    unfold qStepB
                    first | rw [if_neg (by exact z_nle h33)] | rw [if_pos (by exact z_le h33)]
                    rw [qSR_eq]
                    unfold qSR qSQ qSP qSG
                    first | rw [if_pos h48] | rw [if_neg h48] | rw [if_pos (by exact h48)] | rw [if_neg (by exact h48)] | skip
                    first | rw [if_pos h49] | rw [if_neg h49] | rw [if_pos (by exact h49)] | rw [if_neg (by exact h49)] | skip
                    first | rw [if_pos h50] | rw [if_neg h50] | rw [if_pos (by exact h50)] | rw [if_neg (by exact h50)] | skip
                    first | rw [if_pos h49] | rw [if_neg h49] | rw [if_pos (by exact h49)] | rw [if_neg (by exact h49)] | skip
                    first | rw [if_pos h50] | rw [if_neg h50] | rw [if_pos (by exact h50)] | rw [if_neg (by exact h50)] | skip
                    first | rw [if_pos h53] | rw [if_neg h53] | rw [if_pos (by exact h53)] | rw [if_neg (by exact h53)] | skip
                    try rfl
                  exact vv_vret C hr hlk rfl (by rw [hE] <;> rfl) d_M_step_265
                · skip
                  refine vv_aload_n C d_M_step_244 rfl ?_
                  refine g_M_x C d_M_step_245 ?_
                  refine vv_aload_n C d_M_step_248 rfl ?_
                  refine g_M_first C d_M_step_249 ?_
                  refine vv_iload_n C d_M_step_252 rfl ?_
                  refine ld_M_first C hbK d_M_step_253 ?_
                  refine vv_iadd C d_M_step_254 ?_
                  refine vv_goto C 262 d_M_step_255 rfl ?_
                  refine cllM (rest := []) C (c_M_go l Γ (qAwait (qNote (up2 t 22 0 ((t 22 0) + 1)) ((up2 t 22 0 ((t 22 0) + 1)) 3 (ix (qLinked t (t 27 (ix (t 26 0))) (t 37 0)))) ((up2 t 22 0 ((t 22 0) + 1)) 38 0)) ((qNote (up2 t 22 0 ((t 22 0) + 1)) ((up2 t 22 0 ((t 22 0) + 1)) 3 (ix (qLinked t (t 27 (ix (t 26 0))) (t 37 0)))) ((up2 t 22 0 ((t 22 0) + 1)) 38 0)) 4 (ix (qLinked t (t 27 (ix (t 26 0))) (t 37 0)))) (qLinked t (t 27 (ix (t 26 0))) (t 37 0))) (((qAwait (qNote (up2 t 22 0 ((t 22 0) + 1)) ((up2 t 22 0 ((t 22 0) + 1)) 3 (ix (qLinked t (t 27 (ix (t 26 0))) (t 37 0)))) ((up2 t 22 0 ((t 22 0) + 1)) 38 0)) ((qNote (up2 t 22 0 ((t 22 0) + 1)) ((up2 t 22 0 ((t 22 0) + 1)) 3 (ix (qLinked t (t 27 (ix (t 26 0))) (t 37 0)))) ((up2 t 22 0 ((t 22 0) + 1)) 38 0)) 4 (ix (qLinked t (t 27 (ix (t 26 0))) (t 37 0)))) (qLinked t (t 27 (ix (t 26 0))) (t 37 0))) 37 0) + 1) (((qAwait (qNote (up2 t 22 0 ((t 22 0) + 1)) ((up2 t 22 0 ((t 22 0) + 1)) 3 (ix (qLinked t (t 27 (ix (t 26 0))) (t 37 0)))) ((up2 t 22 0 ((t 22 0) + 1)) 38 0)) ((qNote (up2 t 22 0 ((t 22 0) + 1)) ((up2 t 22 0 ((t 22 0) + 1)) 3 (ix (qLinked t (t 27 (ix (t 26 0))) (t 37 0)))) ((up2 t 22 0 ((t 22 0) + 1)) 38 0)) 4 (ix (qLinked t (t 27 (ix (t 26 0))) (t 37 0)))) (qLinked t (t 27 (ix (t 26 0))) (t 37 0))) 38 0) + ((qAwait (qNote (up2 t 22 0 ((t 22 0) + 1)) ((up2 t 22 0 ((t 22 0) + 1)) 3 (ix (qLinked t (t 27 (ix (t 26 0))) (t 37 0)))) ((up2 t 22 0 ((t 22 0) + 1)) 38 0)) ((qNote (up2 t 22 0 ((t 22 0) + 1)) ((up2 t 22 0 ((t 22 0) + 1)) 3 (ix (qLinked t (t 27 (ix (t 26 0))) (t 37 0)))) ((up2 t 22 0 ((t 22 0) + 1)) 38 0)) 4 (ix (qLinked t (t 27 (ix (t 26 0))) (t 37 0)))) (qLinked t (t 27 (ix (t 26 0))) (t 37 0))) 7 (ix (qLinked t (t 27 (ix (t 26 0))) (t 37 0)))))) cw_M_M_go rfl rfl (Nat.le_of_ble_eq_true rfl) (by decide) (by decide) d_M_step_262 ?_
                  refine vv_st (st' := []) rfl ?_
                  have hE : qStep t = (qGo (qAwait (qNote (up2 t 22 0 ((t 22 0) + 1)) ((up2 t 22 0 ((t 22 0) + 1)) 3 (ix (qLinked t (t 27 (ix (t 26 0))) (t 37 0)))) ((up2 t 22 0 ((t 22 0) + 1)) 38 0)) ((qNote (up2 t 22 0 ((t 22 0) + 1)) ((up2 t 22 0 ((t 22 0) + 1)) 3 (ix (qLinked t (t 27 (ix (t 26 0))) (t 37 0)))) ((up2 t 22 0 ((t 22 0) + 1)) 38 0)) 4 (ix (qLinked t (t 27 (ix (t 26 0))) (t 37 0)))) (qLinked t (t 27 (ix (t 26 0))) (t 37 0))) (((qAwait (qNote (up2 t 22 0 ((t 22 0) + 1)) ((up2 t 22 0 ((t 22 0) + 1)) 3 (ix (qLinked t (t 27 (ix (t 26 0))) (t 37 0)))) ((up2 t 22 0 ((t 22 0) + 1)) 38 0)) ((qNote (up2 t 22 0 ((t 22 0) + 1)) ((up2 t 22 0 ((t 22 0) + 1)) 3 (ix (qLinked t (t 27 (ix (t 26 0))) (t 37 0)))) ((up2 t 22 0 ((t 22 0) + 1)) 38 0)) 4 (ix (qLinked t (t 27 (ix (t 26 0))) (t 37 0)))) (qLinked t (t 27 (ix (t 26 0))) (t 37 0))) 37 0) + 1) (((qAwait (qNote (up2 t 22 0 ((t 22 0) + 1)) ((up2 t 22 0 ((t 22 0) + 1)) 3 (ix (qLinked t (t 27 (ix (t 26 0))) (t 37 0)))) ((up2 t 22 0 ((t 22 0) + 1)) 38 0)) ((qNote (up2 t 22 0 ((t 22 0) + 1)) ((up2 t 22 0 ((t 22 0) + 1)) 3 (ix (qLinked t (t 27 (ix (t 26 0))) (t 37 0)))) ((up2 t 22 0 ((t 22 0) + 1)) 38 0)) 4 (ix (qLinked t (t 27 (ix (t 26 0))) (t 37 0)))) (qLinked t (t 27 (ix (t 26 0))) (t 37 0))) 38 0) + ((qAwait (qNote (up2 t 22 0 ((t 22 0) + 1)) ((up2 t 22 0 ((t 22 0) + 1)) 3 (ix (qLinked t (t 27 (ix (t 26 0))) (t 37 0)))) ((up2 t 22 0 ((t 22 0) + 1)) 38 0)) ((qNote (up2 t 22 0 ((t 22 0) + 1)) ((up2 t 22 0 ((t 22 0) + 1)) 3 (ix (qLinked t (t 27 (ix (t 26 0))) (t 37 0)))) ((up2 t 22 0 ((t 22 0) + 1)) 38 0)) 4 (ix (qLinked t (t 27 (ix (t 26 0))) (t 37 0)))) (qLinked t (t 27 (ix (t 26 0))) (t 37 0))) 7 (ix (qLinked t (t 27 (ix (t 26 0))) (t 37 0)))))) := by
                    unfold qStep
                    rw [if_neg hz]
                    unfold qStepA
                    first | rw [if_pos h2] | rw [if_neg h2] | rw [if_pos (by exact h2)] | rw [if_neg (by exact h2)] | rw [if_neg (by exact tf_f h2)]
                    first | rw [if_pos h32] | rw [if_neg h32] | rw [if_pos (by exact h32)] | rw [if_neg (by exact h32)] | rw [if_neg (by exact tf_f h32)]
                    unfold qStepB
                    first | rw [if_neg (by exact z_nle h33)] | rw [if_pos (by exact z_le h33)]
                    rw [qSR_eq]
                    unfold qSR qSQ qSP qSG
                    first | rw [if_pos h48] | rw [if_neg h48] | rw [if_pos (by exact h48)] | rw [if_neg (by exact h48)] | skip
                    first | rw [if_pos h49] | rw [if_neg h49] | rw [if_pos (by exact h49)] | rw [if_neg (by exact h49)] | skip
                    first | rw [if_pos h50] | rw [if_neg h50] | rw [if_pos (by exact h50)] | rw [if_neg (by exact h50)] | skip
                    first | rw [if_pos h49] | rw [if_neg h49] | rw [if_pos (by exact h49)] | rw [if_neg (by exact h49)] | skip
                    first | rw [if_pos h50] | rw [if_neg h50] | rw [if_pos (by exact h50)] | rw [if_neg (by exact h50)] | skip
                    first | rw [if_pos h53] | rw [if_neg h53] | rw [if_pos (by exact h53)] | rw [if_neg (by exact h53)] | skip
                    try rfl
                  exact vv_vret C hr hlk rfl (by rw [hE] <;> rfl) d_M_step_265
              · skip
                refine vv_aload_n C d_M_step_157 rfl ?_
                refine g_M_x C d_M_step_158 ?_
                refine vv_aload_n C d_M_step_161 rfl ?_
                refine g_M_first C d_M_step_162 ?_
                refine vv_iload_n C d_M_step_165 rfl ?_
                refine ld_M_first C hbK d_M_step_166 ?_
                refine vv_icmp_ge C 184 d_M_step_167 rfl (fun h54 => ?_) (fun h54 => ?_)
                · skip
                  refine vv_aload_n C d_M_step_184 rfl ?_
                  refine g_M_kind C d_M_step_185 ?_
                  refine vv_iload_n C d_M_step_188 rfl ?_
                  refine ld_M_kind C hbK d_M_step_189 ?_
                  refine vv_if_eq C 203 d_M_step_190 rfl (fun z => absurd z h49) (fun _ => ?_)
                  refine vv_aload_n C d_M_step_193 rfl ?_
                  refine g_M_kind C d_M_step_194 ?_
                  refine vv_iload_n C d_M_step_197 rfl ?_
                  refine ld_M_kind C hbK d_M_step_198 ?_
                  refine vv_iconst C (2) d_M_step_199 (by decide) ?_
                  refine vv_icmp_ne C 216 d_M_step_200 rfl (fun z => absurd h50 z) (fun _ => ?_)
                  refine vv_aload_n C d_M_step_203 rfl ?_
                  refine vv_dup C d_M_step_204 rfl ?_
                  refine g_M_place C d_M_step_205 ?_
                  refine vv_iconst C (1) d_M_step_208 (by decide) ?_
                  refine vv_iadd C d_M_step_209 ?_
                  refine p_M_place C d_M_step_210 ?_
                  refine vv_goto C 265 d_M_step_213 rfl ?_
                  have hE : qStep t = (up2 (qNote (up2 t 22 0 ((t 22 0) + 1)) ((up2 t 22 0 ((t 22 0) + 1)) 3 (ix (qLinked t (t 27 (ix (t 26 0))) (t 37 0)))) ((up2 t 22 0 ((t 22 0) + 1)) 38 0)) 37 0 (((qNote (up2 t 22 0 ((t 22 0) + 1)) ((up2 t 22 0 ((t 22 0) + 1)) 3 (ix (qLinked t (t 27 (ix (t 26 0))) (t 37 0)))) ((up2 t 22 0 ((t 22 0) + 1)) 38 0)) 37 0) + 1)) := by
                    unfold qStep
                    rw [if_neg hz]
                    unfold qStepA
                    first | rw [if_pos h2] | rw [if_neg h2] | rw [if_pos (by exact h2)] | rw [if_neg (by exact h2)] | rw [if_neg (by exact tf_f h2)]
                    first | rw [if_pos h32] | rw [if_neg h32] | rw [if_pos (by exact h32)] | rw [if_neg (by exact h32)] | rw [if_neg (by exact tf_f h32)]
                    unfold qStepB
                    first | rw [if_neg (by exact z_nle h33)] | rw [if_pos (by exact z_le h33)]
                    rw [qSR_eq]
                    unfold qSR qSQ qSP qSG
                    first | rw [if_pos h48] | rw [if_neg h48] | rw [if_pos (by exact h48)] | rw [if_neg (by exact h48)] | skip
                    first | rw [if_pos h49] | rw [if_neg h49] | rw [if_pos (by exact h49)] | rw [if_neg (by exact h49)] | skip
                    first | rw [if_pos h50] | rw [if_neg h50] | rw [if_pos (by exact h50)] | rw [if_neg (by exact h50)] | skip
                    first | rw [if_pos h54] | rw [if_neg h54] | rw [if_pos (by exact h54)] | rw [if_neg (by exact h54)] | skip
                    first | rw [if_pos h49] | rw [if_neg h49] | rw [if_pos (by exact h49)] | rw [if_neg (by exact h49)] | skip
                    first | rw [if_pos h50] | rw [if_neg h50] | rw [if_pos (by exact h50)] | rw [if_neg (by exact h50)] | skip
                    try rfl
                  exact vv_vret C hr hlk rfl (by rw [hE] <;> rfl) d_M_step_265
                · skip
                  refine vv_aload_n C d_M_step_170 rfl ?_
                  refine vv_iconst C (0) d_M_step_171 (by decide) ?_
                  refine vv_aload_n C d_M_step_172 rfl ?_
                  refine g_M_second C d_M_step_173 ?_
                  refine vv_iload_n C d_M_step_176 rfl ?_
                  refine ld_M_second C hbK d_M_step_177 ?_
                  refine cllM (rest := []) C (c_M_comes l Γ (qNote (up2 t 22 0 ((t 22 0) + 1)) ((up2 t 22 0 ((t 22 0) + 1)) 3 (ix (qLinked t (t 27 (ix (t 26 0))) (t 37 0)))) ((up2 t 22 0 ((t 22 0) + 1)) 38 0)) false ((qNote (up2 t 22 0 ((t 22 0) + 1)) ((up2 t 22 0 ((t 22 0) + 1)) 3 (ix (qLinked t (t 27 (ix (t 26 0))) (t 37 0)))) ((up2 t 22 0 ((t 22 0) + 1)) 38 0)) 8 (ix (qLinked t (t 27 (ix (t 26 0))) (t 37 0))))) cw_M_M_comes rfl rfl (Nat.le_of_ble_eq_true rfl) (by decide) (by decide) d_M_step_178 ?_
                  refine vv_st (st' := []) rfl ?_
                  refine vv_goto C 265 d_M_step_181 rfl ?_
                  have hE : qStep t = (qComes (qNote (up2 t 22 0 ((t 22 0) + 1)) ((up2 t 22 0 ((t 22 0) + 1)) 3 (ix (qLinked t (t 27 (ix (t 26 0))) (t 37 0)))) ((up2 t 22 0 ((t 22 0) + 1)) 38 0)) false ((qNote (up2 t 22 0 ((t 22 0) + 1)) ((up2 t 22 0 ((t 22 0) + 1)) 3 (ix (qLinked t (t 27 (ix (t 26 0))) (t 37 0)))) ((up2 t 22 0 ((t 22 0) + 1)) 38 0)) 8 (ix (qLinked t (t 27 (ix (t 26 0))) (t 37 0))))) := by
                    unfold qStep
                    rw [if_neg hz]
                    unfold qStepA
                    first | rw [if_pos h2] | rw [if_neg h2] | rw [if_pos (by exact h2)] | rw [if_neg (by exact h2)] | rw [if_neg (by exact tf_f h2)]
                    first | rw [if_pos h32] | rw [if_neg h32] | rw [if_pos (by exact h32)] | rw [if_neg (by exact h32)] | rw [if_neg (by exact tf_f h32)]
                    unfold qStepB
                    first | rw [if_neg (by exact z_nle h33)] | rw [if_pos (by exact z_le h33)]
                    rw [qSR_eq]
                    unfold qSR qSQ qSP qSG
                    first | rw [if_pos h48] | rw [if_neg h48] | rw [if_pos (by exact h48)] | rw [if_neg (by exact h48)] | skip
                    first | rw [if_pos h49] | rw [if_neg h49] | rw [if_pos (by exact h49)] | rw [if_neg (by exact h49)] | skip
                    first | rw [if_pos h50] | rw [if_neg h50] | rw [if_pos (by exact h50)] | rw [if_neg (by exact h50)] | skip
                    first | rw [if_pos h54] | rw [if_neg h54] | rw [if_pos (by exact h54)] | rw [if_neg (by exact h54)] | skip
                    try rfl
                  exact vv_vret C hr hlk rfl (by rw [hE] <;> rfl) d_M_step_265
            · skip
              refine vv_aload_n C d_M_step_120 rfl ?_
              refine g_M_x C d_M_step_121 ?_
              refine vv_aload_n C d_M_step_124 rfl ?_
              refine g_M_first C d_M_step_125 ?_
              refine vv_iload_n C d_M_step_128 rfl ?_
              refine ld_M_first C hbK d_M_step_129 ?_
              refine vv_icmp_ne C 147 d_M_step_130 rfl (fun h57 => ?_) (fun h57 => ?_)
              · skip
                refine vv_aload_n C d_M_step_147 rfl ?_
                refine g_M_kind C d_M_step_148 ?_
                refine vv_iload_n C d_M_step_151 rfl ?_
                refine ld_M_kind C hbK d_M_step_152 ?_
                refine vv_iconst C (2) d_M_step_153 (by decide) ?_
                refine vv_icmp_ne C 184 d_M_step_154 rfl (fun h58 => ?_) (fun h58 => ?_)
                · skip
                  refine vv_aload_n C d_M_step_184 rfl ?_
                  refine g_M_kind C d_M_step_185 ?_
                  refine vv_iload_n C d_M_step_188 rfl ?_
                  refine ld_M_kind C hbK d_M_step_189 ?_
                  refine vv_if_eq C 203 d_M_step_190 rfl (fun _ => ?_) (fun z => absurd h49 z)
                  refine vv_aload_n C d_M_step_203 rfl ?_
                  refine vv_dup C d_M_step_204 rfl ?_
                  refine g_M_place C d_M_step_205 ?_
                  refine vv_iconst C (1) d_M_step_208 (by decide) ?_
                  refine vv_iadd C d_M_step_209 ?_
                  refine p_M_place C d_M_step_210 ?_
                  refine vv_goto C 265 d_M_step_213 rfl ?_
                  have hE : qStep t = (up2 (qNote (up2 t 22 0 ((t 22 0) + 1)) ((up2 t 22 0 ((t 22 0) + 1)) 3 (ix (qLinked t (t 27 (ix (t 26 0))) (t 37 0)))) ((up2 t 22 0 ((t 22 0) + 1)) 38 0)) 37 0 (((qNote (up2 t 22 0 ((t 22 0) + 1)) ((up2 t 22 0 ((t 22 0) + 1)) 3 (ix (qLinked t (t 27 (ix (t 26 0))) (t 37 0)))) ((up2 t 22 0 ((t 22 0) + 1)) 38 0)) 37 0) + 1)) := by
                    unfold qStep
                    rw [if_neg hz]
                    unfold qStepA
                    first | rw [if_pos h2] | rw [if_neg h2] | rw [if_pos (by exact h2)] | rw [if_neg (by exact h2)] | rw [if_neg (by exact tf_f h2)]
                    first | rw [if_pos h32] | rw [if_neg h32] | rw [if_pos (by exact h32)] | rw [if_neg (by exact h32)] | rw [if_neg (by exact tf_f h32)]
                    unfold qStepB
                    first | rw [if_neg (by exact z_nle h33)] | rw [if_pos (by exact z_le h33)]
                    rw [qSR_eq]
                    unfold qSR qSQ qSP qSG
                    first | rw [if_pos h48] | rw [if_neg h48] | rw [if_pos (by exact h48)] | rw [if_neg (by exact h48)] | skip
                    first | rw [if_pos h49] | rw [if_neg h49] | rw [if_pos (by exact h49)] | rw [if_neg (by exact h49)] | skip
                    first | rw [if_pos h57] | rw [if_neg h57] | rw [if_pos (by exact h57)] | rw [if_neg (by exact h57)] | skip
                    first | rw [if_pos h58] | rw [if_neg h58] | rw [if_pos (by exact h58)] | rw [if_neg (by exact h58)] | skip
                    first | rw [if_pos h49] | rw [if_neg h49] | rw [if_pos (by exact h49)] | rw [if_neg (by exact h49)] | skip
                    try rfl
                  exact vv_vret C hr hlk rfl (by rw [hE] <;> rfl) d_M_step_265
                · skip
                  refine vv_aload_n C d_M_step_157 rfl ?_
                  refine g_M_x C d_M_step_158 ?_
                  refine vv_aload_n C d_M_step_161 rfl ?_
                  refine g_M_first C d_M_step_162 ?_
                  refine vv_iload_n C d_M_step_165 rfl ?_
                  refine ld_M_first C hbK d_M_step_166 ?_
                  refine vv_icmp_ge C 184 d_M_step_167 rfl (fun h60 => ?_) (fun h60 => ?_)
                  · skip
                    refine vv_aload_n C d_M_step_184 rfl ?_
                    refine g_M_kind C d_M_step_185 ?_
                    refine vv_iload_n C d_M_step_188 rfl ?_
                    refine ld_M_kind C hbK d_M_step_189 ?_
                    refine vv_if_eq C 203 d_M_step_190 rfl (fun _ => ?_) (fun z => absurd h49 z)
                    refine vv_aload_n C d_M_step_203 rfl ?_
                    refine vv_dup C d_M_step_204 rfl ?_
                    refine g_M_place C d_M_step_205 ?_
                    refine vv_iconst C (1) d_M_step_208 (by decide) ?_
                    refine vv_iadd C d_M_step_209 ?_
                    refine p_M_place C d_M_step_210 ?_
                    refine vv_goto C 265 d_M_step_213 rfl ?_
                    have hE : qStep t = (up2 (qNote (up2 t 22 0 ((t 22 0) + 1)) ((up2 t 22 0 ((t 22 0) + 1)) 3 (ix (qLinked t (t 27 (ix (t 26 0))) (t 37 0)))) ((up2 t 22 0 ((t 22 0) + 1)) 38 0)) 37 0 (((qNote (up2 t 22 0 ((t 22 0) + 1)) ((up2 t 22 0 ((t 22 0) + 1)) 3 (ix (qLinked t (t 27 (ix (t 26 0))) (t 37 0)))) ((up2 t 22 0 ((t 22 0) + 1)) 38 0)) 37 0) + 1)) := by
                      unfold qStep
                      rw [if_neg hz]
                      unfold qStepA
                      first | rw [if_pos h2] | rw [if_neg h2] | rw [if_pos (by exact h2)] | rw [if_neg (by exact h2)] | rw [if_neg (by exact tf_f h2)]
                      first | rw [if_pos h32] | rw [if_neg h32] | rw [if_pos (by exact h32)] | rw [if_neg (by exact h32)] | rw [if_neg (by exact tf_f h32)]
                      unfold qStepB
                      first | rw [if_neg (by exact z_nle h33)] | rw [if_pos (by exact z_le h33)]
                      rw [qSR_eq]
                      unfold qSR qSQ qSP qSG
                      first | rw [if_pos h48] | rw [if_neg h48] | rw [if_pos (by exact h48)] | rw [if_neg (by exact h48)] | skip
                      first | rw [if_pos h49] | rw [if_neg h49] | rw [if_pos (by exact h49)] | rw [if_neg (by exact h49)] | skip
                      first | rw [if_pos h57] | rw [if_neg h57] | rw [if_pos (by exact h57)] | rw [if_neg (by exact h57)] | skip
                      first | rw [if_pos h58] | rw [if_neg h58] | rw [if_pos (by exact h58)] | rw [if_neg (by exact h58)] | skip
                      first | rw [if_pos h60] | rw [if_neg h60] | rw [if_pos (by exact h60)] | rw [if_neg (by exact h60)] | skip
                      first | rw [if_pos h49] | rw [if_neg h49] | rw [if_pos (by exact h49)] | rw [if_neg (by exact h49)] | skip
                      try rfl
                    exact vv_vret C hr hlk rfl (by rw [hE] <;> rfl) d_M_step_265
                  · skip
                    refine vv_aload_n C d_M_step_170 rfl ?_
                    refine vv_iconst C (0) d_M_step_171 (by decide) ?_
                    refine vv_aload_n C d_M_step_172 rfl ?_
                    refine g_M_second C d_M_step_173 ?_
                    refine vv_iload_n C d_M_step_176 rfl ?_
                    refine ld_M_second C hbK d_M_step_177 ?_
                    refine cllM (rest := []) C (c_M_comes l Γ (qNote (up2 t 22 0 ((t 22 0) + 1)) ((up2 t 22 0 ((t 22 0) + 1)) 3 (ix (qLinked t (t 27 (ix (t 26 0))) (t 37 0)))) ((up2 t 22 0 ((t 22 0) + 1)) 38 0)) false ((qNote (up2 t 22 0 ((t 22 0) + 1)) ((up2 t 22 0 ((t 22 0) + 1)) 3 (ix (qLinked t (t 27 (ix (t 26 0))) (t 37 0)))) ((up2 t 22 0 ((t 22 0) + 1)) 38 0)) 8 (ix (qLinked t (t 27 (ix (t 26 0))) (t 37 0))))) cw_M_M_comes rfl rfl (Nat.le_of_ble_eq_true rfl) (by decide) (by decide) d_M_step_178 ?_
                    refine vv_st (st' := []) rfl ?_
                    refine vv_goto C 265 d_M_step_181 rfl ?_
                    have hE : qStep t = (qComes (qNote (up2 t 22 0 ((t 22 0) + 1)) ((up2 t 22 0 ((t 22 0) + 1)) 3 (ix (qLinked t (t 27 (ix (t 26 0))) (t 37 0)))) ((up2 t 22 0 ((t 22 0) + 1)) 38 0)) false ((qNote (up2 t 22 0 ((t 22 0) + 1)) ((up2 t 22 0 ((t 22 0) + 1)) 3 (ix (qLinked t (t 27 (ix (t 26 0))) (t 37 0)))) ((up2 t 22 0 ((t 22 0) + 1)) 38 0)) 8 (ix (qLinked t (t 27 (ix (t 26 0))) (t 37 0))))) := by
                      unfold qStep
                      rw [if_neg hz]
                      unfold qStepA
                      first | rw [if_pos h2] | rw [if_neg h2] | rw [if_pos (by exact h2)] | rw [if_neg (by exact h2)] | rw [if_neg (by exact tf_f h2)]
                      first | rw [if_pos h32] | rw [if_neg h32] | rw [if_pos (by exact h32)] | rw [if_neg (by exact h32)] | rw [if_neg (by exact tf_f h32)]
                      unfold qStepB
                      first | rw [if_neg (by exact z_nle h33)] | rw [if_pos (by exact z_le h33)]
                      rw [qSR_eq]
                      unfold qSR qSQ qSP qSG
                      first | rw [if_pos h48] | rw [if_neg h48] | rw [if_pos (by exact h48)] | rw [if_neg (by exact h48)] | skip
                      first | rw [if_pos h49] | rw [if_neg h49] | rw [if_pos (by exact h49)] | rw [if_neg (by exact h49)] | skip
                      first | rw [if_pos h57] | rw [if_neg h57] | rw [if_pos (by exact h57)] | rw [if_neg (by exact h57)] | skip
                      first | rw [if_pos h58] | rw [if_neg h58] | rw [if_pos (by exact h58)] | rw [if_neg (by exact h58)] | skip
                      first | rw [if_pos h60] | rw [if_neg h60] | rw [if_pos (by exact h60)] | rw [if_neg (by exact h60)] | skip
                      try rfl
                    exact vv_vret C hr hlk rfl (by rw [hE] <;> rfl) d_M_step_265
              · skip
                refine vv_aload_n C d_M_step_133 rfl ?_
                refine vv_iconst C (1) d_M_step_134 (by decide) ?_
                refine vv_aload_n C d_M_step_135 rfl ?_
                refine g_M_second C d_M_step_136 ?_
                refine vv_iload_n C d_M_step_139 rfl ?_
                refine ld_M_second C hbK d_M_step_140 ?_
                refine cllM (rest := []) C (c_M_comes l Γ (qNote (up2 t 22 0 ((t 22 0) + 1)) ((up2 t 22 0 ((t 22 0) + 1)) 3 (ix (qLinked t (t 27 (ix (t 26 0))) (t 37 0)))) ((up2 t 22 0 ((t 22 0) + 1)) 38 0)) true ((qNote (up2 t 22 0 ((t 22 0) + 1)) ((up2 t 22 0 ((t 22 0) + 1)) 3 (ix (qLinked t (t 27 (ix (t 26 0))) (t 37 0)))) ((up2 t 22 0 ((t 22 0) + 1)) 38 0)) 8 (ix (qLinked t (t 27 (ix (t 26 0))) (t 37 0))))) cw_M_M_comes rfl rfl (Nat.le_of_ble_eq_true rfl) (by decide) (by decide) d_M_step_141 ?_
                refine vv_st (st' := []) rfl ?_
                refine vv_goto C 265 d_M_step_144 rfl ?_
                have hE : qStep t = (qComes (qNote (up2 t 22 0 ((t 22 0) + 1)) ((up2 t 22 0 ((t 22 0) + 1)) 3 (ix (qLinked t (t 27 (ix (t 26 0))) (t 37 0)))) ((up2 t 22 0 ((t 22 0) + 1)) 38 0)) true ((qNote (up2 t 22 0 ((t 22 0) + 1)) ((up2 t 22 0 ((t 22 0) + 1)) 3 (ix (qLinked t (t 27 (ix (t 26 0))) (t 37 0)))) ((up2 t 22 0 ((t 22 0) + 1)) 38 0)) 8 (ix (qLinked t (t 27 (ix (t 26 0))) (t 37 0))))) := by
                  unfold qStep
                  rw [if_neg hz]
                  unfold qStepA
                  first | rw [if_pos h2] | rw [if_neg h2] | rw [if_pos (by exact h2)] | rw [if_neg (by exact h2)] | rw [if_neg (by exact tf_f h2)]
                  first | rw [if_pos h32] | rw [if_neg h32] | rw [if_pos (by exact h32)] | rw [if_neg (by exact h32)] | rw [if_neg (by exact tf_f h32)]
                  unfold qStepB
                  first | rw [if_neg (by exact z_nle h33)] | rw [if_pos (by exact z_le h33)]
                  rw [qSR_eq]
                  unfold qSR qSQ qSP qSG
                  first | rw [if_pos h48] | rw [if_neg h48] | rw [if_pos (by exact h48)] | rw [if_neg (by exact h48)] | skip
                  first | rw [if_pos h49] | rw [if_neg h49] | rw [if_pos (by exact h49)] | rw [if_neg (by exact h49)] | skip
                  first | rw [if_pos h57] | rw [if_neg h57] | rw [if_pos (by exact h57)] | rw [if_neg (by exact h57)] | skip
                  try rfl
                exact vv_vret C hr hlk rfl (by rw [hE] <;> rfl) d_M_step_265
          · skip
            have hE : qStep t = (qNote (up2 t 22 0 ((t 22 0) + 1)) ((up2 t 22 0 ((t 22 0) + 1)) 3 (ix (qLinked t (t 27 (ix (t 26 0))) (t 37 0)))) ((up2 t 22 0 ((t 22 0) + 1)) 38 0)) := by
              unfold qStep
              rw [if_neg hz]
              unfold qStepA
              first | rw [if_pos h2] | rw [if_neg h2] | rw [if_pos (by exact h2)] | rw [if_neg (by exact h2)] | rw [if_neg (by exact tf_f h2)]
              first | rw [if_pos h32] | rw [if_neg h32] | rw [if_pos (by exact h32)] | rw [if_neg (by exact h32)] | rw [if_neg (by exact tf_f h32)]
              unfold qStepB
              first | rw [if_neg (by exact z_nle h33)] | rw [if_pos (by exact z_le h33)]
              rw [qSR_eq]
              unfold qSR qSQ qSP qSG
              first | rw [if_pos h48] | rw [if_neg h48] | rw [if_pos (by exact h48)] | rw [if_neg (by exact h48)] | skip
              try rfl
            exact vv_vret C hr hlk rfl (by rw [hE] <;> rfl) d_M_step_110
      · skip
        replace h32 := bI_f h32
        refine vv_aload_n C d_M_step_68 rfl ?_
        refine vv_dup C d_M_step_69 rfl ?_
        refine g_M_place C d_M_step_70 ?_
        refine vv_iconst C (1) d_M_step_73 (by decide) ?_
        refine vv_iadd C d_M_step_74 ?_
        refine p_M_place C d_M_step_75 ?_
        have hE : qStep t = (up2 (up2 t 22 0 ((t 22 0) + 1)) 37 0 (((up2 t 22 0 ((t 22 0) + 1)) 37 0) + 1)) := by
          unfold qStep
          rw [if_neg hz]
          unfold qStepA
          first | rw [if_pos h2] | rw [if_neg h2] | rw [if_pos (by exact h2)] | rw [if_neg (by exact h2)] | rw [if_neg (by exact tf_f h2)]
          first | rw [if_pos h32] | rw [if_neg h32] | rw [if_pos (by exact h32)] | rw [if_neg (by exact h32)] | rw [if_neg (by exact tf_f h32)]
          try rfl
        exact vv_vret C hr hlk rfl (by rw [hE] <;> rfl) d_M_step_78
  · skip
    refine vv_aload_n C d_M_step_22 rfl ?_
    refine cllM (rest := []) C (c_M_work l Γ t h0 h19 d w hd1 hd3 e26 hw e29 mm tt hmm e27 htt e28) cw_M_M_work rfl rfl (Nat.le_of_ble_eq_true rfl) (by decide) (by decide) d_M_step_23 ?_
    refine vv_st (st' := []) rfl ?_
    have hE : qStep t = (qWork t) := by
      unfold qStep
      rw [if_pos (by exact ge0_nl h1)]
      try rfl
    exact vv_vret C hr hlk rfl (by rw [hE] <;> rfl) d_M_step_26
set_option maxHeartbeats 4000000 in
set_option maxRecDepth 100000 in
theorem c_M_twice (l : Launch) (Γ : Geo) (t : M2) (w : Nat) (hw : w < 30) (e29 : t 29 0 = nI w) (k : Int32) (hk : vp_in k 6) : CtM l Γ y_M_twice b_M_twice 2 none 1 [.ref (Γ.2.1 27), .int k] t none (qTwice t k) := by
  refine ct_of (by decide +kernel) (Nat.le_of_ble_eq_true rfl) ?_
  intro p e s m args below meth c C hr hlk
  have hb29 : vp_in (t 29 0) 30 := by rw [e29]; exact in30 (by omega)
  refine vv_aload_n C d_M_twice_0 rfl ?_
  refine g_M_threw C d_M_twice_1 ?_
  refine vv_if_eq C 8 d_M_twice_4 rfl (fun h1 => ?_) (fun h1 => ?_)
  · skip
    refine vv_aload_n C d_M_twice_8 rfl ?_
    refine g_M_waitsAgain C d_M_twice_9 ?_
    refine vv_aload_n C d_M_twice_12 rfl ?_
    refine g_M_waiting C d_M_twice_13 ?_
    refine ld_M_waitsAgain C hb29 d_M_twice_16 ?_
    refine vv_if_eq C 46 d_M_twice_17 rfl (fun h2 => ?_) (fun h2 => ?_)
    · skip
      refine vv_aload_n C d_M_twice_46 rfl ?_
      refine g_M_waitsAgain C d_M_twice_47 ?_
      refine vv_aload_n C d_M_twice_50 rfl ?_
      refine g_M_waiting C d_M_twice_51 ?_
      refine vv_iconst C (1) d_M_twice_54 (by decide) ?_
      refine sr_M_waitsAgain C (v' := 1) rfl hb29 d_M_twice_55 ?_
      refine vv_aload_n C d_M_twice_56 rfl ?_
      refine g_M_waitsR C d_M_twice_57 ?_
      refine vv_aload_n C d_M_twice_60 rfl ?_
      refine g_M_waiting C d_M_twice_61 ?_
      refine vv_aload_n C d_M_twice_64 rfl ?_
      refine g_M_value C d_M_twice_65 ?_
      refine sr_M_waitsR C hb29 d_M_twice_68 ?_
      refine vv_aload_n C d_M_twice_69 rfl ?_
      refine vv_aload_n C d_M_twice_70 rfl ?_
      refine g_M_waitsPlace C d_M_twice_71 ?_
      refine vv_aload_n C d_M_twice_74 rfl ?_
      refine g_M_waiting C d_M_twice_75 ?_
      refine ld_M_waitsPlace C hb29 d_M_twice_78 ?_
      refine vv_iconst C (1) d_M_twice_79 (by decide) ?_
      refine vv_iadd C d_M_twice_80 ?_
      refine vv_aload_n C d_M_twice_81 rfl ?_
      refine g_M_waitsX C d_M_twice_82 ?_
      refine vv_aload_n C d_M_twice_85 rfl ?_
      refine g_M_waiting C d_M_twice_86 ?_
      refine ld_M_waitsX C hb29 d_M_twice_89 ?_
      refine vv_aload_n C d_M_twice_90 rfl ?_
      refine g_M_first C d_M_twice_91 ?_
      refine vv_iload_n C d_M_twice_94 rfl ?_
      refine ld_M_first C hk d_M_twice_95 ?_
      refine vv_iadd C d_M_twice_96 ?_
      refine cllM (rest := []) C (c_M_go l Γ (up2 (up2 t 35 (ix (t 29 0)) 1) 34 (ix ((up2 t 35 (ix (t 29 0)) 1) 29 0)) ((up2 t 35 (ix (t 29 0)) 1) 40 0)) (((up2 (up2 t 35 (ix (t 29 0)) 1) 34 (ix ((up2 t 35 (ix (t 29 0)) 1) 29 0)) ((up2 t 35 (ix (t 29 0)) 1) 40 0)) 31 (ix ((up2 (up2 t 35 (ix (t 29 0)) 1) 34 (ix ((up2 t 35 (ix (t 29 0)) 1) 29 0)) ((up2 t 35 (ix (t 29 0)) 1) 40 0)) 29 0))) + 1) (((up2 (up2 t 35 (ix (t 29 0)) 1) 34 (ix ((up2 t 35 (ix (t 29 0)) 1) 29 0)) ((up2 t 35 (ix (t 29 0)) 1) 40 0)) 33 (ix ((up2 (up2 t 35 (ix (t 29 0)) 1) 34 (ix ((up2 t 35 (ix (t 29 0)) 1) 29 0)) ((up2 t 35 (ix (t 29 0)) 1) 40 0)) 29 0))) + ((up2 (up2 t 35 (ix (t 29 0)) 1) 34 (ix ((up2 t 35 (ix (t 29 0)) 1) 29 0)) ((up2 t 35 (ix (t 29 0)) 1) 40 0)) 7 (ix k)))) cw_M_M_go rfl rfl (Nat.le_of_ble_eq_true rfl) (by decide) (by decide) d_M_twice_97 ?_
      refine vv_st (st' := []) rfl ?_
      refine vv_aload_n C d_M_twice_100 rfl ?_
      refine vv_dup C d_M_twice_101 rfl ?_
      refine g_M_waiting C d_M_twice_102 ?_
      refine vv_iconst C (1) d_M_twice_105 (by decide) ?_
      refine vv_iadd C d_M_twice_106 ?_
      refine p_M_waiting C d_M_twice_107 ?_
      have hE : qTwice t k = (up2 (qGo (up2 (up2 t 35 (ix (t 29 0)) 1) 34 (ix ((up2 t 35 (ix (t 29 0)) 1) 29 0)) ((up2 t 35 (ix (t 29 0)) 1) 40 0)) (((up2 (up2 t 35 (ix (t 29 0)) 1) 34 (ix ((up2 t 35 (ix (t 29 0)) 1) 29 0)) ((up2 t 35 (ix (t 29 0)) 1) 40 0)) 31 (ix ((up2 (up2 t 35 (ix (t 29 0)) 1) 34 (ix ((up2 t 35 (ix (t 29 0)) 1) 29 0)) ((up2 t 35 (ix (t 29 0)) 1) 40 0)) 29 0))) + 1) (((up2 (up2 t 35 (ix (t 29 0)) 1) 34 (ix ((up2 t 35 (ix (t 29 0)) 1) 29 0)) ((up2 t 35 (ix (t 29 0)) 1) 40 0)) 33 (ix ((up2 (up2 t 35 (ix (t 29 0)) 1) 34 (ix ((up2 t 35 (ix (t 29 0)) 1) 29 0)) ((up2 t 35 (ix (t 29 0)) 1) 40 0)) 29 0))) + ((up2 (up2 t 35 (ix (t 29 0)) 1) 34 (ix ((up2 t 35 (ix (t 29 0)) 1) 29 0)) ((up2 t 35 (ix (t 29 0)) 1) 40 0)) 7 (ix k)))) 29 0 (((qGo (up2 (up2 t 35 (ix (t 29 0)) 1) 34 (ix ((up2 t 35 (ix (t 29 0)) 1) 29 0)) ((up2 t 35 (ix (t 29 0)) 1) 40 0)) (((up2 (up2 t 35 (ix (t 29 0)) 1) 34 (ix ((up2 t 35 (ix (t 29 0)) 1) 29 0)) ((up2 t 35 (ix (t 29 0)) 1) 40 0)) 31 (ix ((up2 (up2 t 35 (ix (t 29 0)) 1) 34 (ix ((up2 t 35 (ix (t 29 0)) 1) 29 0)) ((up2 t 35 (ix (t 29 0)) 1) 40 0)) 29 0))) + 1) (((up2 (up2 t 35 (ix (t 29 0)) 1) 34 (ix ((up2 t 35 (ix (t 29 0)) 1) 29 0)) ((up2 t 35 (ix (t 29 0)) 1) 40 0)) 33 (ix ((up2 (up2 t 35 (ix (t 29 0)) 1) 34 (ix ((up2 t 35 (ix (t 29 0)) 1) 29 0)) ((up2 t 35 (ix (t 29 0)) 1) 40 0)) 29 0))) + ((up2 (up2 t 35 (ix (t 29 0)) 1) 34 (ix ((up2 t 35 (ix (t 29 0)) 1) 29 0)) ((up2 t 35 (ix (t 29 0)) 1) 40 0)) 7 (ix k)))) 29 0) + 1)) := by
        unfold qTwice
        try dsimp only
        first | rw [if_pos h1] | rw [if_neg h1] | rw [if_pos (by exact h1)] | rw [if_neg (by exact h1)] | rw [if_neg (by exact z_nle h1)] | rw [if_pos (by exact z_le h1)] | rw [if_neg (by exact z_nlt h1)] | rw [if_pos (by exact z_lt h1)] | rw [if_neg (by exact tf_t h1)] | rw [if_neg (by exact tf_f h1)] | rw [h1] | skip
        first | rw [if_pos h2] | rw [if_neg h2] | rw [if_pos (by exact h2)] | rw [if_neg (by exact h2)] | rw [if_neg (by exact z_nle h2)] | rw [if_pos (by exact z_le h2)] | rw [if_neg (by exact z_nlt h2)] | rw [if_pos (by exact z_lt h2)] | rw [if_neg (by exact tf_t h2)] | rw [if_neg (by exact tf_f h2)] | rw [h2] | skip
        try rfl
      exact vv_vret C hr hlk rfl (by rw [hE] <;> rfl) d_M_twice_110
    · skip
      refine vv_aload_n C d_M_twice_20 rfl ?_
      refine vv_aload_n C d_M_twice_21 rfl ?_
      refine g_M_waitsR C d_M_twice_22 ?_
      refine vv_aload_n C d_M_twice_25 rfl ?_
      refine g_M_waiting C d_M_twice_26 ?_
      refine ld_M_waitsR C hb29 d_M_twice_29 ?_
      refine vv_aload_n C d_M_twice_30 rfl ?_
      refine g_M_value C d_M_twice_31 ?_
      refine vv_iadd C d_M_twice_34 ?_
      refine vv_aload_n C d_M_twice_35 rfl ?_
      refine g_M_second C d_M_twice_36 ?_
      refine vv_iload_n C d_M_twice_39 rfl ?_
      refine ld_M_second C hk d_M_twice_40 ?_
      refine vv_iadd C d_M_twice_41 ?_
      refine p_M_value C d_M_twice_42 ?_
      have hE : qTwice t k = (up2 t 40 0 (((t 34 (ix (t 29 0))) + (t 40 0)) + (t 8 (ix k)))) := by
        unfold qTwice
        try dsimp only
        first | rw [if_pos h1] | rw [if_neg h1] | rw [if_pos (by exact h1)] | rw [if_neg (by exact h1)] | rw [if_neg (by exact z_nle h1)] | rw [if_pos (by exact z_le h1)] | rw [if_neg (by exact z_nlt h1)] | rw [if_pos (by exact z_lt h1)] | rw [if_neg (by exact tf_t h1)] | rw [if_neg (by exact tf_f h1)] | rw [h1] | skip
        first | rw [if_pos h2] | rw [if_neg h2] | rw [if_pos (by exact h2)] | rw [if_neg (by exact h2)] | rw [if_neg (by exact z_nle h2)] | rw [if_pos (by exact z_le h2)] | rw [if_neg (by exact z_nlt h2)] | rw [if_pos (by exact z_lt h2)] | rw [if_neg (by exact tf_t h2)] | rw [if_neg (by exact tf_f h2)] | rw [h2] | skip
        try rfl
      exact vv_vret C hr hlk rfl (by rw [hE] <;> rfl) d_M_twice_45
  · skip
    have hE : qTwice t k = t := by
      unfold qTwice
      try dsimp only
      first | rw [if_pos h1] | rw [if_neg h1] | rw [if_pos (by exact h1)] | rw [if_neg (by exact h1)] | rw [if_neg (by exact z_nle h1)] | rw [if_pos (by exact z_le h1)] | rw [if_neg (by exact z_nlt h1)] | rw [if_pos (by exact z_lt h1)] | rw [if_neg (by exact tf_t h1)] | rw [if_neg (by exact tf_f h1)] | rw [h1] | skip
      try rfl
    exact vv_vret C hr hlk rfl (by rw [hE] <;> rfl) d_M_twice_7
set_option maxHeartbeats 4000000 in
set_option maxRecDepth 100000 in
theorem c_M_back (l : Launch) (Γ : Geo) (t : M2) (h19 : ∃ n, n ≤ 100 ∧ t 19 0 = nI n) (w : Nat) (hw : w < 30) (e29 : t 29 0 - 1 = nI w) (hK8 : t 30 (ix (t 29 0 - 1)) = 8 → vp_in (t 32 (ix (t 29 0 - 1))) 12) (hK6 : ¬ t 30 (ix (t 29 0 - 1)) = 9 → ¬ t 30 (ix (t 29 0 - 1)) = 8 → ∃ j, j < 6 ∧ t 32 (ix (t 29 0 - 1)) = nI j) (hK7 : ¬ t 30 (ix (t 29 0 - 1)) = 9 → ¬ t 30 (ix (t 29 0 - 1)) = 8 → ¬ t 30 (ix (t 29 0 - 1)) = 6 → 5 ≤ t 30 (ix (t 29 0 - 1)) → 0 ≤ t 7 (ix (t 32 (ix (t 29 0 - 1))))) : CtM l Γ y_M_back b_M_back 3 none 2 [.ref (Γ.2.1 27)] t none (qBack t) := by
  refine ct_of (by decide +kernel) (Nat.le_of_ble_eq_true rfl) ?_
  intro p e s m args below meth c C hr hlk
  have hb29 : vp_in (t 29 0 - 1) 30 := by rw [e29]; exact in30 (by omega)
  refine vv_aload_n C d_M_back_0 rfl ?_
  refine vv_dup C d_M_back_1 rfl ?_
  refine g_M_waiting C d_M_back_2 ?_
  refine vv_iconst C (1) d_M_back_5 (by decide) ?_
  refine vv_isub C d_M_back_6 ?_
  refine p_M_waiting C d_M_back_7 ?_
  refine vv_aload_n C d_M_back_10 rfl ?_
  refine g_M_waits C d_M_back_11 ?_
  refine vv_aload_n C d_M_back_14 rfl ?_
  refine g_M_waiting C d_M_back_15 ?_
  refine ld_M_waits C (by first | exact hb29 | exact vp_nt hb29) d_M_back_18 ?_
  refine vv_istore_n (lv' := [(1, .int ((up2 t 29 0 ((t 29 0) - 1)) 30 (ix ((up2 t 29 0 ((t 29 0) - 1)) 29 0)))), (0, .ref (Γ.2.1 27))]) C d_M_back_19 rfl (by decide) rfl ?_
  refine vv_aload_n C d_M_back_20 rfl ?_
  refine g_M_waitsAdvisor C d_M_back_21 ?_
  refine vv_aload_n C d_M_back_24 rfl ?_
  refine g_M_waiting C d_M_back_25 ?_
  refine ld_M_waitsAdvisor C (by first | exact hb29 | exact vp_nt hb29) d_M_back_28 ?_
  refine vv_istore_n (lv' := [(2, .int ((up2 t 29 0 ((t 29 0) - 1)) 32 (ix ((up2 t 29 0 ((t 29 0) - 1)) 29 0)))), (1, .int ((up2 t 29 0 ((t 29 0) - 1)) 30 (ix ((up2 t 29 0 ((t 29 0) - 1)) 29 0)))), (0, .ref (Γ.2.1 27))]) C d_M_back_29 rfl (by decide) rfl ?_
  refine vv_iload_n C d_M_back_30 rfl ?_
  refine vv_bipush C (9) d_M_back_31 (by decide) ?_
  refine vv_icmp_ne C 49 d_M_back_33 rfl (fun h1 => ?_) (fun h1 => ?_)
  · skip
    refine vv_iload_n C d_M_back_49 rfl ?_
    refine vv_bipush C (8) d_M_back_50 (by decide) ?_
    refine vv_icmp_ne C 94 d_M_back_52 rfl (fun h2 => ?_) (fun h2 => ?_)
    · skip
      obtain ⟨j, hj, eJ⟩ := hK6 h1 h2
      have hb6 : vp_in (t 32 (ix (t 29 0 - 1))) 6 := by rw [eJ]; exact in6 hj
      refine vv_iload_n C d_M_back_94 rfl ?_
      refine vv_iconst C (1) d_M_back_95 (by decide) ?_
      refine vv_icmp_ne C 131 d_M_back_96 rfl (fun h3 => ?_) (fun h3 => ?_)
      · skip
        refine vv_iload_n C d_M_back_131 rfl ?_
        refine vv_iconst C (3) d_M_back_132 (by decide) ?_
        refine vv_icmp_ne C 144 d_M_back_133 rfl (fun h4 => ?_) (fun h4 => ?_)
        · skip
          refine vv_iload_n C d_M_back_144 rfl ?_
          refine vv_bipush C (6) d_M_back_145 (by decide) ?_
          refine vv_icmp_ne C 201 d_M_back_147 rfl (fun h5 => ?_) (fun h5 => ?_)
          · skip
            refine vv_iload_n C d_M_back_201 rfl ?_
            refine vv_iconst C (4) d_M_back_202 (by decide) ?_
            refine vv_icmp_ne C 254 d_M_back_203 rfl (fun h6 => ?_) (fun h6 => ?_)
            · skip
              refine vv_iload_n C d_M_back_254 rfl ?_
              refine vv_iconst C (5) d_M_back_255 (by decide) ?_
              refine vv_icmp_lt C 337 d_M_back_256 rfl (fun h7 => ?_) (fun h7 => ?_)
              · skip
                have hE : qBack t = (up2 t 29 0 ((t 29 0) - 1)) := by
                  unfold qBack
                  try dsimp only
                  rw [qBN_eq]
                  unfold qBN qB5
                  first | rw [if_pos h1] | rw [if_neg h1] | rw [if_pos (by exact h1)] | rw [if_neg (by exact h1)] | rw [if_neg (by exact z_nle h1)] | rw [if_pos (by exact z_le h1)] | rw [if_neg (by exact z_nlt h1)] | rw [if_pos (by exact z_lt h1)] | rw [if_neg (by exact tf_t h1)] | rw [if_neg (by exact tf_f h1)] | rw [h1] | skip
                  first | rw [if_pos h2] | rw [if_neg h2] | rw [if_pos (by exact h2)] | rw [if_neg (by exact h2)] | rw [if_neg (by exact z_nle h2)] | rw [if_pos (by exact z_le h2)] | rw [if_neg (by exact z_nlt h2)] | rw [if_pos (by exact z_lt h2)] | rw [if_neg (by exact tf_t h2)] | rw [if_neg (by exact tf_f h2)] | rw [h2] | skip
                  first | rw [if_pos h3] | rw [if_neg h3] | rw [if_pos (by exact h3)] | rw [if_neg (by exact h3)] | rw [if_neg (by exact z_nle h3)] | rw [if_pos (by exact z_le h3)] | rw [if_neg (by exact z_nlt h3)] | rw [if_pos (by exact z_lt h3)] | rw [if_neg (by exact tf_t h3)] | rw [if_neg (by exact tf_f h3)] | rw [h3] | skip
                  first | rw [if_pos h4] | rw [if_neg h4] | rw [if_pos (by exact h4)] | rw [if_neg (by exact h4)] | rw [if_neg (by exact z_nle h4)] | rw [if_pos (by exact z_le h4)] | rw [if_neg (by exact z_nlt h4)] | rw [if_pos (by exact z_lt h4)] | rw [if_neg (by exact tf_t h4)] | rw [if_neg (by exact tf_f h4)] | rw [h4] | skip
                  first | rw [if_pos h5] | rw [if_neg h5] | rw [if_pos (by exact h5)] | rw [if_neg (by exact h5)] | rw [if_neg (by exact z_nle h5)] | rw [if_pos (by exact z_le h5)] | rw [if_neg (by exact z_nlt h5)] | rw [if_pos (by exact z_lt h5)] | rw [if_neg (by exact tf_t h5)] | rw [if_neg (by exact tf_f h5)] | rw [h5] | skip
                  first | rw [if_pos h6] | rw [if_neg h6] | rw [if_pos (by exact h6)] | rw [if_neg (by exact h6)] | rw [if_neg (by exact z_nle h6)] | rw [if_pos (by exact z_le h6)] | rw [if_neg (by exact z_nlt h6)] | rw [if_pos (by exact z_lt h6)] | rw [if_neg (by exact tf_t h6)] | rw [if_neg (by exact tf_f h6)] | rw [h6] | skip
                  first | rw [if_pos h7] | rw [if_neg h7] | rw [if_pos (by exact h7)] | rw [if_neg (by exact h7)] | rw [if_neg (by exact z_nle h7)] | rw [if_pos (by exact z_le h7)] | rw [if_neg (by exact z_nlt h7)] | rw [if_pos (by exact z_lt h7)] | rw [if_neg (by exact tf_t h7)] | rw [if_neg (by exact tf_f h7)] | rw [h7] | skip
                  try rfl
                exact vv_vret C hr hlk rfl (by rw [hE] <;> rfl) d_M_back_337
              · skip
                refine vv_aload_n C d_M_back_259 rfl ?_
                refine g_M_threw C d_M_back_260 ?_
                refine vv_if_eq C 337 d_M_back_263 rfl (fun h8 => ?_) (fun h8 => ?_)
                · skip
                  have hE : qBack t = (up2 t 29 0 ((t 29 0) - 1)) := by
                    unfold qBack
                    try dsimp only
                    rw [qBN_eq]
                    unfold qBN qB5
                    first | rw [if_pos h1] | rw [if_neg h1] | rw [if_pos (by exact h1)] | rw [if_neg (by exact h1)] | rw [if_neg (by exact z_nle h1)] | rw [if_pos (by exact z_le h1)] | rw [if_neg (by exact z_nlt h1)] | rw [if_pos (by exact z_lt h1)] | rw [if_neg (by exact tf_t h1)] | rw [if_neg (by exact tf_f h1)] | rw [h1] | skip
                    first | rw [if_pos h2] | rw [if_neg h2] | rw [if_pos (by exact h2)] | rw [if_neg (by exact h2)] | rw [if_neg (by exact z_nle h2)] | rw [if_pos (by exact z_le h2)] | rw [if_neg (by exact z_nlt h2)] | rw [if_pos (by exact z_lt h2)] | rw [if_neg (by exact tf_t h2)] | rw [if_neg (by exact tf_f h2)] | rw [h2] | skip
                    first | rw [if_pos h3] | rw [if_neg h3] | rw [if_pos (by exact h3)] | rw [if_neg (by exact h3)] | rw [if_neg (by exact z_nle h3)] | rw [if_pos (by exact z_le h3)] | rw [if_neg (by exact z_nlt h3)] | rw [if_pos (by exact z_lt h3)] | rw [if_neg (by exact tf_t h3)] | rw [if_neg (by exact tf_f h3)] | rw [h3] | skip
                    first | rw [if_pos h4] | rw [if_neg h4] | rw [if_pos (by exact h4)] | rw [if_neg (by exact h4)] | rw [if_neg (by exact z_nle h4)] | rw [if_pos (by exact z_le h4)] | rw [if_neg (by exact z_nlt h4)] | rw [if_pos (by exact z_lt h4)] | rw [if_neg (by exact tf_t h4)] | rw [if_neg (by exact tf_f h4)] | rw [h4] | skip
                    first | rw [if_pos h5] | rw [if_neg h5] | rw [if_pos (by exact h5)] | rw [if_neg (by exact h5)] | rw [if_neg (by exact z_nle h5)] | rw [if_pos (by exact z_le h5)] | rw [if_neg (by exact z_nlt h5)] | rw [if_pos (by exact z_lt h5)] | rw [if_neg (by exact tf_t h5)] | rw [if_neg (by exact tf_f h5)] | rw [h5] | skip
                    first | rw [if_pos h6] | rw [if_neg h6] | rw [if_pos (by exact h6)] | rw [if_neg (by exact h6)] | rw [if_neg (by exact z_nle h6)] | rw [if_pos (by exact z_le h6)] | rw [if_neg (by exact z_nlt h6)] | rw [if_pos (by exact z_lt h6)] | rw [if_neg (by exact tf_t h6)] | rw [if_neg (by exact tf_f h6)] | rw [h6] | skip
                    first | rw [if_pos h7] | rw [if_neg h7] | rw [if_pos (by exact h7)] | rw [if_neg (by exact h7)] | rw [if_neg (by exact z_nle h7)] | rw [if_pos (by exact z_le h7)] | rw [if_neg (by exact z_nlt h7)] | rw [if_pos (by exact z_lt h7)] | rw [if_neg (by exact tf_t h7)] | rw [if_neg (by exact tf_f h7)] | rw [h7] | skip
                    first | rw [if_pos h8] | rw [if_neg h8] | rw [if_pos (by exact h8)] | rw [if_neg (by exact h8)] | rw [if_neg (by exact z_nle h8)] | rw [if_pos (by exact z_le h8)] | rw [if_neg (by exact z_nlt h8)] | rw [if_pos (by exact z_lt h8)] | rw [if_neg (by exact tf_t h8)] | rw [if_neg (by exact tf_f h8)] | rw [h8] | skip
                    try rfl
                  exact vv_vret C hr hlk rfl (by rw [hE] <;> rfl) d_M_back_337
                · skip
                  refine vv_aload_n C d_M_back_266 rfl ?_
                  refine g_M_value C d_M_back_267 ?_
                  refine vv_aload_n C d_M_back_270 rfl ?_
                  refine g_M_first C d_M_back_271 ?_
                  refine vv_iload_n C d_M_back_274 rfl ?_
                  refine ld_M_first C hb6 d_M_back_275 ?_
                  refine cllMS (rest := []) C (c_M_isOne l Γ (up2 t 29 0 ((t 29 0) - 1)) ((up2 t 29 0 ((t 29 0) - 1)) 40 0) ((up2 t 29 0 ((t 29 0) - 1)) 7 (ix ((up2 t 29 0 ((t 29 0) - 1)) 32 (ix ((up2 t 29 0 ((t 29 0) - 1)) 29 0))))) (hK7 h1 h2 h5 (z_le h7))) cw_M_M_isOne rfl rfl (Nat.le_of_ble_eq_true rfl) (by decide) (by decide) d_M_back_276 ?_
                  refine vv_st (st' := [.int (bI (qIsOne ((up2 t 29 0 ((t 29 0) - 1)) 40 0) ((up2 t 29 0 ((t 29 0) - 1)) 7 (ix ((up2 t 29 0 ((t 29 0) - 1)) 32 (ix ((up2 t 29 0 ((t 29 0) - 1)) 29 0)))))))]) rfl ?_
                  refine vv_if_eq C 337 d_M_back_279 rfl (fun h9 => ?_) (fun h9 => ?_)
                  · skip
                    replace h9 := bI_f h9
                    have hE : qBack t = (up2 t 29 0 ((t 29 0) - 1)) := by
                      unfold qBack
                      try dsimp only
                      rw [qBN_eq]
                      unfold qBN qB5
                      first | rw [if_pos h1] | rw [if_neg h1] | rw [if_pos (by exact h1)] | rw [if_neg (by exact h1)] | rw [if_neg (by exact z_nle h1)] | rw [if_pos (by exact z_le h1)] | rw [if_neg (by exact z_nlt h1)] | rw [if_pos (by exact z_lt h1)] | rw [if_neg (by exact tf_t h1)] | rw [if_neg (by exact tf_f h1)] | rw [h1] | skip
                      first | rw [if_pos h2] | rw [if_neg h2] | rw [if_pos (by exact h2)] | rw [if_neg (by exact h2)] | rw [if_neg (by exact z_nle h2)] | rw [if_pos (by exact z_le h2)] | rw [if_neg (by exact z_nlt h2)] | rw [if_pos (by exact z_lt h2)] | rw [if_neg (by exact tf_t h2)] | rw [if_neg (by exact tf_f h2)] | rw [h2] | skip
                      first | rw [if_pos h3] | rw [if_neg h3] | rw [if_pos (by exact h3)] | rw [if_neg (by exact h3)] | rw [if_neg (by exact z_nle h3)] | rw [if_pos (by exact z_le h3)] | rw [if_neg (by exact z_nlt h3)] | rw [if_pos (by exact z_lt h3)] | rw [if_neg (by exact tf_t h3)] | rw [if_neg (by exact tf_f h3)] | rw [h3] | skip
                      first | rw [if_pos h4] | rw [if_neg h4] | rw [if_pos (by exact h4)] | rw [if_neg (by exact h4)] | rw [if_neg (by exact z_nle h4)] | rw [if_pos (by exact z_le h4)] | rw [if_neg (by exact z_nlt h4)] | rw [if_pos (by exact z_lt h4)] | rw [if_neg (by exact tf_t h4)] | rw [if_neg (by exact tf_f h4)] | rw [h4] | skip
                      first | rw [if_pos h5] | rw [if_neg h5] | rw [if_pos (by exact h5)] | rw [if_neg (by exact h5)] | rw [if_neg (by exact z_nle h5)] | rw [if_pos (by exact z_le h5)] | rw [if_neg (by exact z_nlt h5)] | rw [if_pos (by exact z_lt h5)] | rw [if_neg (by exact tf_t h5)] | rw [if_neg (by exact tf_f h5)] | rw [h5] | skip
                      first | rw [if_pos h6] | rw [if_neg h6] | rw [if_pos (by exact h6)] | rw [if_neg (by exact h6)] | rw [if_neg (by exact z_nle h6)] | rw [if_pos (by exact z_le h6)] | rw [if_neg (by exact z_nlt h6)] | rw [if_pos (by exact z_lt h6)] | rw [if_neg (by exact tf_t h6)] | rw [if_neg (by exact tf_f h6)] | rw [h6] | skip
                      first | rw [if_pos h7] | rw [if_neg h7] | rw [if_pos (by exact h7)] | rw [if_neg (by exact h7)] | rw [if_neg (by exact z_nle h7)] | rw [if_pos (by exact z_le h7)] | rw [if_neg (by exact z_nlt h7)] | rw [if_pos (by exact z_lt h7)] | rw [if_neg (by exact tf_t h7)] | rw [if_neg (by exact tf_f h7)] | rw [h7] | skip
                      first | rw [if_pos h8] | rw [if_neg h8] | rw [if_pos (by exact h8)] | rw [if_neg (by exact h8)] | rw [if_neg (by exact z_nle h8)] | rw [if_pos (by exact z_le h8)] | rw [if_neg (by exact z_nlt h8)] | rw [if_pos (by exact z_lt h8)] | rw [if_neg (by exact tf_t h8)] | rw [if_neg (by exact tf_f h8)] | rw [h8] | skip
                      first | rw [if_pos h9] | rw [if_neg h9] | rw [if_pos (by exact h9)] | rw [if_neg (by exact h9)] | rw [if_neg (by exact z_nle h9)] | rw [if_pos (by exact z_le h9)] | rw [if_neg (by exact z_nlt h9)] | rw [if_pos (by exact z_lt h9)] | rw [if_neg (by exact tf_t h9)] | rw [if_neg (by exact tf_f h9)] | rw [h9] | skip
                      try rfl
                    exact vv_vret C hr hlk rfl (by rw [hE] <;> rfl) d_M_back_337
                  · skip
                    replace h9 := bI_t h9
                    refine vv_aload_n C d_M_back_282 rfl ?_
                    refine vv_aload_n C d_M_back_283 rfl ?_
                    refine g_M_name C d_M_back_284 ?_
                    refine vv_iload_n C d_M_back_287 rfl ?_
                    refine ld_M_name C hb6 d_M_back_288 ?_
                    refine vv_aload_n C d_M_back_289 rfl ?_
                    refine g_M_value C d_M_back_290 ?_
                    refine cllM (rest := []) C (c_M_note l Γ (up2 t 29 0 ((t 29 0) - 1)) h19 ((up2 t 29 0 ((t 29 0) - 1)) 3 (ix ((up2 t 29 0 ((t 29 0) - 1)) 32 (ix ((up2 t 29 0 ((t 29 0) - 1)) 29 0))))) ((up2 t 29 0 ((t 29 0) - 1)) 40 0)) cw_M_M_note rfl rfl (Nat.le_of_ble_eq_true rfl) (by decide) (by decide) d_M_back_293 ?_
                    refine vv_st (st' := []) rfl ?_
                    refine vv_aload_n C d_M_back_296 rfl ?_
                    refine vv_iload_n C d_M_back_297 rfl ?_
                    refine vv_iconst C (5) d_M_back_298 (by decide) ?_
                    refine vv_icmp_ne C 306 d_M_back_299 rfl (fun h10 => ?_) (fun h10 => ?_)
                    · skip
                      refine vv_iconst C (0) d_M_back_306 (by decide) ?_
                      refine vv_iload_n C d_M_back_307 rfl ?_
                      refine vv_iconst C (5) d_M_back_308 (by decide) ?_
                      refine vv_icmp_ne C 328 d_M_back_309 rfl (fun _ => ?_) (fun z => absurd z h10)
                      refine vv_aload_n C d_M_back_328 rfl ?_
                      refine g_M_second C d_M_back_329 ?_
                      refine vv_iload_n C d_M_back_332 rfl ?_
                      refine ld_M_second C hb6 d_M_back_333 ?_
                      refine cllM (rest := []) C (c_M_comes l Γ (qNote (up2 t 29 0 ((t 29 0) - 1)) ((up2 t 29 0 ((t 29 0) - 1)) 3 (ix ((up2 t 29 0 ((t 29 0) - 1)) 32 (ix ((up2 t 29 0 ((t 29 0) - 1)) 29 0))))) ((up2 t 29 0 ((t 29 0) - 1)) 40 0)) false ((qNote (up2 t 29 0 ((t 29 0) - 1)) ((up2 t 29 0 ((t 29 0) - 1)) 3 (ix ((up2 t 29 0 ((t 29 0) - 1)) 32 (ix ((up2 t 29 0 ((t 29 0) - 1)) 29 0))))) ((up2 t 29 0 ((t 29 0) - 1)) 40 0)) 8 (ix ((up2 t 29 0 ((t 29 0) - 1)) 32 (ix ((up2 t 29 0 ((t 29 0) - 1)) 29 0)))))) cw_M_M_comes rfl rfl (Nat.le_of_ble_eq_true rfl) (by decide) (by decide) d_M_back_334 ?_
                      refine vv_st (st' := []) rfl ?_
                      have hE : qBack t = (qComes (qNote (up2 t 29 0 ((t 29 0) - 1)) ((up2 t 29 0 ((t 29 0) - 1)) 3 (ix ((up2 t 29 0 ((t 29 0) - 1)) 32 (ix ((up2 t 29 0 ((t 29 0) - 1)) 29 0))))) ((up2 t 29 0 ((t 29 0) - 1)) 40 0)) false ((qNote (up2 t 29 0 ((t 29 0) - 1)) ((up2 t 29 0 ((t 29 0) - 1)) 3 (ix ((up2 t 29 0 ((t 29 0) - 1)) 32 (ix ((up2 t 29 0 ((t 29 0) - 1)) 29 0))))) ((up2 t 29 0 ((t 29 0) - 1)) 40 0)) 8 (ix ((up2 t 29 0 ((t 29 0) - 1)) 32 (ix ((up2 t 29 0 ((t 29 0) - 1)) 29 0)))))) := by
                        unfold qBack
                        try dsimp only
                        rw [qBN_eq]
                        unfold qBN qB5
                        first | rw [if_pos h1] | rw [if_neg h1] | rw [if_pos (by exact h1)] | rw [if_neg (by exact h1)] | rw [if_neg (by exact z_nle h1)] | rw [if_pos (by exact z_le h1)] | rw [if_neg (by exact z_nlt h1)] | rw [if_pos (by exact z_lt h1)] | rw [if_neg (by exact tf_t h1)] | rw [if_neg (by exact tf_f h1)] | rw [h1] | skip
                        first | rw [if_pos h2] | rw [if_neg h2] | rw [if_pos (by exact h2)] | rw [if_neg (by exact h2)] | rw [if_neg (by exact z_nle h2)] | rw [if_pos (by exact z_le h2)] | rw [if_neg (by exact z_nlt h2)] | rw [if_pos (by exact z_lt h2)] | rw [if_neg (by exact tf_t h2)] | rw [if_neg (by exact tf_f h2)] | rw [h2] | skip
                        first | rw [if_pos h3] | rw [if_neg h3] | rw [if_pos (by exact h3)] | rw [if_neg (by exact h3)] | rw [if_neg (by exact z_nle h3)] | rw [if_pos (by exact z_le h3)] | rw [if_neg (by exact z_nlt h3)] | rw [if_pos (by exact z_lt h3)] | rw [if_neg (by exact tf_t h3)] | rw [if_neg (by exact tf_f h3)] | rw [h3] | skip
                        first | rw [if_pos h4] | rw [if_neg h4] | rw [if_pos (by exact h4)] | rw [if_neg (by exact h4)] | rw [if_neg (by exact z_nle h4)] | rw [if_pos (by exact z_le h4)] | rw [if_neg (by exact z_nlt h4)] | rw [if_pos (by exact z_lt h4)] | rw [if_neg (by exact tf_t h4)] | rw [if_neg (by exact tf_f h4)] | rw [h4] | skip
                        first | rw [if_pos h5] | rw [if_neg h5] | rw [if_pos (by exact h5)] | rw [if_neg (by exact h5)] | rw [if_neg (by exact z_nle h5)] | rw [if_pos (by exact z_le h5)] | rw [if_neg (by exact z_nlt h5)] | rw [if_pos (by exact z_lt h5)] | rw [if_neg (by exact tf_t h5)] | rw [if_neg (by exact tf_f h5)] | rw [h5] | skip
                        first | rw [if_pos h6] | rw [if_neg h6] | rw [if_pos (by exact h6)] | rw [if_neg (by exact h6)] | rw [if_neg (by exact z_nle h6)] | rw [if_pos (by exact z_le h6)] | rw [if_neg (by exact z_nlt h6)] | rw [if_pos (by exact z_lt h6)] | rw [if_neg (by exact tf_t h6)] | rw [if_neg (by exact tf_f h6)] | rw [h6] | skip
                        first | rw [if_pos h7] | rw [if_neg h7] | rw [if_pos (by exact h7)] | rw [if_neg (by exact h7)] | rw [if_neg (by exact z_nle h7)] | rw [if_pos (by exact z_le h7)] | rw [if_neg (by exact z_nlt h7)] | rw [if_pos (by exact z_lt h7)] | rw [if_neg (by exact tf_t h7)] | rw [if_neg (by exact tf_f h7)] | rw [h7] | skip
                        first | rw [if_pos h8] | rw [if_neg h8] | rw [if_pos (by exact h8)] | rw [if_neg (by exact h8)] | rw [if_neg (by exact z_nle h8)] | rw [if_pos (by exact z_le h8)] | rw [if_neg (by exact z_nlt h8)] | rw [if_pos (by exact z_lt h8)] | rw [if_neg (by exact tf_t h8)] | rw [if_neg (by exact tf_f h8)] | rw [h8] | skip
                        first | rw [if_pos h9] | rw [if_neg h9] | rw [if_pos (by exact h9)] | rw [if_neg (by exact h9)] | rw [if_neg (by exact z_nle h9)] | rw [if_pos (by exact z_le h9)] | rw [if_neg (by exact z_nlt h9)] | rw [if_pos (by exact z_lt h9)] | rw [if_neg (by exact tf_t h9)] | rw [if_neg (by exact tf_f h9)] | rw [h9] | skip
                        first | rw [if_pos h10] | rw [if_neg h10] | rw [if_pos (by exact h10)] | rw [if_neg (by exact h10)] | rw [if_neg (by exact z_nle h10)] | rw [if_pos (by exact z_le h10)] | rw [if_neg (by exact z_nlt h10)] | rw [if_pos (by exact z_lt h10)] | rw [if_neg (by exact tf_t h10)] | rw [if_neg (by exact tf_f h10)] | rw [h10] | skip
                        first | rw [if_pos h10] | rw [if_neg h10] | rw [if_pos (by exact h10)] | rw [if_neg (by exact h10)] | rw [if_neg (by exact z_nle h10)] | rw [if_pos (by exact z_le h10)] | rw [if_neg (by exact z_nlt h10)] | rw [if_pos (by exact z_lt h10)] | rw [if_neg (by exact tf_t h10)] | rw [if_neg (by exact tf_f h10)] | rw [h10] | skip
                        try rfl
                      exact vv_vret C hr hlk rfl (by rw [hE] <;> rfl) d_M_back_337
                    · skip
                      refine vv_iconst C (1) d_M_back_302 (by decide) ?_
                      refine vv_goto C 307 d_M_back_303 rfl ?_
                      refine vv_iload_n C d_M_back_307 rfl ?_
                      refine vv_iconst C (5) d_M_back_308 (by decide) ?_
                      refine vv_icmp_ne C 328 d_M_back_309 rfl (fun z => absurd h10 z) (fun _ => ?_)
                      refine vv_aload_n C d_M_back_312 rfl ?_
                      refine g_M_second C d_M_back_313 ?_
                      refine vv_iload_n C d_M_back_316 rfl ?_
                      refine ld_M_second C hb6 d_M_back_317 ?_
                      refine vv_if_ne C 328 d_M_back_318 rfl (fun h13 => ?_) (fun h13 => ?_)
                      · skip
                        refine vv_aload_n C d_M_back_328 rfl ?_
                        refine g_M_second C d_M_back_329 ?_
                        refine vv_iload_n C d_M_back_332 rfl ?_
                        refine ld_M_second C hb6 d_M_back_333 ?_
                        refine cllM (rest := []) C (c_M_comes l Γ (qNote (up2 t 29 0 ((t 29 0) - 1)) ((up2 t 29 0 ((t 29 0) - 1)) 3 (ix ((up2 t 29 0 ((t 29 0) - 1)) 32 (ix ((up2 t 29 0 ((t 29 0) - 1)) 29 0))))) ((up2 t 29 0 ((t 29 0) - 1)) 40 0)) true ((qNote (up2 t 29 0 ((t 29 0) - 1)) ((up2 t 29 0 ((t 29 0) - 1)) 3 (ix ((up2 t 29 0 ((t 29 0) - 1)) 32 (ix ((up2 t 29 0 ((t 29 0) - 1)) 29 0))))) ((up2 t 29 0 ((t 29 0) - 1)) 40 0)) 8 (ix ((up2 t 29 0 ((t 29 0) - 1)) 32 (ix ((up2 t 29 0 ((t 29 0) - 1)) 29 0)))))) cw_M_M_comes rfl rfl (Nat.le_of_ble_eq_true rfl) (by decide) (by decide) d_M_back_334 ?_
                        refine vv_st (st' := []) rfl ?_
                        have hE : qBack t = (qComes (qNote (up2 t 29 0 ((t 29 0) - 1)) ((up2 t 29 0 ((t 29 0) - 1)) 3 (ix ((up2 t 29 0 ((t 29 0) - 1)) 32 (ix ((up2 t 29 0 ((t 29 0) - 1)) 29 0))))) ((up2 t 29 0 ((t 29 0) - 1)) 40 0)) true ((qNote (up2 t 29 0 ((t 29 0) - 1)) ((up2 t 29 0 ((t 29 0) - 1)) 3 (ix ((up2 t 29 0 ((t 29 0) - 1)) 32 (ix ((up2 t 29 0 ((t 29 0) - 1)) 29 0))))) ((up2 t 29 0 ((t 29 0) - 1)) 40 0)) 8 (ix ((up2 t 29 0 ((t 29 0) - 1)) 32 (ix ((up2 t 29 0 ((t 29 0) - 1)) 29 0)))))) := by
                          unfold qBack
                          try dsimp only
                          rw [qBN_eq]
                          unfold qBN qB5
                          first | rw [if_pos h1] | rw [if_neg h1] | rw [if_pos (by exact h1)] | rw [if_neg (by exact h1)] | rw [if_neg (by exact z_nle h1)] | rw [if_pos (by exact z_le h1)] | rw [if_neg (by exact z_nlt h1)] | rw [if_pos (by exact z_lt h1)] | rw [if_neg (by exact tf_t h1)] | rw [if_neg (by exact tf_f h1)] | rw [h1] | skip
                          first | rw [if_pos h2] | rw [if_neg h2] | rw [if_pos (by exact h2)] | rw [if_neg (by exact h2)] | rw [if_neg (by exact z_nle h2)] | rw [if_pos (by exact z_le h2)] | rw [if_neg (by exact z_nlt h2)] | rw [if_pos (by exact z_lt h2)] | rw [if_neg (by exact tf_t h2)] | rw [if_neg (by exact tf_f h2)] | rw [h2] | skip
                          first | rw [if_pos h3] | rw [if_neg h3] | rw [if_pos (by exact h3)] | rw [if_neg (by exact h3)] | rw [if_neg (by exact z_nle h3)] | rw [if_pos (by exact z_le h3)] | rw [if_neg (by exact z_nlt h3)] | rw [if_pos (by exact z_lt h3)] | rw [if_neg (by exact tf_t h3)] | rw [if_neg (by exact tf_f h3)] | rw [h3] | skip
                          first | rw [if_pos h4] | rw [if_neg h4] | rw [if_pos (by exact h4)] | rw [if_neg (by exact h4)] | rw [if_neg (by exact z_nle h4)] | rw [if_pos (by exact z_le h4)] | rw [if_neg (by exact z_nlt h4)] | rw [if_pos (by exact z_lt h4)] | rw [if_neg (by exact tf_t h4)] | rw [if_neg (by exact tf_f h4)] | rw [h4] | skip
                          first | rw [if_pos h5] | rw [if_neg h5] | rw [if_pos (by exact h5)] | rw [if_neg (by exact h5)] | rw [if_neg (by exact z_nle h5)] | rw [if_pos (by exact z_le h5)] | rw [if_neg (by exact z_nlt h5)] | rw [if_pos (by exact z_lt h5)] | rw [if_neg (by exact tf_t h5)] | rw [if_neg (by exact tf_f h5)] | rw [h5] | skip
                          first | rw [if_pos h6] | rw [if_neg h6] | rw [if_pos (by exact h6)] | rw [if_neg (by exact h6)] | rw [if_neg (by exact z_nle h6)] | rw [if_pos (by exact z_le h6)] | rw [if_neg (by exact z_nlt h6)] | rw [if_pos (by exact z_lt h6)] | rw [if_neg (by exact tf_t h6)] | rw [if_neg (by exact tf_f h6)] | rw [h6] | skip
                          first | rw [if_pos h7] | rw [if_neg h7] | rw [if_pos (by exact h7)] | rw [if_neg (by exact h7)] | rw [if_neg (by exact z_nle h7)] | rw [if_pos (by exact z_le h7)] | rw [if_neg (by exact z_nlt h7)] | rw [if_pos (by exact z_lt h7)] | rw [if_neg (by exact tf_t h7)] | rw [if_neg (by exact tf_f h7)] | rw [h7] | skip
                          first | rw [if_pos h8] | rw [if_neg h8] | rw [if_pos (by exact h8)] | rw [if_neg (by exact h8)] | rw [if_neg (by exact z_nle h8)] | rw [if_pos (by exact z_le h8)] | rw [if_neg (by exact z_nlt h8)] | rw [if_pos (by exact z_lt h8)] | rw [if_neg (by exact tf_t h8)] | rw [if_neg (by exact tf_f h8)] | rw [h8] | skip
                          first | rw [if_pos h9] | rw [if_neg h9] | rw [if_pos (by exact h9)] | rw [if_neg (by exact h9)] | rw [if_neg (by exact z_nle h9)] | rw [if_pos (by exact z_le h9)] | rw [if_neg (by exact z_nlt h9)] | rw [if_pos (by exact z_lt h9)] | rw [if_neg (by exact tf_t h9)] | rw [if_neg (by exact tf_f h9)] | rw [h9] | skip
                          first | rw [if_pos h10] | rw [if_neg h10] | rw [if_pos (by exact h10)] | rw [if_neg (by exact h10)] | rw [if_neg (by exact z_nle h10)] | rw [if_pos (by exact z_le h10)] | rw [if_neg (by exact z_nlt h10)] | rw [if_pos (by exact z_lt h10)] | rw [if_neg (by exact tf_t h10)] | rw [if_neg (by exact tf_f h10)] | rw [h10] | skip
                          first | rw [if_pos h10] | rw [if_neg h10] | rw [if_pos (by exact h10)] | rw [if_neg (by exact h10)] | rw [if_neg (by exact z_nle h10)] | rw [if_pos (by exact z_le h10)] | rw [if_neg (by exact z_nlt h10)] | rw [if_pos (by exact z_lt h10)] | rw [if_neg (by exact tf_t h10)] | rw [if_neg (by exact tf_f h10)] | rw [h10] | skip
                          first | rw [if_pos h13] | rw [if_neg h13] | rw [if_pos (by exact h13)] | rw [if_neg (by exact h13)] | rw [if_neg (by exact z_nle h13)] | rw [if_pos (by exact z_le h13)] | rw [if_neg (by exact z_nlt h13)] | rw [if_pos (by exact z_lt h13)] | rw [if_neg (by exact tf_t h13)] | rw [if_neg (by exact tf_f h13)] | rw [h13] | skip
                          try rfl
                        exact vv_vret C hr hlk rfl (by rw [hE] <;> rfl) d_M_back_337
                      · skip
                        refine vv_aload_n C d_M_back_321 rfl ?_
                        refine g_M_value C d_M_back_322 ?_
                        refine vv_goto C 334 d_M_back_325 rfl ?_
                        refine cllM (rest := []) C (c_M_comes l Γ (qNote (up2 t 29 0 ((t 29 0) - 1)) ((up2 t 29 0 ((t 29 0) - 1)) 3 (ix ((up2 t 29 0 ((t 29 0) - 1)) 32 (ix ((up2 t 29 0 ((t 29 0) - 1)) 29 0))))) ((up2 t 29 0 ((t 29 0) - 1)) 40 0)) true ((qNote (up2 t 29 0 ((t 29 0) - 1)) ((up2 t 29 0 ((t 29 0) - 1)) 3 (ix ((up2 t 29 0 ((t 29 0) - 1)) 32 (ix ((up2 t 29 0 ((t 29 0) - 1)) 29 0))))) ((up2 t 29 0 ((t 29 0) - 1)) 40 0)) 40 0)) cw_M_M_comes rfl rfl (Nat.le_of_ble_eq_true rfl) (by decide) (by decide) d_M_back_334 ?_
                        refine vv_st (st' := []) rfl ?_
                        have hE : qBack t = (qComes (qNote (up2 t 29 0 ((t 29 0) - 1)) ((up2 t 29 0 ((t 29 0) - 1)) 3 (ix ((up2 t 29 0 ((t 29 0) - 1)) 32 (ix ((up2 t 29 0 ((t 29 0) - 1)) 29 0))))) ((up2 t 29 0 ((t 29 0) - 1)) 40 0)) true ((qNote (up2 t 29 0 ((t 29 0) - 1)) ((up2 t 29 0 ((t 29 0) - 1)) 3 (ix ((up2 t 29 0 ((t 29 0) - 1)) 32 (ix ((up2 t 29 0 ((t 29 0) - 1)) 29 0))))) ((up2 t 29 0 ((t 29 0) - 1)) 40 0)) 40 0)) := by
                          unfold qBack
                          try dsimp only
                          rw [qBN_eq]
                          unfold qBN qB5
                          first | rw [if_pos h1] | rw [if_neg h1] | rw [if_pos (by exact h1)] | rw [if_neg (by exact h1)] | rw [if_neg (by exact z_nle h1)] | rw [if_pos (by exact z_le h1)] | rw [if_neg (by exact z_nlt h1)] | rw [if_pos (by exact z_lt h1)] | rw [if_neg (by exact tf_t h1)] | rw [if_neg (by exact tf_f h1)] | rw [h1] | skip
                          first | rw [if_pos h2] | rw [if_neg h2] | rw [if_pos (by exact h2)] | rw [if_neg (by exact h2)] | rw [if_neg (by exact z_nle h2)] | rw [if_pos (by exact z_le h2)] | rw [if_neg (by exact z_nlt h2)] | rw [if_pos (by exact z_lt h2)] | rw [if_neg (by exact tf_t h2)] | rw [if_neg (by exact tf_f h2)] | rw [h2] | skip
                          first | rw [if_pos h3] | rw [if_neg h3] | rw [if_pos (by exact h3)] | rw [if_neg (by exact h3)] | rw [if_neg (by exact z_nle h3)] | rw [if_pos (by exact z_le h3)] | rw [if_neg (by exact z_nlt h3)] | rw [if_pos (by exact z_lt h3)] | rw [if_neg (by exact tf_t h3)] | rw [if_neg (by exact tf_f h3)] | rw [h3] | skip
                          first | rw [if_pos h4] | rw [if_neg h4] | rw [if_pos (by exact h4)] | rw [if_neg (by exact h4)] | rw [if_neg (by exact z_nle h4)] | rw [if_pos (by exact z_le h4)] | rw [if_neg (by exact z_nlt h4)] | rw [if_pos (by exact z_lt h4)] | rw [if_neg (by exact tf_t h4)] | rw [if_neg (by exact tf_f h4)] | rw [h4] | skip
                          first | rw [if_pos h5] | rw [if_neg h5] | rw [if_pos (by exact h5)] | rw [if_neg (by exact h5)] | rw [if_neg (by exact z_nle h5)] | rw [if_pos (by exact z_le h5)] | rw [if_neg (by exact z_nlt h5)] | rw [if_pos (by exact z_lt h5)] | rw [if_neg (by exact tf_t h5)] | rw [if_neg (by exact tf_f h5)] | rw [h5] | skip
                          first | rw [if_pos h6] | rw [if_neg h6] | rw [if_pos (by exact h6)] | rw [if_neg (by exact h6)] | rw [if_neg (by exact z_nle h6)] | rw [if_pos (by exact z_le h6)] | rw [if_neg (by exact z_nlt h6)] | rw [if_pos (by exact z_lt h6)] | rw [if_neg (by exact tf_t h6)] | rw [if_neg (by exact tf_f h6)] | rw [h6] | skip
                          first | rw [if_pos h7] | rw [if_neg h7] | rw [if_pos (by exact h7)] | rw [if_neg (by exact h7)] | rw [if_neg (by exact z_nle h7)] | rw [if_pos (by exact z_le h7)] | rw [if_neg (by exact z_nlt h7)] | rw [if_pos (by exact z_lt h7)] | rw [if_neg (by exact tf_t h7)] | rw [if_neg (by exact tf_f h7)] | rw [h7] | skip
                          first | rw [if_pos h8] | rw [if_neg h8] | rw [if_pos (by exact h8)] | rw [if_neg (by exact h8)] | rw [if_neg (by exact z_nle h8)] | rw [if_pos (by exact z_le h8)] | rw [if_neg (by exact z_nlt h8)] | rw [if_pos (by exact z_lt h8)] | rw [if_neg (by exact tf_t h8)] | rw [if_neg (by exact tf_f h8)] | rw [h8] | skip
                          first | rw [if_pos h9] | rw [if_neg h9] | rw [if_pos (by exact h9)] | rw [if_neg (by exact h9)] | rw [if_neg (by exact z_nle h9)] | rw [if_pos (by exact z_le h9)] | rw [if_neg (by exact z_nlt h9)] | rw [if_pos (by exact z_lt h9)] | rw [if_neg (by exact tf_t h9)] | rw [if_neg (by exact tf_f h9)] | rw [h9] | skip
                          first | rw [if_pos h10] | rw [if_neg h10] | rw [if_pos (by exact h10)] | rw [if_neg (by exact h10)] | rw [if_neg (by exact z_nle h10)] | rw [if_pos (by exact z_le h10)] | rw [if_neg (by exact z_nlt h10)] | rw [if_pos (by exact z_lt h10)] | rw [if_neg (by exact tf_t h10)] | rw [if_neg (by exact tf_f h10)] | rw [h10] | skip
                          first | rw [if_pos h10] | rw [if_neg h10] | rw [if_pos (by exact h10)] | rw [if_neg (by exact h10)] | rw [if_neg (by exact z_nle h10)] | rw [if_pos (by exact z_le h10)] | rw [if_neg (by exact z_nlt h10)] | rw [if_pos (by exact z_lt h10)] | rw [if_neg (by exact tf_t h10)] | rw [if_neg (by exact tf_f h10)] | rw [h10] | skip
                          first | rw [if_pos h13] | rw [if_neg h13] | rw [if_pos (by exact h13)] | rw [if_neg (by exact h13)] | rw [if_neg (by exact z_nle h13)] | rw [if_pos (by exact z_le h13)] | rw [if_neg (by exact z_nlt h13)] | rw [if_pos (by exact z_lt h13)] | rw [if_neg (by exact tf_t h13)] | rw [if_neg (by exact tf_f h13)] | rw [h13] | skip
                          try rfl
                        exact vv_vret C hr hlk rfl (by rw [hE] <;> rfl) d_M_back_337
            · skip
              refine vv_aload_n C d_M_back_206 rfl ?_
              refine g_M_threw C d_M_back_207 ?_
              refine vv_if_ne C 254 d_M_back_210 rfl (fun h14 => ?_) (fun h14 => ?_)
              · skip
                refine vv_iload_n C d_M_back_254 rfl ?_
                refine vv_iconst C (5) d_M_back_255 (by decide) ?_
                refine vv_icmp_lt C 337 d_M_back_256 rfl (fun h15 => ?_) (fun h15 => ?_)
                · skip
                  have hE : qBack t = (up2 t 29 0 ((t 29 0) - 1)) := by
                    unfold qBack
                    try dsimp only
                    rw [qBN_eq]
                    unfold qBN qB5
                    first | rw [if_pos h1] | rw [if_neg h1] | rw [if_pos (by exact h1)] | rw [if_neg (by exact h1)] | rw [if_neg (by exact z_nle h1)] | rw [if_pos (by exact z_le h1)] | rw [if_neg (by exact z_nlt h1)] | rw [if_pos (by exact z_lt h1)] | rw [if_neg (by exact tf_t h1)] | rw [if_neg (by exact tf_f h1)] | rw [h1] | skip
                    first | rw [if_pos h2] | rw [if_neg h2] | rw [if_pos (by exact h2)] | rw [if_neg (by exact h2)] | rw [if_neg (by exact z_nle h2)] | rw [if_pos (by exact z_le h2)] | rw [if_neg (by exact z_nlt h2)] | rw [if_pos (by exact z_lt h2)] | rw [if_neg (by exact tf_t h2)] | rw [if_neg (by exact tf_f h2)] | rw [h2] | skip
                    first | rw [if_pos h3] | rw [if_neg h3] | rw [if_pos (by exact h3)] | rw [if_neg (by exact h3)] | rw [if_neg (by exact z_nle h3)] | rw [if_pos (by exact z_le h3)] | rw [if_neg (by exact z_nlt h3)] | rw [if_pos (by exact z_lt h3)] | rw [if_neg (by exact tf_t h3)] | rw [if_neg (by exact tf_f h3)] | rw [h3] | skip
                    first | rw [if_pos h4] | rw [if_neg h4] | rw [if_pos (by exact h4)] | rw [if_neg (by exact h4)] | rw [if_neg (by exact z_nle h4)] | rw [if_pos (by exact z_le h4)] | rw [if_neg (by exact z_nlt h4)] | rw [if_pos (by exact z_lt h4)] | rw [if_neg (by exact tf_t h4)] | rw [if_neg (by exact tf_f h4)] | rw [h4] | skip
                    first | rw [if_pos h5] | rw [if_neg h5] | rw [if_pos (by exact h5)] | rw [if_neg (by exact h5)] | rw [if_neg (by exact z_nle h5)] | rw [if_pos (by exact z_le h5)] | rw [if_neg (by exact z_nlt h5)] | rw [if_pos (by exact z_lt h5)] | rw [if_neg (by exact tf_t h5)] | rw [if_neg (by exact tf_f h5)] | rw [h5] | skip
                    first | rw [if_pos h6] | rw [if_neg h6] | rw [if_pos (by exact h6)] | rw [if_neg (by exact h6)] | rw [if_neg (by exact z_nle h6)] | rw [if_pos (by exact z_le h6)] | rw [if_neg (by exact z_nlt h6)] | rw [if_pos (by exact z_lt h6)] | rw [if_neg (by exact tf_t h6)] | rw [if_neg (by exact tf_f h6)] | rw [h6] | skip
                    first | rw [if_pos h14] | rw [if_neg h14] | rw [if_pos (by exact h14)] | rw [if_neg (by exact h14)] | rw [if_neg (by exact z_nle h14)] | rw [if_pos (by exact z_le h14)] | rw [if_neg (by exact z_nlt h14)] | rw [if_pos (by exact z_lt h14)] | rw [if_neg (by exact tf_t h14)] | rw [if_neg (by exact tf_f h14)] | rw [h14] | skip
                    first | rw [if_pos h15] | rw [if_neg h15] | rw [if_pos (by exact h15)] | rw [if_neg (by exact h15)] | rw [if_neg (by exact z_nle h15)] | rw [if_pos (by exact z_le h15)] | rw [if_neg (by exact z_nlt h15)] | rw [if_pos (by exact z_lt h15)] | rw [if_neg (by exact tf_t h15)] | rw [if_neg (by exact tf_f h15)] | rw [h15] | skip
                    try rfl
                  exact vv_vret C hr hlk rfl (by rw [hE] <;> rfl) d_M_back_337
                · skip
                  refine vv_aload_n C d_M_back_259 rfl ?_
                  refine g_M_threw C d_M_back_260 ?_
                  refine vv_if_eq C 337 d_M_back_263 rfl (fun z => absurd z h14) (fun _ => ?_)
                  refine vv_aload_n C d_M_back_266 rfl ?_
                  refine g_M_value C d_M_back_267 ?_
                  refine vv_aload_n C d_M_back_270 rfl ?_
                  refine g_M_first C d_M_back_271 ?_
                  refine vv_iload_n C d_M_back_274 rfl ?_
                  refine ld_M_first C hb6 d_M_back_275 ?_
                  refine cllMS (rest := []) C (c_M_isOne l Γ (up2 t 29 0 ((t 29 0) - 1)) ((up2 t 29 0 ((t 29 0) - 1)) 40 0) ((up2 t 29 0 ((t 29 0) - 1)) 7 (ix ((up2 t 29 0 ((t 29 0) - 1)) 32 (ix ((up2 t 29 0 ((t 29 0) - 1)) 29 0))))) (hK7 h1 h2 h5 (z_le h15))) cw_M_M_isOne rfl rfl (Nat.le_of_ble_eq_true rfl) (by decide) (by decide) d_M_back_276 ?_
                  refine vv_st (st' := [.int (bI (qIsOne ((up2 t 29 0 ((t 29 0) - 1)) 40 0) ((up2 t 29 0 ((t 29 0) - 1)) 7 (ix ((up2 t 29 0 ((t 29 0) - 1)) 32 (ix ((up2 t 29 0 ((t 29 0) - 1)) 29 0)))))))]) rfl ?_
                  refine vv_if_eq C 337 d_M_back_279 rfl (fun h17 => ?_) (fun h17 => ?_)
                  · skip
                    replace h17 := bI_f h17
                    have hE : qBack t = (up2 t 29 0 ((t 29 0) - 1)) := by
                      unfold qBack
                      try dsimp only
                      rw [qBN_eq]
                      unfold qBN qB5
                      first | rw [if_pos h1] | rw [if_neg h1] | rw [if_pos (by exact h1)] | rw [if_neg (by exact h1)] | rw [if_neg (by exact z_nle h1)] | rw [if_pos (by exact z_le h1)] | rw [if_neg (by exact z_nlt h1)] | rw [if_pos (by exact z_lt h1)] | rw [if_neg (by exact tf_t h1)] | rw [if_neg (by exact tf_f h1)] | rw [h1] | skip
                      first | rw [if_pos h2] | rw [if_neg h2] | rw [if_pos (by exact h2)] | rw [if_neg (by exact h2)] | rw [if_neg (by exact z_nle h2)] | rw [if_pos (by exact z_le h2)] | rw [if_neg (by exact z_nlt h2)] | rw [if_pos (by exact z_lt h2)] | rw [if_neg (by exact tf_t h2)] | rw [if_neg (by exact tf_f h2)] | rw [h2] | skip
                      first | rw [if_pos h3] | rw [if_neg h3] | rw [if_pos (by exact h3)] | rw [if_neg (by exact h3)] | rw [if_neg (by exact z_nle h3)] | rw [if_pos (by exact z_le h3)] | rw [if_neg (by exact z_nlt h3)] | rw [if_pos (by exact z_lt h3)] | rw [if_neg (by exact tf_t h3)] | rw [if_neg (by exact tf_f h3)] | rw [h3] | skip
                      first | rw [if_pos h4] | rw [if_neg h4] | rw [if_pos (by exact h4)] | rw [if_neg (by exact h4)] | rw [if_neg (by exact z_nle h4)] | rw [if_pos (by exact z_le h4)] | rw [if_neg (by exact z_nlt h4)] | rw [if_pos (by exact z_lt h4)] | rw [if_neg (by exact tf_t h4)] | rw [if_neg (by exact tf_f h4)] | rw [h4] | skip
                      first | rw [if_pos h5] | rw [if_neg h5] | rw [if_pos (by exact h5)] | rw [if_neg (by exact h5)] | rw [if_neg (by exact z_nle h5)] | rw [if_pos (by exact z_le h5)] | rw [if_neg (by exact z_nlt h5)] | rw [if_pos (by exact z_lt h5)] | rw [if_neg (by exact tf_t h5)] | rw [if_neg (by exact tf_f h5)] | rw [h5] | skip
                      first | rw [if_pos h6] | rw [if_neg h6] | rw [if_pos (by exact h6)] | rw [if_neg (by exact h6)] | rw [if_neg (by exact z_nle h6)] | rw [if_pos (by exact z_le h6)] | rw [if_neg (by exact z_nlt h6)] | rw [if_pos (by exact z_lt h6)] | rw [if_neg (by exact tf_t h6)] | rw [if_neg (by exact tf_f h6)] | rw [h6] | skip
                      first | rw [if_pos h14] | rw [if_neg h14] | rw [if_pos (by exact h14)] | rw [if_neg (by exact h14)] | rw [if_neg (by exact z_nle h14)] | rw [if_pos (by exact z_le h14)] | rw [if_neg (by exact z_nlt h14)] | rw [if_pos (by exact z_lt h14)] | rw [if_neg (by exact tf_t h14)] | rw [if_neg (by exact tf_f h14)] | rw [h14] | skip
                      first | rw [if_pos h15] | rw [if_neg h15] | rw [if_pos (by exact h15)] | rw [if_neg (by exact h15)] | rw [if_neg (by exact z_nle h15)] | rw [if_pos (by exact z_le h15)] | rw [if_neg (by exact z_nlt h15)] | rw [if_pos (by exact z_lt h15)] | rw [if_neg (by exact tf_t h15)] | rw [if_neg (by exact tf_f h15)] | rw [h15] | skip
                      first | rw [if_pos h14] | rw [if_neg h14] | rw [if_pos (by exact h14)] | rw [if_neg (by exact h14)] | rw [if_neg (by exact z_nle h14)] | rw [if_pos (by exact z_le h14)] | rw [if_neg (by exact z_nlt h14)] | rw [if_pos (by exact z_lt h14)] | rw [if_neg (by exact tf_t h14)] | rw [if_neg (by exact tf_f h14)] | rw [h14] | skip
                      first | rw [if_pos h17] | rw [if_neg h17] | rw [if_pos (by exact h17)] | rw [if_neg (by exact h17)] | rw [if_neg (by exact z_nle h17)] | rw [if_pos (by exact z_le h17)] | rw [if_neg (by exact z_nlt h17)] | rw [if_pos (by exact z_lt h17)] | rw [if_neg (by exact tf_t h17)] | rw [if_neg (by exact tf_f h17)] | rw [h17] | skip
                      try rfl
                    exact vv_vret C hr hlk rfl (by rw [hE] <;> rfl) d_M_back_337
                  · skip
                    replace h17 := bI_t h17
                    refine vv_aload_n C d_M_back_282 rfl ?_
                    refine vv_aload_n C d_M_back_283 rfl ?_
                    refine g_M_name C d_M_back_284 ?_
                    refine vv_iload_n C d_M_back_287 rfl ?_
                    refine ld_M_name C hb6 d_M_back_288 ?_
                    refine vv_aload_n C d_M_back_289 rfl ?_
                    refine g_M_value C d_M_back_290 ?_
                    refine cllM (rest := []) C (c_M_note l Γ (up2 t 29 0 ((t 29 0) - 1)) h19 ((up2 t 29 0 ((t 29 0) - 1)) 3 (ix ((up2 t 29 0 ((t 29 0) - 1)) 32 (ix ((up2 t 29 0 ((t 29 0) - 1)) 29 0))))) ((up2 t 29 0 ((t 29 0) - 1)) 40 0)) cw_M_M_note rfl rfl (Nat.le_of_ble_eq_true rfl) (by decide) (by decide) d_M_back_293 ?_
                    refine vv_st (st' := []) rfl ?_
                    refine vv_aload_n C d_M_back_296 rfl ?_
                    refine vv_iload_n C d_M_back_297 rfl ?_
                    refine vv_iconst C (5) d_M_back_298 (by decide) ?_
                    refine vv_icmp_ne C 306 d_M_back_299 rfl (fun h18 => ?_) (fun h18 => ?_)
                    · skip
                      refine vv_iconst C (0) d_M_back_306 (by decide) ?_
                      refine vv_iload_n C d_M_back_307 rfl ?_
                      refine vv_iconst C (5) d_M_back_308 (by decide) ?_
                      refine vv_icmp_ne C 328 d_M_back_309 rfl (fun _ => ?_) (fun z => absurd z h18)
                      refine vv_aload_n C d_M_back_328 rfl ?_
                      refine g_M_second C d_M_back_329 ?_
                      refine vv_iload_n C d_M_back_332 rfl ?_
                      refine ld_M_second C hb6 d_M_back_333 ?_
                      refine cllM (rest := []) C (c_M_comes l Γ (qNote (up2 t 29 0 ((t 29 0) - 1)) ((up2 t 29 0 ((t 29 0) - 1)) 3 (ix ((up2 t 29 0 ((t 29 0) - 1)) 32 (ix ((up2 t 29 0 ((t 29 0) - 1)) 29 0))))) ((up2 t 29 0 ((t 29 0) - 1)) 40 0)) false ((qNote (up2 t 29 0 ((t 29 0) - 1)) ((up2 t 29 0 ((t 29 0) - 1)) 3 (ix ((up2 t 29 0 ((t 29 0) - 1)) 32 (ix ((up2 t 29 0 ((t 29 0) - 1)) 29 0))))) ((up2 t 29 0 ((t 29 0) - 1)) 40 0)) 8 (ix ((up2 t 29 0 ((t 29 0) - 1)) 32 (ix ((up2 t 29 0 ((t 29 0) - 1)) 29 0)))))) cw_M_M_comes rfl rfl (Nat.le_of_ble_eq_true rfl) (by decide) (by decide) d_M_back_334 ?_
                      refine vv_st (st' := []) rfl ?_
                      have hE : qBack t = (qComes (qNote (up2 t 29 0 ((t 29 0) - 1)) ((up2 t 29 0 ((t 29 0) - 1)) 3 (ix ((up2 t 29 0 ((t 29 0) - 1)) 32 (ix ((up2 t 29 0 ((t 29 0) - 1)) 29 0))))) ((up2 t 29 0 ((t 29 0) - 1)) 40 0)) false ((qNote (up2 t 29 0 ((t 29 0) - 1)) ((up2 t 29 0 ((t 29 0) - 1)) 3 (ix ((up2 t 29 0 ((t 29 0) - 1)) 32 (ix ((up2 t 29 0 ((t 29 0) - 1)) 29 0))))) ((up2 t 29 0 ((t 29 0) - 1)) 40 0)) 8 (ix ((up2 t 29 0 ((t 29 0) - 1)) 32 (ix ((up2 t 29 0 ((t 29 0) - 1)) 29 0)))))) := by
                        unfold qBack
                        try dsimp only
                        rw [qBN_eq]
                        unfold qBN qB5
                        first | rw [if_pos h1] | rw [if_neg h1] | rw [if_pos (by exact h1)] | rw [if_neg (by exact h1)] | rw [if_neg (by exact z_nle h1)] | rw [if_pos (by exact z_le h1)] | rw [if_neg (by exact z_nlt h1)] | rw [if_pos (by exact z_lt h1)] | rw [if_neg (by exact tf_t h1)] | rw [if_neg (by exact tf_f h1)] | rw [h1] | skip
                        first | rw [if_pos h2] | rw [if_neg h2] | rw [if_pos (by exact h2)] | rw [if_neg (by exact h2)] | rw [if_neg (by exact z_nle h2)] | rw [if_pos (by exact z_le h2)] | rw [if_neg (by exact z_nlt h2)] | rw [if_pos (by exact z_lt h2)] | rw [if_neg (by exact tf_t h2)] | rw [if_neg (by exact tf_f h2)] | rw [h2] | skip
                        first | rw [if_pos h3] | rw [if_neg h3] | rw [if_pos (by exact h3)] | rw [if_neg (by exact h3)] | rw [if_neg (by exact z_nle h3)] | rw [if_pos (by exact z_le h3)] | rw [if_neg (by exact z_nlt h3)] | rw [if_pos (by exact z_lt h3)] | rw [if_neg (by exact tf_t h3)] | rw [if_neg (by exact tf_f h3)] | rw [h3] | skip
                        first | rw [if_pos h4] | rw [if_neg h4] | rw [if_pos (by exact h4)] | rw [if_neg (by exact h4)] | rw [if_neg (by exact z_nle h4)] | rw [if_pos (by exact z_le h4)] | rw [if_neg (by exact z_nlt h4)] | rw [if_pos (by exact z_lt h4)] | rw [if_neg (by exact tf_t h4)] | rw [if_neg (by exact tf_f h4)] | rw [h4] | skip
                        first | rw [if_pos h5] | rw [if_neg h5] | rw [if_pos (by exact h5)] | rw [if_neg (by exact h5)] | rw [if_neg (by exact z_nle h5)] | rw [if_pos (by exact z_le h5)] | rw [if_neg (by exact z_nlt h5)] | rw [if_pos (by exact z_lt h5)] | rw [if_neg (by exact tf_t h5)] | rw [if_neg (by exact tf_f h5)] | rw [h5] | skip
                        first | rw [if_pos h6] | rw [if_neg h6] | rw [if_pos (by exact h6)] | rw [if_neg (by exact h6)] | rw [if_neg (by exact z_nle h6)] | rw [if_pos (by exact z_le h6)] | rw [if_neg (by exact z_nlt h6)] | rw [if_pos (by exact z_lt h6)] | rw [if_neg (by exact tf_t h6)] | rw [if_neg (by exact tf_f h6)] | rw [h6] | skip
                        first | rw [if_pos h14] | rw [if_neg h14] | rw [if_pos (by exact h14)] | rw [if_neg (by exact h14)] | rw [if_neg (by exact z_nle h14)] | rw [if_pos (by exact z_le h14)] | rw [if_neg (by exact z_nlt h14)] | rw [if_pos (by exact z_lt h14)] | rw [if_neg (by exact tf_t h14)] | rw [if_neg (by exact tf_f h14)] | rw [h14] | skip
                        first | rw [if_pos h15] | rw [if_neg h15] | rw [if_pos (by exact h15)] | rw [if_neg (by exact h15)] | rw [if_neg (by exact z_nle h15)] | rw [if_pos (by exact z_le h15)] | rw [if_neg (by exact z_nlt h15)] | rw [if_pos (by exact z_lt h15)] | rw [if_neg (by exact tf_t h15)] | rw [if_neg (by exact tf_f h15)] | rw [h15] | skip
                        first | rw [if_pos h14] | rw [if_neg h14] | rw [if_pos (by exact h14)] | rw [if_neg (by exact h14)] | rw [if_neg (by exact z_nle h14)] | rw [if_pos (by exact z_le h14)] | rw [if_neg (by exact z_nlt h14)] | rw [if_pos (by exact z_lt h14)] | rw [if_neg (by exact tf_t h14)] | rw [if_neg (by exact tf_f h14)] | rw [h14] | skip
                        first | rw [if_pos h17] | rw [if_neg h17] | rw [if_pos (by exact h17)] | rw [if_neg (by exact h17)] | rw [if_neg (by exact z_nle h17)] | rw [if_pos (by exact z_le h17)] | rw [if_neg (by exact z_nlt h17)] | rw [if_pos (by exact z_lt h17)] | rw [if_neg (by exact tf_t h17)] | rw [if_neg (by exact tf_f h17)] | rw [h17] | skip
                        first | rw [if_pos h18] | rw [if_neg h18] | rw [if_pos (by exact h18)] | rw [if_neg (by exact h18)] | rw [if_neg (by exact z_nle h18)] | rw [if_pos (by exact z_le h18)] | rw [if_neg (by exact z_nlt h18)] | rw [if_pos (by exact z_lt h18)] | rw [if_neg (by exact tf_t h18)] | rw [if_neg (by exact tf_f h18)] | rw [h18] | skip
                        first | rw [if_pos h18] | rw [if_neg h18] | rw [if_pos (by exact h18)] | rw [if_neg (by exact h18)] | rw [if_neg (by exact z_nle h18)] | rw [if_pos (by exact z_le h18)] | rw [if_neg (by exact z_nlt h18)] | rw [if_pos (by exact z_lt h18)] | rw [if_neg (by exact tf_t h18)] | rw [if_neg (by exact tf_f h18)] | rw [h18] | skip
                        try rfl
                      exact vv_vret C hr hlk rfl (by rw [hE] <;> rfl) d_M_back_337
                    · skip
                      refine vv_iconst C (1) d_M_back_302 (by decide) ?_
                      refine vv_goto C 307 d_M_back_303 rfl ?_
                      refine vv_iload_n C d_M_back_307 rfl ?_
                      refine vv_iconst C (5) d_M_back_308 (by decide) ?_
                      refine vv_icmp_ne C 328 d_M_back_309 rfl (fun z => absurd h18 z) (fun _ => ?_)
                      refine vv_aload_n C d_M_back_312 rfl ?_
                      refine g_M_second C d_M_back_313 ?_
                      refine vv_iload_n C d_M_back_316 rfl ?_
                      refine ld_M_second C hb6 d_M_back_317 ?_
                      refine vv_if_ne C 328 d_M_back_318 rfl (fun h21 => ?_) (fun h21 => ?_)
                      · skip
                        refine vv_aload_n C d_M_back_328 rfl ?_
                        refine g_M_second C d_M_back_329 ?_
                        refine vv_iload_n C d_M_back_332 rfl ?_
                        refine ld_M_second C hb6 d_M_back_333 ?_
                        refine cllM (rest := []) C (c_M_comes l Γ (qNote (up2 t 29 0 ((t 29 0) - 1)) ((up2 t 29 0 ((t 29 0) - 1)) 3 (ix ((up2 t 29 0 ((t 29 0) - 1)) 32 (ix ((up2 t 29 0 ((t 29 0) - 1)) 29 0))))) ((up2 t 29 0 ((t 29 0) - 1)) 40 0)) true ((qNote (up2 t 29 0 ((t 29 0) - 1)) ((up2 t 29 0 ((t 29 0) - 1)) 3 (ix ((up2 t 29 0 ((t 29 0) - 1)) 32 (ix ((up2 t 29 0 ((t 29 0) - 1)) 29 0))))) ((up2 t 29 0 ((t 29 0) - 1)) 40 0)) 8 (ix ((up2 t 29 0 ((t 29 0) - 1)) 32 (ix ((up2 t 29 0 ((t 29 0) - 1)) 29 0)))))) cw_M_M_comes rfl rfl (Nat.le_of_ble_eq_true rfl) (by decide) (by decide) d_M_back_334 ?_
                        refine vv_st (st' := []) rfl ?_
                        have hE : qBack t = (qComes (qNote (up2 t 29 0 ((t 29 0) - 1)) ((up2 t 29 0 ((t 29 0) - 1)) 3 (ix ((up2 t 29 0 ((t 29 0) - 1)) 32 (ix ((up2 t 29 0 ((t 29 0) - 1)) 29 0))))) ((up2 t 29 0 ((t 29 0) - 1)) 40 0)) true ((qNote (up2 t 29 0 ((t 29 0) - 1)) ((up2 t 29 0 ((t 29 0) - 1)) 3 (ix ((up2 t 29 0 ((t 29 0) - 1)) 32 (ix ((up2 t 29 0 ((t 29 0) - 1)) 29 0))))) ((up2 t 29 0 ((t 29 0) - 1)) 40 0)) 8 (ix ((up2 t 29 0 ((t 29 0) - 1)) 32 (ix ((up2 t 29 0 ((t 29 0) - 1)) 29 0)))))) := by
                          unfold qBack
                          try dsimp only
                          rw [qBN_eq]
                          unfold qBN qB5
                          first | rw [if_pos h1] | rw [if_neg h1] | rw [if_pos (by exact h1)] | rw [if_neg (by exact h1)] | rw [if_neg (by exact z_nle h1)] | rw [if_pos (by exact z_le h1)] | rw [if_neg (by exact z_nlt h1)] | rw [if_pos (by exact z_lt h1)] | rw [if_neg (by exact tf_t h1)] | rw [if_neg (by exact tf_f h1)] | rw [h1] | skip
                          first | rw [if_pos h2] | rw [if_neg h2] | rw [if_pos (by exact h2)] | rw [if_neg (by exact h2)] | rw [if_neg (by exact z_nle h2)] | rw [if_pos (by exact z_le h2)] | rw [if_neg (by exact z_nlt h2)] | rw [if_pos (by exact z_lt h2)] | rw [if_neg (by exact tf_t h2)] | rw [if_neg (by exact tf_f h2)] | rw [h2] | skip
                          first | rw [if_pos h3] | rw [if_neg h3] | rw [if_pos (by exact h3)] | rw [if_neg (by exact h3)] | rw [if_neg (by exact z_nle h3)] | rw [if_pos (by exact z_le h3)] | rw [if_neg (by exact z_nlt h3)] | rw [if_pos (by exact z_lt h3)] | rw [if_neg (by exact tf_t h3)] | rw [if_neg (by exact tf_f h3)] | rw [h3] | skip
                          first | rw [if_pos h4] | rw [if_neg h4] | rw [if_pos (by exact h4)] | rw [if_neg (by exact h4)] | rw [if_neg (by exact z_nle h4)] | rw [if_pos (by exact z_le h4)] | rw [if_neg (by exact z_nlt h4)] | rw [if_pos (by exact z_lt h4)] | rw [if_neg (by exact tf_t h4)] | rw [if_neg (by exact tf_f h4)] | rw [h4] | skip
                          first | rw [if_pos h5] | rw [if_neg h5] | rw [if_pos (by exact h5)] | rw [if_neg (by exact h5)] | rw [if_neg (by exact z_nle h5)] | rw [if_pos (by exact z_le h5)] | rw [if_neg (by exact z_nlt h5)] | rw [if_pos (by exact z_lt h5)] | rw [if_neg (by exact tf_t h5)] | rw [if_neg (by exact tf_f h5)] | rw [h5] | skip
                          first | rw [if_pos h6] | rw [if_neg h6] | rw [if_pos (by exact h6)] | rw [if_neg (by exact h6)] | rw [if_neg (by exact z_nle h6)] | rw [if_pos (by exact z_le h6)] | rw [if_neg (by exact z_nlt h6)] | rw [if_pos (by exact z_lt h6)] | rw [if_neg (by exact tf_t h6)] | rw [if_neg (by exact tf_f h6)] | rw [h6] | skip
                          first | rw [if_pos h14] | rw [if_neg h14] | rw [if_pos (by exact h14)] | rw [if_neg (by exact h14)] | rw [if_neg (by exact z_nle h14)] | rw [if_pos (by exact z_le h14)] | rw [if_neg (by exact z_nlt h14)] | rw [if_pos (by exact z_lt h14)] | rw [if_neg (by exact tf_t h14)] | rw [if_neg (by exact tf_f h14)] | rw [h14] | skip
                          first | rw [if_pos h15] | rw [if_neg h15] | rw [if_pos (by exact h15)] | rw [if_neg (by exact h15)] | rw [if_neg (by exact z_nle h15)] | rw [if_pos (by exact z_le h15)] | rw [if_neg (by exact z_nlt h15)] | rw [if_pos (by exact z_lt h15)] | rw [if_neg (by exact tf_t h15)] | rw [if_neg (by exact tf_f h15)] | rw [h15] | skip
                          first | rw [if_pos h14] | rw [if_neg h14] | rw [if_pos (by exact h14)] | rw [if_neg (by exact h14)] | rw [if_neg (by exact z_nle h14)] | rw [if_pos (by exact z_le h14)] | rw [if_neg (by exact z_nlt h14)] | rw [if_pos (by exact z_lt h14)] | rw [if_neg (by exact tf_t h14)] | rw [if_neg (by exact tf_f h14)] | rw [h14] | skip
                          first | rw [if_pos h17] | rw [if_neg h17] | rw [if_pos (by exact h17)] | rw [if_neg (by exact h17)] | rw [if_neg (by exact z_nle h17)] | rw [if_pos (by exact z_le h17)] | rw [if_neg (by exact z_nlt h17)] | rw [if_pos (by exact z_lt h17)] | rw [if_neg (by exact tf_t h17)] | rw [if_neg (by exact tf_f h17)] | rw [h17] | skip
                          first | rw [if_pos h18] | rw [if_neg h18] | rw [if_pos (by exact h18)] | rw [if_neg (by exact h18)] | rw [if_neg (by exact z_nle h18)] | rw [if_pos (by exact z_le h18)] | rw [if_neg (by exact z_nlt h18)] | rw [if_pos (by exact z_lt h18)] | rw [if_neg (by exact tf_t h18)] | rw [if_neg (by exact tf_f h18)] | rw [h18] | skip
                          first | rw [if_pos h18] | rw [if_neg h18] | rw [if_pos (by exact h18)] | rw [if_neg (by exact h18)] | rw [if_neg (by exact z_nle h18)] | rw [if_pos (by exact z_le h18)] | rw [if_neg (by exact z_nlt h18)] | rw [if_pos (by exact z_lt h18)] | rw [if_neg (by exact tf_t h18)] | rw [if_neg (by exact tf_f h18)] | rw [h18] | skip
                          first | rw [if_pos h21] | rw [if_neg h21] | rw [if_pos (by exact h21)] | rw [if_neg (by exact h21)] | rw [if_neg (by exact z_nle h21)] | rw [if_pos (by exact z_le h21)] | rw [if_neg (by exact z_nlt h21)] | rw [if_pos (by exact z_lt h21)] | rw [if_neg (by exact tf_t h21)] | rw [if_neg (by exact tf_f h21)] | rw [h21] | skip
                          try rfl
                        exact vv_vret C hr hlk rfl (by rw [hE] <;> rfl) d_M_back_337
                      · skip
                        refine vv_aload_n C d_M_back_321 rfl ?_
                        refine g_M_value C d_M_back_322 ?_
                        refine vv_goto C 334 d_M_back_325 rfl ?_
                        refine cllM (rest := []) C (c_M_comes l Γ (qNote (up2 t 29 0 ((t 29 0) - 1)) ((up2 t 29 0 ((t 29 0) - 1)) 3 (ix ((up2 t 29 0 ((t 29 0) - 1)) 32 (ix ((up2 t 29 0 ((t 29 0) - 1)) 29 0))))) ((up2 t 29 0 ((t 29 0) - 1)) 40 0)) true ((qNote (up2 t 29 0 ((t 29 0) - 1)) ((up2 t 29 0 ((t 29 0) - 1)) 3 (ix ((up2 t 29 0 ((t 29 0) - 1)) 32 (ix ((up2 t 29 0 ((t 29 0) - 1)) 29 0))))) ((up2 t 29 0 ((t 29 0) - 1)) 40 0)) 40 0)) cw_M_M_comes rfl rfl (Nat.le_of_ble_eq_true rfl) (by decide) (by decide) d_M_back_334 ?_
                        refine vv_st (st' := []) rfl ?_
                        have hE : qBack t = (qComes (qNote (up2 t 29 0 ((t 29 0) - 1)) ((up2 t 29 0 ((t 29 0) - 1)) 3 (ix ((up2 t 29 0 ((t 29 0) - 1)) 32 (ix ((up2 t 29 0 ((t 29 0) - 1)) 29 0))))) ((up2 t 29 0 ((t 29 0) - 1)) 40 0)) true ((qNote (up2 t 29 0 ((t 29 0) - 1)) ((up2 t 29 0 ((t 29 0) - 1)) 3 (ix ((up2 t 29 0 ((t 29 0) - 1)) 32 (ix ((up2 t 29 0 ((t 29 0) - 1)) 29 0))))) ((up2 t 29 0 ((t 29 0) - 1)) 40 0)) 40 0)) := by
                          unfold qBack
                          try dsimp only
                          rw [qBN_eq]
                          unfold qBN qB5
                          first | rw [if_pos h1] | rw [if_neg h1] | rw [if_pos (by exact h1)] | rw [if_neg (by exact h1)] | rw [if_neg (by exact z_nle h1)] | rw [if_pos (by exact z_le h1)] | rw [if_neg (by exact z_nlt h1)] | rw [if_pos (by exact z_lt h1)] | rw [if_neg (by exact tf_t h1)] | rw [if_neg (by exact tf_f h1)] | rw [h1] | skip
                          first | rw [if_pos h2] | rw [if_neg h2] | rw [if_pos (by exact h2)] | rw [if_neg (by exact h2)] | rw [if_neg (by exact z_nle h2)] | rw [if_pos (by exact z_le h2)] | rw [if_neg (by exact z_nlt h2)] | rw [if_pos (by exact z_lt h2)] | rw [if_neg (by exact tf_t h2)] | rw [if_neg (by exact tf_f h2)] | rw [h2] | skip
                          first | rw [if_pos h3] | rw [if_neg h3] | rw [if_pos (by exact h3)] | rw [if_neg (by exact h3)] | rw [if_neg (by exact z_nle h3)] | rw [if_pos (by exact z_le h3)] | rw [if_neg (by exact z_nlt h3)] | rw [if_pos (by exact z_lt h3)] | rw [if_neg (by exact tf_t h3)] | rw [if_neg (by exact tf_f h3)] | rw [h3] | skip
                          first | rw [if_pos h4] | rw [if_neg h4] | rw [if_pos (by exact h4)] | rw [if_neg (by exact h4)] | rw [if_neg (by exact z_nle h4)] | rw [if_pos (by exact z_le h4)] | rw [if_neg (by exact z_nlt h4)] | rw [if_pos (by exact z_lt h4)] | rw [if_neg (by exact tf_t h4)] | rw [if_neg (by exact tf_f h4)] | rw [h4] | skip
                          first | rw [if_pos h5] | rw [if_neg h5] | rw [if_pos (by exact h5)] | rw [if_neg (by exact h5)] | rw [if_neg (by exact z_nle h5)] | rw [if_pos (by exact z_le h5)] | rw [if_neg (by exact z_nlt h5)] | rw [if_pos (by exact z_lt h5)] | rw [if_neg (by exact tf_t h5)] | rw [if_neg (by exact tf_f h5)] | rw [h5] | skip
                          first | rw [if_pos h6] | rw [if_neg h6] | rw [if_pos (by exact h6)] | rw [if_neg (by exact h6)] | rw [if_neg (by exact z_nle h6)] | rw [if_pos (by exact z_le h6)] | rw [if_neg (by exact z_nlt h6)] | rw [if_pos (by exact z_lt h6)] | rw [if_neg (by exact tf_t h6)] | rw [if_neg (by exact tf_f h6)] | rw [h6] | skip
                          first | rw [if_pos h14] | rw [if_neg h14] | rw [if_pos (by exact h14)] | rw [if_neg (by exact h14)] | rw [if_neg (by exact z_nle h14)] | rw [if_pos (by exact z_le h14)] | rw [if_neg (by exact z_nlt h14)] | rw [if_pos (by exact z_lt h14)] | rw [if_neg (by exact tf_t h14)] | rw [if_neg (by exact tf_f h14)] | rw [h14] | skip
                          first | rw [if_pos h15] | rw [if_neg h15] | rw [if_pos (by exact h15)] | rw [if_neg (by exact h15)] | rw [if_neg (by exact z_nle h15)] | rw [if_pos (by exact z_le h15)] | rw [if_neg (by exact z_nlt h15)] | rw [if_pos (by exact z_lt h15)] | rw [if_neg (by exact tf_t h15)] | rw [if_neg (by exact tf_f h15)] | rw [h15] | skip
                          first | rw [if_pos h14] | rw [if_neg h14] | rw [if_pos (by exact h14)] | rw [if_neg (by exact h14)] | rw [if_neg (by exact z_nle h14)] | rw [if_pos (by exact z_le h14)] | rw [if_neg (by exact z_nlt h14)] | rw [if_pos (by exact z_lt h14)] | rw [if_neg (by exact tf_t h14)] | rw [if_neg (by exact tf_f h14)] | rw [h14] | skip
                          first | rw [if_pos h17] | rw [if_neg h17] | rw [if_pos (by exact h17)] | rw [if_neg (by exact h17)] | rw [if_neg (by exact z_nle h17)] | rw [if_pos (by exact z_le h17)] | rw [if_neg (by exact z_nlt h17)] | rw [if_pos (by exact z_lt h17)] | rw [if_neg (by exact tf_t h17)] | rw [if_neg (by exact tf_f h17)] | rw [h17] | skip
                          first | rw [if_pos h18] | rw [if_neg h18] | rw [if_pos (by exact h18)] | rw [if_neg (by exact h18)] | rw [if_neg (by exact z_nle h18)] | rw [if_pos (by exact z_le h18)] | rw [if_neg (by exact z_nlt h18)] | rw [if_pos (by exact z_lt h18)] | rw [if_neg (by exact tf_t h18)] | rw [if_neg (by exact tf_f h18)] | rw [h18] | skip
                          first | rw [if_pos h18] | rw [if_neg h18] | rw [if_pos (by exact h18)] | rw [if_neg (by exact h18)] | rw [if_neg (by exact z_nle h18)] | rw [if_pos (by exact z_le h18)] | rw [if_neg (by exact z_nlt h18)] | rw [if_pos (by exact z_lt h18)] | rw [if_neg (by exact tf_t h18)] | rw [if_neg (by exact tf_f h18)] | rw [h18] | skip
                          first | rw [if_pos h21] | rw [if_neg h21] | rw [if_pos (by exact h21)] | rw [if_neg (by exact h21)] | rw [if_neg (by exact z_nle h21)] | rw [if_pos (by exact z_le h21)] | rw [if_neg (by exact z_nlt h21)] | rw [if_pos (by exact z_lt h21)] | rw [if_neg (by exact tf_t h21)] | rw [if_neg (by exact tf_f h21)] | rw [h21] | skip
                          try rfl
                        exact vv_vret C hr hlk rfl (by rw [hE] <;> rfl) d_M_back_337
              · skip
                refine vv_aload_n C d_M_back_213 rfl ?_
                refine vv_aload_n C d_M_back_214 rfl ?_
                refine g_M_name C d_M_back_215 ?_
                refine vv_iload_n C d_M_back_218 rfl ?_
                refine ld_M_name C hb6 d_M_back_219 ?_
                refine vv_aload_n C d_M_back_220 rfl ?_
                refine g_M_value C d_M_back_221 ?_
                refine cllM (rest := []) C (c_M_note l Γ (up2 t 29 0 ((t 29 0) - 1)) h19 ((up2 t 29 0 ((t 29 0) - 1)) 3 (ix ((up2 t 29 0 ((t 29 0) - 1)) 32 (ix ((up2 t 29 0 ((t 29 0) - 1)) 29 0))))) ((up2 t 29 0 ((t 29 0) - 1)) 40 0)) cw_M_M_note rfl rfl (Nat.le_of_ble_eq_true rfl) (by decide) (by decide) d_M_back_224 ?_
                refine vv_st (st' := []) rfl ?_
                refine vv_aload_n C d_M_back_227 rfl ?_
                refine g_M_value C d_M_back_228 ?_
                refine vv_aload_n C d_M_back_231 rfl ?_
                refine g_M_first C d_M_back_232 ?_
                refine vv_iload_n C d_M_back_235 rfl ?_
                refine ld_M_first C hb6 d_M_back_236 ?_
                refine vv_icmp_ne C 337 d_M_back_237 rfl (fun h22 => ?_) (fun h22 => ?_)
                · skip
                  have hE : qBack t = (qNote (up2 t 29 0 ((t 29 0) - 1)) ((up2 t 29 0 ((t 29 0) - 1)) 3 (ix ((up2 t 29 0 ((t 29 0) - 1)) 32 (ix ((up2 t 29 0 ((t 29 0) - 1)) 29 0))))) ((up2 t 29 0 ((t 29 0) - 1)) 40 0)) := by
                    unfold qBack
                    try dsimp only
                    rw [qBN_eq]
                    unfold qBN qB5
                    first | rw [if_pos h1] | rw [if_neg h1] | rw [if_pos (by exact h1)] | rw [if_neg (by exact h1)] | rw [if_neg (by exact z_nle h1)] | rw [if_pos (by exact z_le h1)] | rw [if_neg (by exact z_nlt h1)] | rw [if_pos (by exact z_lt h1)] | rw [if_neg (by exact tf_t h1)] | rw [if_neg (by exact tf_f h1)] | rw [h1] | skip
                    first | rw [if_pos h2] | rw [if_neg h2] | rw [if_pos (by exact h2)] | rw [if_neg (by exact h2)] | rw [if_neg (by exact z_nle h2)] | rw [if_pos (by exact z_le h2)] | rw [if_neg (by exact z_nlt h2)] | rw [if_pos (by exact z_lt h2)] | rw [if_neg (by exact tf_t h2)] | rw [if_neg (by exact tf_f h2)] | rw [h2] | skip
                    first | rw [if_pos h3] | rw [if_neg h3] | rw [if_pos (by exact h3)] | rw [if_neg (by exact h3)] | rw [if_neg (by exact z_nle h3)] | rw [if_pos (by exact z_le h3)] | rw [if_neg (by exact z_nlt h3)] | rw [if_pos (by exact z_lt h3)] | rw [if_neg (by exact tf_t h3)] | rw [if_neg (by exact tf_f h3)] | rw [h3] | skip
                    first | rw [if_pos h4] | rw [if_neg h4] | rw [if_pos (by exact h4)] | rw [if_neg (by exact h4)] | rw [if_neg (by exact z_nle h4)] | rw [if_pos (by exact z_le h4)] | rw [if_neg (by exact z_nlt h4)] | rw [if_pos (by exact z_lt h4)] | rw [if_neg (by exact tf_t h4)] | rw [if_neg (by exact tf_f h4)] | rw [h4] | skip
                    first | rw [if_pos h5] | rw [if_neg h5] | rw [if_pos (by exact h5)] | rw [if_neg (by exact h5)] | rw [if_neg (by exact z_nle h5)] | rw [if_pos (by exact z_le h5)] | rw [if_neg (by exact z_nlt h5)] | rw [if_pos (by exact z_lt h5)] | rw [if_neg (by exact tf_t h5)] | rw [if_neg (by exact tf_f h5)] | rw [h5] | skip
                    first | rw [if_pos h6] | rw [if_neg h6] | rw [if_pos (by exact h6)] | rw [if_neg (by exact h6)] | rw [if_neg (by exact z_nle h6)] | rw [if_pos (by exact z_le h6)] | rw [if_neg (by exact z_nlt h6)] | rw [if_pos (by exact z_lt h6)] | rw [if_neg (by exact tf_t h6)] | rw [if_neg (by exact tf_f h6)] | rw [h6] | skip
                    first | rw [if_pos h14] | rw [if_neg h14] | rw [if_pos (by exact h14)] | rw [if_neg (by exact h14)] | rw [if_neg (by exact z_nle h14)] | rw [if_pos (by exact z_le h14)] | rw [if_neg (by exact z_nlt h14)] | rw [if_pos (by exact z_lt h14)] | rw [if_neg (by exact tf_t h14)] | rw [if_neg (by exact tf_f h14)] | rw [h14] | skip
                    first | rw [if_pos h22] | rw [if_neg h22] | rw [if_pos (by exact h22)] | rw [if_neg (by exact h22)] | rw [if_neg (by exact z_nle h22)] | rw [if_pos (by exact z_le h22)] | rw [if_neg (by exact z_nlt h22)] | rw [if_pos (by exact z_lt h22)] | rw [if_neg (by exact tf_t h22)] | rw [if_neg (by exact tf_f h22)] | rw [h22] | skip
                    try rfl
                  exact vv_vret C hr hlk rfl (by rw [hE] <;> rfl) d_M_back_337
                · skip
                  refine vv_aload_n C d_M_back_240 rfl ?_
                  refine vv_iconst C (1) d_M_back_241 (by decide) ?_
                  refine vv_aload_n C d_M_back_242 rfl ?_
                  refine g_M_second C d_M_back_243 ?_
                  refine vv_iload_n C d_M_back_246 rfl ?_
                  refine ld_M_second C hb6 d_M_back_247 ?_
                  refine cllM (rest := []) C (c_M_comes l Γ (qNote (up2 t 29 0 ((t 29 0) - 1)) ((up2 t 29 0 ((t 29 0) - 1)) 3 (ix ((up2 t 29 0 ((t 29 0) - 1)) 32 (ix ((up2 t 29 0 ((t 29 0) - 1)) 29 0))))) ((up2 t 29 0 ((t 29 0) - 1)) 40 0)) true ((qNote (up2 t 29 0 ((t 29 0) - 1)) ((up2 t 29 0 ((t 29 0) - 1)) 3 (ix ((up2 t 29 0 ((t 29 0) - 1)) 32 (ix ((up2 t 29 0 ((t 29 0) - 1)) 29 0))))) ((up2 t 29 0 ((t 29 0) - 1)) 40 0)) 8 (ix ((up2 t 29 0 ((t 29 0) - 1)) 32 (ix ((up2 t 29 0 ((t 29 0) - 1)) 29 0)))))) cw_M_M_comes rfl rfl (Nat.le_of_ble_eq_true rfl) (by decide) (by decide) d_M_back_248 ?_
                  refine vv_st (st' := []) rfl ?_
                  refine vv_goto C 337 d_M_back_251 rfl ?_
                  have hE : qBack t = (qComes (qNote (up2 t 29 0 ((t 29 0) - 1)) ((up2 t 29 0 ((t 29 0) - 1)) 3 (ix ((up2 t 29 0 ((t 29 0) - 1)) 32 (ix ((up2 t 29 0 ((t 29 0) - 1)) 29 0))))) ((up2 t 29 0 ((t 29 0) - 1)) 40 0)) true ((qNote (up2 t 29 0 ((t 29 0) - 1)) ((up2 t 29 0 ((t 29 0) - 1)) 3 (ix ((up2 t 29 0 ((t 29 0) - 1)) 32 (ix ((up2 t 29 0 ((t 29 0) - 1)) 29 0))))) ((up2 t 29 0 ((t 29 0) - 1)) 40 0)) 8 (ix ((up2 t 29 0 ((t 29 0) - 1)) 32 (ix ((up2 t 29 0 ((t 29 0) - 1)) 29 0)))))) := by
                    unfold qBack
                    try dsimp only
                    rw [qBN_eq]
                    unfold qBN qB5
                    first | rw [if_pos h1] | rw [if_neg h1] | rw [if_pos (by exact h1)] | rw [if_neg (by exact h1)] | rw [if_neg (by exact z_nle h1)] | rw [if_pos (by exact z_le h1)] | rw [if_neg (by exact z_nlt h1)] | rw [if_pos (by exact z_lt h1)] | rw [if_neg (by exact tf_t h1)] | rw [if_neg (by exact tf_f h1)] | rw [h1] | skip
                    first | rw [if_pos h2] | rw [if_neg h2] | rw [if_pos (by exact h2)] | rw [if_neg (by exact h2)] | rw [if_neg (by exact z_nle h2)] | rw [if_pos (by exact z_le h2)] | rw [if_neg (by exact z_nlt h2)] | rw [if_pos (by exact z_lt h2)] | rw [if_neg (by exact tf_t h2)] | rw [if_neg (by exact tf_f h2)] | rw [h2] | skip
                    first | rw [if_pos h3] | rw [if_neg h3] | rw [if_pos (by exact h3)] | rw [if_neg (by exact h3)] | rw [if_neg (by exact z_nle h3)] | rw [if_pos (by exact z_le h3)] | rw [if_neg (by exact z_nlt h3)] | rw [if_pos (by exact z_lt h3)] | rw [if_neg (by exact tf_t h3)] | rw [if_neg (by exact tf_f h3)] | rw [h3] | skip
                    first | rw [if_pos h4] | rw [if_neg h4] | rw [if_pos (by exact h4)] | rw [if_neg (by exact h4)] | rw [if_neg (by exact z_nle h4)] | rw [if_pos (by exact z_le h4)] | rw [if_neg (by exact z_nlt h4)] | rw [if_pos (by exact z_lt h4)] | rw [if_neg (by exact tf_t h4)] | rw [if_neg (by exact tf_f h4)] | rw [h4] | skip
                    first | rw [if_pos h5] | rw [if_neg h5] | rw [if_pos (by exact h5)] | rw [if_neg (by exact h5)] | rw [if_neg (by exact z_nle h5)] | rw [if_pos (by exact z_le h5)] | rw [if_neg (by exact z_nlt h5)] | rw [if_pos (by exact z_lt h5)] | rw [if_neg (by exact tf_t h5)] | rw [if_neg (by exact tf_f h5)] | rw [h5] | skip
                    first | rw [if_pos h6] | rw [if_neg h6] | rw [if_pos (by exact h6)] | rw [if_neg (by exact h6)] | rw [if_neg (by exact z_nle h6)] | rw [if_pos (by exact z_le h6)] | rw [if_neg (by exact z_nlt h6)] | rw [if_pos (by exact z_lt h6)] | rw [if_neg (by exact tf_t h6)] | rw [if_neg (by exact tf_f h6)] | rw [h6] | skip
                    first | rw [if_pos h14] | rw [if_neg h14] | rw [if_pos (by exact h14)] | rw [if_neg (by exact h14)] | rw [if_neg (by exact z_nle h14)] | rw [if_pos (by exact z_le h14)] | rw [if_neg (by exact z_nlt h14)] | rw [if_pos (by exact z_lt h14)] | rw [if_neg (by exact tf_t h14)] | rw [if_neg (by exact tf_f h14)] | rw [h14] | skip
                    first | rw [if_pos h22] | rw [if_neg h22] | rw [if_pos (by exact h22)] | rw [if_neg (by exact h22)] | rw [if_neg (by exact z_nle h22)] | rw [if_pos (by exact z_le h22)] | rw [if_neg (by exact z_nlt h22)] | rw [if_pos (by exact z_lt h22)] | rw [if_neg (by exact tf_t h22)] | rw [if_neg (by exact tf_f h22)] | rw [h22] | skip
                    try rfl
                  exact vv_vret C hr hlk rfl (by rw [hE] <;> rfl) d_M_back_337
          · skip
            refine vv_aload_n C d_M_back_150 rfl ?_
            refine vv_aload_n C d_M_back_151 rfl ?_
            refine g_M_name C d_M_back_152 ?_
            refine vv_iload_n C d_M_back_155 rfl ?_
            refine ld_M_name C hb6 d_M_back_156 ?_
            refine vv_aload_n C d_M_back_157 rfl ?_
            refine g_M_waitsX C d_M_back_158 ?_
            refine vv_aload_n C d_M_back_161 rfl ?_
            refine g_M_waiting C d_M_back_162 ?_
            refine ld_M_waitsX C (by first | exact hb29 | exact vp_nt hb29) d_M_back_165 ?_
            refine cllM (rest := []) C (c_M_note l Γ (up2 t 29 0 ((t 29 0) - 1)) h19 ((up2 t 29 0 ((t 29 0) - 1)) 3 (ix ((up2 t 29 0 ((t 29 0) - 1)) 32 (ix ((up2 t 29 0 ((t 29 0) - 1)) 29 0))))) ((up2 t 29 0 ((t 29 0) - 1)) 33 (ix ((up2 t 29 0 ((t 29 0) - 1)) 29 0)))) cw_M_M_note rfl rfl (Nat.le_of_ble_eq_true rfl) (by decide) (by decide) d_M_back_166 ?_
            refine vv_st (st' := []) rfl ?_
            refine vv_aload_n C d_M_back_169 rfl ?_
            refine g_M_waitsX C d_M_back_170 ?_
            refine vv_aload_n C d_M_back_173 rfl ?_
            refine g_M_waiting C d_M_back_174 ?_
            refine ld_M_waitsX C (by first | exact hb29 | exact vp_nt hb29) d_M_back_177 ?_
            refine vv_aload_n C d_M_back_178 rfl ?_
            refine g_M_first C d_M_back_179 ?_
            refine vv_iload_n C d_M_back_182 rfl ?_
            refine ld_M_first C hb6 d_M_back_183 ?_
            refine vv_icmp_ne C 337 d_M_back_184 rfl (fun h23 => ?_) (fun h23 => ?_)
            · skip
              have hE : qBack t = (qNote (up2 t 29 0 ((t 29 0) - 1)) ((up2 t 29 0 ((t 29 0) - 1)) 3 (ix ((up2 t 29 0 ((t 29 0) - 1)) 32 (ix ((up2 t 29 0 ((t 29 0) - 1)) 29 0))))) ((up2 t 29 0 ((t 29 0) - 1)) 33 (ix ((up2 t 29 0 ((t 29 0) - 1)) 29 0)))) := by
                unfold qBack
                try dsimp only
                rw [qBN_eq]
                unfold qBN qB5
                first | rw [if_pos h1] | rw [if_neg h1] | rw [if_pos (by exact h1)] | rw [if_neg (by exact h1)] | rw [if_neg (by exact z_nle h1)] | rw [if_pos (by exact z_le h1)] | rw [if_neg (by exact z_nlt h1)] | rw [if_pos (by exact z_lt h1)] | rw [if_neg (by exact tf_t h1)] | rw [if_neg (by exact tf_f h1)] | rw [h1] | skip
                first | rw [if_pos h2] | rw [if_neg h2] | rw [if_pos (by exact h2)] | rw [if_neg (by exact h2)] | rw [if_neg (by exact z_nle h2)] | rw [if_pos (by exact z_le h2)] | rw [if_neg (by exact z_nlt h2)] | rw [if_pos (by exact z_lt h2)] | rw [if_neg (by exact tf_t h2)] | rw [if_neg (by exact tf_f h2)] | rw [h2] | skip
                first | rw [if_pos h3] | rw [if_neg h3] | rw [if_pos (by exact h3)] | rw [if_neg (by exact h3)] | rw [if_neg (by exact z_nle h3)] | rw [if_pos (by exact z_le h3)] | rw [if_neg (by exact z_nlt h3)] | rw [if_pos (by exact z_lt h3)] | rw [if_neg (by exact tf_t h3)] | rw [if_neg (by exact tf_f h3)] | rw [h3] | skip
                first | rw [if_pos h4] | rw [if_neg h4] | rw [if_pos (by exact h4)] | rw [if_neg (by exact h4)] | rw [if_neg (by exact z_nle h4)] | rw [if_pos (by exact z_le h4)] | rw [if_neg (by exact z_nlt h4)] | rw [if_pos (by exact z_lt h4)] | rw [if_neg (by exact tf_t h4)] | rw [if_neg (by exact tf_f h4)] | rw [h4] | skip
                first | rw [if_pos h5] | rw [if_neg h5] | rw [if_pos (by exact h5)] | rw [if_neg (by exact h5)] | rw [if_neg (by exact z_nle h5)] | rw [if_pos (by exact z_le h5)] | rw [if_neg (by exact z_nlt h5)] | rw [if_pos (by exact z_lt h5)] | rw [if_neg (by exact tf_t h5)] | rw [if_neg (by exact tf_f h5)] | rw [h5] | skip
                first | rw [if_pos h23] | rw [if_neg h23] | rw [if_pos (by exact h23)] | rw [if_neg (by exact h23)] | rw [if_neg (by exact z_nle h23)] | rw [if_pos (by exact z_le h23)] | rw [if_neg (by exact z_nlt h23)] | rw [if_pos (by exact z_lt h23)] | rw [if_neg (by exact tf_t h23)] | rw [if_neg (by exact tf_f h23)] | rw [h23] | skip
                try rfl
              exact vv_vret C hr hlk rfl (by rw [hE] <;> rfl) d_M_back_337
            · skip
              refine vv_aload_n C d_M_back_187 rfl ?_
              refine vv_iconst C (1) d_M_back_188 (by decide) ?_
              refine vv_aload_n C d_M_back_189 rfl ?_
              refine g_M_second C d_M_back_190 ?_
              refine vv_iload_n C d_M_back_193 rfl ?_
              refine ld_M_second C hb6 d_M_back_194 ?_
              refine cllM (rest := []) C (c_M_comes l Γ (qNote (up2 t 29 0 ((t 29 0) - 1)) ((up2 t 29 0 ((t 29 0) - 1)) 3 (ix ((up2 t 29 0 ((t 29 0) - 1)) 32 (ix ((up2 t 29 0 ((t 29 0) - 1)) 29 0))))) ((up2 t 29 0 ((t 29 0) - 1)) 33 (ix ((up2 t 29 0 ((t 29 0) - 1)) 29 0)))) true ((qNote (up2 t 29 0 ((t 29 0) - 1)) ((up2 t 29 0 ((t 29 0) - 1)) 3 (ix ((up2 t 29 0 ((t 29 0) - 1)) 32 (ix ((up2 t 29 0 ((t 29 0) - 1)) 29 0))))) ((up2 t 29 0 ((t 29 0) - 1)) 33 (ix ((up2 t 29 0 ((t 29 0) - 1)) 29 0)))) 8 (ix ((up2 t 29 0 ((t 29 0) - 1)) 32 (ix ((up2 t 29 0 ((t 29 0) - 1)) 29 0)))))) cw_M_M_comes rfl rfl (Nat.le_of_ble_eq_true rfl) (by decide) (by decide) d_M_back_195 ?_
              refine vv_st (st' := []) rfl ?_
              refine vv_goto C 337 d_M_back_198 rfl ?_
              have hE : qBack t = (qComes (qNote (up2 t 29 0 ((t 29 0) - 1)) ((up2 t 29 0 ((t 29 0) - 1)) 3 (ix ((up2 t 29 0 ((t 29 0) - 1)) 32 (ix ((up2 t 29 0 ((t 29 0) - 1)) 29 0))))) ((up2 t 29 0 ((t 29 0) - 1)) 33 (ix ((up2 t 29 0 ((t 29 0) - 1)) 29 0)))) true ((qNote (up2 t 29 0 ((t 29 0) - 1)) ((up2 t 29 0 ((t 29 0) - 1)) 3 (ix ((up2 t 29 0 ((t 29 0) - 1)) 32 (ix ((up2 t 29 0 ((t 29 0) - 1)) 29 0))))) ((up2 t 29 0 ((t 29 0) - 1)) 33 (ix ((up2 t 29 0 ((t 29 0) - 1)) 29 0)))) 8 (ix ((up2 t 29 0 ((t 29 0) - 1)) 32 (ix ((up2 t 29 0 ((t 29 0) - 1)) 29 0)))))) := by
                unfold qBack
                try dsimp only
                rw [qBN_eq]
                unfold qBN qB5
                first | rw [if_pos h1] | rw [if_neg h1] | rw [if_pos (by exact h1)] | rw [if_neg (by exact h1)] | rw [if_neg (by exact z_nle h1)] | rw [if_pos (by exact z_le h1)] | rw [if_neg (by exact z_nlt h1)] | rw [if_pos (by exact z_lt h1)] | rw [if_neg (by exact tf_t h1)] | rw [if_neg (by exact tf_f h1)] | rw [h1] | skip
                first | rw [if_pos h2] | rw [if_neg h2] | rw [if_pos (by exact h2)] | rw [if_neg (by exact h2)] | rw [if_neg (by exact z_nle h2)] | rw [if_pos (by exact z_le h2)] | rw [if_neg (by exact z_nlt h2)] | rw [if_pos (by exact z_lt h2)] | rw [if_neg (by exact tf_t h2)] | rw [if_neg (by exact tf_f h2)] | rw [h2] | skip
                first | rw [if_pos h3] | rw [if_neg h3] | rw [if_pos (by exact h3)] | rw [if_neg (by exact h3)] | rw [if_neg (by exact z_nle h3)] | rw [if_pos (by exact z_le h3)] | rw [if_neg (by exact z_nlt h3)] | rw [if_pos (by exact z_lt h3)] | rw [if_neg (by exact tf_t h3)] | rw [if_neg (by exact tf_f h3)] | rw [h3] | skip
                first | rw [if_pos h4] | rw [if_neg h4] | rw [if_pos (by exact h4)] | rw [if_neg (by exact h4)] | rw [if_neg (by exact z_nle h4)] | rw [if_pos (by exact z_le h4)] | rw [if_neg (by exact z_nlt h4)] | rw [if_pos (by exact z_lt h4)] | rw [if_neg (by exact tf_t h4)] | rw [if_neg (by exact tf_f h4)] | rw [h4] | skip
                first | rw [if_pos h5] | rw [if_neg h5] | rw [if_pos (by exact h5)] | rw [if_neg (by exact h5)] | rw [if_neg (by exact z_nle h5)] | rw [if_pos (by exact z_le h5)] | rw [if_neg (by exact z_nlt h5)] | rw [if_pos (by exact z_lt h5)] | rw [if_neg (by exact tf_t h5)] | rw [if_neg (by exact tf_f h5)] | rw [h5] | skip
                first | rw [if_pos h23] | rw [if_neg h23] | rw [if_pos (by exact h23)] | rw [if_neg (by exact h23)] | rw [if_neg (by exact z_nle h23)] | rw [if_pos (by exact z_le h23)] | rw [if_neg (by exact z_nlt h23)] | rw [if_pos (by exact z_lt h23)] | rw [if_neg (by exact tf_t h23)] | rw [if_neg (by exact tf_f h23)] | rw [h23] | skip
                try rfl
              exact vv_vret C hr hlk rfl (by rw [hE] <;> rfl) d_M_back_337
        · skip
          refine vv_aload_n C d_M_back_136 rfl ?_
          refine vv_iload_n C d_M_back_137 rfl ?_
          refine cllM (rest := []) C (c_M_twice l Γ (up2 t 29 0 ((t 29 0) - 1)) w hw e29 ((up2 t 29 0 ((t 29 0) - 1)) 32 (ix ((up2 t 29 0 ((t 29 0) - 1)) 29 0))) hb6) cw_M_M_twice rfl rfl (Nat.le_of_ble_eq_true rfl) (by decide) (by decide) d_M_back_138 ?_
          refine vv_st (st' := []) rfl ?_
          refine vv_goto C 337 d_M_back_141 rfl ?_
          have hE : qBack t = (qTwice (up2 t 29 0 ((t 29 0) - 1)) ((up2 t 29 0 ((t 29 0) - 1)) 32 (ix ((up2 t 29 0 ((t 29 0) - 1)) 29 0)))) := by
            unfold qBack
            try dsimp only
            rw [qBN_eq]
            unfold qBN qB5
            first | rw [if_pos h1] | rw [if_neg h1] | rw [if_pos (by exact h1)] | rw [if_neg (by exact h1)] | rw [if_neg (by exact z_nle h1)] | rw [if_pos (by exact z_le h1)] | rw [if_neg (by exact z_nlt h1)] | rw [if_pos (by exact z_lt h1)] | rw [if_neg (by exact tf_t h1)] | rw [if_neg (by exact tf_f h1)] | rw [h1] | skip
            first | rw [if_pos h2] | rw [if_neg h2] | rw [if_pos (by exact h2)] | rw [if_neg (by exact h2)] | rw [if_neg (by exact z_nle h2)] | rw [if_pos (by exact z_le h2)] | rw [if_neg (by exact z_nlt h2)] | rw [if_pos (by exact z_lt h2)] | rw [if_neg (by exact tf_t h2)] | rw [if_neg (by exact tf_f h2)] | rw [h2] | skip
            first | rw [if_pos h3] | rw [if_neg h3] | rw [if_pos (by exact h3)] | rw [if_neg (by exact h3)] | rw [if_neg (by exact z_nle h3)] | rw [if_pos (by exact z_le h3)] | rw [if_neg (by exact z_nlt h3)] | rw [if_pos (by exact z_lt h3)] | rw [if_neg (by exact tf_t h3)] | rw [if_neg (by exact tf_f h3)] | rw [h3] | skip
            first | rw [if_pos h4] | rw [if_neg h4] | rw [if_pos (by exact h4)] | rw [if_neg (by exact h4)] | rw [if_neg (by exact z_nle h4)] | rw [if_pos (by exact z_le h4)] | rw [if_neg (by exact z_nlt h4)] | rw [if_pos (by exact z_lt h4)] | rw [if_neg (by exact tf_t h4)] | rw [if_neg (by exact tf_f h4)] | rw [h4] | skip
            try rfl
          exact vv_vret C hr hlk rfl (by rw [hE] <;> rfl) d_M_back_337
      · skip
        refine vv_aload_n C d_M_back_99 rfl ?_
        refine vv_aload_n C d_M_back_100 rfl ?_
        refine g_M_threw C d_M_back_101 ?_
        refine vv_if_eq C 114 d_M_back_104 rfl (fun h24 => ?_) (fun h24 => ?_)
        · skip
          refine vv_aload_n C d_M_back_114 rfl ?_
          refine g_M_value C d_M_back_115 ?_
          refine vv_aload_n C d_M_back_118 rfl ?_
          refine g_M_second C d_M_back_119 ?_
          refine vv_iload_n C d_M_back_122 rfl ?_
          refine ld_M_second C hb6 d_M_back_123 ?_
          refine vv_iadd C d_M_back_124 ?_
          refine p_M_value C d_M_back_125 ?_
          refine vv_goto C 337 d_M_back_128 rfl ?_
          have hE : qBack t = (up2 (up2 t 29 0 ((t 29 0) - 1)) 40 0 (((up2 t 29 0 ((t 29 0) - 1)) 40 0) + ((up2 t 29 0 ((t 29 0) - 1)) 8 (ix ((up2 t 29 0 ((t 29 0) - 1)) 32 (ix ((up2 t 29 0 ((t 29 0) - 1)) 29 0))))))) := by
            unfold qBack
            try dsimp only
            rw [qBN_eq]
            unfold qBN qB5
            first | rw [if_pos h1] | rw [if_neg h1] | rw [if_pos (by exact h1)] | rw [if_neg (by exact h1)] | rw [if_neg (by exact z_nle h1)] | rw [if_pos (by exact z_le h1)] | rw [if_neg (by exact z_nlt h1)] | rw [if_pos (by exact z_lt h1)] | rw [if_neg (by exact tf_t h1)] | rw [if_neg (by exact tf_f h1)] | rw [h1] | skip
            first | rw [if_pos h2] | rw [if_neg h2] | rw [if_pos (by exact h2)] | rw [if_neg (by exact h2)] | rw [if_neg (by exact z_nle h2)] | rw [if_pos (by exact z_le h2)] | rw [if_neg (by exact z_nlt h2)] | rw [if_pos (by exact z_lt h2)] | rw [if_neg (by exact tf_t h2)] | rw [if_neg (by exact tf_f h2)] | rw [h2] | skip
            first | rw [if_pos h3] | rw [if_neg h3] | rw [if_pos (by exact h3)] | rw [if_neg (by exact h3)] | rw [if_neg (by exact z_nle h3)] | rw [if_pos (by exact z_le h3)] | rw [if_neg (by exact z_nlt h3)] | rw [if_pos (by exact z_lt h3)] | rw [if_neg (by exact tf_t h3)] | rw [if_neg (by exact tf_f h3)] | rw [h3] | skip
            first | rw [if_pos h24] | rw [if_neg h24] | rw [if_pos (by exact h24)] | rw [if_neg (by exact h24)] | rw [if_neg (by exact z_nle h24)] | rw [if_pos (by exact z_le h24)] | rw [if_neg (by exact z_nlt h24)] | rw [if_pos (by exact z_lt h24)] | rw [if_neg (by exact tf_t h24)] | rw [if_neg (by exact tf_f h24)] | rw [h24] | skip
            try rfl
          exact vv_vret C hr hlk rfl (by rw [hE] <;> rfl) d_M_back_337
        · skip
          refine vv_aload_n C d_M_back_107 rfl ?_
          refine g_M_value C d_M_back_108 ?_
          refine vv_goto C 125 d_M_back_111 rfl ?_
          refine p_M_value C d_M_back_125 ?_
          refine vv_goto C 337 d_M_back_128 rfl ?_
          have hE : qBack t = (up2 (up2 t 29 0 ((t 29 0) - 1)) 40 0 ((up2 t 29 0 ((t 29 0) - 1)) 40 0)) := by
            unfold qBack
            try dsimp only
            rw [qBN_eq]
            unfold qBN qB5
            first | rw [if_pos h1] | rw [if_neg h1] | rw [if_pos (by exact h1)] | rw [if_neg (by exact h1)] | rw [if_neg (by exact z_nle h1)] | rw [if_pos (by exact z_le h1)] | rw [if_neg (by exact z_nlt h1)] | rw [if_pos (by exact z_lt h1)] | rw [if_neg (by exact tf_t h1)] | rw [if_neg (by exact tf_f h1)] | rw [h1] | skip
            first | rw [if_pos h2] | rw [if_neg h2] | rw [if_pos (by exact h2)] | rw [if_neg (by exact h2)] | rw [if_neg (by exact z_nle h2)] | rw [if_pos (by exact z_le h2)] | rw [if_neg (by exact z_nlt h2)] | rw [if_pos (by exact z_lt h2)] | rw [if_neg (by exact tf_t h2)] | rw [if_neg (by exact tf_f h2)] | rw [h2] | skip
            first | rw [if_pos h3] | rw [if_neg h3] | rw [if_pos (by exact h3)] | rw [if_neg (by exact h3)] | rw [if_neg (by exact z_nle h3)] | rw [if_pos (by exact z_le h3)] | rw [if_neg (by exact z_nlt h3)] | rw [if_pos (by exact z_lt h3)] | rw [if_neg (by exact tf_t h3)] | rw [if_neg (by exact tf_f h3)] | rw [h3] | skip
            first | rw [if_pos h24] | rw [if_neg h24] | rw [if_pos (by exact h24)] | rw [if_neg (by exact h24)] | rw [if_neg (by exact z_nle h24)] | rw [if_pos (by exact z_le h24)] | rw [if_neg (by exact z_nlt h24)] | rw [if_pos (by exact z_lt h24)] | rw [if_neg (by exact tf_t h24)] | rw [if_neg (by exact tf_f h24)] | rw [h24] | skip
            try rfl
          exact vv_vret C hr hlk rfl (by rw [hE] <;> rfl) d_M_back_337
    · skip
      refine vv_aload_n C d_M_back_55 rfl ?_
      refine vv_aload_n C d_M_back_56 rfl ?_
      refine g_M_threw C d_M_back_57 ?_
      refine vv_if_eq C 70 d_M_back_60 rfl (fun h25 => ?_) (fun h25 => ?_)
      · skip
        refine vv_aload_n C d_M_back_70 rfl ?_
        refine g_M_factor C d_M_back_71 ?_
        refine vv_iload_n C d_M_back_74 rfl ?_
        refine ld_M_factor C (hK8 h2) d_M_back_75 ?_
        refine vv_aload_n C d_M_back_76 rfl ?_
        refine g_M_value C d_M_back_77 ?_
        refine vv_imul C d_M_back_80 ?_
        refine vv_aload_n C d_M_back_81 rfl ?_
        refine g_M_addend C d_M_back_82 ?_
        refine vv_iload_n C d_M_back_85 rfl ?_
        refine ld_M_addend C (hK8 h2) d_M_back_86 ?_
        refine vv_iadd C d_M_back_87 ?_
        refine p_M_value C d_M_back_88 ?_
        refine vv_goto C 337 d_M_back_91 rfl ?_
        have hE : qBack t = (up2 (up2 t 29 0 ((t 29 0) - 1)) 40 0 ((((up2 t 29 0 ((t 29 0) - 1)) 12 (ix ((up2 t 29 0 ((t 29 0) - 1)) 32 (ix ((up2 t 29 0 ((t 29 0) - 1)) 29 0))))) * ((up2 t 29 0 ((t 29 0) - 1)) 40 0)) + ((up2 t 29 0 ((t 29 0) - 1)) 13 (ix ((up2 t 29 0 ((t 29 0) - 1)) 32 (ix ((up2 t 29 0 ((t 29 0) - 1)) 29 0))))))) := by
          unfold qBack
          try dsimp only
          rw [qBN_eq]
          unfold qBN qB5
          first | rw [if_pos h1] | rw [if_neg h1] | rw [if_pos (by exact h1)] | rw [if_neg (by exact h1)] | rw [if_neg (by exact z_nle h1)] | rw [if_pos (by exact z_le h1)] | rw [if_neg (by exact z_nlt h1)] | rw [if_pos (by exact z_lt h1)] | rw [if_neg (by exact tf_t h1)] | rw [if_neg (by exact tf_f h1)] | rw [h1] | skip
          first | rw [if_pos h2] | rw [if_neg h2] | rw [if_pos (by exact h2)] | rw [if_neg (by exact h2)] | rw [if_neg (by exact z_nle h2)] | rw [if_pos (by exact z_le h2)] | rw [if_neg (by exact z_nlt h2)] | rw [if_pos (by exact z_lt h2)] | rw [if_neg (by exact tf_t h2)] | rw [if_neg (by exact tf_f h2)] | rw [h2] | skip
          first | rw [if_pos h25] | rw [if_neg h25] | rw [if_pos (by exact h25)] | rw [if_neg (by exact h25)] | rw [if_neg (by exact z_nle h25)] | rw [if_pos (by exact z_le h25)] | rw [if_neg (by exact z_nlt h25)] | rw [if_pos (by exact z_lt h25)] | rw [if_neg (by exact tf_t h25)] | rw [if_neg (by exact tf_f h25)] | rw [h25] | skip
          try rfl
        exact vv_vret C hr hlk rfl (by rw [hE] <;> rfl) d_M_back_337
      · skip
        refine vv_aload_n C d_M_back_63 rfl ?_
        refine g_M_value C d_M_back_64 ?_
        refine vv_goto C 88 d_M_back_67 rfl ?_
        refine p_M_value C d_M_back_88 ?_
        refine vv_goto C 337 d_M_back_91 rfl ?_
        have hE : qBack t = (up2 (up2 t 29 0 ((t 29 0) - 1)) 40 0 ((up2 t 29 0 ((t 29 0) - 1)) 40 0)) := by
          unfold qBack
          try dsimp only
          rw [qBN_eq]
          unfold qBN qB5
          first | rw [if_pos h1] | rw [if_neg h1] | rw [if_pos (by exact h1)] | rw [if_neg (by exact h1)] | rw [if_neg (by exact z_nle h1)] | rw [if_pos (by exact z_le h1)] | rw [if_neg (by exact z_nlt h1)] | rw [if_pos (by exact z_lt h1)] | rw [if_neg (by exact tf_t h1)] | rw [if_neg (by exact tf_f h1)] | rw [h1] | skip
          first | rw [if_pos h2] | rw [if_neg h2] | rw [if_pos (by exact h2)] | rw [if_neg (by exact h2)] | rw [if_neg (by exact z_nle h2)] | rw [if_pos (by exact z_le h2)] | rw [if_neg (by exact z_nlt h2)] | rw [if_pos (by exact z_lt h2)] | rw [if_neg (by exact tf_t h2)] | rw [if_neg (by exact tf_f h2)] | rw [h2] | skip
          first | rw [if_pos h25] | rw [if_neg h25] | rw [if_pos (by exact h25)] | rw [if_neg (by exact h25)] | rw [if_neg (by exact z_nle h25)] | rw [if_pos (by exact z_le h25)] | rw [if_neg (by exact z_nlt h25)] | rw [if_pos (by exact z_lt h25)] | rw [if_neg (by exact tf_t h25)] | rw [if_neg (by exact tf_f h25)] | rw [h25] | skip
          try rfl
        exact vv_vret C hr hlk rfl (by rw [hE] <;> rfl) d_M_back_337
  · skip
    refine vv_aload_n C d_M_back_36 rfl ?_
    refine vv_dup C d_M_back_37 rfl ?_
    refine g_M_depth C d_M_back_38 ?_
    refine vv_iconst C (1) d_M_back_41 (by decide) ?_
    refine vv_isub C d_M_back_42 ?_
    refine p_M_depth C d_M_back_43 ?_
    refine vv_goto C 337 d_M_back_46 rfl ?_
    have hE : qBack t = (up2 (up2 t 29 0 ((t 29 0) - 1)) 26 0 (((up2 t 29 0 ((t 29 0) - 1)) 26 0) - 1)) := by
      unfold qBack
      try dsimp only
      rw [qBN_eq]
      unfold qBN qB5
      first | rw [if_pos h1] | rw [if_neg h1] | rw [if_pos (by exact h1)] | rw [if_neg (by exact h1)] | rw [if_neg (by exact z_nle h1)] | rw [if_pos (by exact z_le h1)] | rw [if_neg (by exact z_nlt h1)] | rw [if_pos (by exact z_lt h1)] | rw [if_neg (by exact tf_t h1)] | rw [if_neg (by exact tf_f h1)] | rw [h1] | skip
      try rfl
    exact vv_vret C hr hlk rfl (by rw [hE] <;> rfl) d_M_back_337
set_option maxHeartbeats 4000000 in
set_option maxRecDepth 100000 in
theorem c_M_invoke0 (l : Launch) (Γ : Geo) (t : M2) (x y : Int32) (hx : qWithin x 0 5 = false) : CtM l Γ y_M_invoke b_M_invoke 3 (some .int) 1 [.ref (Γ.2.1 27), .int x, .int y] t (some (.int (-1))) t := by
  refine ct_of (by decide +kernel) (Nat.le_of_ble_eq_true rfl) ?_
  intro p e s m args below meth c C hr hlk
  refine vv_iload_n C d_M_invoke_0 rfl ?_
  refine vv_iconst C (0) d_M_invoke_1 (by decide) ?_
  refine vv_iconst C (5) d_M_invoke_2 (by decide) ?_
  refine cllMS (rest := []) C (c_M_within l Γ t x 0 5) cw_M_M_within rfl rfl (Nat.le_of_ble_eq_true rfl) (by decide) (by decide) d_M_invoke_3 ?_
  refine vv_st (st' := [.int (bI (qWithin x 0 5))]) rfl ?_
  refine vv_if_ne C 11 d_M_invoke_6 rfl (fun h1 => ?_) (fun h1 => ?_)
  · skip
    replace h1 := bI_t h1
    exact absurd (hx.symm.trans h1) (by decide)
  · skip
    replace h1 := bI_f h1
    refine vv_iconst C (-1) d_M_invoke_9 (by decide) ?_
    exact vv_iret C hr hlk rfl rfl d_M_invoke_10
set_option maxHeartbeats 4000000 in
set_option maxRecDepth 100000 in
theorem c_M_invoke (l : Launch) (Γ : Geo) (t : M2) (x y : Int32) (hx : qWithin x 0 5 = true) (N : Nat) (hok : ∀ i, i < N → okRun (qIt i (qStart t x y))) (hend : qMore (qIt N (qStart t x y)) = false) : CtM l Γ y_M_invoke b_M_invoke 3 (some .int) 4 [.ref (Γ.2.1 27), .int x, .int y] t (some (.int (qEnd (qIt N (qStart t x y))).1)) (qEnd (qIt N (qStart t x y))).2 := by
  refine ct_of (by decide +kernel) (Nat.le_of_ble_eq_true rfl) ?_
  intro p e s m args below meth c C hr hlk
  have fin : ∀ v : M2, qEnd (qIt N (qStart t x y)) = qEnd v → VV p l e (rmD 4) s m args below meth c 0 0 (MQ below (ctQ Γ.1 clA (inM Γ) (some (.int (qEnd (qIt N (qStart t x y))).1)) (wM Γ (qEnd (qIt N (qStart t x y))).2)) args s 0 0 (inM Γ)) 3 Γ.1 clA (inM Γ) s.heap (wM Γ v) 89 [(0, .ref (Γ.2.1 27)), (1, .int x), (2, .int y)] [] := by
    intro v hE
    refine vv_aload_n C d_M_invoke_89 rfl ?_
    refine vv_aload_n C d_M_invoke_90 rfl ?_
    refine g_M_broken C d_M_invoke_91 ?_
    refine vv_if_eq C 101 d_M_invoke_94 rfl (fun h1 => ?_) (fun h1 => ?_)
    · skip
      refine vv_aload_n C d_M_invoke_101 rfl ?_
      refine g_M_value C d_M_invoke_102 ?_
      refine p_M_outcome C d_M_invoke_105 ?_
      refine vv_aload_n C d_M_invoke_108 rfl ?_
      refine g_M_broken C d_M_invoke_109 ?_
      refine vv_if_eq C 119 d_M_invoke_112 rfl (fun h2 => ?_) (fun h2 => ?_)
      · skip
        refine vv_aload_n C d_M_invoke_119 rfl ?_
        refine g_M_threw C d_M_invoke_120 ?_
        refine vv_if_eq C 130 d_M_invoke_123 rfl (fun h3 => ?_) (fun h3 => ?_)
        · skip
          refine vv_iconst C (0) d_M_invoke_130 (by decide) ?_
          have hF : qEnd (qIt N (qStart t x y)) = (0, (up2 v 24 0 (v 40 0))) := by
            first | exact absurd h1 h2 | exact absurd h2 h1 | skip
            try rw [hE]
            try unfold qEnd
            first | rw [if_pos h1, if_pos h1] | rw [if_neg h1, if_neg h1] | rw [if_pos h1] | rw [if_neg h1] | rw [if_pos (by exact h1)] | rw [if_neg (by exact h1)] | skip
            first | rw [if_pos h2, if_pos h2] | rw [if_neg h2, if_neg h2] | rw [if_pos h2] | rw [if_neg h2] | rw [if_pos (by exact h2)] | rw [if_neg (by exact h2)] | skip
            first | rw [if_pos h3, if_pos h3] | rw [if_neg h3, if_neg h3] | rw [if_pos h3] | rw [if_neg h3] | rw [if_pos (by exact h3)] | rw [if_neg (by exact h3)] | skip
            try rfl
          exact vv_iret C hr hlk (by rw [hF] <;> rfl) (by rw [hF] <;> rfl) d_M_invoke_131
        · skip
          refine vv_iconst C (1) d_M_invoke_126 (by decide) ?_
          refine vv_goto C 131 d_M_invoke_127 rfl ?_
          have hF : qEnd (qIt N (qStart t x y)) = (1, (up2 v 24 0 (v 40 0))) := by
            first | exact absurd h1 h2 | exact absurd h2 h1 | skip
            try rw [hE]
            try unfold qEnd
            first | rw [if_pos h1, if_pos h1] | rw [if_neg h1, if_neg h1] | rw [if_pos h1] | rw [if_neg h1] | rw [if_pos (by exact h1)] | rw [if_neg (by exact h1)] | skip
            first | rw [if_pos h2, if_pos h2] | rw [if_neg h2, if_neg h2] | rw [if_pos h2] | rw [if_neg h2] | rw [if_pos (by exact h2)] | rw [if_neg (by exact h2)] | skip
            first | rw [if_pos h3, if_pos h3] | rw [if_neg h3, if_neg h3] | rw [if_pos h3] | rw [if_neg h3] | rw [if_pos (by exact h3)] | rw [if_neg (by exact h3)] | skip
            try rfl
          exact vv_iret C hr hlk (by rw [hF] <;> rfl) (by rw [hF] <;> rfl) d_M_invoke_131
      · skip
        refine vv_iconst C (2) d_M_invoke_115 (by decide) ?_
        refine vv_goto C 131 d_M_invoke_116 rfl ?_
        have hF : qEnd (qIt N (qStart t x y)) = (2, (up2 v 24 0 (v 40 0))) := by
          first | exact absurd h1 h2 | exact absurd h2 h1 | skip
          try rw [hE]
          try unfold qEnd
          first | rw [if_pos h1, if_pos h1] | rw [if_neg h1, if_neg h1] | rw [if_pos h1] | rw [if_neg h1] | rw [if_pos (by exact h1)] | rw [if_neg (by exact h1)] | skip
          first | rw [if_pos h2, if_pos h2] | rw [if_neg h2, if_neg h2] | rw [if_pos h2] | rw [if_neg h2] | rw [if_pos (by exact h2)] | rw [if_neg (by exact h2)] | skip
          try rfl
        exact vv_iret C hr hlk (by rw [hF] <;> rfl) (by rw [hF] <;> rfl) d_M_invoke_131
    · skip
      refine vv_iconst C (0) d_M_invoke_97 (by decide) ?_
      refine vv_goto C 105 d_M_invoke_98 rfl ?_
      refine p_M_outcome C d_M_invoke_105 ?_
      refine vv_aload_n C d_M_invoke_108 rfl ?_
      refine g_M_broken C d_M_invoke_109 ?_
      refine vv_if_eq C 119 d_M_invoke_112 rfl (fun h4 => ?_) (fun h4 => ?_)
      · skip
        refine vv_aload_n C d_M_invoke_119 rfl ?_
        refine g_M_threw C d_M_invoke_120 ?_
        refine vv_if_eq C 130 d_M_invoke_123 rfl (fun h5 => ?_) (fun h5 => ?_)
        · skip
          refine vv_iconst C (0) d_M_invoke_130 (by decide) ?_
          have hF : qEnd (qIt N (qStart t x y)) = (0, (up2 v 24 0 0)) := by
            first | exact absurd h1 h4 | exact absurd h4 h1 | skip
            try rw [hE]
            try unfold qEnd
            first | rw [if_pos h1, if_pos h1] | rw [if_neg h1, if_neg h1] | rw [if_pos h1] | rw [if_neg h1] | rw [if_pos (by exact h1)] | rw [if_neg (by exact h1)] | skip
            first | rw [if_pos h4, if_pos h4] | rw [if_neg h4, if_neg h4] | rw [if_pos h4] | rw [if_neg h4] | rw [if_pos (by exact h4)] | rw [if_neg (by exact h4)] | skip
            first | rw [if_pos h5, if_pos h5] | rw [if_neg h5, if_neg h5] | rw [if_pos h5] | rw [if_neg h5] | rw [if_pos (by exact h5)] | rw [if_neg (by exact h5)] | skip
            try rfl
          exact vv_iret C hr hlk (by rw [hF] <;> rfl) (by rw [hF] <;> rfl) d_M_invoke_131
        · skip
          refine vv_iconst C (1) d_M_invoke_126 (by decide) ?_
          refine vv_goto C 131 d_M_invoke_127 rfl ?_
          have hF : qEnd (qIt N (qStart t x y)) = (1, (up2 v 24 0 0)) := by
            first | exact absurd h1 h4 | exact absurd h4 h1 | skip
            try rw [hE]
            try unfold qEnd
            first | rw [if_pos h1, if_pos h1] | rw [if_neg h1, if_neg h1] | rw [if_pos h1] | rw [if_neg h1] | rw [if_pos (by exact h1)] | rw [if_neg (by exact h1)] | skip
            first | rw [if_pos h4, if_pos h4] | rw [if_neg h4, if_neg h4] | rw [if_pos h4] | rw [if_neg h4] | rw [if_pos (by exact h4)] | rw [if_neg (by exact h4)] | skip
            first | rw [if_pos h5, if_pos h5] | rw [if_neg h5, if_neg h5] | rw [if_pos h5] | rw [if_neg h5] | rw [if_pos (by exact h5)] | rw [if_neg (by exact h5)] | skip
            try rfl
          exact vv_iret C hr hlk (by rw [hF] <;> rfl) (by rw [hF] <;> rfl) d_M_invoke_131
      · skip
        refine vv_iconst C (2) d_M_invoke_115 (by decide) ?_
        refine vv_goto C 131 d_M_invoke_116 rfl ?_
        have hF : qEnd (qIt N (qStart t x y)) = (2, (up2 v 24 0 0)) := by
          first | exact absurd h1 h4 | exact absurd h4 h1 | skip
          try rw [hE]
          try unfold qEnd
          first | rw [if_pos h1, if_pos h1] | rw [if_neg h1, if_neg h1] | rw [if_pos h1] | rw [if_neg h1] | rw [if_pos (by exact h1)] | rw [if_neg (by exact h1)] | skip
          first | rw [if_pos h4, if_pos h4] | rw [if_neg h4, if_neg h4] | rw [if_pos h4] | rw [if_neg h4] | rw [if_pos (by exact h4)] | rw [if_neg (by exact h4)] | skip
          try rfl
        exact vv_iret C hr hlk (by rw [hF] <;> rfl) (by rw [hF] <;> rfl) d_M_invoke_131
  have loop : ∀ (n : Nat) (v : M2), (∀ i, i < n → okRun (qIt i v)) → qMore (qIt n v) = false → qEnd (qIt N (qStart t x y)) = qEnd (qIt n v) → VV p l e (rmD 4) s m args below meth c 0 0 (MQ below (ctQ Γ.1 clA (inM Γ) (some (.int (qEnd (qIt N (qStart t x y))).1)) (wM Γ (qEnd (qIt N (qStart t x y))).2)) args s 0 0 (inM Γ)) 3 Γ.1 clA (inM Γ) s.heap (wM Γ v) 47 [(0, .ref (Γ.2.1 27)), (1, .int x), (2, .int y)] [] := by
    intro n
    induction n with
    | zero =>
      intro v _ hm hE
      have hm : qMore v = false := hm
      unfold qMore at hm
      refine vv_aload_n C d_M_invoke_47 rfl ?_
      refine g_M_broken C d_M_invoke_48 ?_
      refine vv_if_ne C 89 d_M_invoke_51 rfl (fun h1 => ?_) (fun h1 => ?_)
      · skip
        exact fin v hE
      · skip
        refine vv_aload_n C d_M_invoke_54 rfl ?_
        refine g_M_along C d_M_invoke_55 ?_
        refine vv_if_ne C 68 d_M_invoke_58 rfl (fun h2 => ?_) (fun h2 => ?_)
        · skip
          exfalso
          first | rw [if_pos h1] at hm | rw [if_neg h1] at hm | skip
          first | rw [if_pos h2] at hm | rw [if_neg h2] at hm | skip
          cases hm
        · skip
          refine vv_aload_n C d_M_invoke_61 rfl ?_
          refine g_M_waiting C d_M_invoke_62 ?_
          refine vv_if_le C 89 d_M_invoke_65 rfl (fun h3 => ?_) (fun h3 => ?_)
          · skip
            exact fin v hE
          · skip
            exfalso
            first | rw [if_pos h1] at hm | rw [if_neg h1] at hm | skip
            first | rw [if_pos h2] at hm | rw [if_neg h2] at hm | skip
            first | rw [if_pos h3] at hm | rw [if_neg h3] at hm | skip
            cases hm
    | succ n ih =>
      intro v hok hm hE
      have hk0 : okRun v := hok 0 (by omega)
      obtain ⟨k1, k2, k3, k4, k5⟩ := hk0
      unfold qMore at k1
      refine vv_aload_n C d_M_invoke_47 rfl ?_
      refine g_M_broken C d_M_invoke_48 ?_
      refine vv_if_ne C 89 d_M_invoke_51 rfl (fun h1 => ?_) (fun h1 => ?_)
      · skip
        exfalso
        first | rw [if_pos h1] at k1 | rw [if_neg h1] at k1 | skip
        cases k1
      · skip
        refine vv_aload_n C d_M_invoke_54 rfl ?_
        refine g_M_along C d_M_invoke_55 ?_
        refine vv_if_ne C 68 d_M_invoke_58 rfl (fun h2 => ?_) (fun h2 => ?_)
        · skip
          refine vv_aload_n C d_M_invoke_68 rfl ?_
          refine g_M_along C d_M_invoke_69 ?_
          refine vv_if_eq C 82 d_M_invoke_72 rfl (fun z => absurd z h2) (fun _ => ?_)
          obtain ⟨d, w, hd1, hd3, e26, hw, e29, ⟨mm, hmm, e27⟩, tt, htt, e28⟩ := k5 h2
          refine vv_aload_n C d_M_invoke_75 rfl ?_
          refine cllM (rest := []) C (c_M_step l Γ v k2 k3 d w hd1 hd3 e26 hw e29 mm tt hmm e27 htt e28) cw_M_M_step rfl rfl (Nat.le_of_ble_eq_true rfl) (by decide) (by decide) d_M_invoke_76 ?_
          refine vv_st (st' := []) rfl ?_
          refine vv_goto C 47 d_M_invoke_79 rfl ?_
          have hr1 : qRun v = qStep v := by unfold qRun; rw [if_neg h2]
          refine ih (qStep v) (fun i hi => ?_) ?_ ?_
          · rw [← hr1]; exact hok (i + 1) (by omega)
          · rw [← hr1]; exact hm
          · rw [← hr1]; exact hE
        · skip
          refine vv_aload_n C d_M_invoke_61 rfl ?_
          refine g_M_waiting C d_M_invoke_62 ?_
          refine vv_if_le C 89 d_M_invoke_65 rfl (fun h4 => ?_) (fun h4 => ?_)
          · skip
            exfalso
            first | rw [if_pos h1] at k1 | rw [if_neg h1] at k1 | skip
            first | rw [if_pos h2] at k1 | rw [if_neg h2] at k1 | skip
            first | rw [if_pos h4] at k1 | rw [if_neg h4] at k1 | skip
            cases k1
          · skip
            refine vv_aload_n C d_M_invoke_68 rfl ?_
            refine g_M_along C d_M_invoke_69 ?_
            refine vv_if_eq C 82 d_M_invoke_72 rfl (fun _ => ?_) (fun z => absurd h2 z)
            obtain ⟨w, hw, e29, hc⟩ := k4 (by assumption)
            have e29p : v 29 0 - 1 = nI w := by rw [e29, nI_pred]
            have eix : ix (v 29 0 - 1) = w := by rw [e29p, ixn (by omega)]
            have hK8 : v 30 (ix (v 29 0 - 1)) = 8 → vp_in (v 32 (ix (v 29 0 - 1))) 12 := by
              rw [eix]; intro z
              rcases hc with q | ⟨q, j, hj, ej⟩ | ⟨q1, q2, -⟩
              · rw [q] at z; exact absurd z (by decide)
              · rw [ej]; exact in12 hj
              · exact absurd z q2
            have hK6 : ¬ v 30 (ix (v 29 0 - 1)) = 9 → ¬ v 30 (ix (v 29 0 - 1)) = 8 → ∃ j, j < 6 ∧ v 32 (ix (v 29 0 - 1)) = nI j := by
              rw [eix]; intro z1 z2
              rcases hc with q | ⟨q, -⟩ | ⟨q1, q2, j, hj, ej, -⟩
              · exact absurd q z1
              · exact absurd q z2
              · exact ⟨j, hj, ej⟩
            have hK7 : ¬ v 30 (ix (v 29 0 - 1)) = 9 → ¬ v 30 (ix (v 29 0 - 1)) = 8 → ¬ v 30 (ix (v 29 0 - 1)) = 6 → 5 ≤ v 30 (ix (v 29 0 - 1)) → 0 ≤ v 7 (ix (v 32 (ix (v 29 0 - 1)))) := by
              rw [eix]; intro z1 z2 z3 z4
              rcases hc with q | ⟨q, -⟩ | ⟨q1, q2, j, hj, ej, hq⟩
              · exact absurd q z1
              · exact absurd q z2
              · rw [ej, ixn (by omega)]; exact hq z3 z4
            refine vv_aload_n C d_M_invoke_82 rfl ?_
            refine cllM (rest := []) C (c_M_back l Γ v k3 w (by omega) e29p hK8 hK6 hK7) cw_M_M_back rfl rfl (Nat.le_of_ble_eq_true rfl) (by decide) (by decide) d_M_invoke_83 ?_
            refine vv_st (st' := []) rfl ?_
            refine vv_goto C 47 d_M_invoke_86 rfl ?_
            have hr1 : qRun v = qBack v := by unfold qRun; rw [if_pos (by assumption)]
            refine ih (qBack v) (fun i hi => ?_) ?_ ?_
            · rw [← hr1]; exact hok (i + 1) (by omega)
            · rw [← hr1]; exact hm
            · rw [← hr1]; exact hE
  refine vv_iload_n C d_M_invoke_0 rfl ?_
  refine vv_iconst C (0) d_M_invoke_1 (by decide) ?_
  refine vv_iconst C (5) d_M_invoke_2 (by decide) ?_
  refine cllMS (rest := []) C (c_M_within l Γ t x 0 5) cw_M_M_within rfl rfl (Nat.le_of_ble_eq_true rfl) (by decide) (by decide) d_M_invoke_3 ?_
  refine vv_st (st' := [.int (bI (qWithin x 0 5))]) rfl ?_
  refine vv_if_ne C 11 d_M_invoke_6 rfl (fun h1 => ?_) (fun h1 => ?_)
  · skip
    replace h1 := bI_t h1
    refine vv_aload_n C d_M_invoke_11 rfl ?_
    refine vv_iconst C (0) d_M_invoke_12 (by decide) ?_
    refine p_M_noted C d_M_invoke_13 ?_
    refine vv_aload_n C d_M_invoke_16 rfl ?_
    refine vv_iconst C (0) d_M_invoke_17 (by decide) ?_
    refine p_M_askedCount C d_M_invoke_18 ?_
    refine vv_aload_n C d_M_invoke_21 rfl ?_
    refine vv_iconst C (0) d_M_invoke_22 (by decide) ?_
    refine p_M_takenCount C d_M_invoke_23 ?_
    refine vv_aload_n C d_M_invoke_26 rfl ?_
    refine vv_iconst C (0) d_M_invoke_27 (by decide) ?_
    refine p_M_broken C rfl rfl d_M_invoke_28 ?_
    refine vv_aload_n C d_M_invoke_31 rfl ?_
    refine vv_iconst C (0) d_M_invoke_32 (by decide) ?_
    refine p_M_depth C d_M_invoke_33 ?_
    refine vv_aload_n C d_M_invoke_36 rfl ?_
    refine vv_iconst C (0) d_M_invoke_37 (by decide) ?_
    refine p_M_waiting C d_M_invoke_38 ?_
    refine vv_aload_n C d_M_invoke_41 rfl ?_
    refine vv_iload_n C d_M_invoke_42 rfl ?_
    refine vv_iload_n C d_M_invoke_43 rfl ?_
    refine cllM (rest := []) C (c_M_enter l Γ (up2 (up2 (up2 (up2 (up2 (up2 t 19 0 0) 22 0 0) 23 0 0) 25 0 0) 26 0 0) 29 0 0) ⟨0, by omega, rfl⟩ (in30 (p := 0) (by omega)) x y) cw_M_M_enter rfl rfl (Nat.le_of_ble_eq_true rfl) (by decide) (by decide) d_M_invoke_44 ?_
    refine vv_st (st' := []) rfl ?_
    exact loop N (qStart t x y) hok hend rfl
  · skip
    replace h1 := bI_f h1
    refine vv_iconst C (-1) d_M_invoke_9 (by decide) ?_
    exact absurd (hx.symm.trans h1) (by decide)
