set_option maxHeartbeats 4000000 in
set_option maxRecDepth 100000 in
theorem c_M_linked (l : Launch) (Γ : Geo) (t : M2) (h0 : ∃ n, n ≤ 6 ∧ t 0 0 = nI n) (x y : Int32) : CtM l Γ y_M_linked b_M_linked 7 (some .int) 0 [.ref (Γ.2.1 27), .int x, .int y] t (some (.int (qLinked t x y))) t := by
  refine ct_of (by decide +kernel) (Nat.le_of_ble_eq_true rfl) ?_
  intro p e s m args below meth c C hr hlk
  obtain ⟨n, hn, e0⟩ := h0
  have inner : ∀ (k2 : Nat), k2 < n → VV p l e (rmD 0) s m args below meth c 0 0 (MQ below (ctQ Γ.1 clA (inM Γ) (some (.int (qLinked t x y))) (wM Γ t)) args s 0 0 (inM Γ)) 7 Γ.1 clA (inM Γ) s.heap (wM Γ t) 107 [(4, .int (qCnt t x (nI k2))), (3, .int (nI k2)), (0, .ref (Γ.2.1 27)), (1, .int x), (2, .int y)] [] → ∀ (f q2 : Nat) (bf : Int32), q2 ≤ n → n - q2 < f → qCnt t x (nI k2) = qCntL t x (nI k2) f (nI q2) bf → VV p l e (rmD 0) s m args below meth c 0 0 (MQ below (ctQ Γ.1 clA (inM Γ) (some (.int (qLinked t x y))) (wM Γ t)) args s 0 0 (inM Γ)) 7 Γ.1 clA (inM Γ) s.heap (wM Γ t) 16 [(5, .int (nI q2)), (4, .int bf), (3, .int (nI k2)), (0, .ref (Γ.2.1 27)), (1, .int x), (2, .int y)] [] := by
    intro k2 hk2 after f
    induction f with
    | zero => intro q2 bf _ h _; omega
    | succ f ih =>
      intro q2 bf hq hf hE
      refine vv_iload C d_M_linked_16 rfl ?_
      refine vv_aload_n C d_M_linked_18 rfl ?_
      refine g_M_there C d_M_linked_19 ?_
      refine vv_icmp_ge C 107 d_M_linked_22 rfl (fun h1 => ?_) (fun h1 => ?_)
      · skip
        have hB : qCnt t x (nI k2) = bf := by rw [hE, qCntL, if_pos h1]
        rw [hB] at after
        refine vv_lv [(4, .int bf), (3, .int (nI k2)), (0, .ref (Γ.2.1 27)), (1, .int x), (2, .int y)] (by intro q hq; simp only [List.mem_cons, List.not_mem_nil, or_false] at hq; rcases hq with rfl | rfl | rfl | rfl | rfl <;> rfl) ?_
        exact after
      · skip
        have hp2 := bdM_lt hn e0 (by omega) h1
        refine vv_aload_n C d_M_linked_25 rfl ?_
        refine g_M_order C d_M_linked_26 ?_
        refine vv_iload C d_M_linked_29 rfl ?_
        refine ld_M_order C (in6 (by omega)) d_M_linked_31 ?_
        refine vv_aload_n C d_M_linked_32 rfl ?_
        refine g_M_order C d_M_linked_33 ?_
        refine vv_iload_n C d_M_linked_36 rfl ?_
        refine ld_M_order C (in6 (by omega)) d_M_linked_37 ?_
        refine vv_icmp_lt C 63 d_M_linked_38 rfl (fun h2 => ?_) (fun h2 => ?_)
        · skip
          refine vv_iconst C (1) d_M_linked_63 (by decide) ?_
          refine vv_goto C 68 d_M_linked_64 rfl ?_
          refine vv_istore (lv' := [(6, .int 1), (5, .int (nI q2)), (4, .int bf), (3, .int (nI k2)), (0, .ref (Γ.2.1 27)), (1, .int x), (2, .int y)]) C d_M_linked_68 (by decide) rfl ?_
          refine vv_iload C d_M_linked_70 rfl ?_
          refine vv_if_eq C 97 d_M_linked_72 rfl (fun h => absurd h (by decide)) (fun _ => ?_)
          refine vv_aload_n C d_M_linked_75 rfl ?_
          refine g_M_methods C d_M_linked_76 ?_
          refine vv_iload C d_M_linked_79 rfl ?_
          refine ld_M_methods C (in6 (by omega)) d_M_linked_81 ?_
          refine vv_iload_n C d_M_linked_82 rfl ?_
          refine vv_ishr C d_M_linked_83 ?_
          refine vv_iconst C (1) d_M_linked_84 (by decide) ?_
          refine vv_iand C d_M_linked_85 ?_
          refine vv_iconst C (1) d_M_linked_86 (by decide) ?_
          refine vv_icmp_ne C 97 d_M_linked_87 rfl (fun h4 => ?_) (fun h4 => ?_)
          · skip
            refine vv_iload C d_M_linked_97 rfl ?_
            refine vv_istore (lv' := [(4, .int bf), (6, .int 1), (5, .int (nI q2)), (3, .int (nI k2)), (0, .ref (Γ.2.1 27)), (1, .int x), (2, .int y)]) C d_M_linked_99 (by decide) rfl ?_
            refine vv_iinc (j := 2) (v := nI (q2 + 1)) (lv' := [(5, .int (nI (q2 + 1))), (4, .int bf), (6, .int 1), (3, .int (nI k2)), (0, .ref (Γ.2.1 27)), (1, .int x), (2, .int y)]) C d_M_linked_101 rfl (nI_1 q2) (by decide) rfl ?_
            refine vv_goto C 16 d_M_linked_104 rfl ?_
            refine vv_lv [(5, .int (nI (q2 + 1))), (4, .int bf), (3, .int (nI k2)), (0, .ref (Γ.2.1 27)), (1, .int x), (2, .int y)] (by intro q hq; simp only [List.mem_cons, List.not_mem_nil, or_false] at hq; rcases hq with rfl | rfl | rfl | rfl | rfl | rfl <;> rfl) ?_
            have hA : qAhead t (nI q2) (nI k2) = true := by
              unfold qAhead
              first | rw [if_pos h2] | rw [if_neg h2] | rw [if_pos (by exact z_lt h2)] | rw [if_neg (by exact z_nlt h2)]
            have hB : qBit t (nI q2) x = false := by
              unfold qBit
              first | rw [if_pos h4] | rw [if_neg h4]
            exact ih (q2 + 1) bf (by omega) (by omega) (hE.trans (by rw [qCntL, if_neg h1, if_pos hA, if_neg (by exact tf_f hB), nI_1]))
          · skip
            refine vv_iload C d_M_linked_90 rfl ?_
            refine vv_iconst C (1) d_M_linked_92 (by decide) ?_
            refine vv_iadd C d_M_linked_93 ?_
            refine vv_goto C 99 d_M_linked_94 rfl ?_
            refine vv_istore (lv' := [(4, .int (bf + 1)), (6, .int 1), (5, .int (nI q2)), (3, .int (nI k2)), (0, .ref (Γ.2.1 27)), (1, .int x), (2, .int y)]) C d_M_linked_99 (by decide) rfl ?_
            refine vv_iinc (j := 2) (v := nI (q2 + 1)) (lv' := [(5, .int (nI (q2 + 1))), (4, .int (bf + 1)), (6, .int 1), (3, .int (nI k2)), (0, .ref (Γ.2.1 27)), (1, .int x), (2, .int y)]) C d_M_linked_101 rfl (nI_1 q2) (by decide) rfl ?_
            refine vv_goto C 16 d_M_linked_104 rfl ?_
            refine vv_lv [(5, .int (nI (q2 + 1))), (4, .int (bf + 1)), (3, .int (nI k2)), (0, .ref (Γ.2.1 27)), (1, .int x), (2, .int y)] (by intro q hq; simp only [List.mem_cons, List.not_mem_nil, or_false] at hq; rcases hq with rfl | rfl | rfl | rfl | rfl | rfl <;> rfl) ?_
            have hA : qAhead t (nI q2) (nI k2) = true := by
              unfold qAhead
              first | rw [if_pos h2] | rw [if_neg h2] | rw [if_pos (by exact z_lt h2)] | rw [if_neg (by exact z_nlt h2)]
            have hB : qBit t (nI q2) x = true := by
              unfold qBit
              first | rw [if_pos h4] | rw [if_neg h4]
            exact ih (q2 + 1) (bf + 1) (by omega) (by omega) (hE.trans (by rw [qCntL, if_neg h1, if_pos hA, if_pos hB, nI_1]))
        · skip
          refine vv_aload_n C d_M_linked_41 rfl ?_
          refine g_M_order C d_M_linked_42 ?_
          refine vv_iload C d_M_linked_45 rfl ?_
          refine ld_M_order C (in6 (by omega)) d_M_linked_47 ?_
          refine vv_aload_n C d_M_linked_48 rfl ?_
          refine g_M_order C d_M_linked_49 ?_
          refine vv_iload_n C d_M_linked_52 rfl ?_
          refine ld_M_order C (in6 (by omega)) d_M_linked_53 ?_
          refine vv_icmp_ne C 67 d_M_linked_54 rfl (fun h5 => ?_) (fun h5 => ?_)
          · skip
            refine vv_iconst C (0) d_M_linked_67 (by decide) ?_
            refine vv_istore (lv' := [(6, .int 0), (5, .int (nI q2)), (4, .int bf), (3, .int (nI k2)), (0, .ref (Γ.2.1 27)), (1, .int x), (2, .int y)]) C d_M_linked_68 (by decide) rfl ?_
            refine vv_iload C d_M_linked_70 rfl ?_
            refine vv_if_eq C 97 d_M_linked_72 rfl (fun _ => ?_) (fun h => absurd h (by decide))
            refine vv_iload C d_M_linked_97 rfl ?_
            refine vv_istore (lv' := [(4, .int bf), (6, .int 0), (5, .int (nI q2)), (3, .int (nI k2)), (0, .ref (Γ.2.1 27)), (1, .int x), (2, .int y)]) C d_M_linked_99 (by decide) rfl ?_
            refine vv_iinc (j := 2) (v := nI (q2 + 1)) (lv' := [(5, .int (nI (q2 + 1))), (4, .int bf), (6, .int 0), (3, .int (nI k2)), (0, .ref (Γ.2.1 27)), (1, .int x), (2, .int y)]) C d_M_linked_101 rfl (nI_1 q2) (by decide) rfl ?_
            refine vv_goto C 16 d_M_linked_104 rfl ?_
            refine vv_lv [(5, .int (nI (q2 + 1))), (4, .int bf), (3, .int (nI k2)), (0, .ref (Γ.2.1 27)), (1, .int x), (2, .int y)] (by intro q hq; simp only [List.mem_cons, List.not_mem_nil, or_false] at hq; rcases hq with rfl | rfl | rfl | rfl | rfl | rfl <;> rfl) ?_
            have hA : qAhead t (nI q2) (nI k2) = false := by
              unfold qAhead
              first | rw [if_pos h2] | rw [if_neg h2] | rw [if_pos (by exact z_lt h2)] | rw [if_neg (by exact z_nlt h2)]
              first | rw [if_pos h5] | rw [if_neg h5] | rw [if_pos (by exact z_lt h5)] | rw [if_neg (by exact z_nlt h5)]
            exact ih (q2 + 1) bf (by omega) (by omega) (hE.trans (by rw [qCntL, if_neg h1, if_neg (by exact tf_f hA), nI_1]))
          · skip
            refine vv_iload C d_M_linked_57 rfl ?_
            refine vv_iload_n C d_M_linked_59 rfl ?_
            refine vv_icmp_ge C 67 d_M_linked_60 rfl (fun h7 => ?_) (fun h7 => ?_)
            · skip
              refine vv_iconst C (0) d_M_linked_67 (by decide) ?_
              refine vv_istore (lv' := [(6, .int 0), (5, .int (nI q2)), (4, .int bf), (3, .int (nI k2)), (0, .ref (Γ.2.1 27)), (1, .int x), (2, .int y)]) C d_M_linked_68 (by decide) rfl ?_
              refine vv_iload C d_M_linked_70 rfl ?_
              refine vv_if_eq C 97 d_M_linked_72 rfl (fun _ => ?_) (fun h => absurd h (by decide))
              refine vv_iload C d_M_linked_97 rfl ?_
              refine vv_istore (lv' := [(4, .int bf), (6, .int 0), (5, .int (nI q2)), (3, .int (nI k2)), (0, .ref (Γ.2.1 27)), (1, .int x), (2, .int y)]) C d_M_linked_99 (by decide) rfl ?_
              refine vv_iinc (j := 2) (v := nI (q2 + 1)) (lv' := [(5, .int (nI (q2 + 1))), (4, .int bf), (6, .int 0), (3, .int (nI k2)), (0, .ref (Γ.2.1 27)), (1, .int x), (2, .int y)]) C d_M_linked_101 rfl (nI_1 q2) (by decide) rfl ?_
              refine vv_goto C 16 d_M_linked_104 rfl ?_
              refine vv_lv [(5, .int (nI (q2 + 1))), (4, .int bf), (3, .int (nI k2)), (0, .ref (Γ.2.1 27)), (1, .int x), (2, .int y)] (by intro q hq; simp only [List.mem_cons, List.not_mem_nil, or_false] at hq; rcases hq with rfl | rfl | rfl | rfl | rfl | rfl <;> rfl) ?_
              have hA : qAhead t (nI q2) (nI k2) = false := by
                unfold qAhead
                first | rw [if_pos h2] | rw [if_neg h2] | rw [if_pos (by exact z_lt h2)] | rw [if_neg (by exact z_nlt h2)]
                first | rw [if_pos h5] | rw [if_neg h5] | rw [if_pos (by exact z_lt h5)] | rw [if_neg (by exact z_nlt h5)]
                first | rw [if_pos h7] | rw [if_neg h7] | rw [if_pos (by exact z_lt h7)] | rw [if_neg (by exact z_nlt h7)]
              exact ih (q2 + 1) bf (by omega) (by omega) (hE.trans (by rw [qCntL, if_neg h1, if_neg (by exact tf_f hA), nI_1]))
            · skip
              refine vv_iconst C (1) d_M_linked_63 (by decide) ?_
              refine vv_goto C 68 d_M_linked_64 rfl ?_
              refine vv_istore (lv' := [(6, .int 1), (5, .int (nI q2)), (4, .int bf), (3, .int (nI k2)), (0, .ref (Γ.2.1 27)), (1, .int x), (2, .int y)]) C d_M_linked_68 (by decide) rfl ?_
              refine vv_iload C d_M_linked_70 rfl ?_
              refine vv_if_eq C 97 d_M_linked_72 rfl (fun h => absurd h (by decide)) (fun _ => ?_)
              refine vv_aload_n C d_M_linked_75 rfl ?_
              refine g_M_methods C d_M_linked_76 ?_
              refine vv_iload C d_M_linked_79 rfl ?_
              refine ld_M_methods C (in6 (by omega)) d_M_linked_81 ?_
              refine vv_iload_n C d_M_linked_82 rfl ?_
              refine vv_ishr C d_M_linked_83 ?_
              refine vv_iconst C (1) d_M_linked_84 (by decide) ?_
              refine vv_iand C d_M_linked_85 ?_
              refine vv_iconst C (1) d_M_linked_86 (by decide) ?_
              refine vv_icmp_ne C 97 d_M_linked_87 rfl (fun h10 => ?_) (fun h10 => ?_)
              · skip
                refine vv_iload C d_M_linked_97 rfl ?_
                refine vv_istore (lv' := [(4, .int bf), (6, .int 1), (5, .int (nI q2)), (3, .int (nI k2)), (0, .ref (Γ.2.1 27)), (1, .int x), (2, .int y)]) C d_M_linked_99 (by decide) rfl ?_
                refine vv_iinc (j := 2) (v := nI (q2 + 1)) (lv' := [(5, .int (nI (q2 + 1))), (4, .int bf), (6, .int 1), (3, .int (nI k2)), (0, .ref (Γ.2.1 27)), (1, .int x), (2, .int y)]) C d_M_linked_101 rfl (nI_1 q2) (by decide) rfl ?_
                refine vv_goto C 16 d_M_linked_104 rfl ?_
                refine vv_lv [(5, .int (nI (q2 + 1))), (4, .int bf), (3, .int (nI k2)), (0, .ref (Γ.2.1 27)), (1, .int x), (2, .int y)] (by intro q hq; simp only [List.mem_cons, List.not_mem_nil, or_false] at hq; rcases hq with rfl | rfl | rfl | rfl | rfl | rfl <;> rfl) ?_
                have hA : qAhead t (nI q2) (nI k2) = true := by
                  unfold qAhead
                  first | rw [if_pos h2] | rw [if_neg h2] | rw [if_pos (by exact z_lt h2)] | rw [if_neg (by exact z_nlt h2)]
                  first | rw [if_pos h5] | rw [if_neg h5] | rw [if_pos (by exact z_lt h5)] | rw [if_neg (by exact z_nlt h5)]
                  first | rw [if_pos h7] | rw [if_neg h7] | rw [if_pos (by exact z_lt h7)] | rw [if_neg (by exact z_nlt h7)]
                have hB : qBit t (nI q2) x = false := by
                  unfold qBit
                  first | rw [if_pos h10] | rw [if_neg h10]
                exact ih (q2 + 1) bf (by omega) (by omega) (hE.trans (by rw [qCntL, if_neg h1, if_pos hA, if_neg (by exact tf_f hB), nI_1]))
              · skip
                refine vv_iload C d_M_linked_90 rfl ?_
                refine vv_iconst C (1) d_M_linked_92 (by decide) ?_
                refine vv_iadd C d_M_linked_93 ?_
                refine vv_goto C 99 d_M_linked_94 rfl ?_
                refine vv_istore (lv' := [(4, .int (bf + 1)), (6, .int 1), (5, .int (nI q2)), (3, .int (nI k2)), (0, .ref (Γ.2.1 27)), (1, .int x), (2, .int y)]) C d_M_linked_99 (by decide) rfl ?_
                refine vv_iinc (j := 2) (v := nI (q2 + 1)) (lv' := [(5, .int (nI (q2 + 1))), (4, .int (bf + 1)), (6, .int 1), (3, .int (nI k2)), (0, .ref (Γ.2.1 27)), (1, .int x), (2, .int y)]) C d_M_linked_101 rfl (nI_1 q2) (by decide) rfl ?_
                refine vv_goto C 16 d_M_linked_104 rfl ?_
                refine vv_lv [(5, .int (nI (q2 + 1))), (4, .int (bf + 1)), (3, .int (nI k2)), (0, .ref (Γ.2.1 27)), (1, .int x), (2, .int y)] (by intro q hq; simp only [List.mem_cons, List.not_mem_nil, or_false] at hq; rcases hq with rfl | rfl | rfl | rfl | rfl | rfl <;> rfl) ?_
                have hA : qAhead t (nI q2) (nI k2) = true := by
                  unfold qAhead
                  first | rw [if_pos h2] | rw [if_neg h2] | rw [if_pos (by exact z_lt h2)] | rw [if_neg (by exact z_nlt h2)]
                  first | rw [if_pos h5] | rw [if_neg h5] | rw [if_pos (by exact z_lt h5)] | rw [if_neg (by exact z_nlt h5)]
                  first | rw [if_pos h7] | rw [if_neg h7] | rw [if_pos (by exact z_lt h7)] | rw [if_neg (by exact z_nlt h7)]
                have hB : qBit t (nI q2) x = true := by
                  unfold qBit
                  first | rw [if_pos h10] | rw [if_neg h10]
                exact ih (q2 + 1) (bf + 1) (by omega) (by omega) (hE.trans (by rw [qCntL, if_neg h1, if_pos hA, if_pos hB, nI_1]))
  have outer : ∀ (f k2 : Nat), k2 ≤ n → n - k2 < f → qLinked t x y = qLinkL t x y f (nI k2) → VV p l e (rmD 0) s m args below meth c 0 0 (MQ below (ctQ Γ.1 clA (inM Γ) (some (.int (qLinked t x y))) (wM Γ t)) args s 0 0 (inM Γ)) 7 Γ.1 clA (inM Γ) s.heap (wM Γ t) 2 [(3, .int (nI k2)), (0, .ref (Γ.2.1 27)), (1, .int x), (2, .int y)] [] := by
    intro f
    induction f with
    | zero => intro k2 _ h _; omega
    | succ f ih =>
      intro k2 hk hf hE
      refine vv_iload_n C d_M_linked_2 rfl ?_
      refine vv_aload_n C d_M_linked_3 rfl ?_
      refine g_M_there C d_M_linked_4 ?_
      refine vv_icmp_ge C 135 d_M_linked_7 rfl (fun h1 => ?_) (fun h1 => ?_)
      · skip
        refine vv_iconst C (-1) d_M_linked_135 (by decide) ?_
        have hF : qLinked t x y = -1 := by
          rw [hE, qLinkL]
          rw [if_pos h1]
        exact vv_iret C hr hlk (by rw [hF]) rfl d_M_linked_136
      · skip
        have hp2 := bdM_lt hn e0 (by omega) h1
        refine vv_iconst C (0) d_M_linked_10 (by decide) ?_
        refine vv_istore (lv' := [(4, .int 0), (3, .int (nI k2)), (0, .ref (Γ.2.1 27)), (1, .int x), (2, .int y)]) C d_M_linked_11 (by decide) rfl ?_
        refine vv_iconst C (0) d_M_linked_13 (by decide) ?_
        refine vv_istore (lv' := [(5, .int 0), (4, .int 0), (3, .int (nI k2)), (0, .ref (Γ.2.1 27)), (1, .int x), (2, .int y)]) C d_M_linked_14 (by decide) rfl ?_
        refine inner k2 hp2 ?_ 7 0 0 (by omega) (by omega) rfl
        refine vv_aload_n C d_M_linked_107 rfl ?_
        refine g_M_methods C d_M_linked_108 ?_
        refine vv_iload_n C d_M_linked_111 rfl ?_
        refine ld_M_methods C (in6 (by omega)) d_M_linked_112 ?_
        refine vv_iload_n C d_M_linked_113 rfl ?_
        refine vv_ishr C d_M_linked_114 ?_
        refine vv_iconst C (1) d_M_linked_115 (by decide) ?_
        refine vv_iand C d_M_linked_116 ?_
        refine vv_iconst C (1) d_M_linked_117 (by decide) ?_
        refine vv_icmp_ne C 129 d_M_linked_118 rfl (fun hh1 => ?_) (fun hh1 => ?_)
        · skip
          refine vv_iinc (j := 1) (v := nI (k2 + 1)) (lv' := [(3, .int (nI (k2 + 1))), (4, .int (qCnt t x (nI k2))), (0, .ref (Γ.2.1 27)), (1, .int x), (2, .int y)]) C d_M_linked_129 rfl (nI_1 k2) (by decide) rfl ?_
          refine vv_goto C 2 d_M_linked_132 rfl ?_
          refine vv_lv [(3, .int (nI (k2 + 1))), (0, .ref (Γ.2.1 27)), (1, .int x), (2, .int y)] (by intro q hq; simp only [List.mem_cons, List.not_mem_nil, or_false] at hq; rcases hq with rfl | rfl | rfl | rfl <;> rfl) ?_
          exact ih (k2 + 1) (by omega) (by omega) (hE.trans (by rw [qLinkL, if_neg h1, if_neg (by unfold qBit; rw [if_neg hh1]; decide), nI_1]))
        · skip
          refine vv_iload C d_M_linked_121 rfl ?_
          refine vv_iload_n C d_M_linked_123 rfl ?_
          refine vv_icmp_ne C 129 d_M_linked_124 rfl (fun hh2 => ?_) (fun hh2 => ?_)
          · skip
            refine vv_iinc (j := 1) (v := nI (k2 + 1)) (lv' := [(3, .int (nI (k2 + 1))), (4, .int (qCnt t x (nI k2))), (0, .ref (Γ.2.1 27)), (1, .int x), (2, .int y)]) C d_M_linked_129 rfl (nI_1 k2) (by decide) rfl ?_
            refine vv_goto C 2 d_M_linked_132 rfl ?_
            refine vv_lv [(3, .int (nI (k2 + 1))), (0, .ref (Γ.2.1 27)), (1, .int x), (2, .int y)] (by intro q hq; simp only [List.mem_cons, List.not_mem_nil, or_false] at hq; rcases hq with rfl | rfl | rfl | rfl <;> rfl) ?_
            exact ih (k2 + 1) (by omega) (by omega) (hE.trans (by rw [qLinkL, if_neg h1, if_pos (by unfold qBit; rw [if_pos hh1]), if_neg hh2, nI_1]))
          · skip
            refine vv_iload_n C d_M_linked_127 rfl ?_
            have hF : qLinked t x y = nI k2 := by
              rw [hE, qLinkL]
              rw [if_neg h1, if_pos (by unfold qBit; rw [if_pos hh1]), if_pos hh2]
            exact vv_iret C hr hlk (by rw [hF]) rfl d_M_linked_128
  refine vv_iconst C (0) d_M_linked_0 (by decide) ?_
  refine vv_istore_n (lv' := [(3, .int 0), (0, .ref (Γ.2.1 27)), (1, .int x), (2, .int y)]) C d_M_linked_1 rfl (by decide) rfl ?_
  exact outer 7 0 (by omega) (by omega) rfl
theorem lk_in {t : M2} (h0 : ∃ n, n ≤ 6 ∧ t 0 0 = nI n) {x y : Int32} (h : ¬ qLinked t x y < 0) : ∃ j, j < 6 ∧ qLinked t x y = nI j := by
  obtain ⟨n, hn, e⟩ := h0
  rcases qLinkL_spec t x y hn e 7 0 (by omega) (by omega) with ⟨z, -⟩ | ⟨j, z1, z2, z3, -⟩
  · exact absurd (show qLinked t x y < 0 by rw [show qLinked t x y = -1 from z]; decide) h
  · exact ⟨j, by omega, z3⟩
set_option maxHeartbeats 4000000 in
set_option maxRecDepth 100000 in
theorem c_M_chain (l : Launch) (Γ : Geo) (t : M2) (h0 : ∃ n, n ≤ 6 ∧ t 0 0 = nI n) (x y : Int32) : CtM l Γ y_M_chain b_M_chain 4 (some .int) 1 [.ref (Γ.2.1 27), .int x, .int y] t (some (.int (qChain t x y))) t := by
  refine ct_of (by decide +kernel) (Nat.le_of_ble_eq_true rfl) ?_
  intro p e s m args below meth c C hr hlk
  refine vv_iload_n C d_M_chain_0 rfl ?_
  refine vv_iconst C (0) d_M_chain_1 (by decide) ?_
  refine vv_iconst C (5) d_M_chain_2 (by decide) ?_
  refine cllMS (rest := []) C (c_M_within l Γ t x 0 5) cw_M_M_within rfl rfl (Nat.le_of_ble_eq_true rfl) (by decide) (by decide) d_M_chain_3 ?_
  refine vv_st (st' := [.int (bI (qWithin x 0 5))]) rfl ?_
  refine vv_if_eq C 18 d_M_chain_6 rfl (fun h1 => ?_) (fun h1 => ?_)
  · skip
    replace h1 := bI_f h1
    refine vv_iconst C (-1) d_M_chain_18 (by decide) ?_
    refine vv_istore_n (lv' := [(3, .int (-1)), (0, .ref (Γ.2.1 27)), (1, .int x), (2, .int y)]) C d_M_chain_19 rfl (by decide) rfl ?_
    refine vv_iload_n C d_M_chain_20 rfl ?_
    refine vv_if_ge C 28 d_M_chain_21 rfl (fun h => absurd h (by decide)) (fun _ => ?_)
    refine vv_iconst C (-1) d_M_chain_24 (by decide) ?_
    refine vv_goto C 34 d_M_chain_25 rfl ?_
    have hE : qChain t x y = -1 := by
      unfold qChain
      try dsimp only
      first | rw [if_pos h1] | rw [if_neg h1] | rw [if_pos (by exact h1)] | rw [if_neg (by exact h1)] | rw [if_neg (by exact z_nle h1)] | rw [if_pos (by exact z_le h1)] | rw [if_neg (by exact z_nlt h1)] | rw [if_pos (by exact z_lt h1)] | rw [if_neg (by exact tf_t h1)] | rw [if_neg (by exact tf_f h1)] | rw [h1] | skip
      try rfl
    exact vv_iret C hr hlk (by rw [hE] <;> rfl) rfl d_M_chain_34
  · skip
    replace h1 := bI_t h1
    refine vv_aload_n C d_M_chain_9 rfl ?_
    refine vv_iload_n C d_M_chain_10 rfl ?_
    refine vv_iload_n C d_M_chain_11 rfl ?_
    refine cllM (rest := []) C (c_M_linked l Γ t h0 x y) cw_M_M_linked rfl rfl (Nat.le_of_ble_eq_true rfl) (by decide) (by decide) d_M_chain_12 ?_
    refine vv_st (st' := [.int (qLinked t x y)]) rfl ?_
    refine vv_goto C 19 d_M_chain_15 rfl ?_
    refine vv_istore_n (lv' := [(3, .int (qLinked t x y)), (0, .ref (Γ.2.1 27)), (1, .int x), (2, .int y)]) C d_M_chain_19 rfl (by decide) rfl ?_
    refine vv_iload_n C d_M_chain_20 rfl ?_
    refine vv_if_ge C 28 d_M_chain_21 rfl (fun h3 => ?_) (fun h3 => ?_)
    · skip
      first | (have hz := ge0_nn h3) | (have hz := h3)
      obtain ⟨jj, hjj, hJ⟩ := lk_in h0 hz
      have hbL : vp_in (qLinked t x y) 6 := by rw [hJ]; exact in6 hjj
      refine vv_aload_n C d_M_chain_28 rfl ?_
      refine g_M_name C d_M_chain_29 ?_
      refine vv_iload_n C d_M_chain_32 rfl ?_
      refine ld_M_name C hbL d_M_chain_33 ?_
      have hE : qChain t x y = t 3 (ix (qLinked t x y)) := by
        unfold qChain
        try dsimp only
        first | rw [if_pos h1] | rw [if_neg h1] | rw [if_pos (by exact h1)] | rw [if_neg (by exact h1)] | rw [if_neg (by exact z_nle h1)] | rw [if_pos (by exact z_le h1)] | rw [if_neg (by exact z_nlt h1)] | rw [if_pos (by exact z_lt h1)] | rw [if_neg (by exact tf_t h1)] | rw [if_neg (by exact tf_f h1)] | rw [h1] | skip
        first | rw [if_pos h3] | rw [if_neg h3] | rw [if_pos (by exact h3)] | rw [if_neg (by exact h3)] | rw [if_neg (by exact z_nle h3)] | rw [if_pos (by exact z_le h3)] | rw [if_neg (by exact z_nlt h3)] | rw [if_pos (by exact z_lt h3)] | rw [if_neg (by exact tf_t h3)] | rw [if_neg (by exact tf_f h3)] | rw [h3] | skip
        try rfl
      exact vv_iret C hr hlk (by rw [hE] <;> rfl) rfl d_M_chain_34
    · skip
      refine vv_iconst C (-1) d_M_chain_24 (by decide) ?_
      refine vv_goto C 34 d_M_chain_25 rfl ?_
      have hE : qChain t x y = -1 := by
        unfold qChain
        try dsimp only
        first | rw [if_pos h1] | rw [if_neg h1] | rw [if_pos (by exact h1)] | rw [if_neg (by exact h1)] | rw [if_neg (by exact z_nle h1)] | rw [if_pos (by exact z_le h1)] | rw [if_neg (by exact z_nlt h1)] | rw [if_pos (by exact z_lt h1)] | rw [if_neg (by exact tf_t h1)] | rw [if_neg (by exact tf_f h1)] | rw [h1] | skip
        first | rw [if_pos h3] | rw [if_neg h3] | rw [if_pos (by exact h3)] | rw [if_neg (by exact h3)] | rw [if_neg (by exact z_nle h3)] | rw [if_pos (by exact z_le h3)] | rw [if_neg (by exact z_nlt h3)] | rw [if_pos (by exact z_lt h3)] | rw [if_neg (by exact tf_t h3)] | rw [if_neg (by exact tf_f h3)] | rw [h3] | skip
        try rfl
      exact vv_iret C hr hlk (by rw [hE] <;> rfl) rfl d_M_chain_34
theorem dp_in {t : M2} (h : ∃ d, d ≤ 3 ∧ t 26 0 = nI d) (hn : ¬ t 26 0 = 3) : vp_in (t 26 0 + 1) 4 := by
  obtain ⟨d, hd, e⟩ := h
  have : ¬ d = 3 := fun z => hn (by rw [e, z]; rfl)
  rw [e, nI_1]
  exact in4 (by omega)
set_option maxHeartbeats 4000000 in
set_option maxRecDepth 100000 in
theorem c_M_enter (l : Launch) (Γ : Geo) (t : M2) (h26 : ∃ d, d ≤ 3 ∧ t 26 0 = nI d) (h29 : vp_in (t 29 0) 30) (x y : Int32) : CtM l Γ y_M_enter b_M_enter 3 none 1 [.ref (Γ.2.1 27), .int x, .int y] t none (qEnter t x y) := by
  refine ct_of (by decide +kernel) (Nat.le_of_ble_eq_true rfl) ?_
  intro p e s m args below meth c C hr hlk
  refine vv_aload_n C d_M_enter_0 rfl ?_
  refine g_M_depth C d_M_enter_1 ?_
  refine vv_iconst C (3) d_M_enter_4 (by decide) ?_
  refine vv_icmp_ne C 16 d_M_enter_5 rfl (fun h1 => ?_) (fun h1 => ?_)
  · skip
    have hbD := dp_in h26 h1
    refine vv_aload_n C d_M_enter_16 rfl ?_
    refine vv_dup C d_M_enter_17 rfl ?_
    refine g_M_depth C d_M_enter_18 ?_
    refine vv_iconst C (1) d_M_enter_21 (by decide) ?_
    refine vv_iadd C d_M_enter_22 ?_
    refine p_M_depth C d_M_enter_23 ?_
    refine vv_aload_n C d_M_enter_26 rfl ?_
    refine vv_dup C d_M_enter_27 rfl ?_
    refine g_M_takenCount C d_M_enter_28 ?_
    refine vv_iconst C (1) d_M_enter_31 (by decide) ?_
    refine vv_iadd C d_M_enter_32 ?_
    refine p_M_takenCount C d_M_enter_33 ?_
    refine vv_aload_n C d_M_enter_36 rfl ?_
    refine g_M_method C d_M_enter_37 ?_
    refine vv_aload_n C d_M_enter_40 rfl ?_
    refine g_M_depth C d_M_enter_41 ?_
    refine vv_iload_n C d_M_enter_44 rfl ?_
    refine sr_M_method C hbD d_M_enter_45 ?_
    refine vv_aload_n C d_M_enter_46 rfl ?_
    refine g_M_target C d_M_enter_47 ?_
    refine vv_aload_n C d_M_enter_50 rfl ?_
    refine g_M_depth C d_M_enter_51 ?_
    refine vv_aload_n C d_M_enter_54 rfl ?_
    refine g_M_source C d_M_enter_55 ?_
    refine vv_iconst C (2) d_M_enter_58 (by decide) ?_
    refine vv_icmp_ne C 69 d_M_enter_59 rfl (fun h2 => ?_) (fun h2 => ?_)
    · skip
      refine vv_aload_n C d_M_enter_69 rfl ?_
      refine g_M_source C d_M_enter_70 ?_
      refine sr_M_target C hbD d_M_enter_73 ?_
      refine vv_aload_n C d_M_enter_74 rfl ?_
      refine vv_aload_n C d_M_enter_75 rfl ?_
      refine g_M_source C d_M_enter_76 ?_
      refine vv_iconst C (2) d_M_enter_79 (by decide) ?_
      refine vv_icmp_ne C 92 d_M_enter_80 rfl (fun h3 => ?_) (fun h3 => ?_)
      · skip
        refine vv_aload_n C d_M_enter_92 rfl ?_
        refine g_M_turns C d_M_enter_93 ?_
        refine p_M_turns C d_M_enter_96 ?_
        refine vv_aload_n C d_M_enter_99 rfl ?_
        refine vv_bipush C (9) d_M_enter_100 (by decide) ?_
        refine vv_iconst C (-1) d_M_enter_102 (by decide) ?_
        refine cllM (rest := []) C (c_M_await l Γ (up2 (up2 (up2 (up2 (up2 t 26 0 ((t 26 0) + 1)) 23 0 (((up2 t 26 0 ((t 26 0) + 1)) 23 0) + 1)) 27 (ix ((up2 (up2 t 26 0 ((t 26 0) + 1)) 23 0 (((up2 t 26 0 ((t 26 0) + 1)) 23 0) + 1)) 26 0)) x) 28 (ix ((up2 (up2 (up2 t 26 0 ((t 26 0) + 1)) 23 0 (((up2 t 26 0 ((t 26 0) + 1)) 23 0) + 1)) 27 (ix ((up2 (up2 t 26 0 ((t 26 0) + 1)) 23 0 (((up2 t 26 0 ((t 26 0) + 1)) 23 0) + 1)) 26 0)) x) 26 0)) ((up2 (up2 (up2 t 26 0 ((t 26 0) + 1)) 23 0 (((up2 t 26 0 ((t 26 0) + 1)) 23 0) + 1)) 27 (ix ((up2 (up2 t 26 0 ((t 26 0) + 1)) 23 0 (((up2 t 26 0 ((t 26 0) + 1)) 23 0) + 1)) 26 0)) x) 17 0)) 18 0 ((up2 (up2 (up2 (up2 t 26 0 ((t 26 0) + 1)) 23 0 (((up2 t 26 0 ((t 26 0) + 1)) 23 0) + 1)) 27 (ix ((up2 (up2 t 26 0 ((t 26 0) + 1)) 23 0 (((up2 t 26 0 ((t 26 0) + 1)) 23 0) + 1)) 26 0)) x) 28 (ix ((up2 (up2 (up2 t 26 0 ((t 26 0) + 1)) 23 0 (((up2 t 26 0 ((t 26 0) + 1)) 23 0) + 1)) 27 (ix ((up2 (up2 t 26 0 ((t 26 0) + 1)) 23 0 (((up2 t 26 0 ((t 26 0) + 1)) 23 0) + 1)) 26 0)) x) 26 0)) ((up2 (up2 (up2 t 26 0 ((t 26 0) + 1)) 23 0 (((up2 t 26 0 ((t 26 0) + 1)) 23 0) + 1)) 27 (ix ((up2 (up2 t 26 0 ((t 26 0) + 1)) 23 0 (((up2 t 26 0 ((t 26 0) + 1)) 23 0) + 1)) 26 0)) x) 17 0)) 18 0)) h29 9 (-1)) cw_M_M_await rfl rfl (Nat.le_of_ble_eq_true rfl) (by decide) (by decide) d_M_enter_103 ?_
        refine vv_st (st' := []) rfl ?_
        refine vv_aload_n C d_M_enter_106 rfl ?_
        refine vv_iconst C (0) d_M_enter_107 (by decide) ?_
        refine vv_iload_n C d_M_enter_108 rfl ?_
        refine cllM (rest := []) C (c_M_go l Γ (qAwait (up2 (up2 (up2 (up2 (up2 t 26 0 ((t 26 0) + 1)) 23 0 (((up2 t 26 0 ((t 26 0) + 1)) 23 0) + 1)) 27 (ix ((up2 (up2 t 26 0 ((t 26 0) + 1)) 23 0 (((up2 t 26 0 ((t 26 0) + 1)) 23 0) + 1)) 26 0)) x) 28 (ix ((up2 (up2 (up2 t 26 0 ((t 26 0) + 1)) 23 0 (((up2 t 26 0 ((t 26 0) + 1)) 23 0) + 1)) 27 (ix ((up2 (up2 t 26 0 ((t 26 0) + 1)) 23 0 (((up2 t 26 0 ((t 26 0) + 1)) 23 0) + 1)) 26 0)) x) 26 0)) ((up2 (up2 (up2 t 26 0 ((t 26 0) + 1)) 23 0 (((up2 t 26 0 ((t 26 0) + 1)) 23 0) + 1)) 27 (ix ((up2 (up2 t 26 0 ((t 26 0) + 1)) 23 0 (((up2 t 26 0 ((t 26 0) + 1)) 23 0) + 1)) 26 0)) x) 17 0)) 18 0 ((up2 (up2 (up2 (up2 t 26 0 ((t 26 0) + 1)) 23 0 (((up2 t 26 0 ((t 26 0) + 1)) 23 0) + 1)) 27 (ix ((up2 (up2 t 26 0 ((t 26 0) + 1)) 23 0 (((up2 t 26 0 ((t 26 0) + 1)) 23 0) + 1)) 26 0)) x) 28 (ix ((up2 (up2 (up2 t 26 0 ((t 26 0) + 1)) 23 0 (((up2 t 26 0 ((t 26 0) + 1)) 23 0) + 1)) 27 (ix ((up2 (up2 t 26 0 ((t 26 0) + 1)) 23 0 (((up2 t 26 0 ((t 26 0) + 1)) 23 0) + 1)) 26 0)) x) 26 0)) ((up2 (up2 (up2 t 26 0 ((t 26 0) + 1)) 23 0 (((up2 t 26 0 ((t 26 0) + 1)) 23 0) + 1)) 27 (ix ((up2 (up2 t 26 0 ((t 26 0) + 1)) 23 0 (((up2 t 26 0 ((t 26 0) + 1)) 23 0) + 1)) 26 0)) x) 17 0)) 18 0)) 9 (-1)) 0 y) cw_M_M_go rfl rfl (Nat.le_of_ble_eq_true rfl) (by decide) (by decide) d_M_enter_109 ?_
        refine vv_st (st' := []) rfl ?_
        have hE : qEnter t x y = (qGo (qAwait (up2 (up2 (up2 (up2 (up2 t 26 0 ((t 26 0) + 1)) 23 0 (((up2 t 26 0 ((t 26 0) + 1)) 23 0) + 1)) 27 (ix ((up2 (up2 t 26 0 ((t 26 0) + 1)) 23 0 (((up2 t 26 0 ((t 26 0) + 1)) 23 0) + 1)) 26 0)) x) 28 (ix ((up2 (up2 (up2 t 26 0 ((t 26 0) + 1)) 23 0 (((up2 t 26 0 ((t 26 0) + 1)) 23 0) + 1)) 27 (ix ((up2 (up2 t 26 0 ((t 26 0) + 1)) 23 0 (((up2 t 26 0 ((t 26 0) + 1)) 23 0) + 1)) 26 0)) x) 26 0)) ((up2 (up2 (up2 t 26 0 ((t 26 0) + 1)) 23 0 (((up2 t 26 0 ((t 26 0) + 1)) 23 0) + 1)) 27 (ix ((up2 (up2 t 26 0 ((t 26 0) + 1)) 23 0 (((up2 t 26 0 ((t 26 0) + 1)) 23 0) + 1)) 26 0)) x) 17 0)) 18 0 ((up2 (up2 (up2 (up2 t 26 0 ((t 26 0) + 1)) 23 0 (((up2 t 26 0 ((t 26 0) + 1)) 23 0) + 1)) 27 (ix ((up2 (up2 t 26 0 ((t 26 0) + 1)) 23 0 (((up2 t 26 0 ((t 26 0) + 1)) 23 0) + 1)) 26 0)) x) 28 (ix ((up2 (up2 (up2 t 26 0 ((t 26 0) + 1)) 23 0 (((up2 t 26 0 ((t 26 0) + 1)) 23 0) + 1)) 27 (ix ((up2 (up2 t 26 0 ((t 26 0) + 1)) 23 0 (((up2 t 26 0 ((t 26 0) + 1)) 23 0) + 1)) 26 0)) x) 26 0)) ((up2 (up2 (up2 t 26 0 ((t 26 0) + 1)) 23 0 (((up2 t 26 0 ((t 26 0) + 1)) 23 0) + 1)) 27 (ix ((up2 (up2 t 26 0 ((t 26 0) + 1)) 23 0 (((up2 t 26 0 ((t 26 0) + 1)) 23 0) + 1)) 26 0)) x) 17 0)) 18 0)) 9 (-1)) 0 y) := by
          unfold qEnter qEnt
          try dsimp only
          first | rw [if_pos h1] | rw [if_neg h1] | rw [if_pos (by exact h1)] | rw [if_neg (by exact h1)] | rw [if_neg (by exact z_nle h1)] | rw [if_pos (by exact z_le h1)] | rw [if_neg (by exact z_nlt h1)] | rw [if_pos (by exact z_lt h1)] | rw [if_neg (by exact tf_t h1)] | rw [if_neg (by exact tf_f h1)] | rw [h1] | skip
          first | rw [if_pos h2] | rw [if_neg h2] | rw [if_pos (by exact h2)] | rw [if_neg (by exact h2)] | rw [if_neg (by exact z_nle h2)] | rw [if_pos (by exact z_le h2)] | rw [if_neg (by exact z_nlt h2)] | rw [if_pos (by exact z_lt h2)] | rw [if_neg (by exact tf_t h2)] | rw [if_neg (by exact tf_f h2)] | rw [h2] | skip
          first | rw [if_pos h3] | rw [if_neg h3] | rw [if_pos (by exact h3)] | rw [if_neg (by exact h3)] | rw [if_neg (by exact z_nle h3)] | rw [if_pos (by exact z_le h3)] | rw [if_neg (by exact z_nlt h3)] | rw [if_pos (by exact z_lt h3)] | rw [if_neg (by exact tf_t h3)] | rw [if_neg (by exact tf_f h3)] | rw [h3] | skip
          try rfl
        exact vv_vret C hr hlk rfl (by rw [hE] <;> rfl) d_M_enter_112
      · skip
        refine vv_iconst C (1) d_M_enter_83 (by decide) ?_
        refine vv_aload_n C d_M_enter_84 rfl ?_
        refine g_M_turns C d_M_enter_85 ?_
        refine vv_isub C d_M_enter_88 ?_
        refine vv_goto C 96 d_M_enter_89 rfl ?_
        refine p_M_turns C d_M_enter_96 ?_
        refine vv_aload_n C d_M_enter_99 rfl ?_
        refine vv_bipush C (9) d_M_enter_100 (by decide) ?_
        refine vv_iconst C (-1) d_M_enter_102 (by decide) ?_
        refine cllM (rest := []) C (c_M_await l Γ (up2 (up2 (up2 (up2 (up2 t 26 0 ((t 26 0) + 1)) 23 0 (((up2 t 26 0 ((t 26 0) + 1)) 23 0) + 1)) 27 (ix ((up2 (up2 t 26 0 ((t 26 0) + 1)) 23 0 (((up2 t 26 0 ((t 26 0) + 1)) 23 0) + 1)) 26 0)) x) 28 (ix ((up2 (up2 (up2 t 26 0 ((t 26 0) + 1)) 23 0 (((up2 t 26 0 ((t 26 0) + 1)) 23 0) + 1)) 27 (ix ((up2 (up2 t 26 0 ((t 26 0) + 1)) 23 0 (((up2 t 26 0 ((t 26 0) + 1)) 23 0) + 1)) 26 0)) x) 26 0)) ((up2 (up2 (up2 t 26 0 ((t 26 0) + 1)) 23 0 (((up2 t 26 0 ((t 26 0) + 1)) 23 0) + 1)) 27 (ix ((up2 (up2 t 26 0 ((t 26 0) + 1)) 23 0 (((up2 t 26 0 ((t 26 0) + 1)) 23 0) + 1)) 26 0)) x) 17 0)) 18 0 (1 - ((up2 (up2 (up2 (up2 t 26 0 ((t 26 0) + 1)) 23 0 (((up2 t 26 0 ((t 26 0) + 1)) 23 0) + 1)) 27 (ix ((up2 (up2 t 26 0 ((t 26 0) + 1)) 23 0 (((up2 t 26 0 ((t 26 0) + 1)) 23 0) + 1)) 26 0)) x) 28 (ix ((up2 (up2 (up2 t 26 0 ((t 26 0) + 1)) 23 0 (((up2 t 26 0 ((t 26 0) + 1)) 23 0) + 1)) 27 (ix ((up2 (up2 t 26 0 ((t 26 0) + 1)) 23 0 (((up2 t 26 0 ((t 26 0) + 1)) 23 0) + 1)) 26 0)) x) 26 0)) ((up2 (up2 (up2 t 26 0 ((t 26 0) + 1)) 23 0 (((up2 t 26 0 ((t 26 0) + 1)) 23 0) + 1)) 27 (ix ((up2 (up2 t 26 0 ((t 26 0) + 1)) 23 0 (((up2 t 26 0 ((t 26 0) + 1)) 23 0) + 1)) 26 0)) x) 17 0)) 18 0))) h29 9 (-1)) cw_M_M_await rfl rfl (Nat.le_of_ble_eq_true rfl) (by decide) (by decide) d_M_enter_103 ?_
        refine vv_st (st' := []) rfl ?_
        refine vv_aload_n C d_M_enter_106 rfl ?_
        refine vv_iconst C (0) d_M_enter_107 (by decide) ?_
        refine vv_iload_n C d_M_enter_108 rfl ?_
        refine cllM (rest := []) C (c_M_go l Γ (qAwait (up2 (up2 (up2 (up2 (up2 t 26 0 ((t 26 0) + 1)) 23 0 (((up2 t 26 0 ((t 26 0) + 1)) 23 0) + 1)) 27 (ix ((up2 (up2 t 26 0 ((t 26 0) + 1)) 23 0 (((up2 t 26 0 ((t 26 0) + 1)) 23 0) + 1)) 26 0)) x) 28 (ix ((up2 (up2 (up2 t 26 0 ((t 26 0) + 1)) 23 0 (((up2 t 26 0 ((t 26 0) + 1)) 23 0) + 1)) 27 (ix ((up2 (up2 t 26 0 ((t 26 0) + 1)) 23 0 (((up2 t 26 0 ((t 26 0) + 1)) 23 0) + 1)) 26 0)) x) 26 0)) ((up2 (up2 (up2 t 26 0 ((t 26 0) + 1)) 23 0 (((up2 t 26 0 ((t 26 0) + 1)) 23 0) + 1)) 27 (ix ((up2 (up2 t 26 0 ((t 26 0) + 1)) 23 0 (((up2 t 26 0 ((t 26 0) + 1)) 23 0) + 1)) 26 0)) x) 17 0)) 18 0 (1 - ((up2 (up2 (up2 (up2 t 26 0 ((t 26 0) + 1)) 23 0 (((up2 t 26 0 ((t 26 0) + 1)) 23 0) + 1)) 27 (ix ((up2 (up2 t 26 0 ((t 26 0) + 1)) 23 0 (((up2 t 26 0 ((t 26 0) + 1)) 23 0) + 1)) 26 0)) x) 28 (ix ((up2 (up2 (up2 t 26 0 ((t 26 0) + 1)) 23 0 (((up2 t 26 0 ((t 26 0) + 1)) 23 0) + 1)) 27 (ix ((up2 (up2 t 26 0 ((t 26 0) + 1)) 23 0 (((up2 t 26 0 ((t 26 0) + 1)) 23 0) + 1)) 26 0)) x) 26 0)) ((up2 (up2 (up2 t 26 0 ((t 26 0) + 1)) 23 0 (((up2 t 26 0 ((t 26 0) + 1)) 23 0) + 1)) 27 (ix ((up2 (up2 t 26 0 ((t 26 0) + 1)) 23 0 (((up2 t 26 0 ((t 26 0) + 1)) 23 0) + 1)) 26 0)) x) 17 0)) 18 0))) 9 (-1)) 0 y) cw_M_M_go rfl rfl (Nat.le_of_ble_eq_true rfl) (by decide) (by decide) d_M_enter_109 ?_
        refine vv_st (st' := []) rfl ?_
        have hE : qEnter t x y = (qGo (qAwait (up2 (up2 (up2 (up2 (up2 t 26 0 ((t 26 0) + 1)) 23 0 (((up2 t 26 0 ((t 26 0) + 1)) 23 0) + 1)) 27 (ix ((up2 (up2 t 26 0 ((t 26 0) + 1)) 23 0 (((up2 t 26 0 ((t 26 0) + 1)) 23 0) + 1)) 26 0)) x) 28 (ix ((up2 (up2 (up2 t 26 0 ((t 26 0) + 1)) 23 0 (((up2 t 26 0 ((t 26 0) + 1)) 23 0) + 1)) 27 (ix ((up2 (up2 t 26 0 ((t 26 0) + 1)) 23 0 (((up2 t 26 0 ((t 26 0) + 1)) 23 0) + 1)) 26 0)) x) 26 0)) ((up2 (up2 (up2 t 26 0 ((t 26 0) + 1)) 23 0 (((up2 t 26 0 ((t 26 0) + 1)) 23 0) + 1)) 27 (ix ((up2 (up2 t 26 0 ((t 26 0) + 1)) 23 0 (((up2 t 26 0 ((t 26 0) + 1)) 23 0) + 1)) 26 0)) x) 17 0)) 18 0 (1 - ((up2 (up2 (up2 (up2 t 26 0 ((t 26 0) + 1)) 23 0 (((up2 t 26 0 ((t 26 0) + 1)) 23 0) + 1)) 27 (ix ((up2 (up2 t 26 0 ((t 26 0) + 1)) 23 0 (((up2 t 26 0 ((t 26 0) + 1)) 23 0) + 1)) 26 0)) x) 28 (ix ((up2 (up2 (up2 t 26 0 ((t 26 0) + 1)) 23 0 (((up2 t 26 0 ((t 26 0) + 1)) 23 0) + 1)) 27 (ix ((up2 (up2 t 26 0 ((t 26 0) + 1)) 23 0 (((up2 t 26 0 ((t 26 0) + 1)) 23 0) + 1)) 26 0)) x) 26 0)) ((up2 (up2 (up2 t 26 0 ((t 26 0) + 1)) 23 0 (((up2 t 26 0 ((t 26 0) + 1)) 23 0) + 1)) 27 (ix ((up2 (up2 t 26 0 ((t 26 0) + 1)) 23 0 (((up2 t 26 0 ((t 26 0) + 1)) 23 0) + 1)) 26 0)) x) 17 0)) 18 0))) 9 (-1)) 0 y) := by
          unfold qEnter qEnt
          try dsimp only
          first | rw [if_pos h1] | rw [if_neg h1] | rw [if_pos (by exact h1)] | rw [if_neg (by exact h1)] | rw [if_neg (by exact z_nle h1)] | rw [if_pos (by exact z_le h1)] | rw [if_neg (by exact z_nlt h1)] | rw [if_pos (by exact z_lt h1)] | rw [if_neg (by exact tf_t h1)] | rw [if_neg (by exact tf_f h1)] | rw [h1] | skip
          first | rw [if_pos h2] | rw [if_neg h2] | rw [if_pos (by exact h2)] | rw [if_neg (by exact h2)] | rw [if_neg (by exact z_nle h2)] | rw [if_pos (by exact z_le h2)] | rw [if_neg (by exact z_nlt h2)] | rw [if_pos (by exact z_lt h2)] | rw [if_neg (by exact tf_t h2)] | rw [if_neg (by exact tf_f h2)] | rw [h2] | skip
          first | rw [if_pos h3] | rw [if_neg h3] | rw [if_pos (by exact h3)] | rw [if_neg (by exact h3)] | rw [if_neg (by exact z_nle h3)] | rw [if_pos (by exact z_le h3)] | rw [if_neg (by exact z_nlt h3)] | rw [if_pos (by exact z_lt h3)] | rw [if_neg (by exact tf_t h3)] | rw [if_neg (by exact tf_f h3)] | rw [h3] | skip
          try rfl
        exact vv_vret C hr hlk rfl (by rw [hE] <;> rfl) d_M_enter_112
    · skip
      refine vv_aload_n C d_M_enter_62 rfl ?_
      refine g_M_turns C d_M_enter_63 ?_
      refine vv_goto C 73 d_M_enter_66 rfl ?_
      refine sr_M_target C hbD d_M_enter_73 ?_
      refine vv_aload_n C d_M_enter_74 rfl ?_
      refine vv_aload_n C d_M_enter_75 rfl ?_
      refine g_M_source C d_M_enter_76 ?_
      refine vv_iconst C (2) d_M_enter_79 (by decide) ?_
      refine vv_icmp_ne C 92 d_M_enter_80 rfl (fun h4 => ?_) (fun h4 => ?_)
      · skip
        refine vv_aload_n C d_M_enter_92 rfl ?_
        refine g_M_turns C d_M_enter_93 ?_
        refine p_M_turns C d_M_enter_96 ?_
        refine vv_aload_n C d_M_enter_99 rfl ?_
        refine vv_bipush C (9) d_M_enter_100 (by decide) ?_
        refine vv_iconst C (-1) d_M_enter_102 (by decide) ?_
        refine cllM (rest := []) C (c_M_await l Γ (up2 (up2 (up2 (up2 (up2 t 26 0 ((t 26 0) + 1)) 23 0 (((up2 t 26 0 ((t 26 0) + 1)) 23 0) + 1)) 27 (ix ((up2 (up2 t 26 0 ((t 26 0) + 1)) 23 0 (((up2 t 26 0 ((t 26 0) + 1)) 23 0) + 1)) 26 0)) x) 28 (ix ((up2 (up2 (up2 t 26 0 ((t 26 0) + 1)) 23 0 (((up2 t 26 0 ((t 26 0) + 1)) 23 0) + 1)) 27 (ix ((up2 (up2 t 26 0 ((t 26 0) + 1)) 23 0 (((up2 t 26 0 ((t 26 0) + 1)) 23 0) + 1)) 26 0)) x) 26 0)) ((up2 (up2 (up2 t 26 0 ((t 26 0) + 1)) 23 0 (((up2 t 26 0 ((t 26 0) + 1)) 23 0) + 1)) 27 (ix ((up2 (up2 t 26 0 ((t 26 0) + 1)) 23 0 (((up2 t 26 0 ((t 26 0) + 1)) 23 0) + 1)) 26 0)) x) 18 0)) 18 0 ((up2 (up2 (up2 (up2 t 26 0 ((t 26 0) + 1)) 23 0 (((up2 t 26 0 ((t 26 0) + 1)) 23 0) + 1)) 27 (ix ((up2 (up2 t 26 0 ((t 26 0) + 1)) 23 0 (((up2 t 26 0 ((t 26 0) + 1)) 23 0) + 1)) 26 0)) x) 28 (ix ((up2 (up2 (up2 t 26 0 ((t 26 0) + 1)) 23 0 (((up2 t 26 0 ((t 26 0) + 1)) 23 0) + 1)) 27 (ix ((up2 (up2 t 26 0 ((t 26 0) + 1)) 23 0 (((up2 t 26 0 ((t 26 0) + 1)) 23 0) + 1)) 26 0)) x) 26 0)) ((up2 (up2 (up2 t 26 0 ((t 26 0) + 1)) 23 0 (((up2 t 26 0 ((t 26 0) + 1)) 23 0) + 1)) 27 (ix ((up2 (up2 t 26 0 ((t 26 0) + 1)) 23 0 (((up2 t 26 0 ((t 26 0) + 1)) 23 0) + 1)) 26 0)) x) 18 0)) 18 0)) h29 9 (-1)) cw_M_M_await rfl rfl (Nat.le_of_ble_eq_true rfl) (by decide) (by decide) d_M_enter_103 ?_
        refine vv_st (st' := []) rfl ?_
        refine vv_aload_n C d_M_enter_106 rfl ?_
        refine vv_iconst C (0) d_M_enter_107 (by decide) ?_
        refine vv_iload_n C d_M_enter_108 rfl ?_
        refine cllM (rest := []) C (c_M_go l Γ (qAwait (up2 (up2 (up2 (up2 (up2 t 26 0 ((t 26 0) + 1)) 23 0 (((up2 t 26 0 ((t 26 0) + 1)) 23 0) + 1)) 27 (ix ((up2 (up2 t 26 0 ((t 26 0) + 1)) 23 0 (((up2 t 26 0 ((t 26 0) + 1)) 23 0) + 1)) 26 0)) x) 28 (ix ((up2 (up2 (up2 t 26 0 ((t 26 0) + 1)) 23 0 (((up2 t 26 0 ((t 26 0) + 1)) 23 0) + 1)) 27 (ix ((up2 (up2 t 26 0 ((t 26 0) + 1)) 23 0 (((up2 t 26 0 ((t 26 0) + 1)) 23 0) + 1)) 26 0)) x) 26 0)) ((up2 (up2 (up2 t 26 0 ((t 26 0) + 1)) 23 0 (((up2 t 26 0 ((t 26 0) + 1)) 23 0) + 1)) 27 (ix ((up2 (up2 t 26 0 ((t 26 0) + 1)) 23 0 (((up2 t 26 0 ((t 26 0) + 1)) 23 0) + 1)) 26 0)) x) 18 0)) 18 0 ((up2 (up2 (up2 (up2 t 26 0 ((t 26 0) + 1)) 23 0 (((up2 t 26 0 ((t 26 0) + 1)) 23 0) + 1)) 27 (ix ((up2 (up2 t 26 0 ((t 26 0) + 1)) 23 0 (((up2 t 26 0 ((t 26 0) + 1)) 23 0) + 1)) 26 0)) x) 28 (ix ((up2 (up2 (up2 t 26 0 ((t 26 0) + 1)) 23 0 (((up2 t 26 0 ((t 26 0) + 1)) 23 0) + 1)) 27 (ix ((up2 (up2 t 26 0 ((t 26 0) + 1)) 23 0 (((up2 t 26 0 ((t 26 0) + 1)) 23 0) + 1)) 26 0)) x) 26 0)) ((up2 (up2 (up2 t 26 0 ((t 26 0) + 1)) 23 0 (((up2 t 26 0 ((t 26 0) + 1)) 23 0) + 1)) 27 (ix ((up2 (up2 t 26 0 ((t 26 0) + 1)) 23 0 (((up2 t 26 0 ((t 26 0) + 1)) 23 0) + 1)) 26 0)) x) 18 0)) 18 0)) 9 (-1)) 0 y) cw_M_M_go rfl rfl (Nat.le_of_ble_eq_true rfl) (by decide) (by decide) d_M_enter_109 ?_
        refine vv_st (st' := []) rfl ?_
        have hE : qEnter t x y = (qGo (qAwait (up2 (up2 (up2 (up2 (up2 t 26 0 ((t 26 0) + 1)) 23 0 (((up2 t 26 0 ((t 26 0) + 1)) 23 0) + 1)) 27 (ix ((up2 (up2 t 26 0 ((t 26 0) + 1)) 23 0 (((up2 t 26 0 ((t 26 0) + 1)) 23 0) + 1)) 26 0)) x) 28 (ix ((up2 (up2 (up2 t 26 0 ((t 26 0) + 1)) 23 0 (((up2 t 26 0 ((t 26 0) + 1)) 23 0) + 1)) 27 (ix ((up2 (up2 t 26 0 ((t 26 0) + 1)) 23 0 (((up2 t 26 0 ((t 26 0) + 1)) 23 0) + 1)) 26 0)) x) 26 0)) ((up2 (up2 (up2 t 26 0 ((t 26 0) + 1)) 23 0 (((up2 t 26 0 ((t 26 0) + 1)) 23 0) + 1)) 27 (ix ((up2 (up2 t 26 0 ((t 26 0) + 1)) 23 0 (((up2 t 26 0 ((t 26 0) + 1)) 23 0) + 1)) 26 0)) x) 18 0)) 18 0 ((up2 (up2 (up2 (up2 t 26 0 ((t 26 0) + 1)) 23 0 (((up2 t 26 0 ((t 26 0) + 1)) 23 0) + 1)) 27 (ix ((up2 (up2 t 26 0 ((t 26 0) + 1)) 23 0 (((up2 t 26 0 ((t 26 0) + 1)) 23 0) + 1)) 26 0)) x) 28 (ix ((up2 (up2 (up2 t 26 0 ((t 26 0) + 1)) 23 0 (((up2 t 26 0 ((t 26 0) + 1)) 23 0) + 1)) 27 (ix ((up2 (up2 t 26 0 ((t 26 0) + 1)) 23 0 (((up2 t 26 0 ((t 26 0) + 1)) 23 0) + 1)) 26 0)) x) 26 0)) ((up2 (up2 (up2 t 26 0 ((t 26 0) + 1)) 23 0 (((up2 t 26 0 ((t 26 0) + 1)) 23 0) + 1)) 27 (ix ((up2 (up2 t 26 0 ((t 26 0) + 1)) 23 0 (((up2 t 26 0 ((t 26 0) + 1)) 23 0) + 1)) 26 0)) x) 18 0)) 18 0)) 9 (-1)) 0 y) := by
          unfold qEnter qEnt
          try dsimp only
          first | rw [if_pos h1] | rw [if_neg h1] | rw [if_pos (by exact h1)] | rw [if_neg (by exact h1)] | rw [if_neg (by exact z_nle h1)] | rw [if_pos (by exact z_le h1)] | rw [if_neg (by exact z_nlt h1)] | rw [if_pos (by exact z_lt h1)] | rw [if_neg (by exact tf_t h1)] | rw [if_neg (by exact tf_f h1)] | rw [h1] | skip
          first | rw [if_pos h2] | rw [if_neg h2] | rw [if_pos (by exact h2)] | rw [if_neg (by exact h2)] | rw [if_neg (by exact z_nle h2)] | rw [if_pos (by exact z_le h2)] | rw [if_neg (by exact z_nlt h2)] | rw [if_pos (by exact z_lt h2)] | rw [if_neg (by exact tf_t h2)] | rw [if_neg (by exact tf_f h2)] | rw [h2] | skip
          first | rw [if_pos h4] | rw [if_neg h4] | rw [if_pos (by exact h4)] | rw [if_neg (by exact h4)] | rw [if_neg (by exact z_nle h4)] | rw [if_pos (by exact z_le h4)] | rw [if_neg (by exact z_nlt h4)] | rw [if_pos (by exact z_lt h4)] | rw [if_neg (by exact tf_t h4)] | rw [if_neg (by exact tf_f h4)] | rw [h4] | skip
          try rfl
        exact vv_vret C hr hlk rfl (by rw [hE] <;> rfl) d_M_enter_112
      · skip
        refine vv_iconst C (1) d_M_enter_83 (by decide) ?_
        refine vv_aload_n C d_M_enter_84 rfl ?_
        refine g_M_turns C d_M_enter_85 ?_
        refine vv_isub C d_M_enter_88 ?_
        refine vv_goto C 96 d_M_enter_89 rfl ?_
        refine p_M_turns C d_M_enter_96 ?_
        refine vv_aload_n C d_M_enter_99 rfl ?_
        refine vv_bipush C (9) d_M_enter_100 (by decide) ?_
        refine vv_iconst C (-1) d_M_enter_102 (by decide) ?_
        refine cllM (rest := []) C (c_M_await l Γ (up2 (up2 (up2 (up2 (up2 t 26 0 ((t 26 0) + 1)) 23 0 (((up2 t 26 0 ((t 26 0) + 1)) 23 0) + 1)) 27 (ix ((up2 (up2 t 26 0 ((t 26 0) + 1)) 23 0 (((up2 t 26 0 ((t 26 0) + 1)) 23 0) + 1)) 26 0)) x) 28 (ix ((up2 (up2 (up2 t 26 0 ((t 26 0) + 1)) 23 0 (((up2 t 26 0 ((t 26 0) + 1)) 23 0) + 1)) 27 (ix ((up2 (up2 t 26 0 ((t 26 0) + 1)) 23 0 (((up2 t 26 0 ((t 26 0) + 1)) 23 0) + 1)) 26 0)) x) 26 0)) ((up2 (up2 (up2 t 26 0 ((t 26 0) + 1)) 23 0 (((up2 t 26 0 ((t 26 0) + 1)) 23 0) + 1)) 27 (ix ((up2 (up2 t 26 0 ((t 26 0) + 1)) 23 0 (((up2 t 26 0 ((t 26 0) + 1)) 23 0) + 1)) 26 0)) x) 18 0)) 18 0 (1 - ((up2 (up2 (up2 (up2 t 26 0 ((t 26 0) + 1)) 23 0 (((up2 t 26 0 ((t 26 0) + 1)) 23 0) + 1)) 27 (ix ((up2 (up2 t 26 0 ((t 26 0) + 1)) 23 0 (((up2 t 26 0 ((t 26 0) + 1)) 23 0) + 1)) 26 0)) x) 28 (ix ((up2 (up2 (up2 t 26 0 ((t 26 0) + 1)) 23 0 (((up2 t 26 0 ((t 26 0) + 1)) 23 0) + 1)) 27 (ix ((up2 (up2 t 26 0 ((t 26 0) + 1)) 23 0 (((up2 t 26 0 ((t 26 0) + 1)) 23 0) + 1)) 26 0)) x) 26 0)) ((up2 (up2 (up2 t 26 0 ((t 26 0) + 1)) 23 0 (((up2 t 26 0 ((t 26 0) + 1)) 23 0) + 1)) 27 (ix ((up2 (up2 t 26 0 ((t 26 0) + 1)) 23 0 (((up2 t 26 0 ((t 26 0) + 1)) 23 0) + 1)) 26 0)) x) 18 0)) 18 0))) h29 9 (-1)) cw_M_M_await rfl rfl (Nat.le_of_ble_eq_true rfl) (by decide) (by decide) d_M_enter_103 ?_
        refine vv_st (st' := []) rfl ?_
        refine vv_aload_n C d_M_enter_106 rfl ?_
        refine vv_iconst C (0) d_M_enter_107 (by decide) ?_
        refine vv_iload_n C d_M_enter_108 rfl ?_
        refine cllM (rest := []) C (c_M_go l Γ (qAwait (up2 (up2 (up2 (up2 (up2 t 26 0 ((t 26 0) + 1)) 23 0 (((up2 t 26 0 ((t 26 0) + 1)) 23 0) + 1)) 27 (ix ((up2 (up2 t 26 0 ((t 26 0) + 1)) 23 0 (((up2 t 26 0 ((t 26 0) + 1)) 23 0) + 1)) 26 0)) x) 28 (ix ((up2 (up2 (up2 t 26 0 ((t 26 0) + 1)) 23 0 (((up2 t 26 0 ((t 26 0) + 1)) 23 0) + 1)) 27 (ix ((up2 (up2 t 26 0 ((t 26 0) + 1)) 23 0 (((up2 t 26 0 ((t 26 0) + 1)) 23 0) + 1)) 26 0)) x) 26 0)) ((up2 (up2 (up2 t 26 0 ((t 26 0) + 1)) 23 0 (((up2 t 26 0 ((t 26 0) + 1)) 23 0) + 1)) 27 (ix ((up2 (up2 t 26 0 ((t 26 0) + 1)) 23 0 (((up2 t 26 0 ((t 26 0) + 1)) 23 0) + 1)) 26 0)) x) 18 0)) 18 0 (1 - ((up2 (up2 (up2 (up2 t 26 0 ((t 26 0) + 1)) 23 0 (((up2 t 26 0 ((t 26 0) + 1)) 23 0) + 1)) 27 (ix ((up2 (up2 t 26 0 ((t 26 0) + 1)) 23 0 (((up2 t 26 0 ((t 26 0) + 1)) 23 0) + 1)) 26 0)) x) 28 (ix ((up2 (up2 (up2 t 26 0 ((t 26 0) + 1)) 23 0 (((up2 t 26 0 ((t 26 0) + 1)) 23 0) + 1)) 27 (ix ((up2 (up2 t 26 0 ((t 26 0) + 1)) 23 0 (((up2 t 26 0 ((t 26 0) + 1)) 23 0) + 1)) 26 0)) x) 26 0)) ((up2 (up2 (up2 t 26 0 ((t 26 0) + 1)) 23 0 (((up2 t 26 0 ((t 26 0) + 1)) 23 0) + 1)) 27 (ix ((up2 (up2 t 26 0 ((t 26 0) + 1)) 23 0 (((up2 t 26 0 ((t 26 0) + 1)) 23 0) + 1)) 26 0)) x) 18 0)) 18 0))) 9 (-1)) 0 y) cw_M_M_go rfl rfl (Nat.le_of_ble_eq_true rfl) (by decide) (by decide) d_M_enter_109 ?_
        refine vv_st (st' := []) rfl ?_
        have hE : qEnter t x y = (qGo (qAwait (up2 (up2 (up2 (up2 (up2 t 26 0 ((t 26 0) + 1)) 23 0 (((up2 t 26 0 ((t 26 0) + 1)) 23 0) + 1)) 27 (ix ((up2 (up2 t 26 0 ((t 26 0) + 1)) 23 0 (((up2 t 26 0 ((t 26 0) + 1)) 23 0) + 1)) 26 0)) x) 28 (ix ((up2 (up2 (up2 t 26 0 ((t 26 0) + 1)) 23 0 (((up2 t 26 0 ((t 26 0) + 1)) 23 0) + 1)) 27 (ix ((up2 (up2 t 26 0 ((t 26 0) + 1)) 23 0 (((up2 t 26 0 ((t 26 0) + 1)) 23 0) + 1)) 26 0)) x) 26 0)) ((up2 (up2 (up2 t 26 0 ((t 26 0) + 1)) 23 0 (((up2 t 26 0 ((t 26 0) + 1)) 23 0) + 1)) 27 (ix ((up2 (up2 t 26 0 ((t 26 0) + 1)) 23 0 (((up2 t 26 0 ((t 26 0) + 1)) 23 0) + 1)) 26 0)) x) 18 0)) 18 0 (1 - ((up2 (up2 (up2 (up2 t 26 0 ((t 26 0) + 1)) 23 0 (((up2 t 26 0 ((t 26 0) + 1)) 23 0) + 1)) 27 (ix ((up2 (up2 t 26 0 ((t 26 0) + 1)) 23 0 (((up2 t 26 0 ((t 26 0) + 1)) 23 0) + 1)) 26 0)) x) 28 (ix ((up2 (up2 (up2 t 26 0 ((t 26 0) + 1)) 23 0 (((up2 t 26 0 ((t 26 0) + 1)) 23 0) + 1)) 27 (ix ((up2 (up2 t 26 0 ((t 26 0) + 1)) 23 0 (((up2 t 26 0 ((t 26 0) + 1)) 23 0) + 1)) 26 0)) x) 26 0)) ((up2 (up2 (up2 t 26 0 ((t 26 0) + 1)) 23 0 (((up2 t 26 0 ((t 26 0) + 1)) 23 0) + 1)) 27 (ix ((up2 (up2 t 26 0 ((t 26 0) + 1)) 23 0 (((up2 t 26 0 ((t 26 0) + 1)) 23 0) + 1)) 26 0)) x) 18 0)) 18 0))) 9 (-1)) 0 y) := by
          unfold qEnter qEnt
          try dsimp only
          first | rw [if_pos h1] | rw [if_neg h1] | rw [if_pos (by exact h1)] | rw [if_neg (by exact h1)] | rw [if_neg (by exact z_nle h1)] | rw [if_pos (by exact z_le h1)] | rw [if_neg (by exact z_nlt h1)] | rw [if_pos (by exact z_lt h1)] | rw [if_neg (by exact tf_t h1)] | rw [if_neg (by exact tf_f h1)] | rw [h1] | skip
          first | rw [if_pos h2] | rw [if_neg h2] | rw [if_pos (by exact h2)] | rw [if_neg (by exact h2)] | rw [if_neg (by exact z_nle h2)] | rw [if_pos (by exact z_le h2)] | rw [if_neg (by exact z_nlt h2)] | rw [if_pos (by exact z_lt h2)] | rw [if_neg (by exact tf_t h2)] | rw [if_neg (by exact tf_f h2)] | rw [h2] | skip
          first | rw [if_pos h4] | rw [if_neg h4] | rw [if_pos (by exact h4)] | rw [if_neg (by exact h4)] | rw [if_neg (by exact z_nle h4)] | rw [if_pos (by exact z_le h4)] | rw [if_neg (by exact z_nlt h4)] | rw [if_pos (by exact z_lt h4)] | rw [if_neg (by exact tf_t h4)] | rw [if_neg (by exact tf_f h4)] | rw [h4] | skip
          try rfl
        exact vv_vret C hr hlk rfl (by rw [hE] <;> rfl) d_M_enter_112
  · skip
    refine vv_aload_n C d_M_enter_8 rfl ?_
    refine vv_iconst C (1) d_M_enter_9 (by decide) ?_
    refine vv_bipush C (15) d_M_enter_10 (by decide) ?_
    refine cllM (rest := []) C (c_M_comes l Γ t true 15) cw_M_M_comes rfl rfl (Nat.le_of_ble_eq_true rfl) (by decide) (by decide) d_M_enter_12 ?_
    refine vv_st (st' := []) rfl ?_
    have hE : qEnter t x y = (qComes t true 15) := by
      unfold qEnter qEnt
      try dsimp only
      first | rw [if_pos h1] | rw [if_neg h1] | rw [if_pos (by exact h1)] | rw [if_neg (by exact h1)] | rw [if_neg (by exact z_nle h1)] | rw [if_pos (by exact z_le h1)] | rw [if_neg (by exact z_nlt h1)] | rw [if_pos (by exact z_lt h1)] | rw [if_neg (by exact tf_t h1)] | rw [if_neg (by exact tf_f h1)] | rw [h1] | skip
      try rfl
    exact vv_vret C hr hlk rfl (by rw [hE] <;> rfl) d_M_enter_15
