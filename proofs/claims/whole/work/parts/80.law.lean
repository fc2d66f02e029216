section LAW
variable {p : Program} {l : Launch} {e : Env} {R : Room} {s : State} {m : MethodId} {args : Array Value} {below : List Frame} {meth : Method} {c : Code} {cells slots : Nat} {Q : State → Prop} {Γ : Geo} {u : SC} {t : M2} {b L j v : Nat} {xs a : Nat → Int32}
set_option maxHeartbeats 2000000 in
theorem law_0 (C : cx p s m args c code R6 wA 4 Γ.1 clA (tyA Γ)) (hX : va_X b L xs s s.heap) (hbl : b < s.heap.size) (hL : L ≤ 3072) (hj : 6 * j + 6 ≤ L) (ha : ∀ k, k < 6 → xs (nI (6 * j) + nI k).toNatClampNeg = a k) (hR : RR v u t) (hv : v ≤ j) (hcs : cells ≤ R.cells ∧ slots ≤ R.slots) (hRm : R = room_1) (kk : ∀ (u' : SC) (t' : M2) (v' : Nat), v' ≤ j + 1 → RR v' u' t' → VV p l e R s m args below meth c cells slots Q 4 Γ.1 clA (fun q => s.heap.size ≤ q) s.heap (wC Γ u' ++ wM Γ t') 651 [(3, .int (nI (6 * j))), (2, .ref (Γ.2.1 27)), (1, .ref (Γ.2.1 0)), (0, .ref b)] []) : VV p l e R s m args below meth c cells slots Q 4 Γ.1 clA (fun q => s.heap.size ≤ q) s.heap (wC Γ u ++ wM Γ t) 116 [(3, .int (nI (6 * j))), (2, .ref (Γ.2.1 27)), (1, .ref (Γ.2.1 0)), (0, .ref b)] [] := by
  subst hRm
  obtain ⟨he, v', hv', hr⟩ := advise_rr hR (by omega) (a 1) (a 2) (a 3) (a 4) (a 5)
  refine vv_aload_n C d_W_law_116 rfl ?_
  refine vv_aload_n C d_W_law_117 rfl ?_
  refine vv_iload_n C d_W_law_118 rfl ?_
  refine vv_iconst C (1) d_W_law_119 (by decide) ?_
  refine vv_iadd C d_W_law_120 ?_
  refine vv_sld C hX hbl (by omega) (sin 1 (by omega) hj hL) (ha 1 (by omega)) d_W_law_121 ?_
  refine vv_aload_n C d_W_law_122 rfl ?_
  refine vv_iload_n C d_W_law_123 rfl ?_
  refine vv_iconst C (2) d_W_law_124 (by decide) ?_
  refine vv_iadd C d_W_law_125 ?_
  refine vv_sld C hX hbl (by omega) (sin 2 (by omega) hj hL) (ha 2 (by omega)) d_W_law_126 ?_
  refine vv_aload_n C d_W_law_127 rfl ?_
  refine vv_iload_n C d_W_law_128 rfl ?_
  refine vv_iconst C (3) d_W_law_129 (by decide) ?_
  refine vv_iadd C d_W_law_130 ?_
  refine vv_sld C hX hbl (by omega) (sin 3 (by omega) hj hL) (ha 3 (by omega)) d_W_law_131 ?_
  refine vv_aload_n C d_W_law_132 rfl ?_
  refine vv_iload_n C d_W_law_133 rfl ?_
  refine vv_iconst C (4) d_W_law_134 (by decide) ?_
  refine vv_iadd C d_W_law_135 ?_
  refine vv_sld C hX hbl (by omega) (sin 4 (by omega) hj hL) (ha 4 (by omega)) d_W_law_136 ?_
  refine vv_aload_n C d_W_law_137 rfl ?_
  refine vv_iload_n C d_W_law_138 rfl ?_
  refine vv_iconst C (5) d_W_law_139 (by decide) ?_
  refine vv_iadd C d_W_law_140 ?_
  refine vv_sld C hX hbl (by omega) (sin 5 (by omega) hj hL) (ha 5 (by omega)) d_W_law_141 ?_
  refine callLC (rest := []) C (c_L_advise l Γ u hR.ic (a 1) (a 2) (a 3) (a 4) (a 5)) cw_W_L_advise rfl rfl (Nat.le_of_ble_eq_true rfl) ⟨rfl, rfl, Nat.le_of_ble_eq_true rfl, Nat.le_of_ble_eq_true rfl⟩ hcs d_W_law_142 ?_
  refine vv_st (st' := [.int ((kAdvise u (a 1) (a 2) (a 3) (a 4) (a 5)).1)]) rfl ?_
  refine vv_aload_n C d_W_law_145 rfl ?_
  refine vv_aload_n C d_W_law_146 rfl ?_
  refine vv_iload_n C d_W_law_147 rfl ?_
  refine vv_iconst C (1) d_W_law_148 (by decide) ?_
  refine vv_iadd C d_W_law_149 ?_
  refine vv_sld C hX hbl (by omega) (sin 1 (by omega) hj hL) (ha 1 (by omega)) d_W_law_150 ?_
  refine vv_aload_n C d_W_law_151 rfl ?_
  refine vv_iload_n C d_W_law_152 rfl ?_
  refine vv_iconst C (2) d_W_law_153 (by decide) ?_
  refine vv_iadd C d_W_law_154 ?_
  refine vv_sld C hX hbl (by omega) (sin 2 (by omega) hj hL) (ha 2 (by omega)) d_W_law_155 ?_
  refine vv_aload_n C d_W_law_156 rfl ?_
  refine vv_iload_n C d_W_law_157 rfl ?_
  refine vv_iconst C (3) d_W_law_158 (by decide) ?_
  refine vv_iadd C d_W_law_159 ?_
  refine vv_sld C hX hbl (by omega) (sin 3 (by omega) hj hL) (ha 3 (by omega)) d_W_law_160 ?_
  refine vv_aload_n C d_W_law_161 rfl ?_
  refine vv_iload_n C d_W_law_162 rfl ?_
  refine vv_iconst C (4) d_W_law_163 (by decide) ?_
  refine vv_iadd C d_W_law_164 ?_
  refine vv_sld C hX hbl (by omega) (sin 4 (by omega) hj hL) (ha 4 (by omega)) d_W_law_165 ?_
  refine vv_aload_n C d_W_law_166 rfl ?_
  refine vv_iload_n C d_W_law_167 rfl ?_
  refine vv_iconst C (5) d_W_law_168 (by decide) ?_
  refine vv_iadd C d_W_law_169 ?_
  refine vv_sld C hX hbl (by omega) (sin 5 (by omega) hj hL) (ha 5 (by omega)) d_W_law_170 ?_
  refine callLM (rest := [.int ((kAdvise u (a 1) (a 2) (a 3) (a 4) (a 5)).1)]) C (c_M_advise l Γ t hR.h0 (a 1) (a 2) (a 3) (a 4) (a 5)) cw_W_M_advise rfl rfl (Nat.le_of_ble_eq_true rfl) ⟨rfl, rfl, Nat.le_of_ble_eq_true rfl, Nat.le_of_ble_eq_true rfl⟩ hcs d_W_law_171 ?_
  refine vv_st (st' := [.int ((qAdvise t (a 1) (a 2) (a 3) (a 4) (a 5)).1), .int ((kAdvise u (a 1) (a 2) (a 3) (a 4) (a 5)).1)]) rfl ?_
  exact vv_icmp_eq C 651 d_W_law_174 rfl (fun _ => kk _ _ v' (by omega) hr) (fun z => absurd he z)
set_option maxHeartbeats 2000000 in
theorem law_1 (C : cx p s m args c code R6 wA 4 Γ.1 clA (tyA Γ)) (hX : va_X b L xs s s.heap) (hbl : b < s.heap.size) (hL : L ≤ 3072) (hj : 6 * j + 6 ≤ L) (ha : ∀ k, k < 6 → xs (nI (6 * j) + nI k).toNatClampNeg = a k) (hR : RR v u t) (hv : v ≤ j) (hcs : cells ≤ R.cells ∧ slots ≤ R.slots) (hRm : R = room_1) (kk : ∀ (u' : SC) (t' : M2) (v' : Nat), v' ≤ j + 1 → RR v' u' t' → VV p l e R s m args below meth c cells slots Q 4 Γ.1 clA (fun q => s.heap.size ≤ q) s.heap (wC Γ u' ++ wM Γ t') 651 [(3, .int (nI (6 * j))), (2, .ref (Γ.2.1 27)), (1, .ref (Γ.2.1 0)), (0, .ref b)] []) : VV p l e R s m args below meth c cells slots Q 4 Γ.1 clA (fun q => s.heap.size ≤ q) s.heap (wC Γ u ++ wM Γ t) 179 [(3, .int (nI (6 * j))), (2, .ref (Γ.2.1 27)), (1, .ref (Γ.2.1 0)), (0, .ref b)] [] := by
  subst hRm
  obtain ⟨he, hr⟩ := when_rr hR (a 1) (a 2) (a 3)
  refine vv_aload_n C d_W_law_179 rfl ?_
  refine vv_aload_n C d_W_law_180 rfl ?_
  refine vv_iload_n C d_W_law_181 rfl ?_
  refine vv_iconst C (1) d_W_law_182 (by decide) ?_
  refine vv_iadd C d_W_law_183 ?_
  refine vv_sld C hX hbl (by omega) (sin 1 (by omega) hj hL) (ha 1 (by omega)) d_W_law_184 ?_
  refine vv_aload_n C d_W_law_185 rfl ?_
  refine vv_iload_n C d_W_law_186 rfl ?_
  refine vv_iconst C (2) d_W_law_187 (by decide) ?_
  refine vv_iadd C d_W_law_188 ?_
  refine vv_sld C hX hbl (by omega) (sin 2 (by omega) hj hL) (ha 2 (by omega)) d_W_law_189 ?_
  refine vv_aload_n C d_W_law_190 rfl ?_
  refine vv_iload_n C d_W_law_191 rfl ?_
  refine vv_iconst C (3) d_W_law_192 (by decide) ?_
  refine vv_iadd C d_W_law_193 ?_
  refine vv_sld C hX hbl (by omega) (sin 3 (by omega) hj hL) (ha 3 (by omega)) d_W_law_194 ?_
  refine callLC (rest := []) C (c_L_when l Γ u hR.ic (a 1) (a 2) (a 3)) cw_W_L_when rfl rfl (Nat.le_of_ble_eq_true rfl) ⟨rfl, rfl, Nat.le_of_ble_eq_true rfl, Nat.le_of_ble_eq_true rfl⟩ hcs d_W_law_195 ?_
  refine vv_st (st' := [.int (bI (kWhen u (a 1) (a 2) (a 3)).1)]) rfl ?_
  refine vv_aload_n C d_W_law_198 rfl ?_
  refine vv_aload_n C d_W_law_199 rfl ?_
  refine vv_iload_n C d_W_law_200 rfl ?_
  refine vv_iconst C (1) d_W_law_201 (by decide) ?_
  refine vv_iadd C d_W_law_202 ?_
  refine vv_sld C hX hbl (by omega) (sin 1 (by omega) hj hL) (ha 1 (by omega)) d_W_law_203 ?_
  refine vv_aload_n C d_W_law_204 rfl ?_
  refine vv_iload_n C d_W_law_205 rfl ?_
  refine vv_iconst C (2) d_W_law_206 (by decide) ?_
  refine vv_iadd C d_W_law_207 ?_
  refine vv_sld C hX hbl (by omega) (sin 2 (by omega) hj hL) (ha 2 (by omega)) d_W_law_208 ?_
  refine vv_aload_n C d_W_law_209 rfl ?_
  refine vv_iload_n C d_W_law_210 rfl ?_
  refine vv_iconst C (3) d_W_law_211 (by decide) ?_
  refine vv_iadd C d_W_law_212 ?_
  refine vv_sld C hX hbl (by omega) (sin 3 (by omega) hj hL) (ha 3 (by omega)) d_W_law_213 ?_
  refine callLM (rest := [.int (bI (kWhen u (a 1) (a 2) (a 3)).1)]) C (c_M_when l Γ t hR.h0 (a 1) (a 2) (a 3)) cw_W_M_when rfl rfl (Nat.le_of_ble_eq_true rfl) ⟨rfl, rfl, Nat.le_of_ble_eq_true rfl, Nat.le_of_ble_eq_true rfl⟩ hcs d_W_law_214 ?_
  refine vv_st (st' := [.int (bI (qWhen t (a 1) (a 2) (a 3)).1), .int (bI (kWhen u (a 1) (a 2) (a 3)).1)]) rfl ?_
  exact vv_icmp_eq C 651 d_W_law_217 rfl (fun _ => kk _ _ v (by omega) hr) (fun z => absurd (congrArg bI he) z)
set_option maxHeartbeats 2000000 in
theorem law_2 (C : cx p s m args c code R6 wA 4 Γ.1 clA (tyA Γ)) (hX : va_X b L xs s s.heap) (hbl : b < s.heap.size) (hL : L ≤ 3072) (hj : 6 * j + 6 ≤ L) (ha : ∀ k, k < 6 → xs (nI (6 * j) + nI k).toNatClampNeg = a k) (hR : RR v u t) (hv : v ≤ j) (hcs : cells ≤ R.cells ∧ slots ≤ R.slots) (hRm : R = room_1) (kk : ∀ (u' : SC) (t' : M2) (v' : Nat), v' ≤ j + 1 → RR v' u' t' → VV p l e R s m args below meth c cells slots Q 4 Γ.1 clA (fun q => s.heap.size ≤ q) s.heap (wC Γ u' ++ wM Γ t') 651 [(3, .int (nI (6 * j))), (2, .ref (Γ.2.1 27)), (1, .ref (Γ.2.1 0)), (0, .ref b)] []) : VV p l e R s m args below meth c cells slots Q 4 Γ.1 clA (fun q => s.heap.size ≤ q) s.heap (wC Γ u ++ wM Γ t) 222 [(3, .int (nI (6 * j))), (2, .ref (Γ.2.1 27)), (1, .ref (Γ.2.1 0)), (0, .ref b)] [] := by
  subst hRm
  obtain ⟨he, hr⟩ := reorder_rr hR (a 1) (a 2)
  refine vv_aload_n C d_W_law_222 rfl ?_
  refine vv_aload_n C d_W_law_223 rfl ?_
  refine vv_iload_n C d_W_law_224 rfl ?_
  refine vv_iconst C (1) d_W_law_225 (by decide) ?_
  refine vv_iadd C d_W_law_226 ?_
  refine vv_sld C hX hbl (by omega) (sin 1 (by omega) hj hL) (ha 1 (by omega)) d_W_law_227 ?_
  refine vv_aload_n C d_W_law_228 rfl ?_
  refine vv_iload_n C d_W_law_229 rfl ?_
  refine vv_iconst C (2) d_W_law_230 (by decide) ?_
  refine vv_iadd C d_W_law_231 ?_
  refine vv_sld C hX hbl (by omega) (sin 2 (by omega) hj hL) (ha 2 (by omega)) d_W_law_232 ?_
  refine callLC (rest := []) C (c_L_reorder l Γ u hR.ic (a 1) (a 2)) cw_W_L_reorder rfl rfl (Nat.le_of_ble_eq_true rfl) ⟨rfl, rfl, Nat.le_of_ble_eq_true rfl, Nat.le_of_ble_eq_true rfl⟩ hcs d_W_law_233 ?_
  refine vv_st (st' := [.int (bI (kReorder u (a 1) (a 2)).1)]) rfl ?_
  refine vv_aload_n C d_W_law_236 rfl ?_
  refine vv_aload_n C d_W_law_237 rfl ?_
  refine vv_iload_n C d_W_law_238 rfl ?_
  refine vv_iconst C (1) d_W_law_239 (by decide) ?_
  refine vv_iadd C d_W_law_240 ?_
  refine vv_sld C hX hbl (by omega) (sin 1 (by omega) hj hL) (ha 1 (by omega)) d_W_law_241 ?_
  refine vv_aload_n C d_W_law_242 rfl ?_
  refine vv_iload_n C d_W_law_243 rfl ?_
  refine vv_iconst C (2) d_W_law_244 (by decide) ?_
  refine vv_iadd C d_W_law_245 ?_
  refine vv_sld C hX hbl (by omega) (sin 2 (by omega) hj hL) (ha 2 (by omega)) d_W_law_246 ?_
  refine callLM (rest := [.int (bI (kReorder u (a 1) (a 2)).1)]) C (c_M_reorder l Γ t hR.h0 (a 1) (a 2)) cw_W_M_reorder rfl rfl (Nat.le_of_ble_eq_true rfl) ⟨rfl, rfl, Nat.le_of_ble_eq_true rfl, Nat.le_of_ble_eq_true rfl⟩ hcs d_W_law_247 ?_
  refine vv_st (st' := [.int (bI (qReorder t (a 1) (a 2)).1), .int (bI (kReorder u (a 1) (a 2)).1)]) rfl ?_
  exact vv_icmp_eq C 651 d_W_law_250 rfl (fun _ => kk _ _ v (by omega) hr) (fun z => absurd (congrArg bI he) z)
set_option maxHeartbeats 2000000 in
theorem law_3 (C : cx p s m args c code R6 wA 4 Γ.1 clA (tyA Γ)) (hX : va_X b L xs s s.heap) (hbl : b < s.heap.size) (hL : L ≤ 3072) (hj : 6 * j + 6 ≤ L) (ha : ∀ k, k < 6 → xs (nI (6 * j) + nI k).toNatClampNeg = a k) (hR : RR v u t) (hv : v ≤ j) (hcs : cells ≤ R.cells ∧ slots ≤ R.slots) (hRm : R = room_1) (kk : ∀ (u' : SC) (t' : M2) (v' : Nat), v' ≤ j + 1 → RR v' u' t' → VV p l e R s m args below meth c cells slots Q 4 Γ.1 clA (fun q => s.heap.size ≤ q) s.heap (wC Γ u' ++ wM Γ t') 651 [(3, .int (nI (6 * j))), (2, .ref (Γ.2.1 27)), (1, .ref (Γ.2.1 0)), (0, .ref b)] []) : VV p l e R s m args below meth c cells slots Q 4 Γ.1 clA (fun q => s.heap.size ≤ q) s.heap (wC Γ u ++ wM Γ t) 255 [(3, .int (nI (6 * j))), (2, .ref (Γ.2.1 27)), (1, .ref (Γ.2.1 0)), (0, .ref b)] [] := by
  subst hRm
  obtain ⟨he, hr⟩ := remove_rr hR (a 1)
  refine vv_aload_n C d_W_law_255 rfl ?_
  refine vv_aload_n C d_W_law_256 rfl ?_
  refine vv_iload_n C d_W_law_257 rfl ?_
  refine vv_iconst C (1) d_W_law_258 (by decide) ?_
  refine vv_iadd C d_W_law_259 ?_
  refine vv_sld C hX hbl (by omega) (sin 1 (by omega) hj hL) (ha 1 (by omega)) d_W_law_260 ?_
  refine callLC (rest := []) C (c_L_remove l Γ u hR.ic (a 1)) cw_W_L_remove rfl rfl (Nat.le_of_ble_eq_true rfl) ⟨rfl, rfl, Nat.le_of_ble_eq_true rfl, Nat.le_of_ble_eq_true rfl⟩ hcs d_W_law_261 ?_
  refine vv_st (st' := [.int (bI (kRemove u (a 1)).1)]) rfl ?_
  refine vv_aload_n C d_W_law_264 rfl ?_
  refine vv_aload_n C d_W_law_265 rfl ?_
  refine vv_iload_n C d_W_law_266 rfl ?_
  refine vv_iconst C (1) d_W_law_267 (by decide) ?_
  refine vv_iadd C d_W_law_268 ?_
  refine vv_sld C hX hbl (by omega) (sin 1 (by omega) hj hL) (ha 1 (by omega)) d_W_law_269 ?_
  refine callLM (rest := [.int (bI (kRemove u (a 1)).1)]) C (c_M_remove l Γ t hR.h0 (a 1)) cw_W_M_remove rfl rfl (Nat.le_of_ble_eq_true rfl) ⟨rfl, rfl, Nat.le_of_ble_eq_true rfl, Nat.le_of_ble_eq_true rfl⟩ hcs d_W_law_270 ?_
  refine vv_st (st' := [.int (bI (qRemove t (a 1)).1), .int (bI (kRemove u (a 1)).1)]) rfl ?_
  exact vv_icmp_eq C 651 d_W_law_273 rfl (fun _ => kk _ _ v (by omega) hr) (fun z => absurd (congrArg bI he) z)
set_option maxHeartbeats 2000000 in
theorem law_5 (C : cx p s m args c code R6 wA 4 Γ.1 clA (tyA Γ)) (hX : va_X b L xs s s.heap) (hbl : b < s.heap.size) (hL : L ≤ 3072) (hj : 6 * j + 6 ≤ L) (ha : ∀ k, k < 6 → xs (nI (6 * j) + nI k).toNatClampNeg = a k) (hR : RR v u t) (hv : v ≤ j) (hcs : cells ≤ R.cells ∧ slots ≤ R.slots) (hRm : R = room_1) (kk : ∀ (u' : SC) (t' : M2) (v' : Nat), v' ≤ j + 1 → RR v' u' t' → VV p l e R s m args below meth c cells slots Q 4 Γ.1 clA (fun q => s.heap.size ≤ q) s.heap (wC Γ u' ++ wM Γ t') 651 [(3, .int (nI (6 * j))), (2, .ref (Γ.2.1 27)), (1, .ref (Γ.2.1 0)), (0, .ref b)] []) : VV p l e R s m args below meth c cells slots Q 4 Γ.1 clA (fun q => s.heap.size ≤ q) s.heap (wC Γ u ++ wM Γ t) 315 [(3, .int (nI (6 * j))), (2, .ref (Γ.2.1 27)), (1, .ref (Γ.2.1 0)), (0, .ref b)] [] := by
  subst hRm
  obtain ⟨he, hr⟩ := plan_rr hR (a 1) (a 2) (a 3) (a 4)
  refine vv_aload_n C d_W_law_315 rfl ?_
  refine vv_aload_n C d_W_law_316 rfl ?_
  refine vv_iload_n C d_W_law_317 rfl ?_
  refine vv_iconst C (1) d_W_law_318 (by decide) ?_
  refine vv_iadd C d_W_law_319 ?_
  refine vv_sld C hX hbl (by omega) (sin 1 (by omega) hj hL) (ha 1 (by omega)) d_W_law_320 ?_
  refine vv_aload_n C d_W_law_321 rfl ?_
  refine vv_iload_n C d_W_law_322 rfl ?_
  refine vv_iconst C (2) d_W_law_323 (by decide) ?_
  refine vv_iadd C d_W_law_324 ?_
  refine vv_sld C hX hbl (by omega) (sin 2 (by omega) hj hL) (ha 2 (by omega)) d_W_law_325 ?_
  refine vv_aload_n C d_W_law_326 rfl ?_
  refine vv_iload_n C d_W_law_327 rfl ?_
  refine vv_iconst C (3) d_W_law_328 (by decide) ?_
  refine vv_iadd C d_W_law_329 ?_
  refine vv_sld C hX hbl (by omega) (sin 3 (by omega) hj hL) (ha 3 (by omega)) d_W_law_330 ?_
  refine vv_aload_n C d_W_law_331 rfl ?_
  refine vv_iload_n C d_W_law_332 rfl ?_
  refine vv_iconst C (4) d_W_law_333 (by decide) ?_
  refine vv_iadd C d_W_law_334 ?_
  refine vv_sld C hX hbl (by omega) (sin 4 (by omega) hj hL) (ha 4 (by omega)) d_W_law_335 ?_
  refine callLC (rest := []) C (c_L_plan l Γ u hR.ic (a 1) (a 2) (a 3) (a 4)) cw_W_L_plan rfl rfl (Nat.le_of_ble_eq_true rfl) ⟨rfl, rfl, Nat.le_of_ble_eq_true rfl, Nat.le_of_ble_eq_true rfl⟩ hcs d_W_law_336 ?_
  refine vv_st (st' := [.int (bI (kPlan u (a 1) (a 2) (a 3) (a 4)).1)]) rfl ?_
  refine vv_aload_n C d_W_law_339 rfl ?_
  refine vv_aload_n C d_W_law_340 rfl ?_
  refine vv_iload_n C d_W_law_341 rfl ?_
  refine vv_iconst C (1) d_W_law_342 (by decide) ?_
  refine vv_iadd C d_W_law_343 ?_
  refine vv_sld C hX hbl (by omega) (sin 1 (by omega) hj hL) (ha 1 (by omega)) d_W_law_344 ?_
  refine vv_aload_n C d_W_law_345 rfl ?_
  refine vv_iload_n C d_W_law_346 rfl ?_
  refine vv_iconst C (2) d_W_law_347 (by decide) ?_
  refine vv_iadd C d_W_law_348 ?_
  refine vv_sld C hX hbl (by omega) (sin 2 (by omega) hj hL) (ha 2 (by omega)) d_W_law_349 ?_
  refine vv_aload_n C d_W_law_350 rfl ?_
  refine vv_iload_n C d_W_law_351 rfl ?_
  refine vv_iconst C (3) d_W_law_352 (by decide) ?_
  refine vv_iadd C d_W_law_353 ?_
  refine vv_sld C hX hbl (by omega) (sin 3 (by omega) hj hL) (ha 3 (by omega)) d_W_law_354 ?_
  refine vv_aload_n C d_W_law_355 rfl ?_
  refine vv_iload_n C d_W_law_356 rfl ?_
  refine vv_iconst C (4) d_W_law_357 (by decide) ?_
  refine vv_iadd C d_W_law_358 ?_
  refine vv_sld C hX hbl (by omega) (sin 4 (by omega) hj hL) (ha 4 (by omega)) d_W_law_359 ?_
  refine callLM (rest := [.int (bI (kPlan u (a 1) (a 2) (a 3) (a 4)).1)]) C (c_M_plan l Γ t (a 1) (a 2) (a 3) (a 4)) cw_W_M_plan rfl rfl (Nat.le_of_ble_eq_true rfl) ⟨rfl, rfl, Nat.le_of_ble_eq_true rfl, Nat.le_of_ble_eq_true rfl⟩ hcs d_W_law_360 ?_
  refine vv_st (st' := [.int (bI (qPlan t (a 1) (a 2) (a 3) (a 4)).1), .int (bI (kPlan u (a 1) (a 2) (a 3) (a 4)).1)]) rfl ?_
  exact vv_icmp_eq C 651 d_W_law_363 rfl (fun _ => kk _ _ v (by omega) hr) (fun z => absurd (congrArg bI he) z)
set_option maxHeartbeats 2000000 in
theorem law_6 (C : cx p s m args c code R6 wA 4 Γ.1 clA (tyA Γ)) (hX : va_X b L xs s s.heap) (hbl : b < s.heap.size) (hL : L ≤ 3072) (hj : 6 * j + 6 ≤ L) (ha : ∀ k, k < 6 → xs (nI (6 * j) + nI k).toNatClampNeg = a k) (hR : RR v u t) (hv : v ≤ j) (hcs : cells ≤ R.cells ∧ slots ≤ R.slots) (hRm : R = room_1) (kk : ∀ (u' : SC) (t' : M2) (v' : Nat), v' ≤ j + 1 → RR v' u' t' → VV p l e R s m args below meth c cells slots Q 4 Γ.1 clA (fun q => s.heap.size ≤ q) s.heap (wC Γ u' ++ wM Γ t') 651 [(3, .int (nI (6 * j))), (2, .ref (Γ.2.1 27)), (1, .ref (Γ.2.1 0)), (0, .ref b)] []) : VV p l e R s m args below meth c cells slots Q 4 Γ.1 clA (fun q => s.heap.size ≤ q) s.heap (wC Γ u ++ wM Γ t) 368 [(3, .int (nI (6 * j))), (2, .ref (Γ.2.1 27)), (1, .ref (Γ.2.1 0)), (0, .ref b)] [] := by
  subst hRm
  obtain ⟨he, hr⟩ := fail_rr hR (a 1) (a 2) (a 3) (a 4)
  refine vv_aload_n C d_W_law_368 rfl ?_
  refine vv_aload_n C d_W_law_369 rfl ?_
  refine vv_iload_n C d_W_law_370 rfl ?_
  refine vv_iconst C (1) d_W_law_371 (by decide) ?_
  refine vv_iadd C d_W_law_372 ?_
  refine vv_sld C hX hbl (by omega) (sin 1 (by omega) hj hL) (ha 1 (by omega)) d_W_law_373 ?_
  refine vv_aload_n C d_W_law_374 rfl ?_
  refine vv_iload_n C d_W_law_375 rfl ?_
  refine vv_iconst C (2) d_W_law_376 (by decide) ?_
  refine vv_iadd C d_W_law_377 ?_
  refine vv_sld C hX hbl (by omega) (sin 2 (by omega) hj hL) (ha 2 (by omega)) d_W_law_378 ?_
  refine vv_aload_n C d_W_law_379 rfl ?_
  refine vv_iload_n C d_W_law_380 rfl ?_
  refine vv_iconst C (3) d_W_law_381 (by decide) ?_
  refine vv_iadd C d_W_law_382 ?_
  refine vv_sld C hX hbl (by omega) (sin 3 (by omega) hj hL) (ha 3 (by omega)) d_W_law_383 ?_
  refine vv_aload_n C d_W_law_384 rfl ?_
  refine vv_iload_n C d_W_law_385 rfl ?_
  refine vv_iconst C (4) d_W_law_386 (by decide) ?_
  refine vv_iadd C d_W_law_387 ?_
  refine vv_sld C hX hbl (by omega) (sin 4 (by omega) hj hL) (ha 4 (by omega)) d_W_law_388 ?_
  refine callLC (rest := []) C (c_L_fail l Γ u hR.ic (a 1) (a 2) (a 3) (a 4)) cw_W_L_fail rfl rfl (Nat.le_of_ble_eq_true rfl) ⟨rfl, rfl, Nat.le_of_ble_eq_true rfl, Nat.le_of_ble_eq_true rfl⟩ hcs d_W_law_389 ?_
  refine vv_st (st' := [.int (bI (kFail u (a 1) (a 2) (a 3) (a 4)).1)]) rfl ?_
  refine vv_aload_n C d_W_law_392 rfl ?_
  refine vv_aload_n C d_W_law_393 rfl ?_
  refine vv_iload_n C d_W_law_394 rfl ?_
  refine vv_iconst C (1) d_W_law_395 (by decide) ?_
  refine vv_iadd C d_W_law_396 ?_
  refine vv_sld C hX hbl (by omega) (sin 1 (by omega) hj hL) (ha 1 (by omega)) d_W_law_397 ?_
  refine vv_aload_n C d_W_law_398 rfl ?_
  refine vv_iload_n C d_W_law_399 rfl ?_
  refine vv_iconst C (2) d_W_law_400 (by decide) ?_
  refine vv_iadd C d_W_law_401 ?_
  refine vv_sld C hX hbl (by omega) (sin 2 (by omega) hj hL) (ha 2 (by omega)) d_W_law_402 ?_
  refine vv_aload_n C d_W_law_403 rfl ?_
  refine vv_iload_n C d_W_law_404 rfl ?_
  refine vv_iconst C (3) d_W_law_405 (by decide) ?_
  refine vv_iadd C d_W_law_406 ?_
  refine vv_sld C hX hbl (by omega) (sin 3 (by omega) hj hL) (ha 3 (by omega)) d_W_law_407 ?_
  refine vv_aload_n C d_W_law_408 rfl ?_
  refine vv_iload_n C d_W_law_409 rfl ?_
  refine vv_iconst C (4) d_W_law_410 (by decide) ?_
  refine vv_iadd C d_W_law_411 ?_
  refine vv_sld C hX hbl (by omega) (sin 4 (by omega) hj hL) (ha 4 (by omega)) d_W_law_412 ?_
  refine callLM (rest := [.int (bI (kFail u (a 1) (a 2) (a 3) (a 4)).1)]) C (c_M_fail l Γ t (a 1) (a 2) (a 3) (a 4)) cw_W_M_fail rfl rfl (Nat.le_of_ble_eq_true rfl) ⟨rfl, rfl, Nat.le_of_ble_eq_true rfl, Nat.le_of_ble_eq_true rfl⟩ hcs d_W_law_413 ?_
  refine vv_st (st' := [.int (bI (qFail t (a 1) (a 2) (a 3) (a 4)).1), .int (bI (kFail u (a 1) (a 2) (a 3) (a 4)).1)]) rfl ?_
  exact vv_icmp_eq C 651 d_W_law_416 rfl (fun _ => kk _ _ v (by omega) hr) (fun z => absurd (congrArg bI he) z)
set_option maxHeartbeats 2000000 in
theorem law_7 (C : cx p s m args c code R6 wA 4 Γ.1 clA (tyA Γ)) (hX : va_X b L xs s s.heap) (hbl : b < s.heap.size) (hL : L ≤ 3072) (hj : 6 * j + 6 ≤ L) (ha : ∀ k, k < 6 → xs (nI (6 * j) + nI k).toNatClampNeg = a k) (hR : RR v u t) (hv : v ≤ j) (hcs : cells ≤ R.cells ∧ slots ≤ R.slots) (hRm : R = room_1) (kk : ∀ (u' : SC) (t' : M2) (v' : Nat), v' ≤ j + 1 → RR v' u' t' → VV p l e R s m args below meth c cells slots Q 4 Γ.1 clA (fun q => s.heap.size ≤ q) s.heap (wC Γ u' ++ wM Γ t') 651 [(3, .int (nI (6 * j))), (2, .ref (Γ.2.1 27)), (1, .ref (Γ.2.1 0)), (0, .ref b)] []) : VV p l e R s m args below meth c cells slots Q 4 Γ.1 clA (fun q => s.heap.size ≤ q) s.heap (wC Γ u ++ wM Γ t) 421 [(3, .int (nI (6 * j))), (2, .ref (Γ.2.1 27)), (1, .ref (Γ.2.1 0)), (0, .ref b)] [] := by
  subst hRm
  obtain ⟨he, hr⟩ := calls_rr hR (a 1) (a 2) (a 3)
  refine vv_aload_n C d_W_law_421 rfl ?_
  refine vv_aload_n C d_W_law_422 rfl ?_
  refine vv_iload_n C d_W_law_423 rfl ?_
  refine vv_iconst C (1) d_W_law_424 (by decide) ?_
  refine vv_iadd C d_W_law_425 ?_
  refine vv_sld C hX hbl (by omega) (sin 1 (by omega) hj hL) (ha 1 (by omega)) d_W_law_426 ?_
  refine vv_aload_n C d_W_law_427 rfl ?_
  refine vv_iload_n C d_W_law_428 rfl ?_
  refine vv_iconst C (2) d_W_law_429 (by decide) ?_
  refine vv_iadd C d_W_law_430 ?_
  refine vv_sld C hX hbl (by omega) (sin 2 (by omega) hj hL) (ha 2 (by omega)) d_W_law_431 ?_
  refine vv_aload_n C d_W_law_432 rfl ?_
  refine vv_iload_n C d_W_law_433 rfl ?_
  refine vv_iconst C (3) d_W_law_434 (by decide) ?_
  refine vv_iadd C d_W_law_435 ?_
  refine vv_sld C hX hbl (by omega) (sin 3 (by omega) hj hL) (ha 3 (by omega)) d_W_law_436 ?_
  refine callLC (rest := []) C (c_L_calls l Γ u hR.ic (a 1) (a 2) (a 3)) cw_W_L_calls rfl rfl (Nat.le_of_ble_eq_true rfl) ⟨rfl, rfl, Nat.le_of_ble_eq_true rfl, Nat.le_of_ble_eq_true rfl⟩ hcs d_W_law_437 ?_
  refine vv_st (st' := [.int (bI (kCalls u (a 1) (a 2) (a 3)).1)]) rfl ?_
  refine vv_aload_n C d_W_law_440 rfl ?_
  refine vv_aload_n C d_W_law_441 rfl ?_
  refine vv_iload_n C d_W_law_442 rfl ?_
  refine vv_iconst C (1) d_W_law_443 (by decide) ?_
  refine vv_iadd C d_W_law_444 ?_
  refine vv_sld C hX hbl (by omega) (sin 1 (by omega) hj hL) (ha 1 (by omega)) d_W_law_445 ?_
  refine vv_aload_n C d_W_law_446 rfl ?_
  refine vv_iload_n C d_W_law_447 rfl ?_
  refine vv_iconst C (2) d_W_law_448 (by decide) ?_
  refine vv_iadd C d_W_law_449 ?_
  refine vv_sld C hX hbl (by omega) (sin 2 (by omega) hj hL) (ha 2 (by omega)) d_W_law_450 ?_
  refine vv_aload_n C d_W_law_451 rfl ?_
  refine vv_iload_n C d_W_law_452 rfl ?_
  refine vv_iconst C (3) d_W_law_453 (by decide) ?_
  refine vv_iadd C d_W_law_454 ?_
  refine vv_sld C hX hbl (by omega) (sin 3 (by omega) hj hL) (ha 3 (by omega)) d_W_law_455 ?_
  refine callLM (rest := [.int (bI (kCalls u (a 1) (a 2) (a 3)).1)]) C (c_M_calls l Γ t (a 1) (a 2) (a 3)) cw_W_M_calls rfl rfl (Nat.le_of_ble_eq_true rfl) ⟨rfl, rfl, Nat.le_of_ble_eq_true rfl, Nat.le_of_ble_eq_true rfl⟩ hcs d_W_law_456 ?_
  refine vv_st (st' := [.int (bI (qCalls t (a 1) (a 2) (a 3)).1), .int (bI (kCalls u (a 1) (a 2) (a 3)).1)]) rfl ?_
  exact vv_icmp_eq C 651 d_W_law_459 rfl (fun _ => kk _ _ v (by omega) hr) (fun z => absurd (congrArg bI he) z)
set_option maxHeartbeats 2000000 in
theorem law_8 (C : cx p s m args c code R6 wA 4 Γ.1 clA (tyA Γ)) (hX : va_X b L xs s s.heap) (hbl : b < s.heap.size) (hL : L ≤ 3072) (hj : 6 * j + 6 ≤ L) (ha : ∀ k, k < 6 → xs (nI (6 * j) + nI k).toNatClampNeg = a k) (hR : RR v u t) (hv : v ≤ j) (hcs : cells ≤ R.cells ∧ slots ≤ R.slots) (hRm : R = room_1) (kk : ∀ (u' : SC) (t' : M2) (v' : Nat), v' ≤ j + 1 → RR v' u' t' → VV p l e R s m args below meth c cells slots Q 4 Γ.1 clA (fun q => s.heap.size ≤ q) s.heap (wC Γ u' ++ wM Γ t') 651 [(3, .int (nI (6 * j))), (2, .ref (Γ.2.1 27)), (1, .ref (Γ.2.1 0)), (0, .ref b)] []) : VV p l e R s m args below meth c cells slots Q 4 Γ.1 clA (fun q => s.heap.size ≤ q) s.heap (wC Γ u ++ wM Γ t) 464 [(3, .int (nI (6 * j))), (2, .ref (Γ.2.1 27)), (1, .ref (Γ.2.1 0)), (0, .ref b)] [] := by
  subst hRm
  obtain ⟨he, hr⟩ := source_rr hR (a 1)
  refine vv_aload_n C d_W_law_464 rfl ?_
  refine vv_aload_n C d_W_law_465 rfl ?_
  refine vv_iload_n C d_W_law_466 rfl ?_
  refine vv_iconst C (1) d_W_law_467 (by decide) ?_
  refine vv_iadd C d_W_law_468 ?_
  refine vv_sld C hX hbl (by omega) (sin 1 (by omega) hj hL) (ha 1 (by omega)) d_W_law_469 ?_
  refine callLC (rest := []) C (c_L_source l Γ u (a 1)) cw_W_L_source rfl rfl (Nat.le_of_ble_eq_true rfl) ⟨rfl, rfl, Nat.le_of_ble_eq_true rfl, Nat.le_of_ble_eq_true rfl⟩ hcs d_W_law_470 ?_
  refine vv_st (st' := [.int (bI (kSource u (a 1)).1)]) rfl ?_
  refine vv_aload_n C d_W_law_473 rfl ?_
  refine vv_aload_n C d_W_law_474 rfl ?_
  refine vv_iload_n C d_W_law_475 rfl ?_
  refine vv_iconst C (1) d_W_law_476 (by decide) ?_
  refine vv_iadd C d_W_law_477 ?_
  refine vv_sld C hX hbl (by omega) (sin 1 (by omega) hj hL) (ha 1 (by omega)) d_W_law_478 ?_
  refine callLM (rest := [.int (bI (kSource u (a 1)).1)]) C (c_M_source l Γ t (a 1)) cw_W_M_source rfl rfl (Nat.le_of_ble_eq_true rfl) ⟨rfl, rfl, Nat.le_of_ble_eq_true rfl, Nat.le_of_ble_eq_true rfl⟩ hcs d_W_law_479 ?_
  refine vv_st (st' := [.int (bI (qSource t (a 1)).1), .int (bI (kSource u (a 1)).1)]) rfl ?_
  exact vv_icmp_eq C 651 d_W_law_482 rfl (fun _ => kk _ _ v (by omega) hr) (fun z => absurd (congrArg bI he) z)
set_option maxHeartbeats 2000000 in
theorem law_10 (C : cx p s m args c code R6 wA 4 Γ.1 clA (tyA Γ)) (hX : va_X b L xs s s.heap) (hbl : b < s.heap.size) (hL : L ≤ 3072) (hj : 6 * j + 6 ≤ L) (ha : ∀ k, k < 6 → xs (nI (6 * j) + nI k).toNatClampNeg = a k) (hR : RR v u t) (hv : v ≤ j) (hcs : cells ≤ R.cells ∧ slots ≤ R.slots) (hRm : R = room_1) (kk : ∀ (u' : SC) (t' : M2) (v' : Nat), v' ≤ j + 1 → RR v' u' t' → VV p l e R s m args below meth c cells slots Q 4 Γ.1 clA (fun q => s.heap.size ≤ q) s.heap (wC Γ u' ++ wM Γ t') 651 [(3, .int (nI (6 * j))), (2, .ref (Γ.2.1 27)), (1, .ref (Γ.2.1 0)), (0, .ref b)] []) : VV p l e R s m args below meth c cells slots Q 4 Γ.1 clA (fun q => s.heap.size ≤ q) s.heap (wC Γ u ++ wM Γ t) 520 [(3, .int (nI (6 * j))), (2, .ref (Γ.2.1 27)), (1, .ref (Γ.2.1 0)), (0, .ref b)] [] := by
  subst hRm
  refine vv_aload_n C d_W_law_520 rfl ?_
  refine callLC (rest := []) C (c_L_result l Γ u) cw_W_L_result rfl rfl (Nat.le_of_ble_eq_true rfl) ⟨rfl, rfl, Nat.le_of_ble_eq_true rfl, Nat.le_of_ble_eq_true rfl⟩ hcs d_W_law_521 ?_
  refine vv_st (st' := [.int (u.1 5 0)]) rfl ?_
  refine vv_aload_n C d_W_law_524 rfl ?_
  refine callLM (rest := [.int (u.1 5 0)]) C (c_M_result l Γ t) cw_W_M_result rfl rfl (Nat.le_of_ble_eq_true rfl) ⟨rfl, rfl, Nat.le_of_ble_eq_true rfl, Nat.le_of_ble_eq_true rfl⟩ hcs d_W_law_525 ?_
  refine vv_st (st' := [.int (t 24 0), .int (u.1 5 0)]) rfl ?_
  exact vv_icmp_eq C 651 d_W_law_528 rfl (fun _ => kk _ _ v (by omega) hR) (fun z => absurd hR.res z)
set_option maxHeartbeats 2000000 in
theorem law_11 (C : cx p s m args c code R6 wA 4 Γ.1 clA (tyA Γ)) (hX : va_X b L xs s s.heap) (hbl : b < s.heap.size) (hL : L ≤ 3072) (hj : 6 * j + 6 ≤ L) (ha : ∀ k, k < 6 → xs (nI (6 * j) + nI k).toNatClampNeg = a k) (hR : RR v u t) (hv : v ≤ j) (hcs : cells ≤ R.cells ∧ slots ≤ R.slots) (hRm : R = room_1) (kk : ∀ (u' : SC) (t' : M2) (v' : Nat), v' ≤ j + 1 → RR v' u' t' → VV p l e R s m args below meth c cells slots Q 4 Γ.1 clA (fun q => s.heap.size ≤ q) s.heap (wC Γ u' ++ wM Γ t') 651 [(3, .int (nI (6 * j))), (2, .ref (Γ.2.1 27)), (1, .ref (Γ.2.1 0)), (0, .ref b)] []) : VV p l e R s m args below meth c cells slots Q 4 Γ.1 clA (fun q => s.heap.size ≤ q) s.heap (wC Γ u ++ wM Γ t) 533 [(3, .int (nI (6 * j))), (2, .ref (Γ.2.1 27)), (1, .ref (Γ.2.1 0)), (0, .ref b)] [] := by
  subst hRm
  refine vv_aload_n C d_W_law_533 rfl ?_
  refine callLC (rest := []) C (c_L_events l Γ u) cw_W_L_events rfl rfl (Nat.le_of_ble_eq_true rfl) ⟨rfl, rfl, Nat.le_of_ble_eq_true rfl, Nat.le_of_ble_eq_true rfl⟩ hcs d_W_law_534 ?_
  refine vv_st (st' := [.int (u.1 8 0)]) rfl ?_
  refine vv_aload_n C d_W_law_537 rfl ?_
  refine callLM (rest := [.int (u.1 8 0)]) C (c_M_events l Γ t) cw_W_M_events rfl rfl (Nat.le_of_ble_eq_true rfl) ⟨rfl, rfl, Nat.le_of_ble_eq_true rfl, Nat.le_of_ble_eq_true rfl⟩ hcs d_W_law_538 ?_
  refine vv_st (st' := [.int (t 19 0), .int (u.1 8 0)]) rfl ?_
  exact vv_icmp_eq C 651 d_W_law_541 rfl (fun _ => kk _ _ v (by omega) hR) (fun z => absurd hR.evs z)
set_option maxHeartbeats 2000000 in
theorem law_12 (C : cx p s m args c code R6 wA 4 Γ.1 clA (tyA Γ)) (hX : va_X b L xs s s.heap) (hbl : b < s.heap.size) (hL : L ≤ 3072) (hj : 6 * j + 6 ≤ L) (ha : ∀ k, k < 6 → xs (nI (6 * j) + nI k).toNatClampNeg = a k) (hR : RR v u t) (hv : v ≤ j) (hcs : cells ≤ R.cells ∧ slots ≤ R.slots) (hRm : R = room_1) (kk : ∀ (u' : SC) (t' : M2) (v' : Nat), v' ≤ j + 1 → RR v' u' t' → VV p l e R s m args below meth c cells slots Q 4 Γ.1 clA (fun q => s.heap.size ≤ q) s.heap (wC Γ u' ++ wM Γ t') 651 [(3, .int (nI (6 * j))), (2, .ref (Γ.2.1 27)), (1, .ref (Γ.2.1 0)), (0, .ref b)] []) : VV p l e R s m args below meth c cells slots Q 4 Γ.1 clA (fun q => s.heap.size ≤ q) s.heap (wC Γ u ++ wM Γ t) 546 [(3, .int (nI (6 * j))), (2, .ref (Γ.2.1 27)), (1, .ref (Γ.2.1 0)), (0, .ref b)] [] := by
  subst hRm
  refine vv_aload_n C d_W_law_546 rfl ?_
  refine vv_aload_n C d_W_law_547 rfl ?_
  refine vv_iload_n C d_W_law_548 rfl ?_
  refine vv_iconst C (1) d_W_law_549 (by decide) ?_
  refine vv_iadd C d_W_law_550 ?_
  refine vv_sld C hX hbl (by omega) (sin 1 (by omega) hj hL) (ha 1 (by omega)) d_W_law_551 ?_
  refine callLC (rest := []) C (c_L_who l Γ u hR.ic (a 1)) cw_W_L_who rfl rfl (Nat.le_of_ble_eq_true rfl) ⟨rfl, rfl, Nat.le_of_ble_eq_true rfl, Nat.le_of_ble_eq_true rfl⟩ hcs d_W_law_552 ?_
  refine vv_st (st' := [.int (kWho u (a 1))]) rfl ?_
  refine vv_aload_n C d_W_law_555 rfl ?_
  refine vv_aload_n C d_W_law_556 rfl ?_
  refine vv_iload_n C d_W_law_557 rfl ?_
  refine vv_iconst C (1) d_W_law_558 (by decide) ?_
  refine vv_iadd C d_W_law_559 ?_
  refine vv_sld C hX hbl (by omega) (sin 1 (by omega) hj hL) (ha 1 (by omega)) d_W_law_560 ?_
  refine callLM (rest := [.int (kWho u (a 1))]) C (c_M_who l Γ t hR.h19 (a 1)) cw_W_M_who rfl rfl (Nat.le_of_ble_eq_true rfl) ⟨rfl, rfl, Nat.le_of_ble_eq_true rfl, Nat.le_of_ble_eq_true rfl⟩ hcs d_W_law_561 ?_
  refine vv_st (st' := [.int (qWho t (a 1)), .int (kWho u (a 1))]) rfl ?_
  exact vv_icmp_eq C 651 d_W_law_564 rfl (fun _ => kk _ _ v (by omega) hR) (fun z => absurd (who_rr hR (a 1)) z)
set_option maxHeartbeats 2000000 in
theorem law_13 (C : cx p s m args c code R6 wA 4 Γ.1 clA (tyA Γ)) (hX : va_X b L xs s s.heap) (hbl : b < s.heap.size) (hL : L ≤ 3072) (hj : 6 * j + 6 ≤ L) (ha : ∀ k, k < 6 → xs (nI (6 * j) + nI k).toNatClampNeg = a k) (hR : RR v u t) (hv : v ≤ j) (hcs : cells ≤ R.cells ∧ slots ≤ R.slots) (hRm : R = room_1) (kk : ∀ (u' : SC) (t' : M2) (v' : Nat), v' ≤ j + 1 → RR v' u' t' → VV p l e R s m args below meth c cells slots Q 4 Γ.1 clA (fun q => s.heap.size ≤ q) s.heap (wC Γ u' ++ wM Γ t') 651 [(3, .int (nI (6 * j))), (2, .ref (Γ.2.1 27)), (1, .ref (Γ.2.1 0)), (0, .ref b)] []) : VV p l e R s m args below meth c cells slots Q 4 Γ.1 clA (fun q => s.heap.size ≤ q) s.heap (wC Γ u ++ wM Γ t) 569 [(3, .int (nI (6 * j))), (2, .ref (Γ.2.1 27)), (1, .ref (Γ.2.1 0)), (0, .ref b)] [] := by
  subst hRm
  refine vv_aload_n C d_W_law_569 rfl ?_
  refine vv_aload_n C d_W_law_570 rfl ?_
  refine vv_iload_n C d_W_law_571 rfl ?_
  refine vv_iconst C (1) d_W_law_572 (by decide) ?_
  refine vv_iadd C d_W_law_573 ?_
  refine vv_sld C hX hbl (by omega) (sin 1 (by omega) hj hL) (ha 1 (by omega)) d_W_law_574 ?_
  refine callLC (rest := []) C (c_L_what l Γ u hR.ic (a 1)) cw_W_L_what rfl rfl (Nat.le_of_ble_eq_true rfl) ⟨rfl, rfl, Nat.le_of_ble_eq_true rfl, Nat.le_of_ble_eq_true rfl⟩ hcs d_W_law_575 ?_
  refine vv_st (st' := [.int (kWhat u (a 1))]) rfl ?_
  refine vv_aload_n C d_W_law_578 rfl ?_
  refine vv_aload_n C d_W_law_579 rfl ?_
  refine vv_iload_n C d_W_law_580 rfl ?_
  refine vv_iconst C (1) d_W_law_581 (by decide) ?_
  refine vv_iadd C d_W_law_582 ?_
  refine vv_sld C hX hbl (by omega) (sin 1 (by omega) hj hL) (ha 1 (by omega)) d_W_law_583 ?_
  refine callLM (rest := [.int (kWhat u (a 1))]) C (c_M_what l Γ t hR.h19 (a 1)) cw_W_M_what rfl rfl (Nat.le_of_ble_eq_true rfl) ⟨rfl, rfl, Nat.le_of_ble_eq_true rfl, Nat.le_of_ble_eq_true rfl⟩ hcs d_W_law_584 ?_
  refine vv_st (st' := [.int (qWhat t (a 1)), .int (kWhat u (a 1))]) rfl ?_
  exact vv_icmp_eq C 651 d_W_law_587 rfl (fun _ => kk _ _ v (by omega) hR) (fun z => absurd (what_rr hR (a 1)) z)
set_option maxHeartbeats 2000000 in
theorem law_14 (C : cx p s m args c code R6 wA 4 Γ.1 clA (tyA Γ)) (hX : va_X b L xs s s.heap) (hbl : b < s.heap.size) (hL : L ≤ 3072) (hj : 6 * j + 6 ≤ L) (ha : ∀ k, k < 6 → xs (nI (6 * j) + nI k).toNatClampNeg = a k) (hR : RR v u t) (hv : v ≤ j) (hcs : cells ≤ R.cells ∧ slots ≤ R.slots) (hRm : R = room_1) (kk : ∀ (u' : SC) (t' : M2) (v' : Nat), v' ≤ j + 1 → RR v' u' t' → VV p l e R s m args below meth c cells slots Q 4 Γ.1 clA (fun q => s.heap.size ≤ q) s.heap (wC Γ u' ++ wM Γ t') 651 [(3, .int (nI (6 * j))), (2, .ref (Γ.2.1 27)), (1, .ref (Γ.2.1 0)), (0, .ref b)] []) : VV p l e R s m args below meth c cells slots Q 4 Γ.1 clA (fun q => s.heap.size ≤ q) s.heap (wC Γ u ++ wM Γ t) 592 [(3, .int (nI (6 * j))), (2, .ref (Γ.2.1 27)), (1, .ref (Γ.2.1 0)), (0, .ref b)] [] := by
  subst hRm
  refine vv_aload_n C d_W_law_592 rfl ?_
  refine callLC (rest := []) C (c_L_asked l Γ u) cw_W_L_asked rfl rfl (Nat.le_of_ble_eq_true rfl) ⟨rfl, rfl, Nat.le_of_ble_eq_true rfl, Nat.le_of_ble_eq_true rfl⟩ hcs d_W_law_593 ?_
  refine vv_st (st' := [.int (u.1 3 0)]) rfl ?_
  refine vv_aload_n C d_W_law_596 rfl ?_
  refine callLM (rest := [.int (u.1 3 0)]) C (c_M_asked l Γ t) cw_W_M_asked rfl rfl (Nat.le_of_ble_eq_true rfl) ⟨rfl, rfl, Nat.le_of_ble_eq_true rfl, Nat.le_of_ble_eq_true rfl⟩ hcs d_W_law_597 ?_
  refine vv_st (st' := [.int (t 22 0), .int (u.1 3 0)]) rfl ?_
  exact vv_icmp_eq C 651 d_W_law_600 rfl (fun _ => kk _ _ v (by omega) hR) (fun z => absurd hR.ask z)
set_option maxHeartbeats 2000000 in
theorem law_15 (C : cx p s m args c code R6 wA 4 Γ.1 clA (tyA Γ)) (hX : va_X b L xs s s.heap) (hbl : b < s.heap.size) (hL : L ≤ 3072) (hj : 6 * j + 6 ≤ L) (ha : ∀ k, k < 6 → xs (nI (6 * j) + nI k).toNatClampNeg = a k) (hR : RR v u t) (hv : v ≤ j) (hcs : cells ≤ R.cells ∧ slots ≤ R.slots) (hRm : R = room_1) (kk : ∀ (u' : SC) (t' : M2) (v' : Nat), v' ≤ j + 1 → RR v' u' t' → VV p l e R s m args below meth c cells slots Q 4 Γ.1 clA (fun q => s.heap.size ≤ q) s.heap (wC Γ u' ++ wM Γ t') 651 [(3, .int (nI (6 * j))), (2, .ref (Γ.2.1 27)), (1, .ref (Γ.2.1 0)), (0, .ref b)] []) : VV p l e R s m args below meth c cells slots Q 4 Γ.1 clA (fun q => s.heap.size ≤ q) s.heap (wC Γ u ++ wM Γ t) 605 [(3, .int (nI (6 * j))), (2, .ref (Γ.2.1 27)), (1, .ref (Γ.2.1 0)), (0, .ref b)] [] := by
  subst hRm
  refine vv_aload_n C d_W_law_605 rfl ?_
  refine callLC (rest := []) C (c_L_taken l Γ u) cw_W_L_taken rfl rfl (Nat.le_of_ble_eq_true rfl) ⟨rfl, rfl, Nat.le_of_ble_eq_true rfl, Nat.le_of_ble_eq_true rfl⟩ hcs d_W_law_606 ?_
  refine vv_st (st' := [.int (u.1 4 0)]) rfl ?_
  refine vv_aload_n C d_W_law_609 rfl ?_
  refine callLM (rest := [.int (u.1 4 0)]) C (c_M_taken l Γ t) cw_W_M_taken rfl rfl (Nat.le_of_ble_eq_true rfl) ⟨rfl, rfl, Nat.le_of_ble_eq_true rfl, Nat.le_of_ble_eq_true rfl⟩ hcs d_W_law_610 ?_
  refine vv_st (st' := [.int (t 23 0), .int (u.1 4 0)]) rfl ?_
  exact vv_icmp_eq C 651 d_W_law_613 rfl (fun _ => kk _ _ v (by omega) hR) (fun z => absurd hR.tak z)
set_option maxHeartbeats 2000000 in
theorem law_16 (C : cx p s m args c code R6 wA 4 Γ.1 clA (tyA Γ)) (hX : va_X b L xs s s.heap) (hbl : b < s.heap.size) (hL : L ≤ 3072) (hj : 6 * j + 6 ≤ L) (ha : ∀ k, k < 6 → xs (nI (6 * j) + nI k).toNatClampNeg = a k) (hR : RR v u t) (hv : v ≤ j) (hcs : cells ≤ R.cells ∧ slots ≤ R.slots) (hRm : R = room_1) (kk : ∀ (u' : SC) (t' : M2) (v' : Nat), v' ≤ j + 1 → RR v' u' t' → VV p l e R s m args below meth c cells slots Q 4 Γ.1 clA (fun q => s.heap.size ≤ q) s.heap (wC Γ u' ++ wM Γ t') 651 [(3, .int (nI (6 * j))), (2, .ref (Γ.2.1 27)), (1, .ref (Γ.2.1 0)), (0, .ref b)] []) : VV p l e R s m args below meth c cells slots Q 4 Γ.1 clA (fun q => s.heap.size ≤ q) s.heap (wC Γ u ++ wM Γ t) 618 [(3, .int (nI (6 * j))), (2, .ref (Γ.2.1 27)), (1, .ref (Γ.2.1 0)), (0, .ref b)] [] := by
  subst hRm
  refine vv_aload_n C d_W_law_618 rfl ?_
  refine vv_aload_n C d_W_law_619 rfl ?_
  refine vv_iload_n C d_W_law_620 rfl ?_
  refine vv_iconst C (1) d_W_law_621 (by decide) ?_
  refine vv_iadd C d_W_law_622 ?_
  refine vv_sld C hX hbl (by omega) (sin 1 (by omega) hj hL) (ha 1 (by omega)) d_W_law_623 ?_
  refine vv_aload_n C d_W_law_624 rfl ?_
  refine vv_iload_n C d_W_law_625 rfl ?_
  refine vv_iconst C (2) d_W_law_626 (by decide) ?_
  refine vv_iadd C d_W_law_627 ?_
  refine vv_sld C hX hbl (by omega) (sin 2 (by omega) hj hL) (ha 2 (by omega)) d_W_law_628 ?_
  refine callLC (rest := []) C (c_L_chain l Γ u hR.ic (a 1) (a 2)) cw_W_L_chain rfl rfl (Nat.le_of_ble_eq_true rfl) ⟨rfl, rfl, Nat.le_of_ble_eq_true rfl, Nat.le_of_ble_eq_true rfl⟩ hcs d_W_law_629 ?_
  refine vv_st (st' := [.int (kChain u (a 1) (a 2))]) rfl ?_
  refine vv_aload_n C d_W_law_632 rfl ?_
  refine vv_aload_n C d_W_law_633 rfl ?_
  refine vv_iload_n C d_W_law_634 rfl ?_
  refine vv_iconst C (1) d_W_law_635 (by decide) ?_
  refine vv_iadd C d_W_law_636 ?_
  refine vv_sld C hX hbl (by omega) (sin 1 (by omega) hj hL) (ha 1 (by omega)) d_W_law_637 ?_
  refine vv_aload_n C d_W_law_638 rfl ?_
  refine vv_iload_n C d_W_law_639 rfl ?_
  refine vv_iconst C (2) d_W_law_640 (by decide) ?_
  refine vv_iadd C d_W_law_641 ?_
  refine vv_sld C hX hbl (by omega) (sin 2 (by omega) hj hL) (ha 2 (by omega)) d_W_law_642 ?_
  refine callLM (rest := [.int (kChain u (a 1) (a 2))]) C (c_M_chain l Γ t hR.h0 (a 1) (a 2)) cw_W_M_chain rfl rfl (Nat.le_of_ble_eq_true rfl) ⟨rfl, rfl, Nat.le_of_ble_eq_true rfl, Nat.le_of_ble_eq_true rfl⟩ hcs d_W_law_643 ?_
  refine vv_st (st' := [.int (qChain t (a 1) (a 2)), .int (kChain u (a 1) (a 2))]) rfl ?_
  exact vv_icmp_eq C 651 d_W_law_646 rfl (fun _ => kk _ _ v (by omega) hR) (fun z => absurd (chain_rr hR (a 1) (a 2)) z)
set_option maxHeartbeats 2000000 in
theorem law_4 (C : cx p s m args c code R6 wA 4 Γ.1 clA (tyA Γ)) (hX : va_X b L xs s s.heap) (hbl : b < s.heap.size) (hL : L ≤ 3072) (hj : 6 * j + 6 ≤ L) (ha : ∀ k, k < 6 → xs (nI (6 * j) + nI k).toNatClampNeg = a k) (hR : RR v u t) (hv : v ≤ j) (hcs : cells ≤ R.cells ∧ slots ≤ R.slots) (hRm : R = room_1) (kk : ∀ (u' : SC) (t' : M2) (v' : Nat), v' ≤ j + 1 → RR v' u' t' → VV p l e R s m args below meth c cells slots Q 4 Γ.1 clA (fun q => s.heap.size ≤ q) s.heap (wC Γ u' ++ wM Γ t') 651 [(3, .int (nI (6 * j))), (2, .ref (Γ.2.1 27)), (1, .ref (Γ.2.1 0)), (0, .ref b)] []) : VV p l e R s m args below meth c cells slots Q 4 Γ.1 clA (fun q => s.heap.size ≤ q) s.heap (wC Γ u ++ wM Γ t) 278 [(3, .int (nI (6 * j))), (2, .ref (Γ.2.1 27)), (1, .ref (Γ.2.1 0)), (0, .ref b)] [] := by
  subst hRm
  by_cases ha0 : a 1 = 0
  · skip
    refine vv_aload_n C d_W_law_278 rfl ?_
    refine vv_aload_n C d_W_law_279 rfl ?_
    refine vv_iload_n C d_W_law_280 rfl ?_
    refine vv_iconst C (1) d_W_law_281 (by decide) ?_
    refine vv_iadd C d_W_law_282 ?_
    refine vv_sld C hX hbl (by omega) (sin 1 (by omega) hj hL) (ha 1 (by omega)) d_W_law_283 ?_
    refine vv_if_eq C 291 d_W_law_284 rfl (fun _ => ?_) (fun z => absurd ha0 z)
    refine vv_iconst C (0) d_W_law_291 (by decide) ?_
    refine vv_st (st' := [.int (bI false), .ref (Γ.2.1 0)]) rfl ?_
    refine callLC (rest := []) C (c_L_freeze l Γ u false) cw_W_L_freeze rfl rfl (Nat.le_of_ble_eq_true rfl) ⟨rfl, rfl, Nat.le_of_ble_eq_true rfl, Nat.le_of_ble_eq_true rfl⟩ hcs d_W_law_292 ?_
    refine vv_st (st' := []) rfl ?_
    refine vv_aload_n C d_W_law_295 rfl ?_
    refine vv_aload_n C d_W_law_296 rfl ?_
    refine vv_iload_n C d_W_law_297 rfl ?_
    refine vv_iconst C (1) d_W_law_298 (by decide) ?_
    refine vv_iadd C d_W_law_299 ?_
    refine vv_sld C hX hbl (by omega) (sin 1 (by omega) hj hL) (ha 1 (by omega)) d_W_law_300 ?_
    refine vv_if_eq C 308 d_W_law_301 rfl (fun _ => ?_) (fun z => absurd ha0 z)
    refine vv_iconst C (0) d_W_law_308 (by decide) ?_
    refine vv_st (st' := [.int (bI false), .ref (Γ.2.1 27)]) rfl ?_
    refine callLM (rest := []) C (c_M_freeze l Γ t false) cw_W_M_freeze rfl rfl (Nat.le_of_ble_eq_true rfl) ⟨rfl, rfl, Nat.le_of_ble_eq_true rfl, Nat.le_of_ble_eq_true rfl⟩ hcs d_W_law_309 ?_
    refine vv_st (st' := []) rfl ?_
    refine vv_goto C 651 d_W_law_312 rfl ?_
    exact kk _ _ v (by omega) (freeze_rr hR false)
  · skip
    refine vv_aload_n C d_W_law_278 rfl ?_
    refine vv_aload_n C d_W_law_279 rfl ?_
    refine vv_iload_n C d_W_law_280 rfl ?_
    refine vv_iconst C (1) d_W_law_281 (by decide) ?_
    refine vv_iadd C d_W_law_282 ?_
    refine vv_sld C hX hbl (by omega) (sin 1 (by omega) hj hL) (ha 1 (by omega)) d_W_law_283 ?_
    refine vv_if_eq C 291 d_W_law_284 rfl (fun z => absurd z ha0) (fun _ => ?_)
    refine vv_iconst C (1) d_W_law_287 (by decide) ?_
    refine vv_goto C 292 d_W_law_288 rfl ?_
    refine vv_st (st' := [.int (bI true), .ref (Γ.2.1 0)]) rfl ?_
    refine callLC (rest := []) C (c_L_freeze l Γ u true) cw_W_L_freeze rfl rfl (Nat.le_of_ble_eq_true rfl) ⟨rfl, rfl, Nat.le_of_ble_eq_true rfl, Nat.le_of_ble_eq_true rfl⟩ hcs d_W_law_292 ?_
    refine vv_st (st' := []) rfl ?_
    refine vv_aload_n C d_W_law_295 rfl ?_
    refine vv_aload_n C d_W_law_296 rfl ?_
    refine vv_iload_n C d_W_law_297 rfl ?_
    refine vv_iconst C (1) d_W_law_298 (by decide) ?_
    refine vv_iadd C d_W_law_299 ?_
    refine vv_sld C hX hbl (by omega) (sin 1 (by omega) hj hL) (ha 1 (by omega)) d_W_law_300 ?_
    refine vv_if_eq C 308 d_W_law_301 rfl (fun z => absurd z ha0) (fun _ => ?_)
    refine vv_iconst C (1) d_W_law_304 (by decide) ?_
    refine vv_goto C 309 d_W_law_305 rfl ?_
    refine vv_st (st' := [.int (bI true), .ref (Γ.2.1 27)]) rfl ?_
    refine callLM (rest := []) C (c_M_freeze l Γ t true) cw_W_M_freeze rfl rfl (Nat.le_of_ble_eq_true rfl) ⟨rfl, rfl, Nat.le_of_ble_eq_true rfl, Nat.le_of_ble_eq_true rfl⟩ hcs d_W_law_309 ?_
    refine vv_st (st' := []) rfl ?_
    refine vv_goto C 651 d_W_law_312 rfl ?_
    exact kk _ _ v (by omega) (freeze_rr hR true)
set_option maxHeartbeats 2000000 in
theorem law_9 (C : cx p s m args c code R6 wA 4 Γ.1 clA (tyA Γ)) (hX : va_X b L xs s s.heap) (hbl : b < s.heap.size) (hL : L ≤ 3072) (hj : 6 * j + 6 ≤ L) (ha : ∀ k, k < 6 → xs (nI (6 * j) + nI k).toNatClampNeg = a k) (hR : RR v u t) (hv : v ≤ j) (hcs : cells ≤ R.cells ∧ slots ≤ R.slots) (hRm : R = room_1) (kk : ∀ (u' : SC) (t' : M2) (v' : Nat), v' ≤ j + 1 → RR v' u' t' → VV p l e R s m args below meth c cells slots Q 4 Γ.1 clA (fun q => s.heap.size ≤ q) s.heap (wC Γ u' ++ wM Γ t') 651 [(3, .int (nI (6 * j))), (2, .ref (Γ.2.1 27)), (1, .ref (Γ.2.1 0)), (0, .ref b)] []) : VV p l e R s m args below meth c cells slots Q 4 Γ.1 clA (fun q => s.heap.size ≤ q) s.heap (wC Γ u ++ wM Γ t) 487 [(3, .int (nI (6 * j))), (2, .ref (Γ.2.1 27)), (1, .ref (Γ.2.1 0)), (0, .ref b)] [] := by
  subst hRm
  cases hx : qWithin (a 1) 0 5
  · have hb := inv_bad (u := u) (a 1) (a 2) hx
    refine vv_aload_n C d_W_law_487 rfl ?_
    refine vv_aload_n C d_W_law_488 rfl ?_
    refine vv_iload_n C d_W_law_489 rfl ?_
    refine vv_iconst C (1) d_W_law_490 (by decide) ?_
    refine vv_iadd C d_W_law_491 ?_
    refine vv_sld C hX hbl (by omega) (sin 1 (by omega) hj hL) (ha 1 (by omega)) d_W_law_492 ?_
    refine vv_aload_n C d_W_law_493 rfl ?_
    refine vv_iload_n C d_W_law_494 rfl ?_
    refine vv_iconst C (2) d_W_law_495 (by decide) ?_
    refine vv_iadd C d_W_law_496 ?_
    refine vv_sld C hX hbl (by omega) (sin 2 (by omega) hj hL) (ha 2 (by omega)) d_W_law_497 ?_
    refine callLC (rest := []) C (c_L_invoke l Γ u hR.ic (a 1) (a 2)) cw_W_L_invoke rfl rfl (Nat.le_of_ble_eq_true rfl) ⟨rfl, rfl, Nat.le_of_ble_eq_true rfl, Nat.le_of_ble_eq_true rfl⟩ hcs d_W_law_498 ?_
    refine vv_st (st' := [.int ((kInvoke u (a 1) (a 2)).1)]) rfl ?_
    refine vv_aload_n C d_W_law_501 rfl ?_
    refine vv_aload_n C d_W_law_502 rfl ?_
    refine vv_iload_n C d_W_law_503 rfl ?_
    refine vv_iconst C (1) d_W_law_504 (by decide) ?_
    refine vv_iadd C d_W_law_505 ?_
    refine vv_sld C hX hbl (by omega) (sin 1 (by omega) hj hL) (ha 1 (by omega)) d_W_law_506 ?_
    refine vv_aload_n C d_W_law_507 rfl ?_
    refine vv_iload_n C d_W_law_508 rfl ?_
    refine vv_iconst C (2) d_W_law_509 (by decide) ?_
    refine vv_iadd C d_W_law_510 ?_
    refine vv_sld C hX hbl (by omega) (sin 2 (by omega) hj hL) (ha 2 (by omega)) d_W_law_511 ?_
    refine callLM (rest := [.int ((kInvoke u (a 1) (a 2)).1)]) C (c_M_invoke0 l Γ t (a 1) (a 2) hx) cw_W_M_invoke rfl rfl (Nat.le_of_ble_eq_true rfl) ⟨rfl, rfl, Nat.le_of_ble_eq_true rfl, Nat.le_of_ble_eq_true rfl⟩ hcs d_W_law_512 ?_
    refine vv_st (st' := [.int (-1), .int ((kInvoke u (a 1) (a 2)).1)]) rfl ?_
    exact vv_icmp_eq C 651 d_W_law_515 rfl (fun _ => kk _ _ v (by omega) (by rw [hb]; exact hR)) (fun z => absurd (by rw [hb]) z)
  · obtain ⟨N, g1, g2, g3, g4⟩ := invoke_rr hR (a 1) (a 2) hx
    refine vv_aload_n C d_W_law_487 rfl ?_
    refine vv_aload_n C d_W_law_488 rfl ?_
    refine vv_iload_n C d_W_law_489 rfl ?_
    refine vv_iconst C (1) d_W_law_490 (by decide) ?_
    refine vv_iadd C d_W_law_491 ?_
    refine vv_sld C hX hbl (by omega) (sin 1 (by omega) hj hL) (ha 1 (by omega)) d_W_law_492 ?_
    refine vv_aload_n C d_W_law_493 rfl ?_
    refine vv_iload_n C d_W_law_494 rfl ?_
    refine vv_iconst C (2) d_W_law_495 (by decide) ?_
    refine vv_iadd C d_W_law_496 ?_
    refine vv_sld C hX hbl (by omega) (sin 2 (by omega) hj hL) (ha 2 (by omega)) d_W_law_497 ?_
    refine callLC (rest := []) C (c_L_invoke l Γ u hR.ic (a 1) (a 2)) cw_W_L_invoke rfl rfl (Nat.le_of_ble_eq_true rfl) ⟨rfl, rfl, Nat.le_of_ble_eq_true rfl, Nat.le_of_ble_eq_true rfl⟩ hcs d_W_law_498 ?_
    refine vv_st (st' := [.int ((kInvoke u (a 1) (a 2)).1)]) rfl ?_
    refine vv_aload_n C d_W_law_501 rfl ?_
    refine vv_aload_n C d_W_law_502 rfl ?_
    refine vv_iload_n C d_W_law_503 rfl ?_
    refine vv_iconst C (1) d_W_law_504 (by decide) ?_
    refine vv_iadd C d_W_law_505 ?_
    refine vv_sld C hX hbl (by omega) (sin 1 (by omega) hj hL) (ha 1 (by omega)) d_W_law_506 ?_
    refine vv_aload_n C d_W_law_507 rfl ?_
    refine vv_iload_n C d_W_law_508 rfl ?_
    refine vv_iconst C (2) d_W_law_509 (by decide) ?_
    refine vv_iadd C d_W_law_510 ?_
    refine vv_sld C hX hbl (by omega) (sin 2 (by omega) hj hL) (ha 2 (by omega)) d_W_law_511 ?_
    refine callLM (rest := [.int ((kInvoke u (a 1) (a 2)).1)]) C (c_M_invoke l Γ t (a 1) (a 2) hx N g1 g2) cw_W_M_invoke rfl rfl (Nat.le_of_ble_eq_true rfl) ⟨rfl, rfl, Nat.le_of_ble_eq_true rfl, Nat.le_of_ble_eq_true rfl⟩ hcs d_W_law_512 ?_
    refine vv_st (st' := [.int ((qEnd (qIt N (qStart t (a 1) (a 2)))).1), .int ((kInvoke u (a 1) (a 2)).1)]) rfl ?_
    exact vv_icmp_eq C 651 d_W_law_515 rfl (fun _ => kk _ _ v (by omega) g4) (fun z => absurd g3 z)
end LAW
