/-! a contract without new cells: from the world ws with the arguments av the method answers rv and leaves the world ws'; nothing outside G changes -/
def ctQ (D : va_G) (cl : List vw_C) (G : Nat → Prop) (rv : Option Value) (ws' : va_W) : Array Value → State → Outcome → State → Prop := fun _ st oc t => (oc = .returned rv ∧ va_P D cl ws' t.heap) ∧ va_F G st t
def ctP (D : va_G) (cl : List vw_C) (tys : List (ClassId × FieldType)) (G : Nat → Prop) (ws : va_W) (U : State) : Prop := va_P D cl ws U.heap ∧ va_K D cl tys U ∧ va_D G ws
def Ct (l : Launch) (y : MethodName) (wsC : List Cond) (rm : Room) (D : va_G) (cl : List vw_C) (tys : List (ClassId × FieldType)) (G : Nat → Prop) (av : List Value) (ws : va_W) (rv : Option Value) (ws' : va_W) : Prop :=
  Met l y wsC rm (va_Pc av (ctP D cl tys G ws)) (ctQ D cl G rv ws') 0 0 G
/-- the room of a method whose calls nest at most d deep -/
def rmD (d : Nat) : Room := { frames := d, cells := 0, slots := 0, locals := 40 * d }
theorem ctP_blind {D : va_G} {cl : List vw_C} {tys : List (ClassId × FieldType)} {G : Nat → Prop} {ws : va_W} {av : List Value} : FrameBlind (va_Pc av (ctP D cl tys G ws)) := by
  intro a U g mk q
  obtain ⟨q0, qP, qK, qD⟩ := q
  exact ⟨q0, qP, va_K.moved (u := U) (U := U.calling g mk a) (Vm.Alike.refl U.vm) qK, qD⟩
section CTS
variable {p : Program} {l : Launch} {e : Env} {R : Room} {s : State} {m : MethodId} {args : Array Value} {below : List Frame} {meth : Method} {c : Code} {cells slots : Nat} {Q : State → Prop}
variable {cc : ByteArray} {own : String} {Ts : List Cond} {nL : Nat} {D : va_G} {cl : List vw_C} {tys tys' : List (ClassId × FieldType)} {A G : Nat → Prop} {H0 : Heap} {ws ws' : va_W} {pc : Nat} {lv : List (Nat × Value)} {st : List Value}
theorem ct_of {y : MethodName} {bytes : ByteArray} {maxL : Nat} {ret : Option FieldType} {wsC : List Cond} {rm : Room} {av : List Value} {rv : Option Value} (hy : plainName y.cls = true) (hlen : (lg_sl av).length ≤ maxL)
    (body : ∀ (p : Program) (e : Env) (s : State) (m : MethodId) (args : Array Value) (below : List Frame) (meth : Method) (c : Code), cx p s m args c bytes y.cls wsC maxL D cl tys → meth.sig.returnType = ret → meth.locks = false →
      VV p l e rm s m args below meth c 0 0 (MQ below (ctQ D cl G rv ws') args s 0 0 G) maxL D cl G s.heap ws 0 (lv_args 0 av) []) : Ct l y (Cond.code y bytes maxL ret :: wsC) rm D cl tys G av ws rv ws' := by
  refine Met.ofW (cc := bytes) (maxL := maxL) (ret := ret) hy rfl ?_
  intro p e s m args below meth c s₁ B hml hv
  obtain ⟨rfl, hP, hK, hD⟩ := hv
  have hts := atoms_spec (ws := Cond.code y bytes maxL ret :: wsC) B.pre
  have hown : s.vm.findClass y.cls = some m.cls := findClass_of_methodNamed B.named
  rw [lg_entry_eq]
  exact body p e s m _ below meth c ⟨B.exec, B.bytes, hml, hown, fun w h => hts w (List.mem_cons_of_mem _ h), hK⟩ B.returns B.notSynchronized s.heap [] _ hP hD va_S.rf (lv_entry av hlen)
theorem vv_iret (C : cx p s m args c cc own Ts nL D cl tys) (hr : meth.sig.returnType = some .int) (hlocks : meth.locks = false) {v : Int32} {rv : Option Value} (hrv : rv = some (.int v)) (hws : ws = ws') (hdg : decode cc pc = .ok (.ireturn, 1)) :
    VV p l e R s m args below meth c 0 0 (MQ below (ctQ D cl G rv ws') args s 0 0 G) nL D cl G s.heap ws pc lv [.int v] :=
  fun H locs ls hP hD hS hl => W.iret C.1 C.2.1 hr (fun t ht hW => ⟨⟨by rw [hrv], by rw [ht, ← hws]; exact hP⟩, hS.F ht⟩) hS.2.2 hdg hlocks
theorem vv_zret (C : cx p s m args c cc own Ts nL D cl tys) (hr : meth.sig.returnType = some .boolean) (hlocks : meth.locks = false) {v : Int32} {rv : Option Value} (hn : narrow .boolean (.int v) = .int v) (hrv : rv = some (.int v)) (hws : ws = ws') (hdg : decode cc pc = .ok (.ireturn, 1)) :
    VV p l e R s m args below meth c 0 0 (MQ below (ctQ D cl G rv ws') args s 0 0 G) nL D cl G s.heap ws pc lv [.int v] :=
  fun H locs ls hP hD hS hl => W.zret C.1 C.2.1 hr hn (fun t ht hW => ⟨⟨by rw [hrv], by rw [ht, ← hws]; exact hP⟩, hS.F ht⟩) hS.2.2 hdg hlocks
theorem vv_vret (C : cx p s m args c cc own Ts nL D cl tys) (hr : meth.sig.returnType = none) (hlocks : meth.locks = false) {rv : Option Value} (hrv : rv = none) (hws : ws = ws') (hdg : decode cc pc = .ok (.return_, 1)) :
    VV p l e R s m args below meth c 0 0 (MQ below (ctQ D cl G rv ws') args s 0 0 G) nL D cl G s.heap ws pc lv [] :=
  fun H locs ls hP hD hS hl => W.vret C.1 C.2.1 hr (fun t ht hW => ⟨⟨by rw [hrv], by rw [ht, ← hws]; exact hP⟩, hS.F ht⟩) hS.2.2 hdg hlocks
theorem vv_aret (C : cx p s m args c cc own Ts nL D cl tys) {K : String} (hr : meth.sig.returnType = some (.object K)) (hlocks : meth.locks = false) {a : Nat} {rv : Option Value} (hrv : rv = some (.ref a)) (hws : ws = ws') (hdg : decode cc pc = .ok (.areturn, 1)) :
    VV p l e R s m args below meth c 0 0 (MQ below (ctQ D cl G rv ws') args s 0 0 G) nL D cl G s.heap ws pc lv [.ref a] :=
  fun H locs ls hP hD hS hl => W.aret C.1 C.2.1 hr (Or.inl ⟨K, rfl⟩) (Or.inr ⟨a, rfl⟩) (fun t ht hW => ⟨⟨by rw [hrv], by rw [ht, ← hws]; exact hP⟩, hS.F ht⟩) hS.2.2 hdg hlocks
/-- behind a call -/
theorem ct_go {rest st0 : List Value} {rv : Option Value} {H : Heap} {locs : List Loc} {ls : Array Slot} {a : Array Value}
    (hr : va_Run p l e R s m args below meth c H locs cells slots 0 0 (F0 m pc ls st0) rest (ctQ D cl G rv ws' a) G) (hS : va_S A H0 H locs) (hG : ∀ q, G q → A q)
    (kk : ∀ (H1 : Heap) (locs1 : List Loc), va_P D cl ws' H1 → va_S A H0 H1 locs1 → H.size ≤ H1.size → (∀ q : Nat, q < H.size → ¬ G q → H1[q]? = H[q]?) → W p l e R s m args below meth c H1 locs1 cells slots Q (F0 m (pc + 3) ls (rv.toList ++ rest))) :
    W p l e R s m args below meth c H locs cells slots Q (F0 m pc ls st0) := by
  intro T hT X
  obtain ⟨v, st₀, t, T', L, h0, X', hL, e1, e2, ⟨⟨hv, hp⟩, hz, hk⟩, st⟩ := hr T hT X
  cases hv
  rw [h0] at hz hk
  obtain ⟨t2, a1, b1⟩ := kk T'.heap (locs ++ L) (by rw [e1]; exact hp)
    ⟨Nat.le_trans hS.1 (by rw [e1]; exact hz), fun q h1 h2 => by rw [e1, hk q (Nat.lt_of_lt_of_le h1 hS.1) (fun z => h2 (hG q z))]; exact hS.2.1 q h1 h2, fun q hq => by
      rcases List.mem_append.mp hq with h | h
      · exact hS.2.2 q h
      · exact hG _ (hL q h)⟩ (by rw [e1]; exact hz) (fun q h1 h2 => by rw [e1]; exact hk q h1 h2) T' rfl X'
  exact ⟨t2, st t2 a1, b1⟩
/-- the words of a call of an instance method of the class K, out of the caller's words -/
def callVw (own : String) (index : Nat) (K : String) (y : MethodName) (bytes : ByteArray) (maxL : Nat) (ret : Option FieldType) (Ts wsC : List Cond) (n : Nat) : Prop :=
  GoodIn Ts (wsV own index K y (Cond.code y bytes maxL ret :: wsC)) ∧ y.cls = K ∧ y.cls ≠ "java/lang/invoke/MethodHandle" ∧ y.cls ≠ "java/lang/invoke/VarHandle" ∧ (parseMethodDescriptor y.desc).map (fun d => d.parameters.length) = some n
def callSw (own : String) (index : Nat) (y : MethodName) (bytes : ByteArray) (maxL : Nat) (ret : Option FieldType) (Ts wsC : List Cond) (n : Nat) : Prop :=
  GoodIn Ts (wsS own index y (Cond.code y bytes maxL ret :: wsC)) ∧ y.cls = own ∧ y.cls ≠ "java/lang/invoke/MethodHandle" ∧ y.cls ≠ "java/lang/invoke/VarHandle" ∧ (parseMethodDescriptor y.desc).map (fun d => d.parameters.length) = some n
def fitsIn (maxL : Nat) (rm R : Room) : Prop := rm.cells = 0 ∧ rm.slots = 0 ∧ rm.frames + 1 ≤ R.frames ∧ 8 + (maxL + 11) + rm.locals ≤ R.locals
theorem fitsIn_D {maxL d d' : Nat} (hm : maxL ≤ 21) (hd : d + 1 ≤ d') : fitsIn maxL (rmD d) (rmD d') := ⟨rfl, rfl, hd, by show 8 + (maxL + 11) + 40 * d ≤ 40 * d'; omega⟩
theorem vv_callV (C : cx p s m args c cc own Ts nL D cl tys) {index maxL n : Nat} {K : String} {y : MethodName} {bytes : ByteArray} {ret : Option FieldType} {wsC : List Cond} {rm : Room} {b : Nat} {As rest : List Value} {rv : Option Value}
    (hM : Ct l y (Cond.code y bytes maxL ret :: wsC) rm D cl tys G (.ref b :: As) ws rv ws') (cw : callVw own index K y bytes maxL ret Ts wsC n) (hn : As.length = n) (q0 : Nat) {ci N : Nat} {T : u_T} {fs : List Value} (he : ws[q0]? = some (b, .inr (ci, fs))) (hc : cl[ci]? = some (K, T, N))
    (hst : st = As.reverse ++ .ref b :: rest) (hW : (rest.map fun v => v.category).sum ≤ 8) (hR : fitsIn maxL rm R) (hcs : cells ≤ R.cells ∧ slots ≤ R.slots) (hdg : decode cc pc = .ok (.invokevirtual index, 3)) (hG : ∀ q, G q → A q) (hDG : va_D A ws → va_D G ws) (hDA : va_D A ws → va_D A ws')
    (kk : VV p l e R s m args below meth c cells slots Q nL D cl A H0 ws' (pc + 3) lv (rv.toList ++ rest)) : VV p l e R s m args below meth c cells slots Q nL D cl A H0 ws pc lv st := by
  intro H locs ls hP hD hS hl
  obtain ⟨hx, hb, hml, hown, hts, hK⟩ := C
  obtain ⟨hR0, hR1, hR2⟩ := hR
  refine ct_go (G := G) (rest := rest) (va_runV (n := n) (C := K) ⟨hx, hb, hml, hown, hts⟩ hM (cwV n hts cw.1 rfl hR0 hR1 cw.2 hR2) ⟨ctP_blind, va_recv hK hP hc he, fun U hU hW => ⟨rfl, by rw [hU]; exact hP, va_K.moved hW.alike hK, hDG hD⟩⟩ rfl hn hl.1 hst (lv_room hW) hdg ⟨by omega, by omega⟩) hS hG (fun H1 locs1 hP1 hS1 _ _ => kk H1 locs1 ls hP1 (hDA hD) hS1 hl)
theorem vv_callS (C : cx p s m args c cc own Ts nL D cl tys) {index maxL n : Nat} {y : MethodName} {bytes : ByteArray} {ret : Option FieldType} {wsC : List Cond} {rm : Room} {As rest : List Value} {rv : Option Value}
    (hM : Ct l y (Cond.code y bytes maxL ret :: wsC) rm D cl tys G As ws rv ws') (cw : callSw own index y bytes maxL ret Ts wsC n) (hn : As.length = n)
    (hst : st = As.reverse ++ rest) (hW : (rest.map fun v => v.category).sum ≤ 8) (hR : fitsIn maxL rm R) (hcs : cells ≤ R.cells ∧ slots ≤ R.slots) (hdg : decode cc pc = .ok (.invokestatic index, 3)) (hG : ∀ q, G q → A q) (hDG : va_D A ws → va_D G ws) (hDA : va_D A ws → va_D A ws')
    (kk : VV p l e R s m args below meth c cells slots Q nL D cl A H0 ws' (pc + 3) lv (rv.toList ++ rest)) : VV p l e R s m args below meth c cells slots Q nL D cl A H0 ws pc lv st := by
  intro H locs ls hP hD hS hl
  obtain ⟨hx, hb, hml, hown, hts, hK⟩ := C
  obtain ⟨hR0, hR1, hR2⟩ := hR
  refine ct_go (G := G) (rest := rest) (va_runS (n := n) ⟨hx, hb, hml, hown, hts⟩ hM (cwS n hts cw.1 rfl hR0 hR1 cw.2 hR2) ⟨ctP_blind, fun U hU hW => ⟨rfl, by rw [hU]; exact hP, va_K.moved hW.alike hK, hDG hD⟩⟩ rfl hn hl.1 hst (lv_room hW) hdg ⟨by omega, by omega⟩) hS hG (fun H1 locs1 hP1 hS1 _ _ => kk H1 locs1 ls hP1 (hDA hD) hS1 hl)
end CTS
