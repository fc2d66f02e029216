/-! what is made: rows and contracts with new cells -/
def CtN (l : Launch) (y : MethodName) (wsC : List Cond) (rm : Room) (D : va_G) (cl : List vw_C) (tys : List (ClassId × FieldType)) (X : State → Prop) (av : List Value) (wc : va_W) (mc ms : Nat) (W' : (Nat → Nat) → va_W) : Prop :=
  ∀ sz : Nat, Met l y wsC rm (va_Pc av (fun U => U.heap.size = sz ∧ va_P D cl wc U.heap ∧ va_K D cl tys U ∧ va_D (fun _ => True) wc ∧ X U)) (va_Qv (fun _ : Nat → Nat => True) (fun a t => va_P D cl (W' a) t.heap ∧ va_D (va_A wc sz) (W' a)) (va_A wc sz)) mc ms (va_A wc sz)
/-- what the nest and the arrays of objects need of the tables -/
def XN (U : State) : Prop := va_Nw (.methodLinkNest R1 24 y_A_init "AdviceLinks") U ∧ va_Nw (.methodLinkNest R4 24 y_T_init "AdviceLinks") U ∧ va_Nw (.methodLinkNest R4 56 y_K_init "AdviceLinks") U ∧ va_AO R0 U ∧ va_AO R3 U
theorem XN_call {U : State} {g : JFrame} {mk : MethodId} {a : Array Value} (h : XN U) : XN (U.calling g mk a) := ⟨va_Nw.same rfl rfl h.1, va_Nw.same rfl rfl h.2.1, va_Nw.same rfl rfl h.2.2.1, va_AO.moved (Vm.Alike.refl U.vm) h.2.2.2.1, va_AO.moved (Vm.Alike.refl U.vm) h.2.2.2.2⟩
theorem XN_warm {s U : State} (hW : s.WarmedH U.vm) (h : XN s) : XN U := ⟨va_Nw.warmM hW h.1, va_Nw.warmM hW h.2.1, va_Nw.warmM hW h.2.2.1, va_AO.moved hW.alike h.2.2.2.1, va_AO.moved hW.alike h.2.2.2.2⟩
section CTN
variable {p : Program} {l : Launch} {e : Env} {R : Room} {s : State} {m : MethodId} {args : Array Value} {below : List Frame} {meth : Method} {c : Code} {cells slots : Nat} {Q : State → Prop}
variable {cc : ByteArray} {own : String} {Ts : List Cond} {nL : Nat} {D : va_G} {cl : List vw_C} {tys : List (ClassId × FieldType)} {A G : Nat → Prop} {H0 : Heap} {ws ws' : va_W} {pc : Nat} {lv : List (Nat × Value)} {st : List Value}
theorem vv_new (C : cx p s m args c cc own Ts nL D cl tys) {K : String} {T : u_T} {N ci index : Nat} (hin : ∀ w ∈ u_ws K T N, w ∈ Ts) (ty : Nat → FieldType) (hty : ∀ k, k < N → parseFieldDescriptor (T k).2.2.1 = some (ty k)) (hcl : Cond.classLink own index K ∈ Ts) (hinst : Cond.instantiable K N ∈ Ts) (hini : Cond.initialized K ∈ Ts) (hA : ∀ q, H0.size ≤ q → A q) (hc : cl[ci]? = some (K, T, N)) {fs : List Value} (hfs : ∀ j, j < N → defaultValue (ty j) = vp_V fs j) (hcells : cells + 1 ≤ R.cells) (hslots : slots + N ≤ R.slots) (hdg : decode cc pc = .ok (.new index, 3))
    (kk : ∀ q : Nat, VV p l e R s m args below meth c (cells + 1) (slots + N) Q nL D cl A H0 (ws ++ [(q, .inr (ci, fs))]) (pc + 3) lv (.ref q :: st)) : VV p l e R s m args below meth c cells slots Q nL D cl A H0 ws pc lv st :=
  fun H locs ls hP hD hS hl => va_new C.1 C.2.1 C.2.2.2.2.1 hin ty hty C.2.2.2.1 (C.2.2.2.2.1 _ hcl) (C.2.2.2.2.1 _ hinst) (C.2.2.2.2.1 _ hini) C.2.2.2.2.2 hP hD hS hA hc hfs hcells hslots hdg (fun q H1 hP1 hD1 hS1 => kk q H1 locs ls hP1 hD1 hS1 hl)
theorem vv_newI (C : cx p s m args c cc own Ts nL D cl tys) {cI : ClassId} (t0 : Nat) (ht : tys[t0]? = some (cI, .int)) (harr : Cond.arrayClass .int ∈ Ts) (hA : ∀ q, H0.size ≤ q → A q) {n : Int32} (N' : Nat) (hn : ¬ n < 0) (hN : n.toNatClampNeg = N') (hby : N' * 4 ≤ 536870912) (hcells : cells + 1 ≤ R.cells) (hslots : slots + N' ≤ R.slots) (hdg : decode cc pc = .ok (.newarray .int, 2))
    (kk : ∀ q : Nat, VV p l e R s m args below meth c (cells + 1) (slots + N') Q nL D cl A H0 (ws ++ [(q, .inl (cI, N', .inl (fun _ => 0)))]) (pc + 2) lv (.ref q :: st)) : VV p l e R s m args below meth c cells slots Q nL D cl A H0 ws pc lv (.int n :: st) :=
  fun H locs ls hP hD hS hl => va_newa (atype := .int) (ty := .int) (a0 := (N', .inl (fun _ => 0))) C.1 C.2.1 (C.2.2.2.2.1 _ harr) rfl C.2.2.2.2.2 hP hD hS hA (fun _ => rfl) hn hN hby hcells hslots hdg (fun q cA H1 hK1 hP1 hD1 hS1 => by
    have e1 : s.vm.findClass ("[" ++ FieldType.int.toString) = some cA := (hK1.2 tys.length (cA, .int) (by simp)).2
    have e2 : s.vm.findClass ("[" ++ FieldType.int.toString) = some cI := (C.2.2.2.2.2.2 t0 (cI, .int) ht).2
    have e3 : cA = cI := Option.some.inj (e1.symm.trans e2)
    subst e3
    exact kk q H1 locs ls hP1 hD1 hS1 hl)
theorem vv_newZ (C : cx p s m args c cc own Ts nL D cl tys) {cI : ClassId} (t0 : Nat) (ht : tys[t0]? = some (cI, .boolean)) (harr : Cond.arrayClass .boolean ∈ Ts) (hA : ∀ q, H0.size ≤ q → A q) {n : Int32} (N' : Nat) (hn : ¬ n < 0) (hN : n.toNatClampNeg = N') (hby : N' * 1 ≤ 536870912) (hcells : cells + 1 ≤ R.cells) (hslots : slots + N' ≤ R.slots) (hdg : decode cc pc = .ok (.newarray .boolean, 2))
    (kk : ∀ q : Nat, VV p l e R s m args below meth c (cells + 1) (slots + N') Q nL D cl A H0 (ws ++ [(q, .inl (cI, N', .inl (fun _ => 0)))]) (pc + 2) lv (.ref q :: st)) : VV p l e R s m args below meth c cells slots Q nL D cl A H0 ws pc lv (.int n :: st) :=
  fun H locs ls hP hD hS hl => va_newa (atype := .boolean) (ty := .boolean) (a0 := (N', .inl (fun _ => 0))) C.1 C.2.1 (C.2.2.2.2.1 _ harr) rfl C.2.2.2.2.2 hP hD hS hA (fun _ => rfl) hn hN hby hcells hslots hdg (fun q cA H1 hK1 hP1 hD1 hS1 => by
    have e1 : s.vm.findClass ("[" ++ FieldType.boolean.toString) = some cA := (hK1.2 tys.length (cA, .boolean) (by simp)).2
    have e2 : s.vm.findClass ("[" ++ FieldType.boolean.toString) = some cI := (C.2.2.2.2.2.2 t0 (cI, .boolean) ht).2
    have e3 : cA = cI := Option.some.inj (e1.symm.trans e2)
    subst e3
    exact kk q H1 locs ls hP1 hD1 hS1 hl)
theorem vv_newq (C : cx p s m args c cc own Ts nL D cl tys) {cI : ClassId} {K : String} {index : Nat} (t0 : Nat) (ht : tys[t0]? = some (cI, .object K)) (hcl : Cond.classLink own index K ∈ Ts) (hover : va_AO K s) (hA : ∀ q, H0.size ≤ q → A q) {n : Int32} (N' : Nat) (hn : ¬ n < 0) (hN : n.toNatClampNeg = N') (hby : N' * 4 ≤ 536870912) (hcells : cells + 1 ≤ R.cells) (hslots : slots + N' ≤ R.slots) (hdg : decode cc pc = .ok (.anewarray index, 3))
    (kk : ∀ q : Nat, VV p l e R s m args below meth c (cells + 1) (slots + N') Q nL D cl A H0 (ws ++ [(q, .inl (cI, N', .inr (.inr (.inr (.inr (fun _ => none))))))]) (pc + 3) lv (.ref q :: st)) : VV p l e R s m args below meth c cells slots Q nL D cl A H0 ws pc lv (.int n :: st) :=
  fun H locs ls hP hD hS hl => va_newq C.1 C.2.1 C.2.2.2.1 (C.2.2.2.2.1 _ hcl) hover C.2.2.2.2.2 hP hD hS hA hn hN hby hcells hslots hdg (fun q cA H1 hK1 hP1 hD1 hS1 => by
    obtain ⟨_, _, _, _, _, e1⟩ := (hK1.2 tys.length (cA, .object K) (by simp)).2
    obtain ⟨_, _, _, _, _, e2⟩ := (C.2.2.2.2.2.2 t0 (cI, .object K) ht).2
    have e3 : cA = cI := Option.some.inj (e1.symm.trans e2)
    subst e3
    exact kk q H1 locs ls hP1 hD1 hS1 hl)
theorem vv_putF (C : cx p s m args c cc own Ts nL D cl tys) (hnm0 : meth.name = "<init>") {ref K : String} {T : u_T} {N ci index a : Nat} (hin : ∀ w ∈ u_ws K T N, w ∈ Ts) (ty0 : Nat → FieldType) (hty : ∀ k, k < N → parseFieldDescriptor (T k).2.2.1 = some (ty0 k)) (hnm : ∀ a, a < N → ∀ b, b < N → a ≠ b → (T a).2.1 ≠ (T b).2.1) (q0 : Nat) {fs : List Value} (he : ws[q0]? = some (a, .inr (ci, fs))) (hc : cl[ci]? = some (K, T, N)) (k : Nat) (hk : k < N) (hlink : Cond.fieldLink own index ref (T k).2.1 (T k).2.2.1 ∈ Ts) (hsame : (T k).1 = ref) (hfin : (T k).2.2.2 = true) (hdecl : (T k).1 = own) {ty : FieldType} {v : Value} (hd : parseFieldDescriptor (T k).2.2.1 = some ty) (hn : narrow ty v = v) (hfit : fits ty v = true) (hlf : k < fs.length) {ws' : va_W} (hset : ws.set q0 (a, .inr (ci, fs.set k v)) = ws') (hdg : decode cc pc = .ok (.putfield index, 3))
    (kk : VV p l e R s m args below meth c cells slots Q nL D cl A H0 ws' (pc + 3) lv st) : VV p l e R s m args below meth c cells slots Q nL D cl A H0 ws pc lv (v :: .ref a :: st) :=
  fun H locs ls hP hD hS hl => va_putF C.1 C.2.1 C.2.2.2.2.1 hin ty0 hty hnm C.2.2.2.1 C.2.2.2.2.2 hP hD hS q0 he hc k hk (C.2.2.2.2.1 _ hlink) (fun _ h => hsame ▸ h) hfin hnm0 hdecl hd hn hfit hlf hdg (fun H1 locs1 hP1 hD1 hS1 => kk H1 locs1 ls (hset ▸ hP1) (hset ▸ hD1) hS1 hl)
theorem vv_objI (C : cx p s m args c cc own Ts nL D cl tys) {index a : Nat} (h1 : Cond.methodLink own index objectInit ∈ Ts) (h2 : Cond.instanceMethod objectInit ∈ Ts) (h3 : Cond.code objectInit ⟨#[0xb1]⟩ 1 none ∈ Ts) (hfr : 1 ≤ R.frames) (hlo : 20 ≤ R.locals) (hst : (st.map fun v => v.category).sum ≤ 8) (hdg : decode cc pc = .ok (.invokespecial index, 3))
    (kk : VV p l e R s m args below meth c cells slots Q nL D cl A H0 ws (pc + 3) lv st) : VV p l e R s m args below meth c cells slots Q nL D cl A H0 ws pc lv (.ref a :: st) :=
  fun H locs ls hP hD hS hl => W.objInit C.1 C.2.1 C.2.2.2.1 (C.2.2.2.2.1 _ h1) (C.2.2.2.2.1 _ h2) (C.2.2.2.2.1 _ h3) rfl (by rw [C.2.2.1]; exact hl.1) rfl hdg hfr (by have := lv_room (m := m) (pc := pc) (ls := ls) (rest := .ref a :: st) hst; omega) (W.eq (g2 := F0 m (pc + 3) ls st) rfl (kk H locs ls hP hD hS hl))
theorem vv_alenQ (C : cx p s m args c cc own Ts nL D cl tys) {a : Nat} (q0 t0 : Nat) {cA : ClassId} {x : vp_A} (ha : ws[q0]? = some (a, .inl (cA, x))) {ty : FieldType} (ht : tys[t0]? = some (cA, ty)) {v : Int32} (hv : Int32.ofNat x.1 = v) (hdg : decode cc pc = .ok (.arraylength, 1)) (kk : VV p l e R s m args below meth c cells slots Q nL D cl A H0 ws (pc + 1) lv (.int v :: st)) : VV p l e R s m args below meth c cells slots Q nL D cl A H0 ws pc lv (.ref a :: st) := vv_alen C q0 t0 ha ht hv hdg kk
/-- an array's contents in other words -/
theorem vv_fun (i : Nat) {a n : Nat} {cA : ClassId} {f : Nat → Option Nat} (f' : Nat → Option Nat) (hi : ws[i]? = some (a, .inl (cA, n, .inr (.inr (.inr (.inr f)))))) (hf : ∀ j, j < n → f' j = f j)
    (kk : VV p l e R s m args below meth c cells slots Q nL D cl A H0 (ws.set i (a, .inl (cA, n, .inr (.inr (.inr (.inr f')))))) pc lv st) : VV p l e R s m args below meth c cells slots Q nL D cl A H0 ws pc lv st := by
  intro H locs ls hP hD hS hl
  refine kk H locs ls (hP.set hD hi ?_ (fun _ _ => rfl)) (hD.set hi) hS hl
  have h1 : H[a]? = some (vp_cell cA (n, .inr (.inr (.inr (.inr f))))) := hP i _ hi
  show H[a]? = some (vp_cell cA (n, .inr (.inr (.inr (.inr f')))))
  rw [h1, vp_cell_q, vp_cell_q]
  unfold arrV
  congr 3
  funext j
  dsimp only
  rw [hf j.val j.isLt]
theorem vv_fuI (i : Nat) {a n : Nat} {cA : ClassId} {f : Nat → Int32} (f' : Nat → Int32) (hi : ws[i]? = some (a, .inl (cA, n, .inl f))) (hf : ∀ j, j < n → f' j = f j)
    (kk : VV p l e R s m args below meth c cells slots Q nL D cl A H0 (ws.set i (a, .inl (cA, n, .inl f'))) pc lv st) : VV p l e R s m args below meth c cells slots Q nL D cl A H0 ws pc lv st := by
  intro H locs ls hP hD hS hl
  refine kk H locs ls (hP.set hD hi ?_ (fun _ _ => rfl)) (hD.set hi) hS hl
  have h1 : H[a]? = some (vp_cell cA (n, .inl f)) := hP i _ hi
  show H[a]? = some (vp_cell cA (n, .inl f'))
  rw [h1, vp_cell_i, vp_cell_i]
  unfold arrV
  congr 3
  funext j
  dsimp only
  rw [hf j.val j.isLt]
/-- a constructor of the nest that makes nothing -/
theorem vv_initN (C : cx p s m args c cc own Ts nL D cl tys) {index maxL q : Nat} {y : MethodName} {host : String} {bytes : ByteArray} {wsC : List Cond} {rm : Room} {e0 e1 : va_E}
    (hM : Ct l y (Cond.code y bytes maxL none :: wsC) rm D cl tys (fun x => x = q) [.ref q] [(q, e0)] none [(q, e1)]) (hG : GoodIn Ts (Cond.code y bytes maxL none :: wsC)) (hl0 : va_Nw (.methodLinkNest own index y host) s) (hini : Cond.initialized y.cls ∈ Ts) (hin : Cond.instanceMethod y ∈ Ts) (hy1 : y.name = "<init>")
    (hdd : y.cls ≠ "java/lang/invoke/MethodHandle" ∧ y.cls ≠ "java/lang/invoke/VarHandle" ∧ (parseMethodDescriptor y.desc).map (fun d => d.parameters.length) = some 0) (q0 : Nat) (he : ws[q0]? = some (q, e0)) (hW : (st.map fun v => v.category).sum ≤ 8) (hR : fitsIn maxL rm R) (hcs : cells ≤ R.cells ∧ slots ≤ R.slots) (hdg : decode cc pc = .ok (.invokespecial index, 3))
    (kk : VV p l e R s m args below meth c cells slots Q nL D cl A H0 (ws.set q0 (q, e1)) (pc + 3) lv st) : VV p l e R s m args below meth c cells slots Q nL D cl A H0 ws pc lv (.ref q :: st) := by
  intro H locs ls hP hD hS hl
  obtain ⟨hx, hb, hml, hown, hts, hK⟩ := C
  obtain ⟨hR0, hR1, hR2⟩ := hR
  have h1 : va_P D cl [(q, e0)] H := fun k x hk => by
    have hk0 : k = 0 := by
      by_cases z : k = 0
      · exact z
      · rw [List.getElem?_eq_none (by simp; omega)] at hk; cases hk
    subst hk0
    cases hk
    exact hP q0 _ he
  have hq : A q := hD.2 q0 _ he
  have h2 : va_D (fun x => x = q) [(q, e0)] := ⟨fun i j x y hi hj _ => by
    have hi0 : i < 1 := (List.getElem?_eq_some_iff.mp hi).1
    have hj0 : j < 1 := (List.getElem?_eq_some_iff.mp hj).1
    omega, fun k x hk => by
    have hk0 : k < 1 := (List.getElem?_eq_some_iff.mp hk).1
    rw [show k = 0 by omega] at hk
    cases hk
    rfl⟩
  refine ct_go (G := fun x => x = q) (rest := st) (va_runIN (n := 0) (As := []) (b := q) ⟨hx, hb, hml, hown, hts⟩ hM ⟨va_cnB 0 hts hG rfl hR0 hR1 hl0 (hts _ hini) hdd hR2, hy1, hts _ hin⟩ ⟨ctP_blind, fun U hU hW => ⟨rfl, by rw [hU]; exact h1, va_K.moved hW.alike hK, h2⟩⟩ rfl rfl hl.1 rfl (lv_room hW) hdg ⟨by omega, by omega⟩) hS (fun x hx => by rw [hx]; exact hq) (fun H1 locs1 hP1 hS1 hz hk => ?_)
  have h3 : va_at D cl (q, e1) H1 := hP1 0 _ rfl
  refine kk H1 locs1 ls ?_ (hD.set he) hS1 hl
  intro k x hk2
  by_cases ck : k = q0
  · subst ck
    rw [List.getElem?_set_self (List.getElem?_eq_some_iff.mp he).1] at hk2
    cases hk2
    exact h3
  · rw [List.getElem?_set_ne (Ne.symm ck)] at hk2
    have h4 := hP k x hk2
    exact h4.kept (hk x.1 h4.lt (fun z => ck (hD.1 k q0 x (q, e0) hk2 he z)))
theorem ctn_of {y : MethodName} {bytes : ByteArray} {maxL : Nat} {wsC : List Cond} {rm : Room} {av : List Value} {X : State → Prop} {wc : va_W} {mc ms : Nat} {W' : (Nat → Nat) → va_W} (hy : plainName y.cls = true) (hlen : (lg_sl av).length ≤ maxL) (hyn : y.name = "<init>")
    (body : ∀ (p : Program) (e : Env) (s : State) (m : MethodId) (args : Array Value) (below : List Frame) (meth : Method) (c : Code), cx p s m args c bytes y.cls wsC maxL D cl tys → meth.sig.returnType = none → meth.locks = false → meth.name = "<init>" → X s →
      VV p l e rm s m args below meth c 0 0 (MQ below (va_Qv (fun _ : Nat → Nat => True) (fun a t => va_P D cl (W' a) t.heap ∧ va_D (va_A wc s.heap.size) (W' a)) (va_A wc s.heap.size)) args s mc ms (va_A wc s.heap.size)) maxL D cl (va_A wc s.heap.size) s.heap wc 0 (lv_args 0 av) []) : CtN l y (Cond.code y bytes maxL none :: wsC) rm D cl tys X av wc mc ms W' := by
  intro sz
  refine Met.ofW (cc := bytes) (maxL := maxL) (ret := none) hy rfl ?_
  intro p e s m args below meth c s₁ B hml hv
  obtain ⟨rfl, hsz, hP, hK, hD, hX⟩ := hv
  subst hsz
  have hts := atoms_spec (ws := Cond.code y bytes maxL none :: wsC) B.pre
  have hown : s.vm.findClass y.cls = some m.cls := findClass_of_methodNamed B.named
  have hin : meth.name = "<init>" := (name_of_methodNamed B.named B.method).1.trans hyn
  rw [lg_entry_eq]
  exact body p e s m _ below meth c ⟨B.exec, B.bytes, hml, hown, fun w h => hts w (List.mem_cons_of_mem _ h), hK⟩ B.returns B.notSynchronized hin hX s.heap [] _ hP hD.self va_S.rf (lv_entry av hlen)
theorem vv_retN (C : cx p s m args c cc own Ts nL D cl tys) (hr : meth.sig.returnType = none) (hlk : meth.locks = false) {mc ms : Nat} {W' : (Nat → Nat) → va_W} (a : Nat → Nat) (is : List Nat) (hn : va_nd is = true) (hs1 : is.filterMap (fun i => ws[i]?) = W' a) (hs2 : is.map (fun i => ws[i]?) = (W' a).map some) (hdg : decode cc pc = .ok (.return_, 1)) :
    VV p l e R s m args below meth c mc ms (MQ below (va_Qv (fun _ : Nat → Nat => True) (fun a t => va_P D cl (W' a) t.heap ∧ va_D A (W' a)) A) args s mc ms A) nL D cl A s.heap ws pc lv [] :=
  fun H locs ls hP hD hS hl => W.vret C.1 C.2.1 hr (fun t ht hW => ⟨⟨a, rfl, trivial, by rw [ht]; exact hP.sub is hs1, hD.sub is hn hs2⟩, hS.F ht⟩) hS.2.2 hdg hlk
/-- a constructor that makes cells -/
theorem vv_mk {X : State → Prop} (C : cx p s m args c cc own Ts nL D cl tys) {maxL q mc ms : Nat} {y : MethodName} {bytes : ByteArray} {wsC : List Cond} {rm : Room} {e0 : va_E} {W' : (Nat → Nat) → va_W}
    (hM : CtN l y (Cond.code y bytes maxL none :: wsC) rm D cl tys X [.ref q] [(q, e0)] mc ms W') (cw : ∀ H locs ls, va_P D cl ws H → va_D A ws → va_S A H0 H locs → lv_has ls nL lv → va_Run p l e R s m args below meth c H locs cells slots mc ms (F0 m pc ls (.ref q :: st)) st (va_Qv (fun _ : Nat → Nat => True) (fun a t => va_P D cl (W' a) t.heap ∧ va_D (va_A [(q, e0)] H.size) (W' a)) (va_A [(q, e0)] H.size) ([Value.ref q] : List Value).toArray) (va_A [(q, e0)] H.size))
    (hA : ∀ q, H0.size ≤ q → A q) (q0 : Nat) (he : [q0].map (fun i => ws[i]?) = [(q, e0)].map some) (isR : List Nat) {wr : va_W} (hRr : isR.map (fun i => ws[i]?) = wr.map some) (hnd : va_nd isR = true) (hdis : ∀ i ∈ isR, i ∉ [q0])
    (kk : ∀ a : Nat → Nat, VV p l e R s m args below meth c (cells + mc) (slots + ms) Q nL D cl A H0 (wr ++ W' a) (pc + 3) lv st) : VV p l e R s m args below meth c cells slots Q nL D cl A H0 ws pc lv (.ref q :: st) := by
  intro H locs ls hP hD hS hl
  have hF := va_free (wc := [(q, e0)]) hD hS hA [q0] he
  refine va_callv (cw H locs ls hP hD hS hl) hS (fun x _ hx => hF x hx) hF (fun a t H1 locs1 ht hvm _ hB hz1 hk1 hS1 => ?_)
  obtain ⟨hP1, hD1⟩ := hB
  rw [ht] at hP1
  obtain ⟨hP2, hD2⟩ := va_join (wr := wr) (w1 := W' a) hP hD [q0] isR he hRr hnd hdis hk1 hF hP1 hD1
  exact kk a H1 locs1 ls hP2 hD2 hS1 hl
theorem pcN_blind {X : State → Prop} (hX : ∀ (U : State) (g : JFrame) (mk : MethodId) (a : Array Value), X U → X (U.calling g mk a)) {wc : va_W} {av : List Value} {sz : Nat} : FrameBlind (va_Pc av (fun U => U.heap.size = sz ∧ va_P D cl wc U.heap ∧ va_K D cl tys U ∧ va_D (fun _ => True) wc ∧ X U)) := by
  intro a U g mk q
  obtain ⟨q0, q1, qP, qK, qD, qX⟩ := q
  exact ⟨q0, q1, qP, va_K.moved (u := U) (U := U.calling g mk a) (Vm.Alike.refl U.vm) qK, qD, hX U g mk a qX⟩
theorem vv_mkN (C : cx p s m args c cc own Ts nL D cl tys) (hX : XN s) {index maxL q mc ms : Nat} {y : MethodName} {host : String} {bytes : ByteArray} {wsC : List Cond} {rm : Room} {e0 : va_E} {W' : (Nat → Nat) → va_W}
    (hM : CtN l y (Cond.code y bytes maxL none :: wsC) rm D cl tys XN [.ref q] [(q, e0)] mc ms W') (hG : GoodIn Ts (Cond.code y bytes maxL none :: wsC)) (hrc : rm.cells = mc) (hrs : rm.slots = ms) (hl0 : va_Nw (.methodLinkNest own index y host) s) (hini : Cond.initialized y.cls ∈ Ts) (hin : Cond.instanceMethod y ∈ Ts) (hy1 : y.name = "<init>")
    (hdd : y.cls ≠ "java/lang/invoke/MethodHandle" ∧ y.cls ≠ "java/lang/invoke/VarHandle" ∧ (parseMethodDescriptor y.desc).map (fun d => d.parameters.length) = some 0) (hR : rm.frames + 1 ≤ R.frames ∧ 8 + (maxL + 11) + rm.locals ≤ R.locals) (hf : cells + mc ≤ R.cells ∧ slots + ms ≤ R.slots) (hW : (st.map fun v => v.category).sum ≤ 8) (hdg : decode cc pc = .ok (.invokespecial index, 3))
    (hA : ∀ q, H0.size ≤ q → A q) (q0 : Nat) (he : [q0].map (fun i => ws[i]?) = [(q, e0)].map some) (isR : List Nat) {wr : va_W} (hRr : isR.map (fun i => ws[i]?) = wr.map some) (hnd : va_nd isR = true) (hdis : ∀ i ∈ isR, i ∉ [q0])
    (kk : ∀ a : Nat → Nat, VV p l e R s m args below meth c (cells + mc) (slots + ms) Q nL D cl A H0 (wr ++ W' a) (pc + 3) lv st) : VV p l e R s m args below meth c cells slots Q nL D cl A H0 ws pc lv (.ref q :: st) := by
  refine vv_mk C hM (fun H locs ls hP hD hS hl => ?_) hA q0 he isR hRr hnd hdis kk
  obtain ⟨hx, hb, hml, hown, hts, hK⟩ := C
  have hs1 : [q0].filterMap (fun i => ws[i]?) = [(q, e0)] := by
    have h1 : ws[q0]? = some (q, e0) := by simpa using he
    simp [h1]
  have hPc := hP.sub [q0] hs1
  have hDc := hD.sub (ws' := [(q, e0)]) [q0] (by simp [va_nd]) he
  exact va_runIN (n := 0) (As := []) (b := q) ⟨hx, hb, hml, hown, hts⟩ (hM H.size) ⟨va_cnB 0 hts hG rfl hrc hrs hl0 (hts _ hini) hdd hR, hy1, hts _ hin⟩ ⟨pcN_blind (fun _ _ _ _ h => XN_call h), fun U hU hW => ⟨rfl, by rw [hU], by rw [hU]; exact hPc, va_K.moved hW.alike hK, hDc.weaken (fun _ _ _ _ => trivial), XN_warm hW hX⟩⟩ rfl rfl hl.1 rfl (lv_room hW) hdg hf
theorem vv_mkI (C : cx p s m args c cc own Ts nL D cl tys) (hX : XN s) {index maxL q mc ms : Nat} {y : MethodName} {bytes : ByteArray} {wsC : List Cond} {rm : Room} {e0 : va_E} {W' : (Nat → Nat) → va_W}
    (hM : CtN l y (Cond.code y bytes maxL none :: wsC) rm D cl tys XN [.ref q] [(q, e0)] mc ms W') (hG : GoodIn Ts (Cond.code y bytes maxL none :: wsC)) (hrc : rm.cells = mc) (hrs : rm.slots = ms) (hl0 : Cond.methodLink own index y ∈ Ts) (hini : Cond.initialized y.cls ∈ Ts) (hin : Cond.instanceMethod y ∈ Ts) (hy1 : y.name = "<init>")
    (hdd : y.cls ≠ "java/lang/invoke/MethodHandle" ∧ y.cls ≠ "java/lang/invoke/VarHandle" ∧ (parseMethodDescriptor y.desc).map (fun d => d.parameters.length) = some 0) (hR : rm.frames + 1 ≤ R.frames ∧ 8 + (maxL + 11) + rm.locals ≤ R.locals) (hf : cells + mc ≤ R.cells ∧ slots + ms ≤ R.slots) (hW : (st.map fun v => v.category).sum ≤ 8) (hdg : decode cc pc = .ok (.invokespecial index, 3))
    (hA : ∀ q, H0.size ≤ q → A q) (q0 : Nat) (he : [q0].map (fun i => ws[i]?) = [(q, e0)].map some) (isR : List Nat) {wr : va_W} (hRr : isR.map (fun i => ws[i]?) = wr.map some) (hnd : va_nd isR = true) (hdis : ∀ i ∈ isR, i ∉ [q0])
    (kk : ∀ a : Nat → Nat, VV p l e R s m args below meth c (cells + mc) (slots + ms) Q nL D cl A H0 (wr ++ W' a) (pc + 3) lv st) : VV p l e R s m args below meth c cells slots Q nL D cl A H0 ws pc lv (.ref q :: st) := by
  refine vv_mk C hM (fun H locs ls hP hD hS hl => ?_) hA q0 he isR hRr hnd hdis kk
  obtain ⟨hx, hb, hml, hown, hts, hK⟩ := C
  have hs1 : [q0].filterMap (fun i => ws[i]?) = [(q, e0)] := by
    have h1 : ws[q0]? = some (q, e0) := by simpa using he
    simp [h1]
  have hPc := hP.sub [q0] hs1
  have hDc := hD.sub (ws' := [(q, e0)]) [q0] (by simp [va_nd]) he
  exact va_runI (n := 0) (As := []) (b := q) ⟨hx, hb, hml, hown, hts⟩ (hM H.size) (cwI 0 hts hG rfl hrc hrs (hts _ hini) (hts _ hl0) (hts _ hin) hy1 hdd hR) ⟨pcN_blind (fun _ _ _ _ h => XN_call h), fun U hU hW => ⟨rfl, by rw [hU], by rw [hU]; exact hPc, va_K.moved hW.alike hK, hDc.weaken (fun _ _ _ _ => trivial), XN_warm hW hX⟩⟩ rfl rfl hl.1 rfl (lv_room hW) hdg hf
end CTN
