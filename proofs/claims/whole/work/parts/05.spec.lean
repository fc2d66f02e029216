/-! the class and the reference as functions of numbers. A state is f : Nat → Nat → Int32 (which field, which element; a single field at 0); of the class also which advisor stands at which place of the row -/
abbrev M2 : Type := Nat → Nat → Int32
def up2 (f : M2) (k i : Nat) (v : Int32) : M2 := fun k' => if k' = k then upd (f k) i v else f k'
def bI (b : Bool) : Int32 := if b = true then 1 else 0
abbrev ix (x : Int32) : Nat := x.toNatClampNeg
theorem bI_t {b : Bool} (h : ¬ bI b = 0) : b = true := by cases b <;> simp_all [bI]
theorem bI_f {b : Bool} (h : bI b = 0) : b = false := by cases b <;> simp_all [bI]
theorem bI_nar (b : Bool) : narrow .boolean (.int (bI b)) = .int (bI b) := by cases b <;> rfl
theorem bI_fit (b : Bool) : fits .boolean (.int (bI b)) = true := by cases b <;> rfl
theorem bI_vp (b : Bool) : vp_nar .boolean (bI b) = bI b := by cases b <;> rfl
/- the class. Numbers of its fields: 0 frozen 1 targetSource 2 nextInTurn 3 timesAsked 4 targetsTaken 5 value 6 there 7 nextNumber 8 length 9 methodAt 10 targetAt 11 noters 12 words; of an advisor: 13 number 14 kind 15 order 16 methods 17 a 18 b 19 hasRange 20 low 21 high; of a work: 22 factor 23 addend 24 failsAt 25 exception 26 next -/
abbrev SC : Type := M2 × (Nat → Nat)
def wr (u : SC) (k i : Nat) (v : Int32) : SC := (up2 u.1 k i v, u.2)
def kIsMethod (m : Int32) : Bool := if m < 0 then false else if 6 ≤ m then false else true
def kIsTarget (t : Int32) : Bool := if t < 0 then false else if 2 ≤ t then false else true
def kIsExc (e : Int32) : Bool := if e < 1 then false else if 15 < e then false else true
def kIsExcZ (e : Int32) : Bool := if e = 0 then true else kIsExc e
def kNums (kind a b : Int32) : Bool := if kind = 0 then kIsExc b else if kind = 4 then kIsExc b else if kind = 6 then kIsExc b else if kind = 5 then (if kIsExc a = true then kIsExcZ b else false) else if kind = 7 then kIsExc a else true
def kKindL : Nat → Int32 → Int32 → Bool
  | 0, _, _ => false
  | n + 1, g, t => if g ≤ 0 then false else if g = t then true else kKindL n (g / 2) t
def kKindOf (e t : Int32) : Bool := kKindL 31 e t
-- Trace
def kHas (u : SC) (i : Int32) : Bool := if i < 0 then false else if u.1 8 0 ≤ i then false else true
def kNote (u : SC) (n w : Int32) : Bool × SC := if 100 ≤ u.1 8 0 then (false, u) else (true, wr (wr (wr u 11 (ix (u.1 8 0)) n) 12 (ix (u.1 8 0)) w) 8 0 (u.1 8 0 + 1))
-- Advisor
def kInRange (u : SC) (k : Nat) (x : Int32) : Bool := if x < u.1 20 k then false else if u.1 21 k < x then false else true
def kAdvises (u : SC) (k : Nat) (m : Int32) : Bool := if u.1 16 k &&& ((1 : Int32) <<< (m &&& 31)) = 0 then false else true
def kBefore (u : SC) (k j : Nat) : Bool := if u.1 15 k < u.1 15 j then true else if u.1 15 k = u.1 15 j then (if u.1 13 j ≤ u.1 13 k then false else true) else false
def kGive (u : SC) (k : Nat) (lo hi : Int32) : SC := wr (wr (wr u 19 k 1) 20 k lo) 21 k hi
-- AdvisorRow
def kIsFull (u : SC) : Bool := if u.1 6 0 = 6 then true else false
def kPlaceL (u : SC) (n : Int32) : Nat → Int32 → Int32
  | 0, _ => -1
  | f + 1, p => if u.1 6 0 ≤ p then -1 else if u.1 13 (u.2 (ix p)) = n then p else kPlaceL u n f (p + 1)
def kPlaceOf (u : SC) (n : Int32) : Int32 := kPlaceL u n 7 0
def kChainL (u : SC) (m : Int32) : Nat → Int32 → Int32
  | 0, _ => -1
  | f + 1, p => if u.1 6 0 ≤ p then -1 else if kAdvises u (u.2 (ix p)) m = true then p else kChainL u m f (p + 1)
def kChainP (u : SC) (m from_ : Int32) : Int32 := kChainL u m 7 from_
def kNumL (u : SC) (m i : Int32) : Nat → Int32 → Int32 → Int32
  | 0, _, _ => -1
  | f + 1, bef, p => if u.1 6 0 ≤ p then -1 else if kAdvises u (u.2 (ix p)) m = true then (if bef = i then u.1 13 (u.2 (ix p)) else kNumL u m i f (bef + 1) (p + 1)) else kNumL u m i f bef (p + 1)
def kNumIn (u : SC) (m i : Int32) : Int32 := kNumL u m i 7 0 0
def kSwap (u : SC) (p : Int32) : SC := (u.1, va_up (va_up u.2 (ix p) (u.2 (ix (p + 1)))) (ix (p + 1)) (u.2 (ix p)))
def kUpL : Nat → SC → Int32 → SC
  | 0, u, _ => u
  | f + 1, u, a => if a ≤ 0 then u else if kBefore u (u.2 (ix a)) (u.2 (ix (a - 1))) = true then kUpL f (kSwap u (a - 1)) (a + (-1)) else u
def kDownL : Nat → SC → Int32 → SC
  | 0, u, _ => u
  | f + 1, u, a => if u.1 6 0 ≤ a + 1 then u else if kBefore u (u.2 (ix (a + 1))) (u.2 (ix a)) = true then kDownL f (kSwap u a) (a + 1) else u
def kSettle (u : SC) (p : Int32) : SC := kDownL 7 (kUpL 7 u p) p
def kMake (u : SC) (kind order methods a b : Int32) : Int32 × SC :=
  let k := u.2 (ix (u.1 6 0))
  let v := wr (wr (wr (wr (wr (wr (wr u 13 k (u.1 7 0)) 14 k kind) 15 k order) 16 k methods) 17 k a) 18 k b) 19 k 0
  let w := wr (wr v 7 0 (u.1 7 0 + 1)) 6 0 (u.1 6 0 + 1)
  let z := kSettle w (u.1 6 0 + 1 - 1)
  (z.1 13 k, z)
def kMove (u : SC) (p o : Int32) : SC := kSettle (wr u 15 (u.2 (ix p)) o) p
def kTakeL : Nat → SC → Int32 → SC
  | 0, u, _ => u
  | f + 1, u, a => if u.1 6 0 ≤ a then u else kTakeL f (kSwap u a) (a + 1)
def kTakeAway (u : SC) (p : Int32) : SC := kTakeL 7 (wr u 6 0 (u.1 6 0 - 1)) p
-- Work
def kFailsOn (u : SC) (j : Nat) (x : Int32) : Bool := if u.1 25 j = 0 then false else if x = u.1 24 j then true else false
def kReckon (u : SC) (j : Nat) (x : Int32) : Int32 := u.1 22 j * x + u.1 23 j
-- AdviceLinks
def kTake (u : SC) : Int32 × SC := if u.1 1 0 = 2 then (u.1 2 0, wr (wr u 4 0 (u.1 4 0 + 1)) 2 0 (1 - u.1 2 0)) else (u.1 1 0, wr u 4 0 (u.1 4 0 + 1))
abbrev Go : Type := Int32 → Int32 → Int32 → SC → Int32 × SC
def kBegin (go : Go) (m a d : Int32) (u : SC) : Int32 × SC := if 3 ≤ d then (1, wr u 5 0 15) else go d 0 a (wr (kTake (wr u 9 (ix d) m)).2 10 (ix d) (kTake (wr u 9 (ix d) m)).1)
def kWorkR (go : Go) (j : Nat) (d x : Int32) (n : Bool × SC) : Int32 × SC :=
  if n.1 = false then (2, wr n.2 5 0 0) else if kFailsOn n.2 j x = true then (1, wr n.2 5 0 (n.2.1 25 j)) else if n.2.1 26 j = -1 then (0, wr n.2 5 0 (kReckon n.2 j x)) else if x ≤ 0 then (0, wr n.2 5 0 (kReckon n.2 j x))
  else if (kBegin go (n.2.1 26 j) (x - 1) (d + 1) n.2).1 = 0 then (0, wr (kBegin go (n.2.1 26 j) (x - 1) (d + 1) n.2).2 5 0 (kReckon (kBegin go (n.2.1 26 j) (x - 1) (d + 1) n.2).2 j ((kBegin go (n.2.1 26 j) (x - 1) (d + 1) n.2).2.1 5 0))) else kBegin go (n.2.1 26 j) (x - 1) (d + 1) n.2
def kWork (go : Go) (d x : Int32) (u : SC) : Int32 × SC := kWorkR go (ix (u.1 10 (ix d) * 6 + u.1 9 (ix d))) d x (kNote u (100 + u.1 9 (ix d)) x)
def kBef (go : Go) (k : Nat) (d b x : Int32) (u : SC) : Int32 × SC :=
  let n := kNote u (u.1 13 k) x
  if n.1 = false then (2, wr n.2 5 0 0) else if x = n.2.1 17 k then (1, wr n.2 5 0 (n.2.1 18 k)) else go d b x n.2
def kChg (go : Go) (k : Nat) (d b x : Int32) (u : SC) : Int32 × SC :=
  let n := kNote u (u.1 13 k) x
  if n.1 = false then (2, wr n.2 5 0 0) else
  let r := go d b (x + n.2.1 17 k) n.2
  if r.1 = 0 then (0, wr r.2 5 0 (r.2.1 5 0 + r.2.1 18 k)) else r
def kSkp (go : Go) (k : Nat) (d b x : Int32) (u : SC) : Int32 × SC :=
  let n := kNote u (u.1 13 k) x
  if n.1 = false then (2, wr n.2 5 0 0) else if x < n.2.1 17 k then (0, wr n.2 5 0 (n.2.1 18 k)) else go d b x n.2
def kTwi (go : Go) (k : Nat) (d b x : Int32) (u : SC) : Int32 × SC :=
  let n := kNote u (u.1 13 k) x
  if n.1 = false then (2, wr n.2 5 0 0) else
  let r := go d b x n.2
  if r.1 = 0 then
    let q := go d b (x + r.2.1 17 k) r.2
    if q.1 = 0 then (0, wr q.2 5 0 (r.2.1 5 0 + q.2.1 5 0 + q.2.1 18 k)) else q
  else r
def kRet (go : Go) (k : Nat) (d b x : Int32) (u : SC) : Int32 × SC :=
  let r := go d b x u
  if r.1 = 0 then
    let n := kNote r.2 (r.2.1 13 k) (r.2.1 5 0)
    if n.1 = false then (2, wr n.2 5 0 0) else if n.2.1 5 0 = n.2.1 17 k then (1, wr n.2 5 0 (n.2.1 18 k)) else (0, n.2)
  else r
def kThr (go : Go) (k : Nat) (d b x : Int32) (u : SC) : Int32 × SC :=
  let r := go d b x u
  if r.1 = 1 then
    if kKindOf (r.2.1 5 0) (r.2.1 17 k) = false then r else
    let n := kNote r.2 (r.2.1 13 k) (r.2.1 5 0)
    if n.1 = false then (2, wr n.2 5 0 0) else if n.2.1 18 k = 0 then (1, n.2) else (1, wr n.2 5 0 (n.2.1 18 k))
  else r
def kFin (go : Go) (k : Nat) (d b x : Int32) (u : SC) : Int32 × SC :=
  let r := go d b x u
  if r.1 = 2 then (2, r.2) else
  let n := kNote r.2 (r.2.1 13 k) x
  if n.1 = false then (2, wr n.2 5 0 0) else if x = n.2.1 17 k then (1, wr n.2 5 0 (n.2.1 18 k)) else (r.1, n.2)
def kRec (go : Go) (k : Nat) (d b x : Int32) (u : SC) : Int32 × SC :=
  let r := go d b x u
  if r.1 = 1 then
    if kKindOf (r.2.1 5 0) (r.2.1 17 k) = false then r else
    let n := kNote r.2 (r.2.1 13 k) (r.2.1 5 0)
    if n.1 = false then (2, wr n.2 5 0 0) else (0, wr n.2 5 0 (n.2.1 18 k))
  else r
def kAct (go : Go) (k : Nat) (d b x : Int32) (u : SC) : Int32 × SC :=
  if u.1 14 k = 0 then kBef go k d b x u else if u.1 14 k = 1 then kChg go k d b x u else if u.1 14 k = 2 then kSkp go k d b x u else if u.1 14 k = 3 then kTwi go k d b x u
  else if u.1 14 k = 4 then kRet go k d b x u else if u.1 14 k = 5 then kThr go k d b x u else if u.1 14 k = 6 then kFin go k d b x u else kRec go k d b x u
def kAlong (go : Go) (d from_ x : Int32) (u : SC) : Int32 × SC :=
  let p := kChainP u (u.1 9 (ix d)) from_
  if p = -1 then kWork go d x u else
  let k := u.2 (ix p)
  if u.1 19 k = 0 then kAct go k d (p + 1) x u else
  let v := wr u 3 0 (u.1 3 0 + 1)
  if kInRange v k x = true then kAct go k d (p + 1) x v else go d (p + 1) x v
def kGo : Nat → Go
  | 0 => fun _ _ _ u => (0, u)
  | n + 1 => kAlong (kGo n)
def kInvoke (u : SC) (m a : Int32) : Int32 × SC := if kIsMethod m = false then (-1, u) else kBegin (kGo 22) m a 0 (wr (wr (wr u 8 0 0) 3 0 0) 4 0 0)
def kAdvise (u : SC) (kind order methods a b : Int32) : Int32 × SC :=
  if u.1 0 0 = 0 then (if kIsFull u = true then (-1, u) else if kind < 0 then (-1, u) else if 7 < kind then (-1, u) else if methods < 1 then (-1, u) else if 63 < methods then (-1, u) else if kNums kind a b = false then (-1, u) else kMake u kind order methods a b) else (-1, u)
def kWhen (u : SC) (ad lo hi : Int32) : Bool × SC :=
  let p := kPlaceOf u ad
  if u.1 0 0 = 0 then (if p = -1 then (false, u) else if hi < lo then (false, u) else (true, kGive u (u.2 (ix p)) lo hi)) else (false, u)
def kReorder (u : SC) (ad o : Int32) : Bool × SC :=
  let p := kPlaceOf u ad
  if u.1 0 0 = 0 then (if p = -1 then (false, u) else (true, kMove u p o)) else (false, u)
def kRemove (u : SC) (ad : Int32) : Bool × SC :=
  let p := kPlaceOf u ad
  if u.1 0 0 = 0 then (if p = -1 then (false, u) else (true, kTakeAway u p)) else (false, u)
def kFreeze (u : SC) (b : Bool) : SC := wr u 0 0 (bI b)
def kPlan (u : SC) (t m f a : Int32) : Bool × SC := if kIsTarget t = false then (false, u) else if kIsMethod m = false then (false, u) else (true, wr (wr u 22 (ix (t * 6 + m)) f) 23 (ix (t * 6 + m)) a)
def kFail (u : SC) (t m a e : Int32) : Bool × SC := if kIsTarget t = false then (false, u) else if kIsMethod m = false then (false, u) else if kIsExcZ e = false then (false, u) else (true, wr (wr u 24 (ix (t * 6 + m)) a) 25 (ix (t * 6 + m)) e)
def kCalls (u : SC) (t m n : Int32) : Bool × SC := if kIsTarget t = false then (false, u) else if kIsMethod m = false then (false, u) else if n = -1 then (true, wr u 26 (ix (t * 6 + m)) n) else if kIsMethod n = false then (false, u) else (true, wr u 26 (ix (t * 6 + m)) n)
def kSource (u : SC) (s : Int32) : Bool × SC := if s < 0 then (false, u) else if 2 < s then (false, u) else (true, wr (wr u 1 0 s) 2 0 0)
def kWho (u : SC) (i : Int32) : Int32 := if kHas u i = true then u.1 11 (ix i) else -1
def kWhat (u : SC) (i : Int32) : Int32 := if kHas u i = true then u.1 12 (ix i) else 0
def kChain (u : SC) (m i : Int32) : Int32 := if kIsMethod m = true then kNumIn u m i else -1
/- the reference. Numbers of its fields: 0 there 1 next 2 frozen 3 name 4 kind 5 order 6 methods 7 first 8 second 9 ranged 10 low 11 high 12 factor 13 addend 14 failsAt 15 failure 16 leads 17 source 18 turns 19 noted 20 whoNoted 21 whatNoted 22 askedCount 23 takenCount 24 outcome 25 broken 26 depth 27 method 28 target 29 waiting 30 waits 31 waitsPlace 32 waitsAdvisor 33 waitsX 34 waitsR 35 waitsAgain 36 along 37 place 38 x 39 threw 40 value -/
def qWithin (v lo hi : Int32) : Bool := if v < lo then false else if hi < v then false else true
def qIsExc (e : Int32) : Bool := qWithin e 1 15
def qFits (kind a b : Int32) : Bool := if kind = 0 then qIsExc b else if kind = 4 then qIsExc b else if kind = 6 then qIsExc b else if kind = 5 then (if qIsExc a = true then qWithin b 0 15 else false) else if kind = 7 then qIsExc a else true
def qPut (t : M2) (k o set a b : Int32) : M2 := up2 (up2 (up2 (up2 (up2 (up2 (up2 (up2 (up2 t 3 (ix (t 0 0)) (t 1 0)) 4 (ix (t 0 0)) k) 5 (ix (t 0 0)) o) 6 (ix (t 0 0)) set) 7 (ix (t 0 0)) a) 8 (ix (t 0 0)) b) 9 (ix (t 0 0)) 0) 0 0 (t 0 0 + 1)) 1 0 (t 1 0 + 1)
def qAdvise (t : M2) (k o set a b : Int32) : Int32 × M2 :=
  if t 2 0 = 0 then (if t 0 0 = 6 then (-1, t) else if qWithin k 0 7 = false then (-1, t) else if qWithin set 1 63 = false then (-1, t) else if qFits k a b = false then (-1, t) else (t 1 0 + 1 - 1, qPut t k o set a b)) else (-1, t)
def qFindL (t : M2) (ad : Int32) : Nat → Int32 → Int32 → Int32
  | 0, _, r => r
  | f + 1, k, r => if t 0 0 ≤ k then r else qFindL t ad f (k + 1) (if t 3 (ix k) = ad then k else r)
def qFind (t : M2) (ad : Int32) : Int32 := qFindL t ad 7 0 (-1)
def qWhen (t : M2) (ad lo hi : Int32) : Bool × M2 :=
  if t 2 0 = 0 then (if qFind t ad < 0 then (false, t) else if hi < lo then (false, t) else (true, up2 (up2 (up2 t 9 (ix (qFind t ad)) 1) 10 (ix (qFind t ad)) lo) 11 (ix (qFind t ad)) hi)) else (false, t)
def qReorder (t : M2) (ad o : Int32) : Bool × M2 :=
  if t 2 0 = 0 then (if qFind t ad < 0 then (false, t) else (true, up2 t 5 (ix (qFind t ad)) o)) else (false, t)
def qShift (t : M2) (k : Int32) : M2 :=
  up2 (up2 (up2 (up2 (up2 (up2 (up2 (up2 (up2 t 3 (ix k) (t 3 (ix (k + 1)))) 4 (ix k) (t 4 (ix (k + 1)))) 5 (ix k) (t 5 (ix (k + 1)))) 6 (ix k) (t 6 (ix (k + 1)))) 7 (ix k) (t 7 (ix (k + 1)))) 8 (ix k) (t 8 (ix (k + 1)))) 9 (ix k) (vp_nar .boolean (t 9 (ix (k + 1))))) 10 (ix k) (t 10 (ix (k + 1)))) 11 (ix k) (t 11 (ix (k + 1)))
def qShiftL : Nat → M2 → Int32 → M2
  | 0, t, _ => t
  | f + 1, t, k => if t 0 0 ≤ k then t else qShiftL f (qShift t k) (k + 1)
def qRemove (t : M2) (ad : Int32) : Bool × M2 :=
  if t 2 0 = 0 then (if qFind t ad < 0 then (false, t) else (true, qShiftL 7 (up2 t 0 0 (t 0 0 - 1)) (qFind t ad))) else (false, t)
def qFreeze (t : M2) (b : Bool) : M2 := up2 t 2 0 (bI b)
def qAhead (t : M2) (q k : Int32) : Bool := if t 5 (ix q) < t 5 (ix k) then true else if t 5 (ix q) = t 5 (ix k) then (if q < k then true else false) else false
def qBit (t : M2) (q m : Int32) : Bool := if (t 6 (ix q) >>> (m &&& 31)) &&& 1 = 1 then true else false
def qCntL (t : M2) (m k : Int32) : Nat → Int32 → Int32 → Int32
  | 0, _, b => b
  | f + 1, q, b => if t 0 0 ≤ q then b else qCntL t m k f (q + 1) (if qAhead t q k = true then (if qBit t q m = true then b + 1 else b) else b)
def qCnt (t : M2) (m k : Int32) : Int32 := qCntL t m k 7 0 0
def qLinkL (t : M2) (m pl : Int32) : Nat → Int32 → Int32
  | 0, _ => -1
  | f + 1, k => if t 0 0 ≤ k then -1 else if qBit t k m = true then (if qCnt t m k = pl then k else qLinkL t m pl f (k + 1)) else qLinkL t m pl f (k + 1)
def qLinked (t : M2) (m pl : Int32) : Int32 := qLinkL t m pl 7 0
def qChain (t : M2) (m i : Int32) : Int32 := if qWithin m 0 5 = true then (if qLinked t m i < 0 then -1 else t 3 (ix (qLinked t m i))) else -1
def qIsCell (t m : Int32) : Bool := if qWithin t 0 1 = true then qWithin m 0 5 else false
def qPlan (u : M2) (t m f a : Int32) : Bool × M2 := if qIsCell t m = false then (false, u) else (true, up2 (up2 u 12 (ix (6 * t + m)) f) 13 (ix (6 * t + m)) a)
def qFail (u : M2) (t m a e : Int32) : Bool × M2 := if qIsCell t m = false then (false, u) else if qWithin e 0 15 = false then (false, u) else (true, up2 (up2 u 14 (ix (6 * t + m)) a) 15 (ix (6 * t + m)) e)
def qCalls (u : M2) (t m n : Int32) : Bool × M2 := if qIsCell t m = false then (false, u) else if qWithin n (-1) 5 = false then (false, u) else (true, up2 u 16 (ix (6 * t + m)) n)
def qSource (u : M2) (s : Int32) : Bool × M2 := if qWithin s 0 2 = false then (false, u) else (true, up2 (up2 u 17 0 s) 18 0 0)
def qNote (t : M2) (who what : Int32) : M2 := if t 19 0 = 100 then up2 t 25 0 1 else up2 (up2 (up2 t 20 (ix (t 19 0)) who) 21 (ix (t 19 0)) what) 19 0 (t 19 0 + 1)
def qIsOneL : Nat → Int32 → Int32 → Bool
  | 0, k, t => if k = t then true else false
  | f + 1, k, t => if k ≤ t then (if k = t then true else false) else qIsOneL f (k / 2) t
def qIsOne (e t : Int32) : Bool := qIsOneL 31 e t
def qGo (t : M2) (from_ z : Int32) : M2 := up2 (up2 (up2 t 36 0 1) 37 0 from_) 38 0 z
def qComes (t : M2) (b : Bool) (v : Int32) : M2 := up2 (up2 (up2 t 36 0 0) 39 0 (bI b)) 40 0 v
def qAwait (t : M2) (what adv : Int32) : M2 := up2 (up2 (up2 (up2 (up2 (up2 t 30 (ix (t 29 0)) what) 31 (ix (t 29 0)) (t 37 0)) 32 (ix (t 29 0)) adv) 33 (ix (t 29 0)) (t 38 0)) 35 (ix (t 29 0)) 0) 29 0 (t 29 0 + 1)
def qEnt (t : M2) (m : Int32) : M2 := up2 (up2 (up2 (up2 (up2 t 26 0 (t 26 0 + 1)) 23 0 (t 23 0 + 1)) 27 (ix (t 26 0 + 1)) m) 28 (ix (t 26 0 + 1)) (if t 17 0 = 2 then t 18 0 else t 17 0)) 18 0 (if t 17 0 = 2 then 1 - t 18 0 else t 18 0)
def qEnter (t : M2) (m a : Int32) : M2 := if t 26 0 = 3 then qComes t true 15 else qGo (qAwait (qEnt t m) 9 (-1)) 0 a
def qWorkR (t : M2) (c : Int32) : M2 :=
  if 0 < t 15 (ix c) ∧ t 14 (ix c) = t 38 0 then qComes t true (t 15 (ix c)) else if ¬ t 16 (ix c) = -1 ∧ 0 < t 38 0 then qEnter (qAwait t 8 c) (t 16 (ix c)) (t 38 0 - 1) else qComes t false (t 12 (ix c) * t 38 0 + t 13 (ix c))
def qWork (t : M2) : M2 :=
  if (qNote t (100 + t 27 (ix (t 26 0))) (t 38 0)) 25 0 = 0 then qWorkR (qNote t (100 + t 27 (ix (t 26 0))) (t 38 0)) (6 * t 28 (ix (t 26 0)) + t 27 (ix (t 26 0))) else qNote t (100 + t 27 (ix (t 26 0))) (t 38 0)
def qStepC (t : M2) (k : Int32) : M2 :=
  if t 25 0 = 0 then
    (if t 4 (ix k) = 0 ∧ t 38 0 = t 7 (ix k) then qComes t true (t 8 (ix k)) else if t 4 (ix k) = 2 ∧ t 38 0 < t 7 (ix k) then qComes t false (t 8 (ix k)) else if t 4 (ix k) = 0 ∨ t 4 (ix k) = 2 then up2 t 37 0 (t 37 0 + 1)
     else qGo (qAwait t (t 4 (ix k)) k) (t 37 0 + 1) (if t 4 (ix k) = 1 then t 38 0 + t 7 (ix k) else t 38 0))
  else t
def qStepB (t : M2) (k : Int32) : M2 := if t 4 (ix k) ≤ 3 then qStepC (qNote t (t 3 (ix k)) (t 38 0)) k else qStepC t k
def qStepA (t : M2) (k : Int32) : M2 :=
  if t 9 (ix k) = 0 then qStepB t k else if qWithin (t 38 0) (t 10 (ix k)) (t 11 (ix k)) = true then qStepB (up2 t 22 0 (t 22 0 + 1)) k else up2 (up2 t 22 0 (t 22 0 + 1)) 37 0 (t 37 0 + 1)
def qStep (t : M2) : M2 := if qLinked t (t 27 (ix (t 26 0))) (t 37 0) < 0 then qWork t else qStepA t (qLinked t (t 27 (ix (t 26 0))) (t 37 0))
def qTwice (t : M2) (k : Int32) : M2 :=
  if t 39 0 = 0 then
    (if t 35 (ix (t 29 0)) = 0 then (let v := qGo (up2 (up2 t 35 (ix (t 29 0)) 1) 34 (ix (t 29 0)) (t 40 0)) (t 31 (ix (t 29 0)) + 1) (t 33 (ix (t 29 0)) + t 7 (ix k)); up2 v 29 0 (t 29 0 + 1))
     else up2 t 40 0 (t 34 (ix (t 29 0)) + t 40 0 + t 8 (ix k)))
  else t
def qBackR (t : M2) (w k : Int32) : M2 :=
  if w = 9 then up2 t 26 0 (t 26 0 - 1)
  else if w = 8 then up2 t 40 0 (if t 39 0 = 0 then t 12 (ix k) * t 40 0 + t 13 (ix k) else t 40 0)
  else if w = 1 then up2 t 40 0 (if t 39 0 = 0 then t 40 0 + t 8 (ix k) else t 40 0)
  else if w = 3 then qTwice t k
  else if w = 6 then (let v := qNote t (t 3 (ix k)) (t 33 (ix (t 29 0))); if v 33 (ix (v 29 0)) = v 7 (ix k) then qComes v true (v 8 (ix k)) else v)
  else if w = 4 ∧ t 39 0 = 0 then (let v := qNote t (t 3 (ix k)) (t 40 0); if v 40 0 = v 7 (ix k) then qComes v true (v 8 (ix k)) else v)
  else if 5 ≤ w ∧ ¬ t 39 0 = 0 ∧ qIsOne (t 40 0) (t 7 (ix k)) = true then (let v := qNote t (t 3 (ix k)) (t 40 0); if w = 5 then qComes v true (if v 8 (ix k) = 0 then v 40 0 else v 8 (ix k)) else qComes v false (v 8 (ix k)))
  else t
def qBack (t : M2) : M2 := qBackR (up2 t 29 0 (t 29 0 - 1)) (t 30 (ix (t 29 0 - 1))) (t 32 (ix (t 29 0 - 1)))
def qMore (t : M2) : Bool := if t 25 0 = 0 then (if t 36 0 = 0 then (if t 29 0 ≤ 0 then false else true) else true) else false
def qRun (t : M2) : M2 := if t 36 0 = 0 then qBack t else qStep t
def qIt : Nat → M2 → M2
  | 0, t => t
  | n + 1, t => qIt n (qRun t)
def qStart (t : M2) (m a : Int32) : M2 := qEnter (up2 (up2 (up2 (up2 (up2 (up2 t 19 0 0) 22 0 0) 23 0 0) 25 0 0) 26 0 0) 29 0 0) m a
def qEnd (t : M2) : Int32 × M2 := (if t 25 0 = 0 then (if t 39 0 = 0 then 0 else 1) else 2, up2 t 24 0 (if t 25 0 = 0 then t 40 0 else 0))
def qWho (t : M2) (i : Int32) : Int32 := if qWithin i 0 (t 19 0 - 1) = true then t 20 (ix i) else -1
def qWhat (t : M2) (i : Int32) : Int32 := if qWithin i 0 (t 19 0 - 1) = true then t 21 (ix i) else 0
