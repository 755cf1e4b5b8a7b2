/-- column k is in the mask -/
def bitm (m : Int32) (k : Nat) : Bool := ((m >>> (Int32.ofNat k &&& 31)) &&& 1) == 1
abbrev tabOk (a : AS) (t : Int32) : Prop := 0 ≤ t.toInt ∧ t.toInt < a.tn.toInt
abbrev maskOk (m : Int32) : Prop := 0 ≤ m.toInt ∧ m.toInt ≤ 15
abbrev timeOk (a : AS) (q : Int32) : Prop := q.toInt = -1 ∨ a.hz ≤ q.toInt ∧ q.toInt ≤ a.tm
def timeOf (a : AS) (q : Int32) : Int := if q.toInt = -1 then a.tm else q.toInt
def fitB (a : AS) (t : Nat) (m : Int32) (vs : Nat → Int32) (n : Nat) : Bool := (List.range 4).all fun k => !(bitm m k && decide ((k : Int) < (a.co t).toInt)) || a.fc n k == vs k
def likeB (a : AS) (m : Int32) (n g : Nat) : Bool := (List.range 4).all fun k => !(bitm m k) || a.fc n k == a.fc g k
def thereB (a : AS) (T : Int) (n : Nat) : Bool := decide (a.fb n ≤ T ∧ (a.fd n < 0 ∨ T < a.fd n))
def aliveB (a : AS) (n : Nat) : Bool := decide (a.fd n < 0)
/-- all facts that are kept -/
def allF (a : AS) : List Nat := (List.range 12).flatMap a.rw
/-- a change is noted while a mark is there -/
def noteA (a : AS) (n : Nat) (w : Bool) : AS := if a.mk = [] then a else a.w_hs (a.hs ++ [(n, w)])
/-- a fact goes -/
def goA (a : AS) (n : Nat) : AS := noteA ((a.w_tm (a.tm + 1)).w_fd (va_up a.fd n (a.tm + 1))) n true
/-- a fact comes; it has yet to be placed -/
def newA (a : AS) (t : Nat) (cs : Nat → Int32) : AS := noteA ((((((((a.w_tm (a.tm + 1)).w_nn (a.nn + 1)).w_fc (va_up a.fc a.nn cs)).w_fb (va_up a.fb a.nn (a.tm + 1))).w_fd (va_up a.fd a.nn (-1))).w_ft (va_up a.ft a.nn t)).w_sn (va_up a.sn a.nn a.nn))) a.nn false
def putA (a : AS) (t : Nat) (L : List Nat) : AS := a.w_rw (va_up a.rw t L)
def insA (n g : Nat) : List Nat → List Nat
  | [] => []
  | x :: L => if x = n then x :: g :: L else x :: insA n g L
def twinB (a : AS) (m : Int32) : List Nat → Bool
  | [] => false
  | n :: L => (aliveB a n && L.any (fun g => aliveB a g && likeB a m n g)) || twinB a m L
/-- one that is there has the same in a key -/
def breakB (a : AS) (t : Nat) : Bool := (a.ky t).any fun m => (a.rw t).any fun n => aliveB a n && fitB a t m a.vv n
def num (n : Nat) : Int32 := Int32.ofNat n
def numO : Option Nat → Int32
  | none => -1
  | some n => num n
def nx_feed (a : AS) (p1 p2 p3 p4 p5 : Int32) : AS := a.w_1 (nx1_feed a.1 p1 p2 p3 p4 p5)
def OK_feed (a : AS) (p1 p2 p3 p4 p5 : Int32) : Int32 → Int32 → Prop := OK1_feed a.1 p1 p2 p3 p4 p5
def nx_end (a : AS) (p1 : Int32) : AS := a.w_1 (nx1_end a.1 p1)
def OK_end (a : AS) (p1 : Int32) : Int32 → Int32 → Prop := OK1_end a.1 p1
def nx_value (a : AS) (p1 p2 : Int32) : AS := a.w_1 (nx1_value a.1 p1 p2)
def OK_value (a : AS) (p1 p2 : Int32) : Int32 → Int32 → Prop := OK1_value a.1 p1 p2
def nx_table (a : AS) (p1 : Int32) : AS := a.w_1 (nx1_table a.1 p1)
def OK_table (a : AS) (p1 : Int32) : Int32 → Int32 → Prop := OK1_table a.1 p1
def nx_index (a : AS) (p1 p2 : Int32) : AS := a.w_1 (nx1_index a.1 p1 p2)
def OK_index (a : AS) (p1 p2 : Int32) : Int32 → Int32 → Prop := OK1_index a.1 p1 p2
def nx_question (a : AS) (p1 : Int32) : AS := a.w_1 (nx1_question a.1 p1)
def OK_question (a : AS) (p1 : Int32) : Int32 → Int32 → Prop := fun _ _ => True
def nx_solution (a : AS) (p1 p2 : Int32) : AS := a
def OK_solution (a : AS) (p1 p2 : Int32) : Int32 → Int32 → Prop := fun _ _ => True
def nx_count (a : AS) (p1 : Int32) : AS := a
def OK_count (a : AS) (p1 : Int32) : Int32 → Int32 → Prop := fun _ _ => True
/-- a new key -/
abbrev keyNew (a : AS) (t m : Int32) : Prop := tabOk a t ∧ (1 ≤ m.toInt ∧ m.toInt < 2 ^ (a.co (ix t)).toInt.toNat) ∧ m ∉ a.ky (ix t) ∧ twinB a m (a.rw (ix t)) = false ∧ (a.ky (ix t)).length < 3
def nx_key (a : AS) (t m : Int32) : AS := if keyNew a t m then a.w_ky (va_up a.ky (ix t) (a.ky (ix t) ++ [m])) else a
def OK_key (a : AS) (t m : Int32) : Int32 → Int32 → Prop := fun _ _ => True
def addCd (a : AS) (t h : Int32) : Int32 := if 0 ≤ h.toInt ∧ h.toInt ≤ 1 then (if tabOk a t then (if breakB a (ix t) then 3 else if (allF a).length = 3000 then 4 else 0) else 2) else 1
def addCs (a : AS) (t : Nat) (k : Nat) : Int32 := if (k : Int) < (a.co t).toInt then a.vv k else 0
def addA (a : AS) (t : Nat) (h : Int32) : AS := putA (newA a t (addCs a t)) t (if h.toInt = 1 then a.nn :: a.rw t else a.rw t ++ [a.nn])
def nx_add (a : AS) (t h : Int32) : AS := if addCd a t h = 0 then addA a (ix t) h else a
def OK_add (a : AS) (t h : Int32) : Int32 → Int32 → Prop := EX (addCd a t h) (num a.nn)
/-- mask and table, as remove asks for them -/
def remCd (a : AS) (t m l : Int32) : Int32 := if maskOk m ∧ 0 ≤ l.toInt ∧ l.toInt ≤ 1 then (if tabOk a t then 0 else 2) else 1
def remT (a : AS) (t : Nat) (m : Int32) : List Nat := (a.rw t).filter fun n => aliveB a n && fitB a t m a.vv n
def goL (a : AS) (L : List Nat) : AS := L.foldl goA a
def nx_remove (a : AS) (t m l : Int32) : AS := if remCd a t m l = 0 then (if l.toInt = 0 then goL a ((remT a (ix t) m).take 1) else goL a (remT a (ix t) m)) else a
def OK_remove (a : AS) (t m l : Int32) : Int32 → Int32 → Prop := EX (remCd a t m l) (if l.toInt = 0 then numO (remT a (ix t) m).head? else num (remT a (ix t) m).length)
/-- mask, time and table -/
def askCd (a : AS) (t m q : Int32) : Int32 := if maskOk m ∧ timeOk a q then (if tabOk a t then 0 else 2) else 1
def askB (a : AS) (t : Nat) (m : Int32) (vs : Nat → Int32) (T : Int) (n : Nat) : Bool := thereB a T n && fitB a t m vs n
def nx_find (a : AS) (t m q : Int32) : AS := a
def OK_find (a : AS) (t m q : Int32) : Int32 → Int32 → Prop := EX (askCd a t m q) (numO ((a.rw (ix t)).find? (askB a (ix t) m a.vv (timeOf a q))))
def nx_many (a : AS) (t m q : Int32) : AS := a
def OK_many (a : AS) (t m q : Int32) : Int32 → Int32 → Prop := EX (askCd a t m q) (num ((a.rw (ix t)).filter (askB a (ix t) m a.vv (timeOf a q))).length)
/-- the least cursor that is free; 10: none -/
def freeC (op : Nat → Bool) : Nat := ((List.range 10).find? fun i => !(op i)).getD 10
def openCd (a : AS) (t m q : Int32) : Int32 := if maskOk m ∧ timeOk a q then (if tabOk a t then (if freeC a.op = 10 then 3 else 0) else 2) else 1
def openA (a : AS) (c t : Nat) (m : Int32) (T : Int) : AS := (((((((a.w_op (va_up a.op c true)).w_ov (va_up a.ov c false)).w_ct (va_up a.ct c t)).w_cm (va_up a.cm c m)).w_ci (va_up a.ci c T)).w_cl (va_up a.cl c none)).w_cd (va_up a.cd c 0)).w_cv (va_up a.cv c a.vv)
def nx_open (a : AS) (t m q : Int32) : AS := if openCd a t m q = 0 then openA a (freeC a.op) (ix t) m (timeOf a q) else a
def OK_open (a : AS) (t m q : Int32) : Int32 → Int32 → Prop := EX (openCd a t m q) (num (freeC a.op))
def curCd (a : AS) (c : Int32) : Int32 := if 0 ≤ c.toInt ∧ c.toInt < 10 then (if a.op (ix c) then 0 else 2) else 1
/-- what stands behind the one that was told last -/
def restA (L : List Nat) : Option Nat → List Nat
  | none => L
  | some n => (L.dropWhile (fun x => x != n)).drop 1
def nextO (a : AS) (c : Nat) : Option Nat := if a.ov c then none else (restA (a.rw (a.ct c)) (a.cl c)).find? (askB a (a.ct c) (a.cm c) (a.cv c) (a.ci c))
def nextA (a : AS) (c : Nat) : AS := match nextO a c with
  | none => a.w_ov (va_up a.ov c true)
  | some n => (a.w_cl (va_up a.cl c (some n))).w_cd (va_up a.cd c (a.cd c + 1))
def nx_next (a : AS) (c : Int32) : AS := if curCd a c = 0 then nextA a (ix c) else a
def OK_next (a : AS) (c : Int32) : Int32 → Int32 → Prop := EX (curCd a c) (numO (nextO a (ix c)))
def nx_close (a : AS) (c : Int32) : AS := if curCd a c = 0 then a.w_op (va_up a.op (ix c) false) else a
def OK_close (a : AS) (c : Int32) : Int32 → Int32 → Prop := EX (curCd a c) (a.cd (ix c))
def factCd (a : AS) (n w : Int32) : Int32 := if 0 ≤ w.toInt ∧ w.toInt ≤ 7 then (if 0 ≤ n.toInt ∧ n.toInt.toNat ∈ allF a then 0 else 2) else 1
def factR (a : AS) (n : Nat) (w : Int) : Int32 := if w = 4 then num (a.ft n) else if w = 5 then Int32.ofInt (a.fb n) else if w = 6 then Int32.ofInt (a.fd n) else if w = 7 then num ((a.rw (a.ft n)).idxOf n) else a.fc n w.toNat
def nx_fact (a : AS) (n w : Int32) : AS := a
def OK_fact (a : AS) (n w : Int32) : Int32 → Int32 → Prop := EX (factCd a n w) (factR a n.toInt.toNat w.toInt)
def nx_mark (a : AS) : AS := if a.mk.length = 8 then a else a.w_mk (a.mk ++ [a.hs.length])
def OK_mark (a : AS) : Int32 → Int32 → Prop := EX (if a.mk.length = 8 then 1 else 0) (num (a.mk.length + 1))
/-- a change is turned -/
def turnA (a : AS) (e : Nat × Bool) : AS := if e.2 then (let a' := newA a (a.ft e.1) (a.fc e.1); (putA a' (a.ft e.1) (insA e.1 a.nn (a.rw (a.ft e.1)))).w_sn (va_up a'.sn e.1 a.nn)) else goA a (a.sn e.1)
def lastM (a : AS) : Nat := a.mk.getLast?.getD 0
def goneN (a : AS) : Nat := ((a.hs.drop (lastM a)).filter fun e => e.2).length
def backCd (a : AS) (k : Int32) : Int32 := if a.mk = [] then 1 else if k ≠ 0 ∧ 3000 < (allF a).length + goneN a then 1 else 0
def dropA (a : AS) : AS := a.w_mk a.mk.dropLast
def restH (a : AS) : AS := if a.mk = [] then a.w_hs [] else a
def nx_back (a : AS) (k : Int32) : AS := if backCd a k = 0 then restH (if k ≠ 0 then (a.hs.drop (lastM a)).reverse.foldl turnA (dropA a) else dropA a) else a
def OK_back (a : AS) (k : Int32) : Int32 → Int32 → Prop := EX (backCd a k) (if k ≠ 0 then num (a.hs.length - lastM a) else 0)
def goneB (a : AS) (T : Int) (n : Nat) : Bool := decide (0 ≤ a.fd n ∧ a.fd n ≤ T)
def purgeCd (a : AS) (q : Int32) : Int32 := if timeOk a q then (if freeC (fun i => !(a.op i)) = 10 ∧ a.mk = [] then 0 else 2) else 1
def nx_purge (a : AS) (q : Int32) : AS := if purgeCd a q = 0 then (a.w_hz (max a.hz (timeOf a q))).w_rw (fun t => (a.rw t).filter fun n => !(goneB a (timeOf a q) n)) else a
def OK_purge (a : AS) (q : Int32) : Int32 → Int32 → Prop := EX (purgeCd a q) (num ((allF a).filter (goneB a (timeOf a q))).length)
def chgCd (a : AS) (t p q : Int32) : Int32 := if timeOk a p ∧ timeOk a q then (if tabOk a t then 0 else 2) else 1
def chgL (a : AS) (t : Nat) (P Q : Int) : List Int32 := ((a.rw t).filter fun n => thereB a Q n && !(thereB a P n)).map num ++ ((a.rw t).filter fun n => thereB a P n && !(thereB a Q n)).map fun n => -1 - num n
def nx_changes (a : AS) (t p q : Int32) : AS := if chgCd a t p q = 0 then a.w_fo (chgL a (ix t) (timeOf a p) (timeOf a q)) else a
def OK_changes (a : AS) (t p q : Int32) : Int32 → Int32 → Prop := EX (chgCd a t p q) (num (chgL a (ix t) (timeOf a p) (timeOf a q)).length)
def nx_found (a : AS) (i : Int32) : AS := a
def OK_found (a : AS) (i : Int32) : Int32 → Int32 → Prop := EX (if 0 ≤ i.toInt ∧ i.toInt < a.fo.length then 0 else 1) (a.fo[ix i]?.getD 0)
