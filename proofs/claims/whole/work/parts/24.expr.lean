/-! An E as the reference keeps it (signs as they stand) and as the class keeps it (each sign behind what it joins). -/
def xOp (c : Int) : Int := if c = 20 then 43 else if c = 21 then 45 else if c = 22 then 42 else if c = 24 then 60 else if c = 25 then 61 else if c = 26 then 115 else 116
def rk (k : Int) : Int := if k = 115 ∨ k = 116 then 1 else if k = 60 ∨ k = 61 then 2 else if k = 43 ∨ k = 45 then 3 else if k = 42 then 4 else 0
def popR (r : Int) : List Int → List Int → List Int × List Int
  | [], ro => ([], ro)
  | w :: wt, ro => if r ≤ rk w then popR r wt (w :: ro) else (w :: wt, ro)
def popN : List Int → List Int → List Int × List Int
  | [], ro => ([], ro)
  | w :: wt, ro => if w = 114 then popN wt (114 :: ro) else (w :: wt, ro)
def xCode (Wn : Int → Int) (c : Int) : Int := if c ≤ 10 then 2 + (c - 1) * 128 else if c < 20 then 3 + Wn (c - 11) * 128 else 3 + (c - 100) * 128
def isOp (c : Int) : Bool := decide (20 ≤ c ∧ c ≤ 27)
def shst (Wn : Int → Int) (q : List Int × List Int) (c : Int) : List Int × List Int :=
  if c = 28 then (40 :: q.1, q.2) else if c = 30 then (114 :: q.1, q.2)
  else if isOp c = true then (xOp c :: (popR (if rk (xOp c) = 2 then 3 else rk (xOp c)) q.1 q.2).1, (popR (if rk (xOp c) = 2 then 3 else rk (xOp c)) q.1 q.2).2)
  else if c = 29 then popN (popR 1 q.1 q.2).1.tail (popR 1 q.1 q.2).2
  else popN q.1 (xCode Wn c :: q.2)
def shunt (Wn : Int → Int) (L : List Int) : List Int × List Int := L.foldl (shst Wn) ([], [])
/-- the class's codes, the last first -/
def convR (Wn : Int → Int) (L : List Int) : List Int := (popR 1 (shunt Wn L).1 (shunt Wn L).2).2
def jn (k l r : Int) : Int := if k = 115 then (if l ≠ 0 ∧ r ≠ 0 then 1 else 0) else if k = 116 then (if l ≠ 0 ∨ r ≠ 0 then 1 else 0) else if k = 60 then (if l < r then 1 else 0) else if k = 61 then (if l = r then 1 else 0) else if k = 43 then w32 (l + r) else if k = 45 then w32 (l - r) else w32 (l * r)
def stp (env : Int → Int) (c : Int) (st : List Int) : List Int :=
  if c % 128 = 3 then c / 128 :: st else if c % 128 = 2 then env (c / 128) :: st
  else if c % 128 = 114 then (match st with
    | a :: r => (if a = 0 then 1 else 0) :: r
    | [] => [])
  else (match st with
    | b :: a :: r => jn (c % 128) a b :: r
    | x => x)
def evR (env : Int → Int) : List Int → List Int
  | [] => []
  | c :: ro => stp env c (evR env ro)
/-- a level of the reference's reckoning: kept, keptBy, ahead, against, sum, sumBy, term, termBy, byNot -/
abbrev fR : Type := Int × Int × Int × Int × Int × Int × Int × Int × Int
def fNew (n : Int) : fR := (0, 0, 0, 0, 0, 20, 0, 0, n)
def fSums : fR → fR
  | (k, kb, a, ag, s, sb, t, tb, n) => (k, kb, a, ag, if sb = 21 then w32 (s - t) else w32 (s + t), sb, t, 0, n)
def fTests : fR → fR
  | (k, kb, a, ag, s0, sb, t, tb, n) =>
    (fun s : Int => (fun v : Int => (fun v2 : Int => (v2, kb, a, 0, 0, 20, t, 0, n)) (if kb = 26 then (if k ≠ 0 ∧ v ≠ 0 then 1 else 0) else if kb = 27 then (if k ≠ 0 ∨ v ≠ 0 then 1 else 0) else v)) (if ag = 24 then (if a < s then 1 else 0) else if ag = 25 then (if a = s then 1 else 0) else s)) (if sb = 21 then w32 (s0 - t) else w32 (s0 + t))
def fTerm (v : Int) : fR → fR
  | (k, kb, a, ag, s, sb, t, tb, n) => (k, kb, a, ag, s, sb, if tb = 0 then v else w32 (t * v), tb, n)
/-- a value comes: nots above it are done, then it is a factor -/
def fVal (v : Int) : List fR → List fR
  | [] => []
  | f :: r => if r ≠ [] ∧ f.2.2.2.2.2.2.2.2 = 1 then fVal (if v = 0 then 1 else 0) r else fTerm v f :: r
def opd (env Wn : Int → Int) (c : Int) : Int := if c ≤ 10 then env (c - 1) else if c < 20 then Wn (c - 11) else c - 100
def fStep (env Wn : Int → Int) (F : List fR) (c : Int) : List fR :=
  match F with
  | [] => []
  | f :: r =>
    if c = 28 then fNew 0 :: f :: r else if c = 30 then fNew 1 :: f :: r
    else if c = 20 ∨ c = 21 then (match fSums f with | (k, kb, a, ag, s, _, t, tb, n) => (k, kb, a, ag, s, c, t, tb, n)) :: r
    else if c = 22 then (match f with | (k, kb, a, ag, s, sb, t, _, n) => (k, kb, a, ag, s, sb, t, 22, n)) :: r
    else if c = 24 ∨ c = 25 then (match fSums f with | (k, kb, _, _, s, _, t, tb, n) => (k, kb, s, c, 0, 20, t, tb, n)) :: r
    else if c = 26 ∨ c = 27 then (match fTests f with | (k, _, a, ag, s, sb, t, tb, n) => (k, c, a, ag, s, sb, t, tb, n)) :: r
    else if c = 29 then fVal (fTests f).1 r
    else fVal (opd env Wn c) (f :: r)
def fRun (env Wn : Int → Int) (L : List Int) : List fR := L.foldl (fStep env Wn) [fNew 0]
def ifx (env Wn : Int → Int) (L : List Int) : Int := match fRun env Wn L with
  | f :: _ => (fTests f).1
  | [] => 0
/-- what may stand: whether a part is wanted; the levels, the kind that opened each (1 not, 2 a bracket, 0 none) and whether it has a comparison -/
abbrev vS : Type := Bool × List (Int × Bool)
def vPop : List (Int × Bool) → List (Int × Bool)
  | [] => []
  | (k, b) :: r => if k = 1 then vPop r else (k, b) :: r
def isPart (c : Int) : Bool := decide ((1 ≤ c ∧ c ≤ 14) ∨ 100 ≤ c)
def vStep (q : vS) (c : Int) : Option vS := match q with
  | (true, l) => if c = 28 then some (true, (2, false) :: l) else if c = 30 then some (true, (1, false) :: l) else if isPart c = true then some (false, vPop l) else none
  | (false, []) => none
  | (false, (k, b) :: r) => if c = 20 ∨ c = 21 ∨ c = 22 then some (true, (k, b) :: r) else if c = 24 ∨ c = 25 then (if b = true then none else some (true, (k, true) :: r)) else if c = 26 ∨ c = 27 then some (true, (k, false) :: r) else if c = 29 then (if k = 2 then some (false, vPop r) else none) else none
def vRun : List Int → Option vS → Option vS
  | [], q => q
  | c :: L, q => vRun L (q.bind (fun s => vStep s c))
/-- a whole E -/
def okE (L : List Int) : Prop := ∃ b, vRun L (some (true, [(0, false)])) = some (false, [(0, b)])
/-! the levels side by side -/
/-- ops of a level that wait, the last first; pm: whether + or - waits -/
def lvO (pm : Bool) : fR → List Int
  | (_, kb, _, ag, _, sb, _, tb, _) => (if tb = 0 then [] else [42]) ++ ((if pm = true then [xOp sb] else []) ++ ((if ag = 0 then [] else [xOp ag]) ++ (if kb = 0 then [] else [xOp kb])))
def lvV (pm : Bool) : fR → List Int
  | (k, kb, a, ag, s, _, t, tb, _) => (if tb = 0 then [] else [t]) ++ ((if pm = true then [s] else []) ++ ((if ag = 0 then [] else [a]) ++ (if kb = 0 then [] else [k])))
/-- a level is as it can be -/
def lvW (pm : Bool) : fR → Prop
  | (_, kb, _, ag, s, sb, t, tb, n) => (tb = 0 ∨ tb = 22) ∧ (sb = 20 ∨ sb = 21) ∧ (pm = false → s = 0 ∧ sb = 20) ∧ (ag = 0 ∨ ag = 24 ∨ ag = 25) ∧ (kb = 0 ∨ kb = 26 ∨ kb = 27) ∧ (n = 0 ∨ n = 1) ∧ r32 t ∧ r32 s
/-- the levels around: waiting, values, kinds -/
def lvs : List fR → List Bool → List (Int × Bool) → List Int → List Int → Prop
  | [], [], [], [], [] => True
  | f :: F, pm :: pms, (kd, cp) :: ks, wt, vs => lvW pm f ∧ (cp = true ↔ f.2.2.2.1 ≠ 0) ∧ (f.2.2.2.2.2.2.2.2 = 1 ↔ kd = 1) ∧ (F = [] ↔ kd = 0) ∧ (kd = 0 ∨ kd = 1 ∨ kd = 2) ∧ (kd = 1 → lvO pm f = [] ∧ lvV pm f = []) ∧ ∃ wt' vs', wt = lvO pm f ++ wt' ∧ vs = lvV pm f ++ vs' ∧ (if F = [] then wt' = [] ∧ vs' = [] ∧ pms = [] ∧ ks = [] else ∃ w2, wt' = (if kd = 1 then 114 else 40) :: w2 ∧ lvs F pms ks w2 vs')
  | _, _, _, _, _ => False
