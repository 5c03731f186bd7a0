/-! THE STATE OF THE SYSTEM, and the class's cells that hold it.
A state s: s 0 0 k: 0 rate, 1 places, 2 lifts, 3 parts, 4 persons, 5 who (-1: no tour), 6 day, 7 stops, 8 done, 9 walks, 10 work; s 1 k: a place's floor, x, y; s 2 k: a lift's x, y, least, greatest, wait, speed; s 3 k: a part's skill, kind, every, hours, work, tested, used, last told, worn, and 9: its place's number; s 4 k: a person's skills, seconds, and 2: its home's number; s 5 0 k: the stock of a kind; s 6 0 k: the part that is stop k; s 7 0 0: how many calls have added to stock or use (a bound on sums). -/
abbrev AS : Type := Nat → Nat → Nat → Int
/-- a part's place, a person's home -/
abbrev sPP (s : AS) (k : Nat) : Nat → Int := s 1 (s 3 k 9).toNat
abbrev sHP (s : AS) (k : Nat) : Nat → Int := s 1 (s 4 k 2).toNat
/-- the numbers' bounds -/
def okS (s : AS) (np nl nt ns : Nat) : Prop := (s 0 0 1 = np ∧ s 0 0 2 = nl ∧ s 0 0 3 = nt ∧ s 0 0 4 = ns) ∧ (np ≤ 30 ∧ nl ≤ 6 ∧ nt ≤ 40 ∧ ns ≤ 8) ∧ (0 ≤ s 0 0 0 ∧ s 0 0 0 ≤ 1000) ∧ (∀ k, k < np → okP (s 1 k)) ∧ (∀ k, k < nl → okL (s 2 k)) ∧ (∀ k, k < nt → okT (s 3 k) ∧ 0 ≤ s 3 k 9 ∧ s 3 k 9 < np) ∧ (∀ k, k < ns → okU (s 4 k) ∧ 0 ≤ s 4 k 2 ∧ s 4 k 2 < np) ∧ (∀ k, 0 ≤ s 5 0 k ∧ s 5 0 k ≤ 1000 * s 7 0 0) ∧ (0 ≤ s 7 0 0 ∧ s 7 0 0 ≤ 600) ∧ ∀ k, k < nt → s 3 k 6 ≤ 1000 * s 7 0 0
/-- the class's cells: rooms for things, by arrays of addresses -/
abbrev oCt (rt : Int) (ho ta rk ea sa pn to : Nat) (nt ns : Nat) : va_E := .inr (7, [.int (iI rt), .ref ho, .ref ta, .ref rk, .ref ea, .ref sa, .ref pn, .ref to, .int (iI (nt : Int)), .int (iI (ns : Int))])
abbrev oPn (ca ga ra : Nat) (c0 : Int) : va_E := .inr (5, [.ref ca, .ref ga, .ref ra, .int (iI c0)])
/-- what is kept of the pools: cells of places, lifts, parts, persons -/
def Pools (M : Wm) (s : AS) (np nl nt ns : Nat) (gp gl gt ge : Nat → Option Nat) : Prop := (∀ k, k < np → ∃ a, gp k = some a ∧ M a = some (oPl (s 1 k))) ∧ (∀ k, k < nl → ∃ a, gl k = some a ∧ M a = some (oLi (s 2 k))) ∧ (∀ k, k < nt → ∃ a pa, gt k = some a ∧ M a = some (oPt (k : Int) pa (s 3 k)) ∧ gp (s 3 k 9).toNat = some pa) ∧ (∀ k, k < ns → ∃ a ha, ge k = some a ∧ M a = some (oPe (k : Int) ha (s 4 k)) ∧ gp (s 4 k 2).toNat = some ha)
/-- the places on a tour's way: from home by the stops and home -/
def sPth (s : AS) (w cn k : Nat) : Nat → Int := if k = 0 then sHP s w else if k ≤ cn then sPP s (s 6 0 (k - 1)).toNat else sHP s w
def sWs (s : AS) (nl w cn : Nat) : Nat → Int
  | 0 => 0
  | k + 1 => sWs s nl w cn k + sWay nl (s 2) (sPth s w cn k) (sPth s w cn (k + 1))
/-- the tour under way: none, or one of a person -/
def RT (M : Wm) (s : AS) (nl nt ns : Nat) (to oa : Nat) (ge gt so : Nat → Option Nat) : Prop :=
  (s 0 0 5 = -1 ∧ (s 0 0 7 = 0 ∧ s 0 0 8 = 0 ∧ s 0 0 9 = 0 ∧ s 0 0 10 = 0) ∧ ∃ d0, M to = some (.inr (6, [.ref oa, .null, .int (iI d0), .int (iI 0), .int (iI 0), .int (iI 0), .int (iI 0)]))) ∨
  (∃ (w ga cn dn : Nat), s 0 0 5 = (w : Int) ∧ w < ns ∧ ge w = some ga ∧ s 0 0 7 = (cn : Int) ∧ s 0 0 8 = (dn : Int) ∧ (dn ≤ cn ∧ cn ≤ 20) ∧ (0 ≤ s 0 0 6 ∧ s 0 0 6 ≤ 100000) ∧ (∀ k, k ≤ cn → ¬ sWay nl (s 2) (sPth s w cn k) (sPth s w cn (k + 1)) = -1) ∧ s 0 0 9 = sWs s nl w cn (cn + 1) ∧ s 0 0 10 = sSum (fun k => s 3 (s 6 0 k).toNat 4) cn ∧ M to = some (oTo oa ga (s 0 0 6) cn dn (s 0 0 9) (s 0 0 10)) ∧ ∀ k, k < cn → (0 ≤ s 6 0 k ∧ s 6 0 k < nt) ∧ so k = gt (s 6 0 k).toNat)
def RC (tys : xK) (M : Wm) (x : Nat) (s : AS) : Prop := ∃ (np nl nt ns : Nat) (ho pa la ta rk ea sa pn ca ga ra to oa : Nat) (gp gl gt gr ge gc so : Nat → Option Nat) (L T : Nat → Int) (c0 : Int),
  okS s np nl nt ns ∧ (M x = some (oCt (s 0 0 0) ho ta rk ea sa pn to nt ns) ∧ M ho = some (oHo pa la np nl) ∧ M pa = some (aR tys 2 30 gp) ∧ M la = some (aR tys 3 6 gl) ∧ M ta = some (aR tys 4 40 gt) ∧ M rk = some (aR tys 4 40 gr) ∧ M ea = some (aR tys 5 8 ge) ∧ M sa = some (aI tys 5 (s 5 0)) ∧ M pn = some (oPn ca ga ra c0) ∧ M ca = some (aR tys 4 7 gc) ∧ M ga = some (aI tys 64 L) ∧ M ra = some (aI tys 1024 T) ∧ M oa = some (aR tys 4 20 so)) ∧
  (ta ≠ rk ∧ ta ≠ ca ∧ ta ≠ oa ∧ rk ≠ ca ∧ rk ≠ oa ∧ ca ≠ oa ∧ sa ≠ ga ∧ sa ≠ ra ∧ ga ≠ ra) ∧ (inB L ∧ inB T ∧ L 63 = 0) ∧ Pools M s np nl nt ns gp gl gt ge ∧ RT M s nl nt ns to oa ge gt so
/-- the state of a new object -/
def sNew (r : Int) : AS := fun a i k => if a = 0 ∧ i = 0 ∧ k = 0 then r else if a = 0 ∧ i = 0 ∧ k = 5 then -1 else 0
