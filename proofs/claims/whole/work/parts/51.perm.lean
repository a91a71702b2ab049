/-! ===== orders of the gallery, as lists ===== -/
def swp (i j : Nat) (l : List Nat) : List Nat := (l.set i (l.getD j 0)).set j (l.getD i 0)
def sIn (i : Nat) : Nat → Nat → List Nat → List Nat
  | 0, _, l => l
  | m + 1, j, l => sIn i m (j + 1) (if l.getD j 0 ≤ l.getD i 0 then l else swp i j l)
def sOut (np : Nat) : Nat → Nat → List Nat → List Nat
  | 0, _, l => l
  | m + 1, i, l => sOut np m (i + 1) (sIn i (np - (i + 1)) (i + 1) l)
def sortD (np s : Nat) (l : List Nat) : List Nat := sOut np (np - 1 - s) s l
def fI (l : List Nat) : Nat → Option Nat
  | 0 => none
  | m + 1 => if l.getD m 0 ≤ l.getD (m + 1) 0 then some m else fI l m
def fJ (l : List Nat) (i : Nat) : Nat → Nat
  | 0 => 0
  | j + 1 => if j + 1 ≤ i then j + 1 else if l.getD i 0 ≤ l.getD (j + 1) 0 then j + 1 else fJ l i j
def rvr : Nat → Nat → Nat → List Nat → List Nat
  | 0, _, _, l => l
  | m + 1, lo, hi, l => if hi ≤ lo then l else rvr m (lo + 1) (hi - 1) (swp lo hi l)
def nxt (np : Nat) (l : List Nat) : Option (List Nat) := match fI l (np - 1) with
  | none => none
  | some i => some (rvr 3 (i + 1) (np - 1) (swp i (fJ l i (np - 1)) l))
def dgs (np : Nat) : Nat → Nat → List Nat
  | 0, _ => []
  | m + 1, y => dgs np m (y / np) ++ [y % np]
def AL (np : Nat) : Nat → List (List Nat)
  | 0 => [[]]
  | k + 1 => (AL np k).flatMap fun l => (List.range np).map fun d => l ++ [d]
def vld (np : Nat) (l : List Nat) : Bool := l.foldr (fun d a => a ||| 2 ^ d) 0 == 2 ^ np - 1
def PL (np : Nat) : List (List Nat) := (AL np np).filter (vld np)
def pck (np : Nat) (a : List Nat) : List (List Nat) → Bool
  | [] => nxt np a == none && (List.range np).all fun s => sortD np (s + 1) a == a
  | b :: _ => nxt np a == some b && (List.range np).all fun s => if a.take (s + 1) == b.take (s + 1) then sortD np (s + 1) a == sortD np (s + 1) b else sortD np (s + 1) a == a
def pchk (np : Nat) : List (List Nat) → Bool
  | [] => true
  | a :: r => pck np a r && pchk np r
def pfine (np : Nat) (L : List (List Nat)) : Bool := pchk np L && (decide (L.length ≤ 720) && (L.head? == some (List.range np) && L.all fun l => l.length == np && l.all fun d => decide (d < np)))
theorem PL_fine : ∀ np, np < 7 → 1 ≤ np → pfine np (PL np) = true := by decide +kernel
