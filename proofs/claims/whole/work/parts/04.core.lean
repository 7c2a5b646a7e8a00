/-! the pure machine: objects by group and number, what they hold, one method at a time -/
abbrev Ob : Type := Nat × Nat
abbrev PV : Type := Int32 ⊕ Int64 ⊕ Ob
abbrev PW : Type := (Nat → Nat → Nat → Int32) × (Nat → Nat → Nat → Int64)
abbrev LV : Type := List (Option PV)
abbrev PQ : Type := PV → PW → Prop
abbrev vI (x : Int32) : PV := .inl x
abbrev vL (x : Int64) : PV := .inr (.inl x)
abbrev vO (g o : Nat) : PV := .inr (.inr (g, o))
def gI (w : PW) (o : Ob) (k : Nat) : Int32 := w.1 o.2 o.1 k
def gL (w : PW) (o : Ob) (k : Nat) : Int64 := w.2 o.2 o.1 k
def aI (w : PW) (o : Ob) (f : Nat → Int32) : PW := (fun j => bif Nat.beq j o.2 then (fun g => bif Nat.beq g o.1 then f else w.1 j g) else w.1 j, w.2)
def aL (w : PW) (o : Ob) (f : Nat → Int64) : PW := (w.1, fun j => bif Nat.beq j o.2 then (fun g => bif Nat.beq g o.1 then f else w.2 j g) else w.2 j)
def ub {α : Type} (f : Nat → α) (k : Nat) (v : α) (j : Nat) : α := bif Nat.beq j k then v else f j
def sI (w : PW) (o : Ob) (k : Nat) (v : Int32) : PW := aI w o (ub (gI w o) k v)
def sL (w : PW) (o : Ob) (k : Nat) (v : Int64) : PW := aL w o (ub (gL w o) k v)
def wg (g : Nat) : Nat := 100 + 2 * g
def tg (g : Nat) : Nat := 101 + 2 * g
def bg (g : Nat) : Nat := if g = 2 then 1 else g
def lk : LV → Nat → Option PV
  | [], _ => none
  | a :: _, 0 => a
  | _ :: t, i + 1 => lk t i
def lset : LV → Nat → PV → LV
  | [], _, _ => []
  | _ :: t, 0, v => some v :: t
  | a :: t, i + 1, v => a :: lset t i v
def nlong (o : Option PV) : Bool := match o with | some (.inr (.inl _)) => false | _ => true
def okst (L : LV) (i : Nat) : Bool := match i with | 0 => Nat.blt 0 L.length | j + 1 => nlong (lk L j) && Nat.blt (j + 1) L.length
def mask : List Bool → LV → LV
  | false :: m, _ :: t => none :: mask m t
  | true :: m, a :: t => a :: mask m t
  | _, t => t
def cat (v : PV) : Nat := match v with | .inr (.inl _) => 2 | _ => 1
def cats : List PV → Nat
  | [] => 0
  | v :: t => cat v + cats t
def expd : List PV → LV
  | [] => []
  | v :: t => match v with | .inr (.inl x) => some (.inr (.inl x)) :: none :: expd t | v => some v :: expd t
def padL : Nat → LV → LV
  | 0, _ => []
  | n + 1, [] => none :: padL n []
  | n + 1, a :: t => a :: padL n t
def mkL (mi : Nat) (args : List PV) : LV := padL (mI mi).2 (expd args)
def popN : Nat → List PV → List PV → Option (List PV × List PV)
  | 0, acc, st => some (acc, st)
  | _ + 1, _, [] => none
  | n + 1, acc, v :: st => popN n (v :: acc) st
abbrev PE : Type := ClassFile.Instr × Nat × Nat × Nat × Int32 × Nat
def lkE : List (Nat × PE) → Nat → Option PE
  | [], _ => none
  | (q, e) :: t, pc => bif Nat.beq q pc then some e else lkE t pc
def shk (k : Nat) : Nat := match k with | 0 => 1 | 1 => 1 | 2 => 2 | 3 => 2 | 4 => 2 | 5 => 2 | 6 => 2 | 7 => 2 | 8 => 2 | 9 => 2 | 10 => 2 | 11 => 2 | 12 => 3 | 13 => 5 | 14 => 1 | 15 => 2 | 16 => 2 | 17 => 2 | 18 => 2 | 19 => 2 | 20 => 2 | 25 => 1 | 26 => 2 | 27 => 2 | 28 => 2 | 29 => 1 | 30 => 2 | 31 => 3 | 32 => 5 | 33 => 6 | 40 => 1 | 41 => 2 | 42 => 2 | 43 => 2 | 44 => 2 | 45 => 2 | 46 => 2 | 47 => 2 | 48 => 2 | 49 => 2 | 50 => 2 | 51 => 2 | 52 => 2 | 53 => 2 | 54 => 1 | 55 => 2 | 56 => 2 | 57 => 2 | 62 => 1 | 63 => 2 | 64 => 2 | 65 => 2 | 66 => 2 | 67 => 2 | 68 => 2 | 70 => 1 | 71 => 4 | 80 => 1 | 81 => 2 | 82 => 2 | 90 => 1 | 91 => 2 | 92 => 2 | 93 => 2 | 94 => 2 | 95 => 2 | 96 => 2 | 97 => 2 | 98 => 2 | 99 => 2 | 100 => 2 | 101 => 3 | 102 => 2 | 103 => 2 | 104 => 2 | 105 => 2 | 106 => 2 | 107 => 2 | 108 => 2 | 109 => 2 | 110 => 2 | 111 => 2 | 112 => 2 | 113 => 2 | 114 => 2 | 116 => 2 | 117 => 2 | 118 => 2 | 119 => 2 | 120 => 4 | 121 => 2 | 122 => 3 | 123 => 3 | 124 => 2 | 125 => 2 | _ => 0
def shc (k : Nat) : Nat := match k with | 0 => 9 | 1 => 3 | 2 => 3 | 3 => 3 | 4 => 3 | 5 => 3 | 6 => 3 | 7 => 3 | 8 => 3 | 9 => 3 | 10 => 3 | 11 => 3 | 12 => 3 | 13 => 0 | 14 => 4 | 15 => 4 | 16 => 4 | 17 => 4 | 18 => 4 | 19 => 4 | 20 => 4 | 25 => 2 | 26 => 2 | 27 => 2 | 28 => 2 | 29 => 6 | 30 => 6 | 31 => 6 | 32 => 1 | 33 => 0 | 40 => 5 | 41 => 5 | 42 => 5 | 43 => 5 | 44 => 5 | 45 => 5 | 46 => 5 | 47 => 5 | 48 => 5 | 49 => 5 | 50 => 5 | 51 => 5 | 52 => 5 | 53 => 5 | 54 => 0 | 55 => 0 | 56 => 0 | 57 => 0 | 62 => 1 | 63 => 1 | 64 => 1 | 65 => 1 | 66 => 1 | 67 => 1 | 68 => 1 | 70 => 7 | 71 => 7 | 80 => 8 | 81 => 8 | 82 => 8 | 90 => 10 | 91 => 10 | 92 => 10 | 93 => 10 | 94 => 10 | 95 => 10 | 96 => 10 | 97 => 10 | 98 => 10 | 99 => 10 | 100 => 10 | 101 => 10 | 102 => 10 | 103 => 10 | 104 => 10 | 105 => 10 | 106 => 10 | 107 => 10 | 108 => 10 | 109 => 10 | 110 => 10 | 111 => 10 | 112 => 10 | 113 => 10 | 114 => 10 | 116 => 10 | 117 => 10 | 118 => 10 | 119 => 10 | 120 => 10 | 121 => 10 | 122 => 10 | 123 => 10 | 124 => 10 | 125 => 10 | _ => 99
def len (g k : Nat) : Nat := match k with | 2 => 24 | 3 => 24 | 4 => 24 | 5 => 24 | 6 => 24 | 7 => 24 | 8 => 24 | 9 => 24 | 10 => 24 | 11 => 24 | 12 => 24 | 13 => 4 | 15 => 12 | 16 => 12 | 17 => 12 | 18 => 240 | 19 => 240 | 20 => 240 | 26 => 10 | 27 => 10 | 28 => 10 | 30 => 25 | 31 => 8 | 32 => 6 | 33 => 4 | 41 => 24 | 42 => 24 | 43 => 24 | 44 => 24 | 45 => 24 | 46 => 24 | 47 => 24 | 48 => 24 | 49 => 24 | 50 => 24 | 51 => 24 | 52 => 24 | 53 => 12 | 55 => (if g = 99 then 8 else if g % 2 = 0 then 40 else 32) | 56 => (if g = 99 then 8 else if g % 2 = 0 then 40 else 32) | 57 => (if g = 99 then 8 else if g % 2 = 0 then 40 else 32) | 63 => (if g = 1 then 9528 else 7224) | 64 => (if g = 1 then 9528 else 7224) | 65 => (if g = 1 then 9528 else 7224) | 66 => 40 | 67 => 40 | 68 => 40 | 71 => 100 | 81 => 64 | 82 => 64 | 91 => 24 | 92 => 24 | 93 => 24 | 94 => 24 | 95 => 24 | 96 => 24 | 97 => 24 | 98 => 24 | 99 => 24 | 100 => 24 | 101 => 24 | 102 => 256 | 103 => 256 | 104 => 4 | 105 => 12 | 106 => 12 | 107 => 1200 | 108 => 8 | 109 => 8 | 110 => 8 | 111 => 10 | 112 => 10 | 113 => 10 | 114 => 19675 | 116 => 118050 | 117 => 6 | 118 => 6 | 119 => 6 | 120 => 600 | 121 => 156 | 122 => 9 | 123 => 12 | 124 => 24 | 125 => 24 | _ => 0
def fd0 (k : Nat) : Option ((Nat → Nat) × Nat) := match k with | 0 => some (fun g => g, 55) | 1 => some (fun g => g, 56) | 2 => some (fun g => g, 57) | _ => none
def fd1 (k : Nat) : Option ((Nat → Nat) × Nat) := match k with | 0 => some (fun g => g, 63) | 1 => some (fun g => g, 64) | 2 => some (fun g => g, 65) | 3 => some (fun g => g, 66) | 4 => some (fun g => g, 67) | 5 => some (fun g => g, 68) | _ => none
def fd2 (k : Nat) : Option ((Nat → Nat) × Nat) := match k with | 0 => some (fun g => g, 26) | 1 => some (fun g => g, 27) | 2 => some (fun g => g, 28) | _ => none
def fd3 (k : Nat) : Option ((Nat → Nat) × Nat) := match k with | 3 => some (fun g => g, 2) | 4 => some (fun g => g, 3) | 5 => some (fun g => g, 4) | 6 => some (fun g => g, 5) | 7 => some (fun g => g, 6) | 8 => some (fun g => g, 7) | 9 => some (fun g => g, 8) | 10 => some (fun g => g, 9) | 11 => some (fun g => g, 10) | 12 => some (fun g => g, 11) | 13 => some (fun g => g, 12) | _ => none
def fd4 (k : Nat) : Option ((Nat → Nat) × Nat) := match k with | 0 => some (fun g => g, 15) | 1 => some (fun g => g, 16) | 2 => some (fun g => g, 17) | 3 => some (fun g => g, 18) | 4 => some (fun g => g, 19) | 5 => some (fun g => g, 20) | _ => none
def fd5 (k : Nat) : Option ((Nat → Nat) × Nat) := match k with | 4 => some (fun g => g, 41) | 5 => some (fun g => g, 42) | 6 => some (fun g => g, 43) | 7 => some (fun g => g, 44) | 8 => some (fun g => g, 45) | 9 => some (fun g => g, 46) | 10 => some (fun g => g, 47) | 11 => some (fun g => g, 48) | 12 => some (fun g => g, 49) | 13 => some (fun g => g, 50) | 14 => some (fun g => g, 51) | 15 => some (fun g => g, 52) | 16 => some (fun g => g, 53) | 17 => some (fun g => wg g, 54) | 18 => some (fun g => tg g, 54) | 19 => some (fun g => bg g, 62) | _ => none
def fd6 (k : Nat) : Option ((Nat → Nat) × Nat) := match k with | 0 => some (fun _ => 0, 1) | 1 => some (fun _ => 0, 14) | 2 => some (fun g => g, 30) | 3 => some (fun g => g, 31) | _ => none
def fd7 (k : Nat) : Option ((Nat → Nat) × Nat) := match k with | 3 => some (fun g => g, 71) | 4 => some (fun g => 3 + g, 40) | _ => none
def fd8 (k : Nat) : Option ((Nat → Nat) × Nat) := match k with | 0 => some (fun g => g, 81) | 1 => some (fun g => g, 82) | _ => none
def fd9 (k : Nat) : Option ((Nat → Nat) × Nat) := match k with | 0 => some (fun _ => 0, 1) | 1 => some (fun _ => 0, 13) | 2 => some (fun _ => 0, 14) | 3 => some (fun _ => 99, 54) | 4 => some (fun _ => 0, 25) | 5 => some (fun _ => 1, 40) | 6 => some (fun _ => 2, 40) | 7 => some (fun _ => 0, 29) | 8 => some (fun _ => 0, 32) | _ => none
def fd10 (k : Nat) : Option ((Nat → Nat) × Nat) := match k with | 0 => some (fun g => g, 91) | 1 => some (fun g => g, 92) | 2 => some (fun g => g, 93) | 3 => some (fun g => g, 94) | 4 => some (fun g => g, 95) | 5 => some (fun g => g, 96) | 6 => some (fun g => g, 97) | 7 => some (fun g => g, 98) | 8 => some (fun g => g, 99) | 9 => some (fun g => g, 100) | 10 => some (fun g => g, 101) | 11 => some (fun g => g, 102) | 12 => some (fun g => g, 103) | 13 => some (fun g => g, 104) | 14 => some (fun g => g, 105) | 15 => some (fun g => g, 106) | 16 => some (fun g => g, 107) | 17 => some (fun g => g, 108) | 18 => some (fun g => g, 109) | 19 => some (fun g => g, 110) | 20 => some (fun g => g, 111) | 21 => some (fun g => g, 112) | 22 => some (fun g => g, 113) | 23 => some (fun _ => 1, 114) | 24 => some (fun _ => 2, 114) | 25 => some (fun g => g, 116) | 26 => some (fun g => g, 117) | 27 => some (fun g => g, 118) | 28 => some (fun g => g, 119) | 29 => some (fun g => g, 120) | 39 => some (fun g => g, 121) | 40 => some (fun g => g, 122) | 42 => some (fun g => g, 123) | 43 => some (fun g => g, 124) | 44 => some (fun g => g, 125) | _ => none
def fd (ci k : Nat) : Option ((Nat → Nat) × Nat) := match ci with | 0 => fd0 k | 1 => fd1 k | 2 => fd2 k | 3 => fd3 k | 4 => fd4 k | 5 => fd5 k | 6 => fd6 k | 7 => fd7 k | 8 => fd8 k | 9 => fd9 k | 10 => fd10 k | _ => none
def fz (ci k : Nat) : Bool := Nat.beq ci 10 && Nat.beq k 41
def mK (k : Nat) : Nat := (bif Nat.blt k 93 then (bif Nat.blt k 46 then (bif Nat.blt k 23 then (bif Nat.blt k 11 then (bif Nat.blt k 5 then (bif Nat.blt k 2 then (bif Nat.blt k 1 then 0 else 0) else (bif Nat.blt k 3 then 0 else (bif Nat.blt k 4 then 0 else 0))) else (bif Nat.blt k 8 then (bif Nat.blt k 6 then 0 else (bif Nat.blt k 7 then 1 else 1)) else (bif Nat.blt k 9 then 1 else (bif Nat.blt k 10 then 1 else 1)))) else (bif Nat.blt k 17 then (bif Nat.blt k 14 then (bif Nat.blt k 12 then 1 else (bif Nat.blt k 13 then 1 else 2)) else (bif Nat.blt k 15 then 2 else (bif Nat.blt k 16 then 3 else 3))) else (bif Nat.blt k 20 then (bif Nat.blt k 18 then 4 else (bif Nat.blt k 19 then 4 else 4)) else (bif Nat.blt k 21 then 4 else (bif Nat.blt k 22 then 4 else 4))))) else (bif Nat.blt k 34 then (bif Nat.blt k 28 then (bif Nat.blt k 25 then (bif Nat.blt k 24 then 4 else 5) else (bif Nat.blt k 26 then 5 else (bif Nat.blt k 27 then 5 else 5))) else (bif Nat.blt k 31 then (bif Nat.blt k 29 then 5 else (bif Nat.blt k 30 then 6 else 6)) else (bif Nat.blt k 32 then 6 else (bif Nat.blt k 33 then 6 else 6)))) else (bif Nat.blt k 40 then (bif Nat.blt k 37 then (bif Nat.blt k 35 then 6 else (bif Nat.blt k 36 then 6 else 6)) else (bif Nat.blt k 38 then 6 else (bif Nat.blt k 39 then 6 else 6))) else (bif Nat.blt k 43 then (bif Nat.blt k 41 then 6 else (bif Nat.blt k 42 then 6 else 6)) else (bif Nat.blt k 44 then 6 else (bif Nat.blt k 45 then 6 else 6)))))) else (bif Nat.blt k 69 then (bif Nat.blt k 57 then (bif Nat.blt k 51 then (bif Nat.blt k 48 then (bif Nat.blt k 47 then 6 else 6) else (bif Nat.blt k 49 then 6 else (bif Nat.blt k 50 then 7 else 7))) else (bif Nat.blt k 54 then (bif Nat.blt k 52 then 7 else (bif Nat.blt k 53 then 7 else 7)) else (bif Nat.blt k 55 then 7 else (bif Nat.blt k 56 then 8 else 8)))) else (bif Nat.blt k 63 then (bif Nat.blt k 60 then (bif Nat.blt k 58 then 8 else (bif Nat.blt k 59 then 8 else 9)) else (bif Nat.blt k 61 then 9 else (bif Nat.blt k 62 then 9 else 9))) else (bif Nat.blt k 66 then (bif Nat.blt k 64 then 9 else (bif Nat.blt k 65 then 9 else 9)) else (bif Nat.blt k 67 then 9 else (bif Nat.blt k 68 then 9 else 9))))) else (bif Nat.blt k 81 then (bif Nat.blt k 75 then (bif Nat.blt k 72 then (bif Nat.blt k 70 then 9 else (bif Nat.blt k 71 then 9 else 9)) else (bif Nat.blt k 73 then 9 else (bif Nat.blt k 74 then 9 else 9))) else (bif Nat.blt k 78 then (bif Nat.blt k 76 then 9 else (bif Nat.blt k 77 then 9 else 9)) else (bif Nat.blt k 79 then 9 else (bif Nat.blt k 80 then 9 else 9)))) else (bif Nat.blt k 87 then (bif Nat.blt k 84 then (bif Nat.blt k 82 then 9 else (bif Nat.blt k 83 then 9 else 9)) else (bif Nat.blt k 85 then 9 else (bif Nat.blt k 86 then 9 else 9))) else (bif Nat.blt k 90 then (bif Nat.blt k 88 then 9 else (bif Nat.blt k 89 then 9 else 9)) else (bif Nat.blt k 91 then 9 else (bif Nat.blt k 92 then 9 else 9))))))) else (bif Nat.blt k 140 then (bif Nat.blt k 116 then (bif Nat.blt k 104 then (bif Nat.blt k 98 then (bif Nat.blt k 95 then (bif Nat.blt k 94 then 9 else 9) else (bif Nat.blt k 96 then 9 else (bif Nat.blt k 97 then 9 else 9))) else (bif Nat.blt k 101 then (bif Nat.blt k 99 then 9 else (bif Nat.blt k 100 then 9 else 9)) else (bif Nat.blt k 102 then 9 else (bif Nat.blt k 103 then 9 else 9)))) else (bif Nat.blt k 110 then (bif Nat.blt k 107 then (bif Nat.blt k 105 then 9 else (bif Nat.blt k 106 then 9 else 9)) else (bif Nat.blt k 108 then 9 else (bif Nat.blt k 109 then 9 else 10))) else (bif Nat.blt k 113 then (bif Nat.blt k 111 then 10 else (bif Nat.blt k 112 then 10 else 10)) else (bif Nat.blt k 114 then 10 else (bif Nat.blt k 115 then 10 else 10))))) else (bif Nat.blt k 128 then (bif Nat.blt k 122 then (bif Nat.blt k 119 then (bif Nat.blt k 117 then 10 else (bif Nat.blt k 118 then 10 else 10)) else (bif Nat.blt k 120 then 10 else (bif Nat.blt k 121 then 10 else 10))) else (bif Nat.blt k 125 then (bif Nat.blt k 123 then 10 else (bif Nat.blt k 124 then 10 else 10)) else (bif Nat.blt k 126 then 10 else (bif Nat.blt k 127 then 10 else 10)))) else (bif Nat.blt k 134 then (bif Nat.blt k 131 then (bif Nat.blt k 129 then 10 else (bif Nat.blt k 130 then 10 else 10)) else (bif Nat.blt k 132 then 10 else (bif Nat.blt k 133 then 10 else 10))) else (bif Nat.blt k 137 then (bif Nat.blt k 135 then 10 else (bif Nat.blt k 136 then 10 else 10)) else (bif Nat.blt k 138 then 10 else (bif Nat.blt k 139 then 10 else 10)))))) else (bif Nat.blt k 163 then (bif Nat.blt k 151 then (bif Nat.blt k 145 then (bif Nat.blt k 142 then (bif Nat.blt k 141 then 10 else 10) else (bif Nat.blt k 143 then 10 else (bif Nat.blt k 144 then 10 else 10))) else (bif Nat.blt k 148 then (bif Nat.blt k 146 then 10 else (bif Nat.blt k 147 then 10 else 10)) else (bif Nat.blt k 149 then 10 else (bif Nat.blt k 150 then 10 else 10)))) else (bif Nat.blt k 157 then (bif Nat.blt k 154 then (bif Nat.blt k 152 then 10 else (bif Nat.blt k 153 then 10 else 10)) else (bif Nat.blt k 155 then 10 else (bif Nat.blt k 156 then 10 else 10))) else (bif Nat.blt k 160 then (bif Nat.blt k 158 then 10 else (bif Nat.blt k 159 then 10 else 10)) else (bif Nat.blt k 161 then 10 else (bif Nat.blt k 162 then 10 else 10))))) else (bif Nat.blt k 175 then (bif Nat.blt k 169 then (bif Nat.blt k 166 then (bif Nat.blt k 164 then 10 else (bif Nat.blt k 165 then 10 else 10)) else (bif Nat.blt k 167 then 10 else (bif Nat.blt k 168 then 10 else 10))) else (bif Nat.blt k 172 then (bif Nat.blt k 170 then 10 else (bif Nat.blt k 171 then 10 else 10)) else (bif Nat.blt k 173 then 10 else (bif Nat.blt k 174 then 10 else 10)))) else (bif Nat.blt k 181 then (bif Nat.blt k 178 then (bif Nat.blt k 176 then 10 else (bif Nat.blt k 177 then 10 else 10)) else (bif Nat.blt k 179 then 10 else (bif Nat.blt k 180 then 10 else 10))) else (bif Nat.blt k 184 then (bif Nat.blt k 182 then 10 else (bif Nat.blt k 183 then 10 else 10)) else (bif Nat.blt k 185 then 10 else (bif Nat.blt k 186 then 10 else 99))))))))
theorem mK_ok : (List.range 187).all (fun mj => mS mj || (Nat.blt (mK mj) 11 && decide (cR (mK mj) = (mY mj).cls))) = true := by decide +kernel
def mfl (k : Nat) : Int32 := match k with | 0 => 200 | 1 => 40 | 2 => 20 | _ => 30
def rfk (b : Nat) : Nat := match b with | 0 => 80 | _ => 70
def rfo (b i : Nat) : PV := vO i (rfk b)
def kI (k : Int32 → PW → Prop) : PQ := fun r w => match r with | .inl x => k x w | _ => False
def kL (k : Int64 → PW → Prop) : PQ := fun r w => match r with | .inr (.inl x) => k x w | _ => False
def kV (k : PW → Prop) : PQ := fun _ w => k w
def cT_ (c : ClassFile.Cond) (x y : Int32) : Prop := match c with | .eq => x = y | .ne => ¬ x = y | .lt => x < y | .ge => y ≤ x | .gt => y < x | .le => x ≤ y
def cF_ (c : ClassFile.Cond) (x y : Int32) : Prop := match c with | .eq => ¬ x = y | .ne => x = y | .lt => y ≤ x | .ge => x < y | .gt => x ≤ y | .le => y < x
def b01 (x : Int32) : Prop := x = 0 ∨ x = 1
def jmin (x y : Int32) : Int32 := if y < x then y else x
def jmax (x y : Int32) : Int32 := if x < y then y else x
abbrev XT : Type := Nat → Nat → LV → List PV → PW → PQ → Prop
def swP (x : Int32) (K : Nat → Prop) (d : Nat) : List (Int32 × Nat) → Prop
  | [] => K d
  | (v, t) :: r => (x = v → K t) ∧ (¬ x = v → swP x K d r)
def cpOK (i j n : Int32) (ls ld : Nat) : Prop := 0 ≤ i ∧ 0 ≤ j ∧ 0 ≤ n ∧ i.toNatClampNeg + n.toNatClampNeg ≤ ls ∧ j.toNatClampNeg + n.toNatClampNeg ≤ ld
def rcok (rc mj : Nat) (as : List PV) : Bool := match rc with
  | 0 => true
  | _ => match as with
    | .inr (.inr o) :: _ => Nat.beq (shk o.2) 1 && Nat.beq (shc o.2) (mK mj)
    | _ => false
/-- a call: arguments off the stack, the callee at its entry, what goes on behind it -/
def Fcall (Xc X : XT) (mi pc' mj b : Nat) (rc : Nat) (L : LV) (st : List PV) (w : PW) (Q : PQ) : Prop :=
  match popN b [] st with
  | none => False
  | some (as, r) => bif Nat.ble (cats r) 8 && Nat.ble (expd as).length (mI mj).2 && rcok rc mj as then
      (match (mI mj).1 with
      | 0 => Xc mj 0 (mkL mj as) [] w (kV fun w' => X mi pc' L r w' Q)
      | 2 => Xc mj 0 (mkL mj as) [] w (kL fun x w' => X mi pc' L (.inr (.inl x) :: r) w' Q)
      | _ => Xc mj 0 (mkL mj as) [] w (kI fun x w' => X mi pc' L (.inl x :: r) w' Q))
    else False
def FX (Xc X : XT) (mi pc : Nat) (L : LV) (st : List PV) (w : PW) (Q : PQ) (ins : ClassFile.Instr) (n a b : Nat) (v : Int32) (p : Nat) : Prop :=
  match ins with
  | .iload_n _ => (match lk L a with | some (.inl x) => X mi (pc + n) L (.inl x :: st) w Q | _ => False)
  | .iload _ => (match lk L a with | some (.inl x) => X mi (pc + n) L (.inl x :: st) w Q | _ => False)
  | .lload_n _ => (match lk L a with | some (.inr (.inl x)) => X mi (pc + n) L (.inr (.inl x) :: st) w Q | _ => False)
  | .lload _ => (match lk L a with | some (.inr (.inl x)) => X mi (pc + n) L (.inr (.inl x) :: st) w Q | _ => False)
  | .aload_n _ => (match lk L a with | some (.inr (.inr x)) => X mi (pc + n) L (.inr (.inr x) :: st) w Q | _ => False)
  | .aload _ => (match lk L a with | some (.inr (.inr x)) => X mi (pc + n) L (.inr (.inr x) :: st) w Q | _ => False)
  | .istore_n _ => (match st with | .inl x :: r => bif okst L a then X mi (pc + n) (lset L a (.inl x)) r w Q else False | _ => False)
  | .istore _ => (match st with | .inl x :: r => bif okst L a then X mi (pc + n) (lset L a (.inl x)) r w Q else False | _ => False)
  | .astore_n _ => (match st with | .inr (.inr x) :: r => bif okst L a then X mi (pc + n) (lset L a (.inr (.inr x))) r w Q else False | _ => False)
  | .astore _ => (match st with | .inr (.inr x) :: r => bif okst L a then X mi (pc + n) (lset L a (.inr (.inr x))) r w Q else False | _ => False)
  | .iinc _ _ => (match lk L a with | some (.inl x) => bif okst L a then X mi (pc + n) (lset L a (.inl (x + v))) st w Q else False | _ => False)
  | .iconst _ => X mi (pc + n) L (.inl v :: st) w Q
  | .bipush _ => X mi (pc + n) L (.inl v :: st) w Q
  | .sipush _ => X mi (pc + n) L (.inl v :: st) w Q
  | .ldc _ => X mi (pc + n) L (.inl v :: st) w Q
  | .ldc_w _ => X mi (pc + n) L (.inl v :: st) w Q
  | .lconst _ => X mi (pc + n) L (.inr (.inl v.toInt64) :: st) w Q
  | .ldc2_w _ => X mi (pc + n) L (.inr (.inl v.toInt64) :: st) w Q
  | .iadd => (match st with | .inl y :: .inl x :: r => X mi (pc + n) L (.inl (x + y) :: r) w Q | _ => False)
  | .isub => (match st with | .inl y :: .inl x :: r => X mi (pc + n) L (.inl (x - y) :: r) w Q | _ => False)
  | .imul => (match st with | .inl y :: .inl x :: r => X mi (pc + n) L (.inl (x * y) :: r) w Q | _ => False)
  | .idiv => (match st with | .inl y :: .inl x :: r => ¬ y = 0 ∧ X mi (pc + n) L (.inl (x / y) :: r) w Q | _ => False)
  | .ineg => (match st with | .inl x :: r => X mi (pc + n) L (.inl (-x) :: r) w Q | _ => False)
  | .iand => (match st with | .inl y :: .inl x :: r => X mi (pc + n) L (.inl (x &&& y) :: r) w Q | _ => False)
  | .ior => (match st with | .inl y :: .inl x :: r => X mi (pc + n) L (.inl (x ||| y) :: r) w Q | _ => False)
  | .ishl => (match st with | .inl y :: .inl x :: r => X mi (pc + n) L (.inl (x <<< (y &&& 31)) :: r) w Q | _ => False)
  | .ishr => (match st with | .inl y :: .inl x :: r => X mi (pc + n) L (.inl (x >>> (y &&& 31)) :: r) w Q | _ => False)
  | .iushr => (match st with | .inl y :: .inl x :: r => X mi (pc + n) L (.inl (x.toUInt32 >>> (y.toUInt32 &&& Int32.toUInt32 31)).toInt32 :: r) w Q | _ => False)
  | .i2b => (match st with | .inl x :: r => X mi (pc + n) L (.inl x.toInt8.toInt32 :: r) w Q | _ => False)
  | .i2s => (match st with | .inl x :: r => X mi (pc + n) L (.inl x.toInt16.toInt32 :: r) w Q | _ => False)
  | .i2l => (match st with | .inl x :: r => X mi (pc + n) L (.inr (.inl x.toInt64) :: r) w Q | _ => False)
  | .l2i => (match st with | .inr (.inl x) :: r => X mi (pc + n) L (.inl x.toInt32 :: r) w Q | _ => False)
  | .lcmp => (match st with | .inr (.inl y) :: .inr (.inl x) :: r => X mi (pc + n) L (.inl (lg_cmp x y) :: r) w Q | _ => False)
  | .dup => (match st with | v0 :: r => bif Nat.beq (cat v0) 1 then X mi (pc + n) L (v0 :: v0 :: r) w Q else False | _ => False)
  | .dup2 => (match st with | v0 :: v1 :: r => bif Nat.beq (cat v0) 1 && Nat.beq (cat v1) 1 then X mi (pc + n) L (v0 :: v1 :: v0 :: v1 :: r) w Q else False | _ => False)
  | .pop => (match st with | v0 :: r => bif Nat.beq (cat v0) 1 then X mi (pc + n) L r w Q else False | _ => False)
  | .goto _ => X mi a L st w Q
  | .ifCond c _ => (match st with | .inl x :: r => (cT_ c x 0 → X mi a L r w Q) ∧ (cF_ c x 0 → X mi (pc + n) L r w Q) | _ => False)
  | .if_icmp c _ => (match st with | .inl y :: .inl x :: r => (cT_ c x y → X mi a L r w Q) ∧ (cF_ c x y → X mi (pc + n) L r w Q) | _ => False)
  | .tableswitch _ _ _ _ => (match st with | .inl x :: r => swP x (fun t => X mi t L r w Q) a (swL.getD p []) | _ => False)
  | .getfield _ => (match st with | .inr (.inr o) :: r => bif Nat.beq (shk o.2) 1 && Nat.beq (shc o.2) a then (match fd a b with | none => X mi (pc + n) L (.inl (gI w o b) :: r) w Q | some (f, k) => X mi (pc + n) L (.inr (.inr (f o.1, k)) :: r) w Q) else False | _ => False)
  | .putfield _ => (match st with | .inl x :: .inr (.inr o) :: r => bif Nat.beq (shk o.2) 1 && Nat.beq (shc o.2) a then (match fd a b with | none => (bif fz a b then b01 x ∧ X mi (pc + n) L r (sI w o b x) Q else X mi (pc + n) L r (sI w o b x) Q) | _ => False) else False | _ => False)
  | .getstatic _ => X mi (pc + n) L (.inr (.inr (0, 33)) :: st) w Q
  | .arraylength => (match st with | .inr (.inr o) :: r => bif Nat.beq (shk o.2) 2 then X mi (pc + n) L (.inl (nI (len o.1 o.2)) :: r) w Q else False | _ => False)
  | .iaload => (match st with | .inl i :: .inr (.inr o) :: r => (match shk o.2 with | 2 => vp_in i (len o.1 o.2) ∧ X mi (pc + n) L (.inl (gI w o i.toNatClampNeg) :: r) w Q | 6 => vp_in i 4 ∧ X mi (pc + n) L (.inl (mfl i.toNatClampNeg) :: r) w Q | _ => False) | _ => False)
  | .baload => (match st with | .inl i :: .inr (.inr o) :: r => bif Nat.beq (shk o.2) 3 then vp_in i (len o.1 o.2) ∧ X mi (pc + n) L (.inl (gI w o i.toNatClampNeg) :: r) w Q else False | _ => False)
  | .laload => (match st with | .inl i :: .inr (.inr o) :: r => bif Nat.beq (shk o.2) 4 then vp_in i (len o.1 o.2) ∧ X mi (pc + n) L (.inr (.inl (gL w o i.toNatClampNeg)) :: r) w Q else False | _ => False)
  | .aaload => (match st with | .inl i :: .inr (.inr o) :: r => bif Nat.beq (shk o.2) 5 then vp_in i (len o.1 o.2) ∧ X mi (pc + n) L (rfo (shc o.2) i.toNatClampNeg :: r) w Q else False | _ => False)
  | .iastore => (match st with | .inl x :: .inl i :: .inr (.inr o) :: r => bif Nat.beq (shk o.2) 2 then vp_in i (len o.1 o.2) ∧ X mi (pc + n) L r (sI w o i.toNatClampNeg x) Q else False | _ => False)
  | .bastore => (match st with | .inl x :: .inl i :: .inr (.inr o) :: r => bif Nat.beq (shk o.2) 3 then b01 x ∧ vp_in i (len o.1 o.2) ∧ X mi (pc + n) L r (sI w o i.toNatClampNeg x) Q else False | _ => False)
  | .lastore => (match st with | .inr (.inl x) :: .inl i :: .inr (.inr o) :: r => bif Nat.beq (shk o.2) 4 then vp_in i (len o.1 o.2) ∧ X mi (pc + n) L r (sL w o i.toNatClampNeg x) Q else False | _ => False)
  | .invokevirtual _ => Fcall Xc X mi (pc + n) a b 1 L st w Q
  | .invokestatic _ => bif Nat.beq a 999 then (match st with | .inl k :: .inl j :: .inr (.inr d) :: .inl i :: .inr (.inr s) :: r => bif Nat.ble (cats r) 8 then (bif Nat.beq (shk s.2) 2 && Nat.beq (shk d.2) 2 then cpOK i j k (len s.1 s.2) (len d.1 d.2) ∧ X mi (pc + n) L r (aI w d (va_cpy (gI w s) (gI w d) i.toNatClampNeg j.toNatClampNeg k.toNatClampNeg)) Q
        else bif Nat.beq (shk s.2) 4 && Nat.beq (shk d.2) 4 then cpOK i j k (len s.1 s.2) (len d.1 d.2) ∧ X mi (pc + n) L r (aL w d (va_cpy (gL w s) (gL w d) i.toNatClampNeg j.toNatClampNeg k.toNatClampNeg)) Q else False) else False | _ => False)
      else bif Nat.beq a 998 then (match st with | .inl y :: .inl x :: r => bif Nat.ble (cats r) 8 then X mi (pc + n) L (.inl (jmax x y) :: r) w Q else False | _ => False)
      else bif Nat.beq a 997 then (match st with | .inl y :: .inl x :: r => bif Nat.ble (cats r) 8 then X mi (pc + n) L (.inl (jmin x y) :: r) w Q else False | _ => False)
      else Fcall Xc X mi (pc + n) a b 0 L st w Q
  | .ireturn => (match st with | [.inl x] => (match (mI mi).1 with | 1 => Q (.inl x) w | 3 => b01 x ∧ Q (.inl x) w | _ => False) | _ => False)
  | .lreturn => (match st with | [.inr (.inl x)] => (match (mI mi).1 with | 2 => Q (.inr (.inl x)) w | _ => False) | _ => False)
  | .return_ => (match st with | [] => (match (mI mi).1 with | 0 => Q (.inl 0) w | _ => False) | _ => False)
  | _ => False
def F (Xc X : XT) (mi pc : Nat) (L : LV) (st : List PV) (w : PW) (Q : PQ) : Prop :=
  match lkE (cdl mi) pc with
  | none => False
  | some e => FX Xc X mi pc L st w Q e.1 e.2.1 e.2.2.1 e.2.2.2.1 e.2.2.2.2.1 e.2.2.2.2.2
def SubX (X Y : XT) : Prop := ∀ mi pc L st w Q, X mi pc L st w Q → Y mi pc L st w Q
def StepC (X : XT) : Prop := ∀ Xc X1 : XT, SubX Xc X → SubX X1 X → SubX (F Xc X1) X
def MaskC (X : XT) : Prop := ∀ m mi pc L st w Q, X mi pc (mask m L) st w Q → X mi pc L st w Q
def ConsC (X : XT) : Prop := ∀ mi pc L st w (Q Q' : PQ), (∀ r w', Q r w' → Q' r w') → X mi pc L st w Q → X mi pc L st w Q'
def Weq (w w' : PW) : Prop := ∀ (o : Ob) (k : Nat), (shk o.2 = 1 ∨ k < len o.1 o.2) → gI w' o k = gI w o k ∧ gL w' o k = gL w o k
def EqC (X : XT) : Prop := ∀ mi pc L st (w w' : PW) Q, Weq w w' → X mi pc L st w' Q → X mi pc L st w Q
def Wp : XT := fun mi pc L st w Q => ∀ X : XT, StepC X → MaskC X → ConsC X → EqC X → X mi pc L st w Q
theorem Wp.step {Xc X1 : XT} (hc : SubX Xc Wp) (h1 : SubX X1 Wp) : SubX (F Xc X1) Wp := fun mi pc L st w Q h X g1 g2 g3 g4 =>
  g1 Xc X1 (fun _ _ _ _ _ _ a => hc _ _ _ _ _ _ a X g1 g2 g3 g4) (fun _ _ _ _ _ _ a => h1 _ _ _ _ _ _ a X g1 g2 g3 g4) mi pc L st w Q h
theorem Wp.mask : MaskC Wp := fun m mi pc L st w Q h X h1 h2 h3 h4 => h2 m mi pc L st w Q (h X h1 h2 h3 h4)
theorem Wp.cons : ConsC Wp := fun mi pc L st w Q Q' hq h X h1 h2 h3 h4 => h3 mi pc L st w Q Q' hq (h X h1 h2 h3 h4)
theorem Wp.eq : EqC Wp := fun mi pc L st w w' Q hw h X h1 h2 h3 h4 => h4 mi pc L st w w' Q hw (h X h1 h2 h3 h4)
/-- a stretch of instructions at once: small callees gone through, some by their sums; at the cuts the dead locals are dropped -/
abbrev ST : Type := Nat → Option (LV → PW → PQ → Prop)
def ctl : List (Nat × Nat × List Bool) → Nat → Nat → Option (List Bool)
  | [], _, _ => none
  | (a, b, m) :: t, mi, pc => bif Nat.beq a mi && Nat.beq b pc then some m else ctl t mi pc
def inlL : List Nat → Nat → Bool
  | [], _ => false
  | a :: t, mi => bif Nat.beq a mi then true else inlL t mi
def runX (sm : ST) (inl : List Nat) (ct : List (Nat × Nat × List Bool)) : Nat → XT
  | 0 => Wp
  | n + 1 => F (fun mj pc L st w Q => bif inlL inl mj then runX sm inl ct n mj pc L st w Q else match sm mj with | some f => (match pc, st with | 0, [] => f L w Q | _, _ => Wp mj pc L st w Q) | none => Wp mj pc L st w Q)
      (fun mi pc L st w Q => match ctl ct mi pc with | some m => Wp mi pc (mask m L) st w Q | none => runX sm inl ct n mi pc L st w Q)
def SmOK (sm : ST) : Prop := ∀ mj f, sm mj = some f → ∀ L w Q, f L w Q → Wp mj 0 L [] w Q
def Cl (mj : Nat) (as : List PV) (w : PW) (Q : PQ) : Prop := Wp mj 0 (mkL mj as) [] w Q
def bb (p : Prop) [Decidable p] : Int32 := if p then 1 else 0

