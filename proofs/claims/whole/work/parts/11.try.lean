def F_X9_costing_5 (n : Nat) (σ : Sto) (a0 : Nat) (a1 : Nat) (a2 : Nat) (i3 : Int32) (i4 : Int32) : Option Int32 := match n with
  | 0 => none
  | n + 1 => if (shC a0).1 = 9 then (if σ.1 a0 0 ≤ i4 then (some i3) else (if shC a1 = (20, 4) then (if ib i4 4 then (if shC a2 = (20, 4) then (if ib ((i4 * 21) + (σ.1 a2 (ix i4))) 84 then ((sw (i3 + ((σ.1 a1 (ix i4)) * (σ.1 (a0 + 5) (ix ((i4 * 21) + (σ.1 a2 (ix i4))))))) fun v1 => F_X9_costing_5 n σ a0 a1 a2 v1 (i4 + 1))) else none) else none) else none) else none)) else none
def F_X9_costing (σ : Sto) (a0 : Nat) (a1 : Nat) (a2 : Nat) : Option Int32 := F_X9_costing_5 FU σ a0 a1 a2 0 0
def F_X9_freePrice_4 (n : Nat) (σ : Sto) (a0 : Nat) (i1 : Int32) (i2 : Int32) (i3 : Int32) : Option Int32 := match n with
  | 0 => none
  | n + 1 => if 20 < i3 then (some i2) else (if (shC a0).1 = 9 then (if ib ((i1 * 21) + i3) 84 then (if ib ((i1 * 21) + i2) 84 then (if σ.1 (a0 + 6) (ix ((i1 * 21) + i3)) ≤ σ.1 (a0 + 6) (ix ((i1 * 21) + i2)) then (F_X9_freePrice_4 n σ a0 i1 i2 (i3 + 1)) else (F_X9_freePrice_4 n σ a0 i1 i3 (i3 + 1))) else none) else none) else none)
def F_X9_freePrice (σ : Sto) (a0 : Nat) (i1 : Int32) : Option Int32 := F_X9_freePrice_4 FU σ a0 i1 0 1
def F_X9_valueOf (σ : Sto) (a0 : Nat) (i1 : Int32) (i2 : Int32) : Option Int32 := if (shC a0).1 = 9 then (if ib ((i1 * 4) + i2) 24 then (some (σ.1 (a0 + 2) (ix ((i1 * 4) + i2)))) else none) else none
def F_X10_duesOf (σ : Sto) (a0 : Nat) (a1 : Nat) (i2 : Int32) : Option Int32 := if (shC a1).1 = 9 then (((F_X9_valueOf σ a1 5 i2).bind fun x1 => if (shC a0).1 = 10 then (if ib i2 4 then (some ((if 0 < x1 - (σ.1 (a0 + 3) (ix i2)) then x1 - (σ.1 (a0 + 3) (ix i2)) else 0) * (σ.1 (a0 + 4) (ix 3)))) else none) else none)) else none
def F_X10_dues_4 (n : Nat) (σ : Sto) (a0 : Nat) (a1 : Nat) (i2 : Int32) (i3 : Int32) : Option Int32 := match n with
  | 0 => none
  | n + 1 => if (shC a1).1 = 9 then (if σ.1 a1 0 ≤ i3 then (some i2) else (if (shC a0).1 = 10 then (((F_X10_duesOf σ a0 a1 i3).bind fun x1 => F_X10_dues_4 n σ a0 a1 (i2 + x1) (i3 + 1))) else none)) else none
def F_X10_dues (σ : Sto) (a0 : Nat) (a1 : Nat) : Option Int32 := F_X10_dues_4 FU σ a0 a1 0 0
def F_X10_rate (σ : Sto) (a0 : Nat) : Option Int32 := if (shC a0).1 = 10 then (some ((100 + (σ.1 (a0 + 4) (ix 0))) - (σ.1 (a0 + 4) (ix 1)))) else none
def F_X10_allowedWith (σ : Sto) (a0 : Nat) (a1 : Nat) (i2 : Int32) : Option Int32 := if (shC a0).1 = 10 then (if (shC a1).1 = 9 then (((F_X9_costing σ a1 (a0 + 1) (a0 + 1)).bind fun x1 => ((F_X10_rate σ a0).bind fun x2 => some (if 0 < (((x2 * x1) / 100) + (σ.1 a0 1)) - i2 then (((x2 * x1) / 100) + (σ.1 a0 1)) - i2 else 0)))) else none) else none
def F_X10_allowed (σ : Sto) (a0 : Nat) (a1 : Nat) : Option Int32 := if (shC a0).1 = 10 then (((F_X10_dues σ a0 a1).bind fun x1 => ((F_X10_allowedWith σ a0 a1 x1).bind fun x2 => some x2))) else none
def F_X8_chooseAt_76 (k24 : Sto → Int32 → Int32 → Option (Int32 × Sto)) (n : Nat) (σ : Sto) (i2 : Int32) (i3 : Int32) (i4 : Int32) (i5 : Int32) (i6 : Int32) (i7 : Int32) (i8 : Int32) : Option (Int32 × Sto) := match n with
  | 0 => none
  | n + 1 => if ib i3 4 then (if σ.1 68 (ix i3) ≤ i8 then ((sw (si σ 72 (ix i3) i6) fun s1 => if ib (i3 + 1) 5 then (if ib i3 5 then ((sw (si s1 74 (ix i3) ((s1.1 74 (ix (i3 + 1))) + i7)) fun s2 => if ib i3 20 then (if ib (i4 + i6) 84 then ((sw (i2 + ((s2.1 64 (ix i3)) * (s2.1 69 (ix (i4 + i6))))) fun v1 => k24 s2 v1 (i3 + (-1)))) else none) else none)) else none) else none)) else (if ib (i4 + i8) 84 then ((sw (((σ.1 70 (ix (i4 + i8))) <<< (8 &&& 31)) - (i5 * (σ.1 69 (ix (i4 + i8))))) fun v2 => if v2 ≤ i7 then (F_X8_chooseAt_76 k24 n σ i2 i3 i4 i5 i6 i7 (i8 + 1)) else (F_X8_chooseAt_76 k24 n σ i2 i3 i4 i5 i8 v2 (i8 + 1)))) else none)) else none
def F_X8_chooseAt_24 (n : Nat) (σ : Sto) (i2 : Int32) (i3 : Int32) : Option (Int32 × Sto) := match n with
  | 0 => none
  | n + 1 => if i3 < 0 then (some (i2, σ)) else (if ib i3 20 then ((sw ((σ.1 63 13) * (σ.1 64 (ix i3))) fun v1 => if ib (i3 * 21) 84 then ((sw (((σ.1 70 (ix (i3 * 21))) <<< (8 &&& 31)) - (v1 * (σ.1 69 (ix (i3 * 21))))) fun v2 => F_X8_chooseAt_76 (F_X8_chooseAt_24 n) FU σ i2 i3 (i3 * 21) v1 0 v2 1)) else none)) else none)
def F_X8_chooseAt (σ : Sto) (i1 : Int32) : Option (Int32 × Sto) := (sw (si σ 63 13 i1) fun s1 => if ib (s1.1 63 0) 5 then ((sw (si s1 74 (ix (s1.1 63 0)) 0) fun s2 => F_X8_chooseAt_24 FU s2 0 ((s2.1 63 0) - 1))) else none)
def F_X8_highestStair_16 (n : Nat) (σ : Sto) (i1 : Int32) (i2 : Int32) (i3 : Int32) : Option Int32 := match n with
  | 0 => none
  | n + 1 => if σ.1 63 1 ≤ i3 then (if ib ((i1 * 21) + (if 0 < i2 then i2 else 0)) 84 then (some (σ.1 71 (ix ((i1 * 21) + (if 0 < i2 then i2 else 0))))) else none) else (if ib ((i3 * 4) + i1) 20 then (if σ.1 64 (ix ((i3 * 4) + i1)) ≤ 0 then (F_X8_highestStair_16 n σ i1 i2 (i3 + 1)) else (if ib i3 5 then (if ¬ (σ.1 64 (ix ((i3 * 4) + i1))) = 0 then ((sw (if (σ.1 65 (ix i3)) / (σ.1 64 (ix ((i3 * 4) + i1))) < i2 then (σ.1 65 (ix i3)) / (σ.1 64 (ix ((i3 * 4) + i1))) else i2) fun v1 => F_X8_highestStair_16 n σ i1 v1 (i3 + 1))) else none) else none)) else none)
def F_X8_highestStair (σ : Sto) (i1 : Int32) : Option Int32 := if ib i1 4 then ((sw ((σ.1 67 (ix i1)) - (σ.1 66 (ix i1))) fun v1 => F_X8_highestStair_16 FU σ i1 v1 0)) else none
def F_X8_take_18 (n : Nat) (σ : Sto) (i1 : Int32) (i4 : Int32) (i5 : Int32) : Option Sto := match n with
  | 0 => none
  | n + 1 => if σ.1 63 1 ≤ i5 then (some σ) else (if ib i5 5 then (if ib ((i5 * 4) + i1) 20 then ((sw (si σ 65 (ix i5) ((σ.1 65 (ix i5)) - ((σ.1 64 (ix ((i5 * 4) + i1))) * i4))) fun s1 => F_X8_take_18 n s1 i1 i4 (i5 + 1))) else none) else none)
def F_X8_take (σ : Sto) (i1 : Int32) (i2 : Int32) (i3 : Int32) : Option Sto := if ib ((i1 * 21) + i2) 84 then ((sw (i3 * (σ.1 69 (ix ((i1 * 21) + i2)))) fun v1 => F_X8_take_18 FU σ i1 v1 0)) else none
def F_X8_end (σ : Sto) (i1 : Int32) (i2 : Int32) (i3 : Int32) : Option Sto := if ib ((i1 * 21) + i2) 84 then ((sw (i3 + (σ.1 70 (ix ((i1 * 21) + i2)))) fun v1 => if v1 ≤ σ.1 63 14 then (some σ) else ((sw (si σ 63 14 v1) fun s1 => if ib i1 4 then ((sw (si s1 72 (ix i1) i2) fun s2 => (sw (sI s2 73 (va_cpy (s2.1 72) (s2.1 73) (ix 0) (ix 0) (ix 4))) fun s3 => some s3))) else none)))) else none
def F_X8_descend_33 (kr : Sto → Int32 → Int32 → Option Sto) (n : Nat) (σ : Sto) (i1 : Int32) (i2 : Int32) (i3 : Int32) (i4 : Int32) (i5 : Int32) : Option Sto := match n with
  | 0 => none
  | n + 1 => if i3 < i5 then (some σ) else (if ib (i4 + i5) 84 then (if ib i1 20 then ((sw ((σ.1 65 (ix 0)) - ((σ.1 64 (ix i1)) * (σ.1 69 (ix (i4 + i5))))) fun v1 => if ib (i1 + 1) 5 then (if ((((i2 + (σ.1 70 (ix (i4 + i5)))) - (σ.1 63 14)) <<< (8 &&& 31)) + (σ.1 74 (ix (i1 + 1)))) + ((σ.1 63 13) * v1) ≤ 0 then (F_X8_descend_33 kr n σ i1 i2 i3 i4 (i5 + 1)) else (if ib i1 4 then ((sw (si σ 72 (ix i1) i5) fun s1 => ((F_X8_take s1 i1 i5 1).bind fun x1 => ((kr x1 (i1 + 1) (i2 + (σ.1 70 (ix (i4 + i5))))).bind fun x2 => ((F_X8_take x2 i1 i5 (-1)).bind fun x3 => F_X8_descend_33 kr n x3 i1 i2 i3 i4 (i5 + 1)))))) else none)) else none)) else none) else none)
def F_X8_descend (d : Nat) (σ : Sto) (i1 : Int32) (i2 : Int32) : Option Sto := match d with
  | 0 => none
  | d + 1 => ((F_X8_highestStair σ i1).bind fun x1 => if i1 < (σ.1 63 0) - 1 then (F_X8_descend_33 (F_X8_descend d) FU σ i1 i2 x1 (i1 * 21) 0) else (((F_X8_end σ i1 x1 i2).bind fun x2 => some x2)))
def F_X11_answer (σ : Sto) (i1 : Int32) : Option (Int32 × Sto) := (sw (si σ 0 18 0) fun s1 => some (i1, s1))
def F_X9_together_5 (n : Nat) (σ : Sto) (a0 : Nat) (a1 : Nat) (a2 : Nat) (i3 : Int32) (i4 : Int32) : Option Int32 := match n with
  | 0 => none
  | n + 1 => if (shC a0).1 = 9 then (if σ.1 a0 0 ≤ i4 then (some i3) else (if shC a2 = (20, 4) then (if ib i4 4 then (if shC a1 = (20, 84) then (if ib ((i4 * 21) + (σ.1 a2 (ix i4))) 84 then ((sw (i3 + (σ.1 a1 (ix ((i4 * 21) + (σ.1 a2 (ix i4)))))) fun v1 => F_X9_together_5 n σ a0 a1 a2 v1 (i4 + 1))) else none) else none) else none) else none)) else none
def F_X9_together (σ : Sto) (a0 : Nat) (a1 : Nat) (a2 : Nat) : Option Int32 := F_X9_together_5 FU σ a0 a1 a2 0 0
def F_X10_weights (σ : Sto) (a0 : Nat) (a1 : Nat) : Option Int32 := if (shC a1).1 = 9 then (if (shC a0).1 = 10 then (((F_X9_together σ a1 (a1 + 5) (a0 + 1)).bind fun x1 => some x1)) else none) else none
def F_X10_spent (σ : Sto) (a0 : Nat) (a1 : Nat) : Option Int32 := if (shC a0).1 = 10 then (if (shC a1).1 = 9 then (((F_X9_costing σ a1 (a0 + 2) (a0 + 1)).bind fun x1 => some x1)) else none) else none
def F_X10_left (σ : Sto) (a0 : Nat) (a1 : Nat) : Option Int32 := if (shC a0).1 = 10 then (((F_X10_allowed σ a0 a1).bind fun x1 => ((F_X10_spent σ a0 a1).bind fun x2 => some (x1 - x2)))) else none
def F_X10_isKept (σ : Sto) (a0 : Nat) (a1 : Nat) : Option Int32 := if (shC a0).1 = 10 then (((F_X10_left σ a0 a1).bind fun x1 => if x1 < 0 then (some 0) else (some 1))) else none
def F_X9_off_4 (n : Nat) (σ : Sto) (a0 : Nat) (a1 : Nat) (i2 : Int32) (i3 : Int32) : Option Int32 := match n with
  | 0 => none
  | n + 1 => if (shC a0).1 = 9 then (if σ.1 a0 0 ≤ i3 then (some i2) else (if shC a1 = (20, 4) then (if ib i3 4 then (((F_X9_valueOf σ a0 3 i3).bind fun x1 => (sw (i2 + (if 0 ≤ (σ.1 a1 (ix i3)) - x1 then (σ.1 a1 (ix i3)) - x1 else 0 - ((σ.1 a1 (ix i3)) - x1))) fun v1 => F_X9_off_4 n σ a0 a1 v1 (i3 + 1)))) else none) else none)) else none
def F_X9_off (σ : Sto) (a0 : Nat) (a1 : Nat) : Option Int32 := F_X9_off_4 FU σ a0 a1 0 0
def F_X11_refuse (σ : Sto) (i1 : Int32) : Option (Int32 × Sto) := (sw (si σ 0 18 i1) fun s1 => some ((-1), s1))
def F_X11_about_222 (σ : Sto) (e1 : Int32) : Option (Int32 × Sto) := ((F_X11_answer σ e1).bind fun x1 => some (x1.1, x1.2))
def F_X11_about (σ : Sto) (i1 : Int32) : Option (Int32 × Sto) := if σ.1 0 13 = 0 then (((F_X11_refuse σ 1).bind fun x31 => some (x31.1, x31.2))) else (if i1 = 0 then (((σ.2.2 0 11).bind fun x1 => if (shC x1).1 = 9 then (((F_X11_answer σ (σ.1 x1 0)).bind fun x2 => some (x2.1, x2.2))) else none)) else if i1 = 1 then (((F_X11_answer σ (σ.1 3 0)).bind fun x3 => some (x3.1, x3.2))) else if i1 = 2 then (((F_X10_rate σ 3).bind fun x4 => ((F_X11_answer σ x4).bind fun x5 => some (x5.1, x5.2)))) else if i1 = 3 then (((σ.2.2 0 11).bind fun x6 => ((F_X10_weights σ 3 x6).bind fun x7 => ((F_X11_answer σ x7).bind fun x8 => some (x8.1, x8.2))))) else if i1 = 4 then (((σ.2.2 0 11).bind fun x9 => if (shC x9).1 = 9 then (((F_X9_costing σ x9 (3 + 1) (3 + 1)).bind fun x10 => ((F_X11_answer σ x10).bind fun x11 => some (x11.1, x11.2)))) else none)) else if i1 = 5 then (((σ.2.2 0 11).bind fun x12 => ((F_X10_dues σ 3 x12).bind fun x13 => ((F_X11_answer σ x13).bind fun x14 => some (x14.1, x14.2))))) else if i1 = 6 then (((σ.2.2 0 11).bind fun x15 => ((F_X10_allowed σ 3 x15).bind fun x16 => ((F_X11_answer σ x16).bind fun x17 => some (x17.1, x17.2))))) else if i1 = 7 then (((σ.2.2 0 11).bind fun x18 => ((F_X10_spent σ 3 x18).bind fun x19 => ((F_X11_answer σ x19).bind fun x20 => some (x20.1, x20.2))))) else if i1 = 8 then (((σ.2.2 0 11).bind fun x21 => ((F_X10_isKept σ 3 x21).bind fun x22 => if x22 = 0 then (F_X11_about_222 σ 0) else (F_X11_about_222 σ 1)))) else if i1 = 9 then (((F_X11_answer σ (σ.1 10 2)).bind fun x23 => some (x23.1, x23.2))) else if i1 = 10 then (((σ.2.2 0 11).bind fun x24 => if (shC x24).1 = 9 then (((F_X9_off σ x24 (3 + 1)).bind fun x25 => ((F_X11_answer σ x25).bind fun x26 => some (x26.1, x26.2)))) else none)) else if i1 = 11 then (((σ.2.2 0 11).bind fun x27 => if (shC x27).1 = 9 then (((F_X9_off σ x27 (3 + 2)).bind fun x28 => ((F_X11_answer σ x28).bind fun x29 => some (x29.1, x29.2)))) else none)) else (((F_X11_refuse σ 1).bind fun x30 => some (x30.1, x30.2))))
def F_X12_of (σ : Sto) (i1 : Int32) (i2 : Int32) : Option Int32 := if ib ((7 * i1) + i2) 534 then (some (σ.1 2 (ix ((7 * i1) + i2)))) else none
def F_X12_isNear_38 (σ : Sto) : Option Int32 := some 1
def F_X12_isNear (σ : Sto) (i1 : Int32) (i2 : Int32) : Option Int32 := if σ.1 0 38 = (-1) then (F_X12_isNear_38 σ ) else (((F_X12_of σ i1 0).bind fun x1 => if σ.1 0 38 < i2 - x1 then (some 0) else (((F_X12_of σ i1 0).bind fun x2 => if σ.1 0 38 < x2 - i2 then (some 0) else (F_X12_isNear_38 σ )))))
def F_X12_bears_74 (σ : Sto) : Option (Int32 × Sto) := some (1, σ)
def F_X12_bears_5 (n : Nat) (σ : Sto) (i1 : Int32) (i2 : Int32) (i3 : Int32) (i4 : Int32) : Option (Int32 × Sto) := match n with
  | 0 => none
  | n + 1 => if σ.1 0 28 ≤ i4 then (if i3 = 0 then (if σ.1 0 39 = 0 then (F_X12_bears_74 σ ) else (some (0, σ))) else (F_X12_bears_74 σ )) else (if ib i4 4 then (if ib ((4 * i4) + i1) 16 then ((sw (si σ 17 (ix i4) ((σ.1 17 (ix i4)) - ((σ.1 10 (ix ((4 * i4) + i1))) * i2))) fun s1 => if i3 = 0 then (F_X12_bears_5 n s1 i1 i2 0 (i4 + 1)) else (if s1.1 17 (ix i4) < 0 then (F_X12_bears_5 n s1 i1 i2 0 (i4 + 1)) else (F_X12_bears_5 n s1 i1 i2 1 (i4 + 1))))) else none) else none)
def F_X12_bears (σ : Sto) (i1 : Int32) (i2 : Int32) : Option (Int32 × Sto) := F_X12_bears_5 FU σ i1 i2 1 0
def F_X12_tries_148 (kr : Sto → Int32 → Int32 → Int32 → Option Sto) (k65 : Sto → Int32 → Int32 → Int32 → Int32 → Option Sto) (σ : Sto) (i1 : Int32) (i2 : Int32) (i3 : Int32) (i4 : Int32) : Option Sto := ((F_X12_bears σ i1 (-i4)).bind fun x1 => k65 x1.2 i1 i2 i3 (i4 + 1))
def F_X12_tries_65 (kr : Sto → Int32 → Int32 → Int32 → Option Sto) (n : Nat) (σ : Sto) (i1 : Int32) (i2 : Int32) (i3 : Int32) (i4 : Int32) : Option Sto := match n with
  | 0 => none
  | n + 1 => if 20 < i4 then (some σ) else (if ib i1 4 then (if i2 < i4 * (σ.1 14 (ix i1)) then (some σ) else (((F_X12_isNear σ i1 i4).bind fun x1 => if x1 = 0 then (F_X12_tries_65 kr n σ i1 i2 i3 (i4 + 1)) else ((sw (si σ 15 (ix i1) i4) fun s1 => ((F_X12_bears s1 i1 i4).bind fun x2 => if x2.1 = 0 then (F_X12_tries_148 kr (F_X12_tries_65 kr n) x2.2 i1 i2 i3 i4) else (if ib ((21 * i1) + i4) 84 then (((kr x2.2 (i1 + 1) (i2 - (i4 * (x2.2.1 14 (ix i1)))) (i3 + (x2.2.1 12 (ix ((21 * i1) + i4))))).bind fun x3 => F_X12_tries_148 kr (F_X12_tries_65 kr n) x3 i1 i2 i3 i4)) else none))))))) else none)
def F_X12_tries_32 (kr : Sto → Int32 → Int32 → Int32 → Option Sto) (n : Nat) (σ : Sto) (i4 : Int32) : Option Sto := match n with
  | 0 => none
  | n + 1 => if σ.1 0 22 ≤ i4 then (some σ) else (if ib i4 4 then ((sw (si σ 16 (ix i4) (σ.1 15 (ix i4))) fun s1 => F_X12_tries_32 kr n s1 (i4 + 1))) else none)
def F_X12_tries (d : Nat) (σ : Sto) (i1 : Int32) (i2 : Int32) (i3 : Int32) : Option Sto := match d with
  | 0 => none
  | d + 1 => if ib i1 5 then (if σ.1 0 36 < i3 + (σ.1 13 (ix i1)) then (if i1 = σ.1 0 22 then ((sw (si σ 0 36 i3) fun s1 => F_X12_tries_32 (F_X12_tries d) FU s1 0)) else (F_X12_tries_65 (F_X12_tries d) FU σ i1 i2 i3 0)) else (some σ)) else none
set_option maxRecDepth 100000 in
set_option maxHeartbeats 4000000 in
theorem w_X9_costing_5 {p : Program} {l : Launch} {e : Env} {s : State} {m : MethodId} {args : Array Value} {below : List Frame} {meth : Method} {c : Code} {G : Gv} (h : Cx p s m args meth c G cX9_costing 5 RX9) (hr : meth.sig.returnType = (some .int)) : ∀ (n : Nat) (σ : Sto) (a0 : Nat) (a1 : Nat) (a2 : Nat) (i3 : Int32) (i4 : Int32) (z : Int32), F_X9_costing_5 n σ a0 a1 a2 i3 i4 = some z → AW p l e (rmD 1 0 0) s m args below meth c (MQ below (QcR G shC νC (some (.int z)) (ovC σ)) args s 0 0 (gA G)) 0 0 G 5 5 [some (.ref a0), some (.ref a1), some (.ref a2), some (.int i3), some (.int i4)] [] shC νC (ovC σ) := by
  intro n
  induction n with
  | zero => intro σ a0 a1 a2 i3 i4 z hF; cases hF
  | succ n ih =>
    intro σ a0 a1 a2 i3 i4 z hF
    rw [F_X9_costing_5] at hF
    refine st_iload_4 h dX9_costing_5 ?_
    refine st_aload_0 h dX9_costing_7 ?_
    obtain ⟨g1, hF⟩ := gI hF
    refine gX9_0 h fl_X9_34 dX9_costing_8 g1 ?_
    refine st_icmp_ge (t := 43) h dX9_costing_11 (by decide) (fun q1 => ?_) (fun q1 => ?_)
    · have hF := pI q1 hF
      refine st_iload_3 h dX9_costing_43 ?_
      cases hF
      exact st_iret h hr dX9_costing_44
    · have hF := qI q1 hF
      refine st_iload_3 h dX9_costing_14 ?_
      refine st_aload_1 h dX9_costing_15 ?_
      refine st_iload_4 h dX9_costing_16 ?_
      obtain ⟨g2, hF⟩ := gI hF
      obtain ⟨g3, hF⟩ := gI hF
      refine iaC h dX9_costing_18 g2 g3 ?_
      refine st_aload_0 h dX9_costing_19 ?_
      refine gX9_6 h fl_X9_25 dX9_costing_20 g1 ?_
      refine st_iload_4 h dX9_costing_23 ?_
      refine st_bipush (v := 21) h dX9_costing_25 (by decide) ?_
      refine st_imul h dX9_costing_27 ?_
      refine st_aload_2 h dX9_costing_28 ?_
      refine st_iload_4 h dX9_costing_29 ?_
      obtain ⟨g4, hF⟩ := gI hF
      refine iaC h dX9_costing_31 g4 g3 ?_
      refine st_iadd h dX9_costing_32 ?_
      obtain ⟨g5, hF⟩ := gI hF
      refine iaC h dX9_costing_33 (sk_9_6 g1) g5 ?_
      refine st_imul h dX9_costing_34 ?_
      refine st_iadd h dX9_costing_35 ?_
      obtain ⟨v1, hv1, hF⟩ := swI hF
      refine st_nmi hv1 ?_
      refine st_istore_3 h dX9_costing_36 ?_
      refine st_iinc_4 (y := i4 + 1) h dX9_costing_37 (ii_1 _) ?_
      refine st_goto (t := 5) h dX9_costing_40 (by decide) ?_
      exact st_sub (ls_s (ls_s (ls_s (ls_s (ls_s ls_e))))) (ih σ a0 a1 a2 v1 (i4 + 1) z hF)
set_option maxRecDepth 100000 in
set_option maxHeartbeats 4000000 in
theorem w_X9_costing {l : Launch} {G : Gv} {σ : Sto} {a0 : Nat} {a1 : Nat} {a2 : Nat} {z : Int32} (hF : F_X9_costing σ a0 a1 a2 = some z) : Con l yX9_costing cX9_costing 5 (some .int) 1 G shC νC [.ref a0, .ref a1, .ref a2] (ovC σ) (some (.int z)) (ovC σ) := by
  rw [F_X9_costing] at hF
  refine Con_enter (own := RX9) 2 (lv := [some (.ref a0), some (.ref a1), some (.ref a2), none, none]) mi_X9_costing.2.2.2 rfl (Nat.le_of_ble_eq_true rfl) rfl (fun h hr hin => ?_)
  refine st_ic_0 h dX9_costing_0 ?_
  refine st_istore_3 h dX9_costing_1 ?_
  refine st_ic_0 h dX9_costing_2 ?_
  refine st_istore_4 h dX9_costing_3 ?_
  exact st_sub (ls_s (ls_s (ls_s (ls_s (ls_s ls_e))))) (w_X9_costing_5 h hr FU σ a0 a1 a2 0 0 z hF)
set_option maxRecDepth 100000 in
set_option maxHeartbeats 4000000 in
theorem w_X9_freePrice_4 {p : Program} {l : Launch} {e : Env} {s : State} {m : MethodId} {args : Array Value} {below : List Frame} {meth : Method} {c : Code} {G : Gv} (h : Cx p s m args meth c G cX9_freePrice 4 RX9) (hr : meth.sig.returnType = (some .int)) : ∀ (n : Nat) (σ : Sto) (a0 : Nat) (i1 : Int32) (i2 : Int32) (i3 : Int32) (z : Int32), F_X9_freePrice_4 n σ a0 i1 i2 i3 = some z → AW p l e (rmD 1 0 0) s m args below meth c (MQ below (QcR G shC νC (some (.int z)) (ovC σ)) args s 0 0 (gA G)) 0 0 G 4 4 [some (.ref a0), some (.int i1), some (.int i2), some (.int i3)] [] shC νC (ovC σ) := by
  intro n
  induction n with
  | zero => intro σ a0 i1 i2 i3 z hF; cases hF
  | succ n ih =>
    intro σ a0 i1 i2 i3 z hF
    rw [F_X9_freePrice_4] at hF
    refine st_iload_3 h dX9_freePrice_4 ?_
    refine st_bipush (v := 20) h dX9_freePrice_5 (by decide) ?_
    refine st_icmp_gt (t := 43) h dX9_freePrice_7 (by decide) (fun q1 => ?_) (fun q1 => ?_)
    · have hF := pI q1 hF
      refine st_iload_2 h dX9_freePrice_43 ?_
      cases hF
      exact st_iret h hr dX9_freePrice_44
    · have hF := qI q1 hF
      refine st_aload_0 h dX9_freePrice_10 ?_
      obtain ⟨g1, hF⟩ := gI hF
      refine gX9_7 h fl_X9_28 dX9_freePrice_11 g1 ?_
      refine st_iload_1 h dX9_freePrice_14 ?_
      refine st_bipush (v := 21) h dX9_freePrice_15 (by decide) ?_
      refine st_imul h dX9_freePrice_17 ?_
      refine st_iload_3 h dX9_freePrice_18 ?_
      refine st_iadd h dX9_freePrice_19 ?_
      obtain ⟨g2, hF⟩ := gI hF
      refine iaC h dX9_freePrice_20 (sk_9_7 g1) g2 ?_
      refine st_aload_0 h dX9_freePrice_21 ?_
      refine gX9_7 h fl_X9_28 dX9_freePrice_22 g1 ?_
      refine st_iload_1 h dX9_freePrice_25 ?_
      refine st_bipush (v := 21) h dX9_freePrice_26 (by decide) ?_
      refine st_imul h dX9_freePrice_28 ?_
      refine st_iload_2 h dX9_freePrice_29 ?_
      refine st_iadd h dX9_freePrice_30 ?_
      obtain ⟨g3, hF⟩ := gI hF
      refine iaC h dX9_freePrice_31 (sk_9_7 g1) g3 ?_
      refine st_icmp_le (t := 37) h dX9_freePrice_32 (by decide) (fun q2 => ?_) (fun q2 => ?_)
      · have hF := pI q2 hF
        refine st_iinc_3 (y := i3 + 1) h dX9_freePrice_37 (ii_1 _) ?_
        refine st_goto (t := 4) h dX9_freePrice_40 (by decide) ?_
        exact st_sub (ls_s (ls_s (ls_s (ls_s ls_e)))) (ih σ a0 i1 i2 (i3 + 1) z hF)
      · have hF := qI q2 hF
        refine st_iload_3 h dX9_freePrice_35 ?_
        refine st_istore_2 h dX9_freePrice_36 ?_
        refine st_iinc_3 (y := i3 + 1) h dX9_freePrice_37 (ii_1 _) ?_
        refine st_goto (t := 4) h dX9_freePrice_40 (by decide) ?_
        exact st_sub (ls_s (ls_s (ls_s (ls_s ls_e)))) (ih σ a0 i1 i3 (i3 + 1) z hF)
set_option maxRecDepth 100000 in
set_option maxHeartbeats 4000000 in
theorem w_X9_freePrice {l : Launch} {G : Gv} {σ : Sto} {a0 : Nat} {i1 : Int32} {z : Int32} (hF : F_X9_freePrice σ a0 i1 = some z) : Con l yX9_freePrice cX9_freePrice 4 (some .int) 1 G shC νC [.ref a0, .int i1] (ovC σ) (some (.int z)) (ovC σ) := by
  rw [F_X9_freePrice] at hF
  refine Con_enter (own := RX9) 2 (lv := [some (.ref a0), some (.int i1), none, none]) mi_X9_freePrice.2.2.2 rfl (Nat.le_of_ble_eq_true rfl) rfl (fun h hr hin => ?_)
  refine st_ic_0 h dX9_freePrice_0 ?_
  refine st_istore_2 h dX9_freePrice_1 ?_
  refine st_ic_1 h dX9_freePrice_2 ?_
  refine st_istore_3 h dX9_freePrice_3 ?_
  exact st_sub (ls_s (ls_s (ls_s (ls_s ls_e)))) (w_X9_freePrice_4 h hr FU σ a0 i1 0 1 z hF)
set_option maxRecDepth 100000 in
set_option maxHeartbeats 4000000 in
theorem w_X9_valueOf {l : Launch} {G : Gv} {σ : Sto} {a0 : Nat} {i1 : Int32} {i2 : Int32} {z : Int32} (hF : F_X9_valueOf σ a0 i1 i2 = some z) : Con l yX9_valueOf cX9_valueOf 3 (some .int) 1 G shC νC [.ref a0, .int i1, .int i2] (ovC σ) (some (.int z)) (ovC σ) := by
  rw [F_X9_valueOf] at hF
  refine Con_enter (own := RX9) 0 (lv := [some (.ref a0), some (.int i1), some (.int i2)]) mi_X9_valueOf.2.2.2 rfl (Nat.le_of_ble_eq_true rfl) rfl (fun h hr hin => ?_)
  refine st_aload_0 h dX9_valueOf_0 ?_
  obtain ⟨g1, hF⟩ := gI hF
  refine gX9_3 h fl_X9_15 dX9_valueOf_1 g1 ?_
  refine st_iload_1 h dX9_valueOf_4 ?_
  refine st_ic_4 h dX9_valueOf_5 ?_
  refine st_imul h dX9_valueOf_6 ?_
  refine st_iload_2 h dX9_valueOf_7 ?_
  refine st_iadd h dX9_valueOf_8 ?_
  obtain ⟨g2, hF⟩ := gI hF
  refine iaC h dX9_valueOf_9 (sk_9_3 g1) g2 ?_
  cases hF
  exact st_iret h hr dX9_valueOf_10
set_option maxRecDepth 100000 in
set_option maxHeartbeats 4000000 in
theorem w_X10_duesOf {l : Launch} {G : Gv} {σ : Sto} {a0 : Nat} {a1 : Nat} {i2 : Int32} {z : Int32} (hF : F_X10_duesOf σ a0 a1 i2 = some z) : Con l yX10_duesOf cX10_duesOf 3 (some .int) 2 G shC νC [.ref a0, .ref a1, .int i2] (ovC σ) (some (.int z)) (ovC σ) := by
  rw [F_X10_duesOf] at hF
  refine Con_enter (own := RX10) 0 (lv := [some (.ref a0), some (.ref a1), some (.int i2)]) mi_X10_duesOf.2.2.2 rfl (Nat.le_of_ble_eq_true rfl) rfl (fun h hr hin => ?_)
  refine st_ic_0 h dX10_duesOf_0 ?_
  refine st_aload_1 h dX10_duesOf_1 ?_
  refine st_ic_5 h dX10_duesOf_2 ?_
  refine st_iload_2 h dX10_duesOf_3 ?_
  obtain ⟨g1, hF⟩ := gI hF
  obtain ⟨x1, hx1, hF⟩ := bI hF
  refine st_cVi (vs := [.int 5, .int i2]) (st := [.int 0]) h (w_X9_valueOf hx1) mi_X9_valueOf mv_X9_valueOf ml_X10_33 dX10_duesOf_4 (shC_e g1) rfl ⟨Nat.le_of_ble_eq_true rfl, Nat.le_of_ble_eq_true rfl⟩ (Nat.le_of_ble_eq_true rfl) rfl ?_
  refine st_aload_0 h dX10_duesOf_7 ?_
  obtain ⟨g2, hF⟩ := gI hF
  refine gX10_4 h fl_X10_18 dX10_duesOf_8 g2 ?_
  refine st_iload_2 h dX10_duesOf_11 ?_
  obtain ⟨g3, hF⟩ := gI hF
  refine iaC h dX10_duesOf_12 (sk_10_4 g2) g3 ?_
  refine st_isub h dX10_duesOf_13 ?_
  refine st_max h ml_X10_51 mt_max.1 mt_max.2.1 mt_max.2.2 dX10_duesOf_14 ⟨Nat.le_of_ble_eq_true rfl, Nat.le_of_ble_eq_true rfl⟩ (Nat.le_of_ble_eq_true rfl) ⟨Nat.zero_le _, Nat.zero_le _⟩ ?_
  refine st_aload_0 h dX10_duesOf_17 ?_
  refine gX10_5 h fl_X10_21 dX10_duesOf_18 g2 ?_
  refine st_ic_3 h dX10_duesOf_21 ?_
  refine iaC h dX10_duesOf_22 (sk_10_5 g2) (by decide) ?_
  refine st_imul h dX10_duesOf_23 ?_
  cases hF
  exact st_iret h hr dX10_duesOf_24
set_option maxRecDepth 100000 in
set_option maxHeartbeats 4000000 in
theorem w_X10_dues_4 {p : Program} {l : Launch} {e : Env} {s : State} {m : MethodId} {args : Array Value} {below : List Frame} {meth : Method} {c : Code} {G : Gv} (h : Cx p s m args meth c G cX10_dues 4 RX10) (hr : meth.sig.returnType = (some .int)) : ∀ (n : Nat) (σ : Sto) (a0 : Nat) (a1 : Nat) (i2 : Int32) (i3 : Int32) (z : Int32), F_X10_dues_4 n σ a0 a1 i2 i3 = some z → AW p l e (rmD 3 0 0) s m args below meth c (MQ below (QcR G shC νC (some (.int z)) (ovC σ)) args s 0 0 (gA G)) 0 0 G 4 4 [some (.ref a0), some (.ref a1), some (.int i2), some (.int i3)] [] shC νC (ovC σ) := by
  intro n
  induction n with
  | zero => intro σ a0 a1 i2 i3 z hF; cases hF
  | succ n ih =>
    intro σ a0 a1 i2 i3 z hF
    rw [F_X10_dues_4] at hF
    refine st_iload_3 h dX10_dues_4 ?_
    refine st_aload_1 h dX10_dues_5 ?_
    obtain ⟨g1, hF⟩ := gI hF
    refine gX9_0 h fl_X10_56 dX10_dues_6 g1 ?_
    refine st_icmp_ge (t := 27) h dX10_dues_9 (by decide) (fun q1 => ?_) (fun q1 => ?_)
    · have hF := pI q1 hF
      refine st_iload_2 h dX10_dues_27 ?_
      cases hF
      exact st_iret h hr dX10_dues_28
    · have hF := qI q1 hF
      refine st_iload_2 h dX10_dues_12 ?_
      refine st_aload_0 h dX10_dues_13 ?_
      refine st_aload_1 h dX10_dues_14 ?_
      refine st_iload_3 h dX10_dues_15 ?_
      obtain ⟨g2, hF⟩ := gI hF
      obtain ⟨x1, hx1, hF⟩ := bI hF
      refine st_cVi (vs := [.ref a1, .int i3]) (st := [.int i2]) h (w_X10_duesOf hx1) mi_X10_duesOf mv_X10_duesOf ml_X10_59 dX10_dues_16 (shC_e g2) rfl ⟨Nat.le_of_ble_eq_true rfl, Nat.le_of_ble_eq_true rfl⟩ (Nat.le_of_ble_eq_true rfl) rfl ?_
      refine st_iadd h dX10_dues_19 ?_
      refine st_istore_2 h dX10_dues_20 ?_
      refine st_iinc_3 (y := i3 + 1) h dX10_dues_21 (ii_1 _) ?_
      refine st_goto (t := 4) h dX10_dues_24 (by decide) ?_
      exact st_sub (ls_s (ls_s (ls_s (ls_s ls_e)))) (ih σ a0 a1 (i2 + x1) (i3 + 1) z hF)
set_option maxRecDepth 100000 in
set_option maxHeartbeats 4000000 in
theorem w_X10_dues {l : Launch} {G : Gv} {σ : Sto} {a0 : Nat} {a1 : Nat} {z : Int32} (hF : F_X10_dues σ a0 a1 = some z) : Con l yX10_dues cX10_dues 4 (some .int) 3 G shC νC [.ref a0, .ref a1] (ovC σ) (some (.int z)) (ovC σ) := by
  rw [F_X10_dues] at hF
  refine Con_enter (own := RX10) 2 (lv := [some (.ref a0), some (.ref a1), none, none]) mi_X10_dues.2.2.2 rfl (Nat.le_of_ble_eq_true rfl) rfl (fun h hr hin => ?_)
  refine st_ic_0 h dX10_dues_0 ?_
  refine st_istore_2 h dX10_dues_1 ?_
  refine st_ic_0 h dX10_dues_2 ?_
  refine st_istore_3 h dX10_dues_3 ?_
  exact st_sub (ls_s (ls_s (ls_s (ls_s ls_e)))) (w_X10_dues_4 h hr FU σ a0 a1 0 0 z hF)
set_option maxRecDepth 100000 in
set_option maxHeartbeats 4000000 in
theorem w_X10_rate {l : Launch} {G : Gv} {σ : Sto} {a0 : Nat} {z : Int32} (hF : F_X10_rate σ a0 = some z) : Con l yX10_rate cX10_rate 1 (some .int) 1 G shC νC [.ref a0] (ovC σ) (some (.int z)) (ovC σ) := by
  rw [F_X10_rate] at hF
  refine Con_enter (own := RX10) 0 (lv := [some (.ref a0)]) mi_X10_rate.2.2.2 rfl (Nat.le_of_ble_eq_true rfl) rfl (fun h hr hin => ?_)
  refine st_bipush (v := 100) h dX10_rate_0 (by decide) ?_
  refine st_aload_0 h dX10_rate_2 ?_
  obtain ⟨g1, hF⟩ := gI hF
  refine gX10_5 h fl_X10_21 dX10_rate_3 g1 ?_
  refine st_ic_0 h dX10_rate_6 ?_
  refine iaC h dX10_rate_7 (sk_10_5 g1) (by decide) ?_
  refine st_iadd h dX10_rate_8 ?_
  refine st_aload_0 h dX10_rate_9 ?_
  refine gX10_5 h fl_X10_21 dX10_rate_10 g1 ?_
  refine st_ic_1 h dX10_rate_13 ?_
  refine iaC h dX10_rate_14 (sk_10_5 g1) (by decide) ?_
  refine st_isub h dX10_rate_15 ?_
  cases hF
  exact st_iret h hr dX10_rate_16
set_option maxRecDepth 100000 in
set_option maxHeartbeats 4000000 in
theorem w_X10_allowedWith {l : Launch} {G : Gv} {σ : Sto} {a0 : Nat} {a1 : Nat} {i2 : Int32} {z : Int32} (hF : F_X10_allowedWith σ a0 a1 i2 = some z) : Con l yX10_allowedWith cX10_allowedWith 4 (some .int) 2 G shC νC [.ref a0, .ref a1, .int i2] (ovC σ) (some (.int z)) (ovC σ) := by
  rw [F_X10_allowedWith] at hF
  refine Con_enter (own := RX10) 1 (lv := [some (.ref a0), some (.ref a1), some (.int i2), none]) mi_X10_allowedWith.2.2.2 rfl (Nat.le_of_ble_eq_true rfl) rfl (fun h hr hin => ?_)
  refine st_aload_1 h dX10_allowedWith_0 ?_
  refine st_aload_0 h dX10_allowedWith_1 ?_
  obtain ⟨g1, hF⟩ := gI hF
  refine gX10_2 h fl_X10_9 dX10_allowedWith_2 g1 ?_
  refine st_aload_0 h dX10_allowedWith_5 ?_
  refine gX10_2 h fl_X10_9 dX10_allowedWith_6 g1 ?_
  obtain ⟨g2, hF⟩ := gI hF
  obtain ⟨x1, hx1, hF⟩ := bI hF
  refine st_cVi (vs := [.ref (a0 + 1), .ref (a0 + 1)]) (st := []) h (w_X9_costing hx1) mi_X9_costing mv_X9_costing ml_X10_63 dX10_allowedWith_9 (shC_e g2) rfl ⟨Nat.le_of_ble_eq_true rfl, Nat.le_of_ble_eq_true rfl⟩ (Nat.le_of_ble_eq_true rfl) rfl ?_
  refine st_istore_3 h dX10_allowedWith_12 ?_
  refine st_ic_0 h dX10_allowedWith_13 ?_
  refine st_aload_0 h dX10_allowedWith_14 ?_
  obtain ⟨x2, hx2, hF⟩ := bI hF
  refine st_cVi (vs := []) (st := [.int 0]) h (w_X10_rate hx2) mi_X10_rate mv_X10_rate ml_X10_66 dX10_allowedWith_15 (shC_e g1) rfl ⟨Nat.le_of_ble_eq_true rfl, Nat.le_of_ble_eq_true rfl⟩ (Nat.le_of_ble_eq_true rfl) rfl ?_
  refine st_iload_3 h dX10_allowedWith_18 ?_
  refine st_imul h dX10_allowedWith_19 ?_
  refine st_bipush (v := 100) h dX10_allowedWith_20 (by decide) ?_
  refine st_idiv h (by decide) dX10_allowedWith_22 ?_
  refine st_aload_0 h dX10_allowedWith_23 ?_
  refine gX10_1 h fl_X10_28 dX10_allowedWith_24 g1 ?_
  refine st_iadd h dX10_allowedWith_27 ?_
  refine st_iload_2 h dX10_allowedWith_28 ?_
  refine st_isub h dX10_allowedWith_29 ?_
  refine st_max h ml_X10_51 mt_max.1 mt_max.2.1 mt_max.2.2 dX10_allowedWith_30 ⟨Nat.le_of_ble_eq_true rfl, Nat.le_of_ble_eq_true rfl⟩ (Nat.le_of_ble_eq_true rfl) ⟨Nat.zero_le _, Nat.zero_le _⟩ ?_
  cases hF
  exact st_iret h hr dX10_allowedWith_33
set_option maxRecDepth 100000 in
set_option maxHeartbeats 4000000 in
theorem w_X10_allowed {l : Launch} {G : Gv} {σ : Sto} {a0 : Nat} {a1 : Nat} {z : Int32} (hF : F_X10_allowed σ a0 a1 = some z) : Con l yX10_allowed cX10_allowed 2 (some .int) 4 G shC νC [.ref a0, .ref a1] (ovC σ) (some (.int z)) (ovC σ) := by
  rw [F_X10_allowed] at hF
  refine Con_enter (own := RX10) 0 (lv := [some (.ref a0), some (.ref a1)]) mi_X10_allowed.2.2.2 rfl (Nat.le_of_ble_eq_true rfl) rfl (fun h hr hin => ?_)
  refine st_aload_0 h dX10_allowed_0 ?_
  refine st_aload_1 h dX10_allowed_1 ?_
  refine st_aload_0 h dX10_allowed_2 ?_
  refine st_aload_1 h dX10_allowed_3 ?_
  obtain ⟨g1, hF⟩ := gI hF
  obtain ⟨x1, hx1, hF⟩ := bI hF
  refine st_cVi (vs := [.ref a1]) (st := [.ref a1, .ref a0]) h (w_X10_dues hx1) mi_X10_dues mv_X10_dues ml_X10_70 dX10_allowed_4 (shC_e g1) rfl ⟨Nat.le_of_ble_eq_true rfl, Nat.le_of_ble_eq_true rfl⟩ (Nat.le_of_ble_eq_true rfl) rfl ?_
  obtain ⟨x2, hx2, hF⟩ := bI hF
  refine st_cVi (vs := [.ref a1, .int x1]) (st := []) h (w_X10_allowedWith hx2) mi_X10_allowedWith mv_X10_allowedWith ml_X10_74 dX10_allowed_7 (shC_e g1) rfl ⟨Nat.le_of_ble_eq_true rfl, Nat.le_of_ble_eq_true rfl⟩ (Nat.le_of_ble_eq_true rfl) rfl ?_
  cases hF
  exact st_iret h hr dX10_allowed_10
set_option maxRecDepth 100000 in
set_option maxHeartbeats 4000000 in
theorem w_X8_chooseAt_76 {p : Program} {l : Launch} {e : Env} {s : State} {m : MethodId} {args : Array Value} {below : List Frame} {meth : Method} {c : Code} {G : Gv} (h : Cx p s m args meth c G cX8_chooseAt 10 RX8) (hr : meth.sig.returnType = (some .int)) {k24 : Sto → Int32 → Int32 → Option (Int32 × Sto)} (H24 : ∀ (σ : Sto) (i2 : Int32) (i3 : Int32) (z : (Int32 × Sto)), k24 σ i2 i3 = some z → AW p l e (rmD 1 0 0) s m args below meth c (MQ below (QcR G shC νC (some (.int z.1)) (ovC z.2)) args s 0 0 (gA G)) 0 0 G 10 24 [some (.ref 63), none, some (.int i2), some (.int i3), none, none, none, none, none, none] [] shC νC (ovC σ)) : ∀ (n : Nat) (σ : Sto) (i2 : Int32) (i3 : Int32) (i4 : Int32) (i5 : Int32) (i6 : Int32) (i7 : Int32) (i8 : Int32) (z : (Int32 × Sto)), F_X8_chooseAt_76 k24 n σ i2 i3 i4 i5 i6 i7 i8 = some z → AW p l e (rmD 1 0 0) s m args below meth c (MQ below (QcR G shC νC (some (.int z.1)) (ovC z.2)) args s 0 0 (gA G)) 0 0 G 10 76 [some (.ref 63), none, some (.int i2), some (.int i3), some (.int i4), some (.int i5), some (.int i6), some (.int i7), some (.int i8), none] [] shC νC (ovC σ) := by
  intro n
  induction n with
  | zero => intro σ i2 i3 i4 i5 i6 i7 i8 z hF; cases hF
  | succ n ih =>
    intro σ i2 i3 i4 i5 i6 i7 i8 z hF
    rw [F_X8_chooseAt_76] at hF
    refine st_iload_8 h dX8_chooseAt_76 ?_
    refine st_aload_0 h dX8_chooseAt_78 ?_
    refine gX8_6 h fl_X8_24 dX8_chooseAt_79 (congrArg Prod.fst kC_63) ?_
    refine st_iload_3 h dX8_chooseAt_82 ?_
    obtain ⟨g1, hF⟩ := gI hF
    refine iaC h dX8_chooseAt_83 kC_68 g1 ?_
    refine st_icmp_ge (t := 137) h dX8_chooseAt_84 (by decide) (fun q1 => ?_) (fun q1 => ?_)
    · have hF := pI q1 hF
      refine st_aload_0 h dX8_chooseAt_137 ?_
      refine gX8_10 h fl_X8_36 dX8_chooseAt_138 (congrArg Prod.fst kC_63) ?_
      refine st_iload_3 h dX8_chooseAt_141 ?_
      refine st_iload_6 h dX8_chooseAt_142 ?_
      obtain ⟨s1, hs1, hF⟩ := swI hF
      refine isC h dX8_chooseAt_144 kC_72 g1 hs1 ?_
      refine st_aload_0 h dX8_chooseAt_145 ?_
      refine gX8_12 h fl_X8_42 dX8_chooseAt_146 (congrArg Prod.fst kC_63) ?_
      refine st_iload_3 h dX8_chooseAt_149 ?_
      refine st_aload_0 h dX8_chooseAt_150 ?_
      refine gX8_12 h fl_X8_42 dX8_chooseAt_151 (congrArg Prod.fst kC_63) ?_
      refine st_iload_3 h dX8_chooseAt_154 ?_
      refine st_ic_1 h dX8_chooseAt_155 ?_
      refine st_iadd h dX8_chooseAt_156 ?_
      obtain ⟨g2, hF⟩ := gI hF
      refine iaC h dX8_chooseAt_157 kC_74 g2 ?_
      refine st_iload_7 h dX8_chooseAt_158 ?_
      refine st_iadd h dX8_chooseAt_160 ?_
      obtain ⟨g3, hF⟩ := gI hF
      obtain ⟨s2, hs2, hF⟩ := swI hF
      refine isC h dX8_chooseAt_161 kC_74 g3 hs2 ?_
      refine st_iload_2 h dX8_chooseAt_162 ?_
      refine st_aload_0 h dX8_chooseAt_163 ?_
      refine gX8_2 h fl_X8_11 dX8_chooseAt_164 (congrArg Prod.fst kC_63) ?_
      refine st_iload_3 h dX8_chooseAt_167 ?_
      obtain ⟨g4, hF⟩ := gI hF
      refine iaC h dX8_chooseAt_168 kC_64 g4 ?_
      refine st_aload_0 h dX8_chooseAt_169 ?_
      refine gX8_7 h fl_X8_27 dX8_chooseAt_170 (congrArg Prod.fst kC_63) ?_
      refine st_iload_4 h dX8_chooseAt_173 ?_
      refine st_iload_6 h dX8_chooseAt_175 ?_
      refine st_iadd h dX8_chooseAt_177 ?_
      obtain ⟨g5, hF⟩ := gI hF
      refine iaC h dX8_chooseAt_178 kC_69 g5 ?_
      refine st_imul h dX8_chooseAt_179 ?_
      refine st_iadd h dX8_chooseAt_180 ?_
      obtain ⟨v1, hv1, hF⟩ := swI hF
      refine st_nmi hv1 ?_
      refine st_istore_2 h dX8_chooseAt_181 ?_
      refine st_iinc_3 (y := i3 + (-1)) h dX8_chooseAt_182 (ii_m1 _) ?_
      refine st_goto (t := 24) h dX8_chooseAt_185 (by decide) ?_
      exact st_sub (ls_s (ls_n (ls_s (ls_s (ls_n (ls_n (ls_n (ls_n (ls_n (ls_n ls_e)))))))))) (H24 s2 v1 (i3 + (-1)) z hF)
    · have hF := qI q1 hF
      refine st_aload_0 h dX8_chooseAt_87 ?_
      refine gX8_8 h fl_X8_30 dX8_chooseAt_88 (congrArg Prod.fst kC_63) ?_
      refine st_iload_4 h dX8_chooseAt_91 ?_
      refine st_iload_8 h dX8_chooseAt_93 ?_
      refine st_iadd h dX8_chooseAt_95 ?_
      obtain ⟨g6, hF⟩ := gI hF
      refine iaC h dX8_chooseAt_96 kC_70 g6 ?_
      refine st_bipush (v := 8) h dX8_chooseAt_97 (by decide) ?_
      refine st_ishl h dX8_chooseAt_99 ?_
      refine st_iload_5 h dX8_chooseAt_100 ?_
      refine st_aload_0 h dX8_chooseAt_102 ?_
      refine gX8_7 h fl_X8_27 dX8_chooseAt_103 (congrArg Prod.fst kC_63) ?_
      refine st_iload_4 h dX8_chooseAt_106 ?_
      refine st_iload_8 h dX8_chooseAt_108 ?_
      refine st_iadd h dX8_chooseAt_110 ?_
      refine iaC h dX8_chooseAt_111 kC_69 g6 ?_
      refine st_imul h dX8_chooseAt_112 ?_
      refine st_isub h dX8_chooseAt_113 ?_
      obtain ⟨v2, hv2, hF⟩ := swI hF
      refine st_nmi hv2 ?_
      refine st_istore_9 h dX8_chooseAt_114 ?_
      refine st_iload_9 h dX8_chooseAt_116 ?_
      refine st_iload_7 h dX8_chooseAt_118 ?_
      refine st_icmp_le (t := 131) h dX8_chooseAt_120 (by decide) (fun q2 => ?_) (fun q2 => ?_)
      · have hF := pI q2 hF
        refine st_iinc_8 (y := i8 + 1) h dX8_chooseAt_131 (ii_1 _) ?_
        refine st_goto (t := 76) h dX8_chooseAt_134 (by decide) ?_
        exact st_sub (ls_s (ls_n (ls_s (ls_s (ls_s (ls_s (ls_s (ls_s (ls_s (ls_n ls_e)))))))))) (ih σ i2 i3 i4 i5 i6 i7 (i8 + 1) z hF)
      · have hF := qI q2 hF
        refine st_iload_9 h dX8_chooseAt_123 ?_
        refine st_istore_7 h dX8_chooseAt_125 ?_
        refine st_iload_8 h dX8_chooseAt_127 ?_
        refine st_istore_6 h dX8_chooseAt_129 ?_
        refine st_iinc_8 (y := i8 + 1) h dX8_chooseAt_131 (ii_1 _) ?_
        refine st_goto (t := 76) h dX8_chooseAt_134 (by decide) ?_
        exact st_sub (ls_s (ls_n (ls_s (ls_s (ls_s (ls_s (ls_s (ls_s (ls_s (ls_n ls_e)))))))))) (ih σ i2 i3 i4 i5 i8 v2 (i8 + 1) z hF)
set_option maxRecDepth 100000 in
set_option maxHeartbeats 4000000 in
theorem w_X8_chooseAt_24 {p : Program} {l : Launch} {e : Env} {s : State} {m : MethodId} {args : Array Value} {below : List Frame} {meth : Method} {c : Code} {G : Gv} (h : Cx p s m args meth c G cX8_chooseAt 10 RX8) (hr : meth.sig.returnType = (some .int)) : ∀ (n : Nat) (σ : Sto) (i2 : Int32) (i3 : Int32) (z : (Int32 × Sto)), F_X8_chooseAt_24 n σ i2 i3 = some z → AW p l e (rmD 1 0 0) s m args below meth c (MQ below (QcR G shC νC (some (.int z.1)) (ovC z.2)) args s 0 0 (gA G)) 0 0 G 10 24 [some (.ref 63), none, some (.int i2), some (.int i3), none, none, none, none, none, none] [] shC νC (ovC σ) := by
  intro n
  induction n with
  | zero => intro σ i2 i3 z hF; cases hF
  | succ n ih =>
    intro σ i2 i3 z hF
    rw [F_X8_chooseAt_24] at hF
    refine st_iload_3 h dX8_chooseAt_24 ?_
    refine st_if_lt (t := 188) h dX8_chooseAt_25 (by decide) (fun q1 => ?_) (fun q1 => ?_)
    · have hF := pI q1 hF
      refine st_iload_2 h dX8_chooseAt_188 ?_
      cases hF
      exact st_iret h hr dX8_chooseAt_189
    · have hF := qI q1 hF
      refine st_iload_3 h dX8_chooseAt_28 ?_
      refine st_bipush (v := 21) h dX8_chooseAt_29 (by decide) ?_
      refine st_imul h dX8_chooseAt_31 ?_
      refine st_istore_4 h dX8_chooseAt_32 ?_
      refine st_aload_0 h dX8_chooseAt_34 ?_
      refine gX8_13 h fl_X8_121 dX8_chooseAt_35 (congrArg Prod.fst kC_63) ?_
      refine st_aload_0 h dX8_chooseAt_38 ?_
      refine gX8_2 h fl_X8_11 dX8_chooseAt_39 (congrArg Prod.fst kC_63) ?_
      refine st_iload_3 h dX8_chooseAt_42 ?_
      obtain ⟨g1, hF⟩ := gI hF
      refine iaC h dX8_chooseAt_43 kC_64 g1 ?_
      refine st_imul h dX8_chooseAt_44 ?_
      obtain ⟨v1, hv1, hF⟩ := swI hF
      refine st_nmi hv1 ?_
      refine st_istore_5 h dX8_chooseAt_45 ?_
      refine st_ic_0 h dX8_chooseAt_47 ?_
      refine st_istore_6 h dX8_chooseAt_48 ?_
      refine st_aload_0 h dX8_chooseAt_50 ?_
      refine gX8_8 h fl_X8_30 dX8_chooseAt_51 (congrArg Prod.fst kC_63) ?_
      refine st_iload_4 h dX8_chooseAt_54 ?_
      obtain ⟨g2, hF⟩ := gI hF
      refine iaC h dX8_chooseAt_56 kC_70 g2 ?_
      refine st_bipush (v := 8) h dX8_chooseAt_57 (by decide) ?_
      refine st_ishl h dX8_chooseAt_59 ?_
      refine st_iload_5 h dX8_chooseAt_60 ?_
      refine st_aload_0 h dX8_chooseAt_62 ?_
      refine gX8_7 h fl_X8_27 dX8_chooseAt_63 (congrArg Prod.fst kC_63) ?_
      refine st_iload_4 h dX8_chooseAt_66 ?_
      refine iaC h dX8_chooseAt_68 kC_69 g2 ?_
      refine st_imul h dX8_chooseAt_69 ?_
      refine st_isub h dX8_chooseAt_70 ?_
      obtain ⟨v2, hv2, hF⟩ := swI hF
      refine st_nmi hv2 ?_
      refine st_istore_7 h dX8_chooseAt_71 ?_
      refine st_ic_1 h dX8_chooseAt_73 ?_
      refine st_istore_8 h dX8_chooseAt_74 ?_
      exact st_sub (ls_s (ls_n (ls_s (ls_s (ls_s (ls_s (ls_s (ls_s (ls_s (ls_n ls_e)))))))))) (w_X8_chooseAt_76 h hr ih FU σ i2 i3 (i3 * 21) v1 0 v2 1 z hF)
set_option maxRecDepth 100000 in
set_option maxHeartbeats 4000000 in
theorem w_X8_chooseAt {l : Launch} {G : Gv} {σ : Sto} {i1 : Int32} {z : (Int32 × Sto)} (hF : F_X8_chooseAt σ i1 = some z) : Con l yX8_chooseAt cX8_chooseAt 10 (some .int) 1 G shC νC [.ref 63, .int i1] (ovC σ) (some (.int z.1)) (ovC z.2) := by
  rw [F_X8_chooseAt] at hF
  refine Con_enter (own := RX8) 8 (lv := [some (.ref 63), some (.int i1), none, none, none, none, none, none, none, none]) mi_X8_chooseAt.2.2.2 rfl (Nat.le_of_ble_eq_true rfl) rfl (fun h hr hin => ?_)
  refine st_aload_0 h dX8_chooseAt_0 ?_
  refine st_iload_1 h dX8_chooseAt_1 ?_
  obtain ⟨s1, hs1, hF⟩ := swI hF
  refine pX8_13 h fl_X8_121 dX8_chooseAt_2 (congrArg Prod.fst kC_63) hs1 ?_
  refine st_aload_0 h dX8_chooseAt_5 ?_
  refine gX8_12 h fl_X8_42 dX8_chooseAt_6 (congrArg Prod.fst kC_63) ?_
  refine st_aload_0 h dX8_chooseAt_9 ?_
  refine gX8_0 h fl_X8_51 dX8_chooseAt_10 (congrArg Prod.fst kC_63) ?_
  refine st_ic_0 h dX8_chooseAt_13 ?_
  obtain ⟨g1, hF⟩ := gI hF
  obtain ⟨s2, hs2, hF⟩ := swI hF
  refine isC h dX8_chooseAt_14 kC_74 g1 hs2 ?_
  refine st_ic_0 h dX8_chooseAt_15 ?_
  refine st_istore_2 h dX8_chooseAt_16 ?_
  refine st_aload_0 h dX8_chooseAt_17 ?_
  refine gX8_0 h fl_X8_51 dX8_chooseAt_18 (congrArg Prod.fst kC_63) ?_
  refine st_ic_1 h dX8_chooseAt_21 ?_
  refine st_isub h dX8_chooseAt_22 ?_
  refine st_istore_3 h dX8_chooseAt_23 ?_
  exact st_sub (ls_s (ls_n (ls_s (ls_s (ls_n (ls_n (ls_n (ls_n (ls_n (ls_n ls_e)))))))))) (w_X8_chooseAt_24 h hr FU s2 0 ((s2.1 63 0) - 1) z hF)
set_option maxRecDepth 100000 in
set_option maxHeartbeats 4000000 in
theorem w_X8_highestStair_16 {p : Program} {l : Launch} {e : Env} {s : State} {m : MethodId} {args : Array Value} {below : List Frame} {meth : Method} {c : Code} {G : Gv} (h : Cx p s m args meth c G cX8_highestStair 5 RX8) (hr : meth.sig.returnType = (some .int)) : ∀ (n : Nat) (σ : Sto) (i1 : Int32) (i2 : Int32) (i3 : Int32) (z : Int32), F_X8_highestStair_16 n σ i1 i2 i3 = some z → AW p l e (rmD 1 0 0) s m args below meth c (MQ below (QcR G shC νC (some (.int z)) (ovC σ)) args s 0 0 (gA G)) 0 0 G 5 16 [some (.ref 63), some (.int i1), some (.int i2), some (.int i3), none] [] shC νC (ovC σ) := by
  intro n
  induction n with
  | zero => intro σ i1 i2 i3 z hF; cases hF
  | succ n ih =>
    intro σ i1 i2 i3 z hF
    rw [F_X8_highestStair_16] at hF
    refine st_iload_3 h dX8_highestStair_16 ?_
    refine st_aload_0 h dX8_highestStair_17 ?_
    refine gX8_1 h fl_X8_52 dX8_highestStair_18 (congrArg Prod.fst kC_63) ?_
    refine st_icmp_ge (t := 61) h dX8_highestStair_21 (by decide) (fun q1 => ?_) (fun q1 => ?_)
    · have hF := pI q1 hF
      refine st_aload_0 h dX8_highestStair_61 ?_
      refine gX8_9 h fl_X8_33 dX8_highestStair_62 (congrArg Prod.fst kC_63) ?_
      refine st_iload_1 h dX8_highestStair_65 ?_
      refine st_bipush (v := 21) h dX8_highestStair_66 (by decide) ?_
      refine st_imul h dX8_highestStair_68 ?_
      refine st_ic_0 h dX8_highestStair_69 ?_
      refine st_iload_2 h dX8_highestStair_70 ?_
      refine st_max h ml_X8_81 mt_max.1 mt_max.2.1 mt_max.2.2 dX8_highestStair_71 ⟨Nat.le_of_ble_eq_true rfl, Nat.le_of_ble_eq_true rfl⟩ (Nat.le_of_ble_eq_true rfl) ⟨Nat.zero_le _, Nat.zero_le _⟩ ?_
      refine st_iadd h dX8_highestStair_74 ?_
      obtain ⟨g1, hF⟩ := gI hF
      refine iaC h dX8_highestStair_75 kC_71 g1 ?_
      cases hF
      exact st_iret h hr dX8_highestStair_76
    · have hF := qI q1 hF
      refine st_aload_0 h dX8_highestStair_24 ?_
      refine gX8_2 h fl_X8_11 dX8_highestStair_25 (congrArg Prod.fst kC_63) ?_
      refine st_iload_3 h dX8_highestStair_28 ?_
      refine st_ic_4 h dX8_highestStair_29 ?_
      refine st_imul h dX8_highestStair_30 ?_
      refine st_iload_1 h dX8_highestStair_31 ?_
      refine st_iadd h dX8_highestStair_32 ?_
      obtain ⟨g2, hF⟩ := gI hF
      refine iaC h dX8_highestStair_33 kC_64 g2 ?_
      refine st_istore_4 h dX8_highestStair_34 ?_
      refine st_iload_4 h dX8_highestStair_36 ?_
      refine st_if_le (t := 55) h dX8_highestStair_38 (by decide) (fun q2 => ?_) (fun q2 => ?_)
      · have hF := pI q2 hF
        refine st_iinc_3 (y := i3 + 1) h dX8_highestStair_55 (ii_1 _) ?_
        refine st_goto (t := 16) h dX8_highestStair_58 (by decide) ?_
        exact st_sub (ls_s (ls_s (ls_s (ls_s (ls_n ls_e))))) (ih σ i1 i2 (i3 + 1) z hF)
      · have hF := qI q2 hF
        refine st_iload_2 h dX8_highestStair_41 ?_
        refine st_aload_0 h dX8_highestStair_42 ?_
        refine gX8_3 h fl_X8_15 dX8_highestStair_43 (congrArg Prod.fst kC_63) ?_
        refine st_iload_3 h dX8_highestStair_46 ?_
        obtain ⟨g3, hF⟩ := gI hF
        refine iaC h dX8_highestStair_47 kC_65 g3 ?_
        refine st_iload_4 h dX8_highestStair_48 ?_
        obtain ⟨g4, hF⟩ := gI hF
        refine st_idiv h g4 dX8_highestStair_50 ?_
        refine st_min h ml_X8_65 mt_min.1 mt_min.2.1 mt_min.2.2 dX8_highestStair_51 ⟨Nat.le_of_ble_eq_true rfl, Nat.le_of_ble_eq_true rfl⟩ (Nat.le_of_ble_eq_true rfl) ⟨Nat.zero_le _, Nat.zero_le _⟩ ?_
        obtain ⟨v1, hv1, hF⟩ := swI hF
        refine st_nmi hv1 ?_
        refine st_istore_2 h dX8_highestStair_54 ?_
        refine st_iinc_3 (y := i3 + 1) h dX8_highestStair_55 (ii_1 _) ?_
        refine st_goto (t := 16) h dX8_highestStair_58 (by decide) ?_
        exact st_sub (ls_s (ls_s (ls_s (ls_s (ls_n ls_e))))) (ih σ i1 v1 (i3 + 1) z hF)
set_option maxRecDepth 100000 in
set_option maxHeartbeats 4000000 in
theorem w_X8_highestStair {l : Launch} {G : Gv} {σ : Sto} {i1 : Int32} {z : Int32} (hF : F_X8_highestStair σ i1 = some z) : Con l yX8_highestStair cX8_highestStair 5 (some .int) 1 G shC νC [.ref 63, .int i1] (ovC σ) (some (.int z)) (ovC σ) := by
  rw [F_X8_highestStair] at hF
  refine Con_enter (own := RX8) 3 (lv := [some (.ref 63), some (.int i1), none, none, none]) mi_X8_highestStair.2.2.2 rfl (Nat.le_of_ble_eq_true rfl) rfl (fun h hr hin => ?_)
  refine st_aload_0 h dX8_highestStair_0 ?_
  refine gX8_5 h fl_X8_21 dX8_highestStair_1 (congrArg Prod.fst kC_63) ?_
  refine st_iload_1 h dX8_highestStair_4 ?_
  obtain ⟨g1, hF⟩ := gI hF
  refine iaC h dX8_highestStair_5 kC_67 g1 ?_
  refine st_aload_0 h dX8_highestStair_6 ?_
  refine gX8_4 h fl_X8_18 dX8_highestStair_7 (congrArg Prod.fst kC_63) ?_
  refine st_iload_1 h dX8_highestStair_10 ?_
  refine iaC h dX8_highestStair_11 kC_66 g1 ?_
  refine st_isub h dX8_highestStair_12 ?_
  obtain ⟨v1, hv1, hF⟩ := swI hF
  refine st_nmi hv1 ?_
  refine st_istore_2 h dX8_highestStair_13 ?_
  refine st_ic_0 h dX8_highestStair_14 ?_
  refine st_istore_3 h dX8_highestStair_15 ?_
  exact st_sub (ls_s (ls_s (ls_s (ls_s (ls_n ls_e))))) (w_X8_highestStair_16 h hr FU σ i1 v1 0 z hF)
set_option maxRecDepth 100000 in
set_option maxHeartbeats 4000000 in
theorem w_X8_take_18 {p : Program} {l : Launch} {e : Env} {s : State} {m : MethodId} {args : Array Value} {below : List Frame} {meth : Method} {c : Code} {G : Gv} (h : Cx p s m args meth c G cX8_take 6 RX8) (hr : meth.sig.returnType = none) : ∀ (n : Nat) (σ : Sto) (i1 : Int32) (i4 : Int32) (i5 : Int32) (z : Sto), F_X8_take_18 n σ i1 i4 i5 = some z → AW p l e (rmD 1 0 0) s m args below meth c (MQ below (QcR G shC νC none (ovC z)) args s 0 0 (gA G)) 0 0 G 6 18 [some (.ref 63), some (.int i1), none, none, some (.int i4), some (.int i5)] [] shC νC (ovC σ) := by
  intro n
  induction n with
  | zero => intro σ i1 i4 i5 z hF; cases hF
  | succ n ih =>
    intro σ i1 i4 i5 z hF
    rw [F_X8_take_18] at hF
    refine st_iload_5 h dX8_take_18 ?_
    refine st_aload_0 h dX8_take_20 ?_
    refine gX8_1 h fl_X8_52 dX8_take_21 (congrArg Prod.fst kC_63) ?_
    refine st_icmp_ge (t := 57) h dX8_take_24 (by decide) (fun q1 => ?_) (fun q1 => ?_)
    · have hF := pI q1 hF
      cases hF
      exact st_vret h hr dX8_take_57
    · have hF := qI q1 hF
      refine st_aload_0 h dX8_take_27 ?_
      refine gX8_3 h fl_X8_15 dX8_take_28 (congrArg Prod.fst kC_63) ?_
      refine st_iload_5 h dX8_take_31 ?_
      refine st_dup2 h rfl rfl dX8_take_33 ?_
      obtain ⟨g1, hF⟩ := gI hF
      refine iaC h dX8_take_34 kC_65 g1 ?_
      refine st_aload_0 h dX8_take_35 ?_
      refine gX8_2 h fl_X8_11 dX8_take_36 (congrArg Prod.fst kC_63) ?_
      refine st_iload_5 h dX8_take_39 ?_
      refine st_ic_4 h dX8_take_41 ?_
      refine st_imul h dX8_take_42 ?_
      refine st_iload_1 h dX8_take_43 ?_
      refine st_iadd h dX8_take_44 ?_
      obtain ⟨g2, hF⟩ := gI hF
      refine iaC h dX8_take_45 kC_64 g2 ?_
      refine st_iload_4 h dX8_take_46 ?_
      refine st_imul h dX8_take_48 ?_
      refine st_isub h dX8_take_49 ?_
      obtain ⟨s1, hs1, hF⟩ := swI hF
      refine isC h dX8_take_50 kC_65 g1 hs1 ?_
      refine st_iinc_5 (y := i5 + 1) h dX8_take_51 (ii_1 _) ?_
      refine st_goto (t := 18) h dX8_take_54 (by decide) ?_
      exact st_sub (ls_s (ls_s (ls_n (ls_n (ls_s (ls_s ls_e)))))) (ih s1 i1 i4 (i5 + 1) z hF)
set_option maxRecDepth 100000 in
set_option maxHeartbeats 4000000 in
theorem w_X8_take {l : Launch} {G : Gv} {σ : Sto} {i1 : Int32} {i2 : Int32} {i3 : Int32} {z : Sto} (hF : F_X8_take σ i1 i2 i3 = some z) : Con l yX8_take cX8_take 6 none 1 G shC νC [.ref 63, .int i1, .int i2, .int i3] (ovC σ) none (ovC z) := by
  rw [F_X8_take] at hF
  refine Con_enter (own := RX8) 2 (lv := [some (.ref 63), some (.int i1), some (.int i2), some (.int i3), none, none]) mi_X8_take.2.2.2 rfl (Nat.le_of_ble_eq_true rfl) rfl (fun h hr hin => ?_)
  refine st_iload_3 h dX8_take_0 ?_
  refine st_aload_0 h dX8_take_1 ?_
  refine gX8_7 h fl_X8_27 dX8_take_2 (congrArg Prod.fst kC_63) ?_
  refine st_iload_1 h dX8_take_5 ?_
  refine st_bipush (v := 21) h dX8_take_6 (by decide) ?_
  refine st_imul h dX8_take_8 ?_
  refine st_iload_2 h dX8_take_9 ?_
  refine st_iadd h dX8_take_10 ?_
  obtain ⟨g1, hF⟩ := gI hF
  refine iaC h dX8_take_11 kC_69 g1 ?_
  refine st_imul h dX8_take_12 ?_
  obtain ⟨v1, hv1, hF⟩ := swI hF
  refine st_nmi hv1 ?_
  refine st_istore_4 h dX8_take_13 ?_
  refine st_ic_0 h dX8_take_15 ?_
  refine st_istore_5 h dX8_take_16 ?_
  exact st_sub (ls_s (ls_s (ls_n (ls_n (ls_s (ls_s ls_e)))))) (w_X8_take_18 h hr FU σ i1 v1 0 z hF)
set_option maxRecDepth 100000 in
set_option maxHeartbeats 4000000 in
theorem w_X8_end {l : Launch} {G : Gv} {σ : Sto} {i1 : Int32} {i2 : Int32} {i3 : Int32} {z : Sto} (hF : F_X8_end σ i1 i2 i3 = some z) : Con l yX8_end cX8_end 5 none 1 G shC νC [.ref 63, .int i1, .int i2, .int i3] (ovC σ) none (ovC z) := by
  rw [F_X8_end] at hF
  refine Con_enter (own := RX8) 1 (lv := [some (.ref 63), some (.int i1), some (.int i2), some (.int i3), none]) mi_X8_end.2.2.2 rfl (Nat.le_of_ble_eq_true rfl) rfl (fun h hr hin => ?_)
  refine st_iload_3 h dX8_end_0 ?_
  refine st_aload_0 h dX8_end_1 ?_
  refine gX8_8 h fl_X8_30 dX8_end_2 (congrArg Prod.fst kC_63) ?_
  refine st_iload_1 h dX8_end_5 ?_
  refine st_bipush (v := 21) h dX8_end_6 (by decide) ?_
  refine st_imul h dX8_end_8 ?_
  refine st_iload_2 h dX8_end_9 ?_
  refine st_iadd h dX8_end_10 ?_
  obtain ⟨g1, hF⟩ := gI hF
  refine iaC h dX8_end_11 kC_70 g1 ?_
  refine st_iadd h dX8_end_12 ?_
  obtain ⟨v1, hv1, hF⟩ := swI hF
  refine st_nmi hv1 ?_
  refine st_istore_4 h dX8_end_13 ?_
  refine st_iload_4 h dX8_end_15 ?_
  refine st_aload_0 h dX8_end_17 ?_
  refine gX8_14 h fl_X8_111 dX8_end_18 (congrArg Prod.fst kC_63) ?_
  refine st_icmp_le (t := 51) h dX8_end_21 (by decide) (fun q1 => ?_) (fun q1 => ?_)
  · have hF := pI q1 hF
    cases hF
    exact st_vret h hr dX8_end_51
  · have hF := qI q1 hF
    refine st_aload_0 h dX8_end_24 ?_
    refine st_iload_4 h dX8_end_25 ?_
    obtain ⟨s1, hs1, hF⟩ := swI hF
    refine pX8_14 h fl_X8_111 dX8_end_27 (congrArg Prod.fst kC_63) hs1 ?_
    refine st_aload_0 h dX8_end_30 ?_
    refine gX8_10 h fl_X8_36 dX8_end_31 (congrArg Prod.fst kC_63) ?_
    refine st_iload_1 h dX8_end_34 ?_
    refine st_iload_2 h dX8_end_35 ?_
    obtain ⟨g2, hF⟩ := gI hF
    obtain ⟨s2, hs2, hF⟩ := swI hF
    refine isC h dX8_end_36 kC_72 g2 hs2 ?_
    refine st_aload_0 h dX8_end_37 ?_
    refine gX8_10 h fl_X8_36 dX8_end_38 (congrArg Prod.fst kC_63) ?_
    refine st_ic_0 h dX8_end_41 ?_
    refine st_aload_0 h dX8_end_42 ?_
    refine gX8_11 h fl_X8_39 dX8_end_43 (congrArg Prod.fst kC_63) ?_
    refine st_ic_0 h dX8_end_46 ?_
    refine st_ic_4 h dX8_end_47 ?_
    obtain ⟨s3, hs3, hF⟩ := swI hF
    refine cpC h ml_X8_134 dX8_end_48 kC_72 kC_73 (by decide) (by decide) (by decide) (by decide) (by decide) ⟨Nat.le_of_ble_eq_true rfl, Nat.le_of_ble_eq_true rfl⟩ hs3 ?_
    cases hF
    exact st_vret h hr dX8_end_51
set_option maxRecDepth 100000 in
set_option maxHeartbeats 4000000 in
theorem w_X8_descend_33 {p : Program} {l : Launch} {e : Env} {s : State} {m : MethodId} {args : Array Value} {below : List Frame} {meth : Method} {c : Code} {G : Gv} (h : Cx p s m args meth c G cX8_descend 8 RX8) (hr : meth.sig.returnType = none) {d : Nat} {kr : Sto → Int32 → Int32 → Option Sto} (Hr : ∀ (σ : Sto) (i1 : Int32) (i2 : Int32) (z : Sto), kr σ i1 i2 = some z → Con l yX8_descend cX8_descend 8 none (d + 2) G shC νC [.ref 63, .int i1, .int i2] (ovC σ) none (ovC z)) : ∀ (n : Nat) (σ : Sto) (i1 : Int32) (i2 : Int32) (i3 : Int32) (i4 : Int32) (i5 : Int32) (z : Sto), F_X8_descend_33 kr n σ i1 i2 i3 i4 i5 = some z → AW p l e (rmD (d + 1 + 2) 0 0) s m args below meth c (MQ below (QcR G shC νC none (ovC z)) args s 0 0 (gA G)) 0 0 G 8 33 [some (.ref 63), some (.int i1), some (.int i2), some (.int i3), some (.int i4), some (.int i5), none, none] [] shC νC (ovC σ) := by
  intro n
  induction n with
  | zero => intro σ i1 i2 i3 i4 i5 z hF; cases hF
  | succ n ih =>
    intro σ i1 i2 i3 i4 i5 z hF
    rw [F_X8_descend_33] at hF
    refine st_iload_5 h dX8_descend_33 ?_
    refine st_iload_3 h dX8_descend_35 ?_
    refine st_icmp_gt (t := 148) h dX8_descend_36 (by decide) (fun q1 => ?_) (fun q1 => ?_)
    · have hF := pI q1 hF
      cases hF
      exact st_vret h hr dX8_descend_148
    · have hF := qI q1 hF
      refine st_iload_2 h dX8_descend_39 ?_
      refine st_aload_0 h dX8_descend_40 ?_
      refine gX8_8 h fl_X8_30 dX8_descend_41 (congrArg Prod.fst kC_63) ?_
      refine st_iload_4 h dX8_descend_44 ?_
      refine st_iload_5 h dX8_descend_46 ?_
      refine st_iadd h dX8_descend_48 ?_
      obtain ⟨g1, hF⟩ := gI hF
      refine iaC h dX8_descend_49 kC_70 g1 ?_
      refine st_iadd h dX8_descend_50 ?_
      refine st_istore_6 h dX8_descend_51 ?_
      refine st_aload_0 h dX8_descend_53 ?_
      refine gX8_3 h fl_X8_15 dX8_descend_54 (congrArg Prod.fst kC_63) ?_
      refine st_ic_0 h dX8_descend_57 ?_
      refine iaC h dX8_descend_58 kC_65 (by decide) ?_
      refine st_aload_0 h dX8_descend_59 ?_
      refine gX8_2 h fl_X8_11 dX8_descend_60 (congrArg Prod.fst kC_63) ?_
      refine st_iload_1 h dX8_descend_63 ?_
      obtain ⟨g2, hF⟩ := gI hF
      refine iaC h dX8_descend_64 kC_64 g2 ?_
      refine st_aload_0 h dX8_descend_65 ?_
      refine gX8_7 h fl_X8_27 dX8_descend_66 (congrArg Prod.fst kC_63) ?_
      refine st_iload_4 h dX8_descend_69 ?_
      refine st_iload_5 h dX8_descend_71 ?_
      refine st_iadd h dX8_descend_73 ?_
      refine iaC h dX8_descend_74 kC_69 g1 ?_
      refine st_imul h dX8_descend_75 ?_
      refine st_isub h dX8_descend_76 ?_
      obtain ⟨v1, hv1, hF⟩ := swI hF
      refine st_nmi hv1 ?_
      refine st_istore_7 h dX8_descend_77 ?_
      refine st_iload_6 h dX8_descend_79 ?_
      refine st_aload_0 h dX8_descend_81 ?_
      refine gX8_14 h fl_X8_111 dX8_descend_82 (congrArg Prod.fst kC_63) ?_
      refine st_isub h dX8_descend_85 ?_
      refine st_bipush (v := 8) h dX8_descend_86 (by decide) ?_
      refine st_ishl h dX8_descend_88 ?_
      refine st_aload_0 h dX8_descend_89 ?_
      refine gX8_12 h fl_X8_42 dX8_descend_90 (congrArg Prod.fst kC_63) ?_
      refine st_iload_1 h dX8_descend_93 ?_
      refine st_ic_1 h dX8_descend_94 ?_
      refine st_iadd h dX8_descend_95 ?_
      obtain ⟨g3, hF⟩ := gI hF
      refine iaC h dX8_descend_96 kC_74 g3 ?_
      refine st_iadd h dX8_descend_97 ?_
      refine st_aload_0 h dX8_descend_98 ?_
      refine gX8_13 h fl_X8_121 dX8_descend_99 (congrArg Prod.fst kC_63) ?_
      refine st_iload_7 h dX8_descend_102 ?_
      refine st_imul h dX8_descend_104 ?_
      refine st_iadd h dX8_descend_105 ?_
      refine st_if_le (t := 142) h dX8_descend_106 (by decide) (fun q2 => ?_) (fun q2 => ?_)
      · have hF := pI q2 hF
        refine st_iinc_5 (y := i5 + 1) h dX8_descend_142 (ii_1 _) ?_
        refine st_goto (t := 33) h dX8_descend_145 (by decide) ?_
        exact st_sub (ls_s (ls_s (ls_s (ls_s (ls_s (ls_s (ls_n (ls_n ls_e)))))))) (ih σ i1 i2 i3 i4 (i5 + 1) z hF)
      · have hF := qI q2 hF
        refine st_aload_0 h dX8_descend_109 ?_
        refine gX8_10 h fl_X8_36 dX8_descend_110 (congrArg Prod.fst kC_63) ?_
        refine st_iload_1 h dX8_descend_113 ?_
        refine st_iload_5 h dX8_descend_114 ?_
        obtain ⟨g4, hF⟩ := gI hF
        obtain ⟨s1, hs1, hF⟩ := swI hF
        refine isC h dX8_descend_116 kC_72 g4 hs1 ?_
        refine st_aload_0 h dX8_descend_117 ?_
        refine st_iload_1 h dX8_descend_118 ?_
        refine st_iload_5 h dX8_descend_119 ?_
        refine st_ic_1 h dX8_descend_121 ?_
        obtain ⟨x1, hx1, hF⟩ := bI hF
        refine st_cVv (vs := [.int i1, .int i5, .int 1]) (st := []) h (w_X8_take hx1) mi_X8_take mv_X8_take ml_X8_127 dX8_descend_122 kC_63 rfl (by constructor <;> simp only [rmD] <;> omega) (Nat.le_of_ble_eq_true rfl) rfl ?_
        refine st_aload_0 h dX8_descend_125 ?_
        refine st_iload_1 h dX8_descend_126 ?_
        refine st_ic_1 h dX8_descend_127 ?_
        refine st_iadd h dX8_descend_128 ?_
        refine st_iload_6 h dX8_descend_129 ?_
        obtain ⟨x2, hx2, hF⟩ := bI hF
        refine st_cVv (vs := [.int (i1 + 1), .int (i2 + (σ.1 70 (ix (i4 + i5))))]) (st := []) h (Hr x1 (i1 + 1) (i2 + (σ.1 70 (ix (i4 + i5)))) x2 hx2) mi_X8_descend mv_X8_descend ml_X8_107 dX8_descend_131 kC_63 rfl (by constructor <;> simp only [rmD] <;> omega) (Nat.le_of_ble_eq_true rfl) rfl ?_
        refine st_aload_0 h dX8_descend_134 ?_
        refine st_iload_1 h dX8_descend_135 ?_
        refine st_iload_5 h dX8_descend_136 ?_
        refine st_ic_m1 h dX8_descend_138 ?_
        obtain ⟨x3, hx3, hF⟩ := bI hF
        refine st_cVv (vs := [.int i1, .int i5, .int (-1)]) (st := []) h (w_X8_take hx3) mi_X8_take mv_X8_take ml_X8_127 dX8_descend_139 kC_63 rfl (by constructor <;> simp only [rmD] <;> omega) (Nat.le_of_ble_eq_true rfl) rfl ?_
        refine st_iinc_5 (y := i5 + 1) h dX8_descend_142 (ii_1 _) ?_
        refine st_goto (t := 33) h dX8_descend_145 (by decide) ?_
        exact st_sub (ls_s (ls_s (ls_s (ls_s (ls_s (ls_s (ls_n (ls_n ls_e)))))))) (ih x3 i1 i2 i3 i4 (i5 + 1) z hF)
set_option maxRecDepth 100000 in
set_option maxHeartbeats 4000000 in
theorem w_X8_descend {l : Launch} {G : Gv} : ∀ (d : Nat) (σ : Sto) (i1 : Int32) (i2 : Int32) (z : Sto), F_X8_descend d σ i1 i2 = some z → Con l yX8_descend cX8_descend 8 none (d + 2) G shC νC [.ref 63, .int i1, .int i2] (ovC σ) none (ovC z) := by
  intro d
  induction d with
  | zero => intro σ i1 i2 z hF; cases hF
  | succ d Hr =>
    intro σ i1 i2 z hF
    rw [F_X8_descend] at hF
    refine Con_enter (own := RX8) 5 (lv := [some (.ref 63), some (.int i1), some (.int i2), none, none, none, none, none]) mi_X8_descend.2.2.2 rfl (Nat.le_of_ble_eq_true rfl) rfl (fun h hr hin => ?_)
    refine st_aload_0 h dX8_descend_0 ?_
    refine st_iload_1 h dX8_descend_1 ?_
    obtain ⟨x1, hx1, hF⟩ := bI hF
    refine st_cVi (vs := [.int i1]) (st := []) h (w_X8_highestStair hx1) mi_X8_highestStair mv_X8_highestStair ml_X8_124 dX8_descend_2 kC_63 rfl (by constructor <;> simp only [rmD] <;> omega) (Nat.le_of_ble_eq_true rfl) rfl ?_
    refine st_istore_3 h dX8_descend_5 ?_
    refine st_iload_1 h dX8_descend_6 ?_
    refine st_aload_0 h dX8_descend_7 ?_
    refine gX8_0 h fl_X8_51 dX8_descend_8 (congrArg Prod.fst kC_63) ?_
    refine st_ic_1 h dX8_descend_11 ?_
    refine st_isub h dX8_descend_12 ?_
    refine st_icmp_lt (t := 24) h dX8_descend_13 (by decide) (fun q1 => ?_) (fun q1 => ?_)
    · have hF := pI q1 hF
      refine st_iload_1 h dX8_descend_24 ?_
      refine st_bipush (v := 21) h dX8_descend_25 (by decide) ?_
      refine st_imul h dX8_descend_27 ?_
      refine st_istore_4 h dX8_descend_28 ?_
      refine st_ic_0 h dX8_descend_30 ?_
      refine st_istore_5 h dX8_descend_31 ?_
      exact st_sub (ls_s (ls_s (ls_s (ls_s (ls_s (ls_s (ls_n (ls_n ls_e)))))))) (w_X8_descend_33 h hr Hr FU σ i1 i2 x1 (i1 * 21) 0 z hF)
    · have hF := qI q1 hF
      refine st_aload_0 h dX8_descend_16 ?_
      refine st_iload_1 h dX8_descend_17 ?_
      refine st_iload_3 h dX8_descend_18 ?_
      refine st_iload_2 h dX8_descend_19 ?_
      obtain ⟨x2, hx2, hF⟩ := bI hF
      refine st_cVv (vs := [.int i1, .int x1, .int i2]) (st := []) h (w_X8_end hx2) mi_X8_end mv_X8_end ml_X8_131 dX8_descend_20 kC_63 rfl (by constructor <;> simp only [rmD] <;> omega) (Nat.le_of_ble_eq_true rfl) rfl ?_
      cases hF
      exact st_vret h hr dX8_descend_23
set_option maxRecDepth 100000 in
set_option maxHeartbeats 4000000 in
theorem w_X11_answer {l : Launch} {G : Gv} {σ : Sto} {i1 : Int32} {z : (Int32 × Sto)} (hF : F_X11_answer σ i1 = some z) : Con l yX11_answer cX11_answer 2 (some .int) 1 G shC νC [.ref 0, .int i1] (ovC σ) (some (.int z.1)) (ovC z.2) := by
  rw [F_X11_answer] at hF
  refine Con_enter (own := RX11) 0 (lv := [some (.ref 0), some (.int i1)]) mi_X11_answer.2.2.2 rfl (Nat.le_of_ble_eq_true rfl) rfl (fun h hr hin => ?_)
  refine st_aload_0 h dX11_answer_0 ?_
  refine st_ic_0 h dX11_answer_1 ?_
  obtain ⟨s1, hs1, hF⟩ := swI hF
  refine pX11_18 h fl_X11_128 dX11_answer_2 (congrArg Prod.fst kC_0) hs1 ?_
  refine st_iload_1 h dX11_answer_5 ?_
  cases hF
  exact st_iret h hr dX11_answer_6
set_option maxRecDepth 100000 in
set_option maxHeartbeats 4000000 in
theorem w_X9_together_5 {p : Program} {l : Launch} {e : Env} {s : State} {m : MethodId} {args : Array Value} {below : List Frame} {meth : Method} {c : Code} {G : Gv} (h : Cx p s m args meth c G cX9_together 5 RX9) (hr : meth.sig.returnType = (some .int)) : ∀ (n : Nat) (σ : Sto) (a0 : Nat) (a1 : Nat) (a2 : Nat) (i3 : Int32) (i4 : Int32) (z : Int32), F_X9_together_5 n σ a0 a1 a2 i3 i4 = some z → AW p l e (rmD 1 0 0) s m args below meth c (MQ below (QcR G shC νC (some (.int z)) (ovC σ)) args s 0 0 (gA G)) 0 0 G 5 5 [some (.ref a0), some (.ref a1), some (.ref a2), some (.int i3), some (.int i4)] [] shC νC (ovC σ) := by
  intro n
  induction n with
  | zero => intro σ a0 a1 a2 i3 i4 z hF; cases hF
  | succ n ih =>
    intro σ a0 a1 a2 i3 i4 z hF
    rw [F_X9_together_5] at hF
    refine st_iload_4 h dX9_together_5 ?_
    refine st_aload_0 h dX9_together_7 ?_
    obtain ⟨g1, hF⟩ := gI hF
    refine gX9_0 h fl_X9_34 dX9_together_8 g1 ?_
    refine st_icmp_ge (t := 35) h dX9_together_11 (by decide) (fun q1 => ?_) (fun q1 => ?_)
    · have hF := pI q1 hF
      refine st_iload_3 h dX9_together_35 ?_
      cases hF
      exact st_iret h hr dX9_together_36
    · have hF := qI q1 hF
      refine st_iload_3 h dX9_together_14 ?_
      refine st_aload_1 h dX9_together_15 ?_
      refine st_iload_4 h dX9_together_16 ?_
      refine st_bipush (v := 21) h dX9_together_18 (by decide) ?_
      refine st_imul h dX9_together_20 ?_
      refine st_aload_2 h dX9_together_21 ?_
      refine st_iload_4 h dX9_together_22 ?_
      obtain ⟨g2, hF⟩ := gI hF
      obtain ⟨g3, hF⟩ := gI hF
      refine iaC h dX9_together_24 g2 g3 ?_
      refine st_iadd h dX9_together_25 ?_
      obtain ⟨g4, hF⟩ := gI hF
      obtain ⟨g5, hF⟩ := gI hF
      refine iaC h dX9_together_26 g4 g5 ?_
      refine st_iadd h dX9_together_27 ?_
      obtain ⟨v1, hv1, hF⟩ := swI hF
      refine st_nmi hv1 ?_
      refine st_istore_3 h dX9_together_28 ?_
      refine st_iinc_4 (y := i4 + 1) h dX9_together_29 (ii_1 _) ?_
      refine st_goto (t := 5) h dX9_together_32 (by decide) ?_
      exact st_sub (ls_s (ls_s (ls_s (ls_s (ls_s ls_e))))) (ih σ a0 a1 a2 v1 (i4 + 1) z hF)
set_option maxRecDepth 100000 in
set_option maxHeartbeats 4000000 in
theorem w_X9_together {l : Launch} {G : Gv} {σ : Sto} {a0 : Nat} {a1 : Nat} {a2 : Nat} {z : Int32} (hF : F_X9_together σ a0 a1 a2 = some z) : Con l yX9_together cX9_together 5 (some .int) 1 G shC νC [.ref a0, .ref a1, .ref a2] (ovC σ) (some (.int z)) (ovC σ) := by
  rw [F_X9_together] at hF
  refine Con_enter (own := RX9) 2 (lv := [some (.ref a0), some (.ref a1), some (.ref a2), none, none]) mi_X9_together.2.2.2 rfl (Nat.le_of_ble_eq_true rfl) rfl (fun h hr hin => ?_)
  refine st_ic_0 h dX9_together_0 ?_
  refine st_istore_3 h dX9_together_1 ?_
  refine st_ic_0 h dX9_together_2 ?_
  refine st_istore_4 h dX9_together_3 ?_
  exact st_sub (ls_s (ls_s (ls_s (ls_s (ls_s ls_e))))) (w_X9_together_5 h hr FU σ a0 a1 a2 0 0 z hF)
set_option maxRecDepth 100000 in
set_option maxHeartbeats 4000000 in
theorem w_X10_weights {l : Launch} {G : Gv} {σ : Sto} {a0 : Nat} {a1 : Nat} {z : Int32} (hF : F_X10_weights σ a0 a1 = some z) : Con l yX10_weights cX10_weights 2 (some .int) 2 G shC νC [.ref a0, .ref a1] (ovC σ) (some (.int z)) (ovC σ) := by
  rw [F_X10_weights] at hF
  refine Con_enter (own := RX10) 0 (lv := [some (.ref a0), some (.ref a1)]) mi_X10_weights.2.2.2 rfl (Nat.le_of_ble_eq_true rfl) rfl (fun h hr hin => ?_)
  refine st_aload_1 h dX10_weights_0 ?_
  refine st_aload_1 h dX10_weights_1 ?_
  obtain ⟨g1, hF⟩ := gI hF
  refine gX9_6 h fl_X10_44 dX10_weights_2 g1 ?_
  refine st_aload_0 h dX10_weights_5 ?_
  obtain ⟨g2, hF⟩ := gI hF
  refine gX10_2 h fl_X10_9 dX10_weights_6 g2 ?_
  obtain ⟨x1, hx1, hF⟩ := bI hF
  refine st_cVi (vs := [.ref (a1 + 5), .ref (a0 + 1)]) (st := []) h (w_X9_together hx1) mi_X9_together mv_X9_together ml_X10_47 dX10_weights_9 (shC_e g1) rfl ⟨Nat.le_of_ble_eq_true rfl, Nat.le_of_ble_eq_true rfl⟩ (Nat.le_of_ble_eq_true rfl) rfl ?_
  cases hF
  exact st_iret h hr dX10_weights_12
set_option maxRecDepth 100000 in
set_option maxHeartbeats 4000000 in
theorem w_X10_spent {l : Launch} {G : Gv} {σ : Sto} {a0 : Nat} {a1 : Nat} {z : Int32} (hF : F_X10_spent σ a0 a1 = some z) : Con l yX10_spent cX10_spent 2 (some .int) 2 G shC νC [.ref a0, .ref a1] (ovC σ) (some (.int z)) (ovC σ) := by
  rw [F_X10_spent] at hF
  refine Con_enter (own := RX10) 0 (lv := [some (.ref a0), some (.ref a1)]) mi_X10_spent.2.2.2 rfl (Nat.le_of_ble_eq_true rfl) rfl (fun h hr hin => ?_)
  refine st_aload_1 h dX10_spent_0 ?_
  refine st_aload_0 h dX10_spent_1 ?_
  obtain ⟨g1, hF⟩ := gI hF
  refine gX10_3 h fl_X10_15 dX10_spent_2 g1 ?_
  refine st_aload_0 h dX10_spent_5 ?_
  refine gX10_2 h fl_X10_9 dX10_spent_6 g1 ?_
  obtain ⟨g2, hF⟩ := gI hF
  obtain ⟨x1, hx1, hF⟩ := bI hF
  refine st_cVi (vs := [.ref (a0 + 2), .ref (a0 + 1)]) (st := []) h (w_X9_costing hx1) mi_X9_costing mv_X9_costing ml_X10_63 dX10_spent_9 (shC_e g2) rfl ⟨Nat.le_of_ble_eq_true rfl, Nat.le_of_ble_eq_true rfl⟩ (Nat.le_of_ble_eq_true rfl) rfl ?_
  cases hF
  exact st_iret h hr dX10_spent_12
set_option maxRecDepth 100000 in
set_option maxHeartbeats 4000000 in
theorem w_X10_left {l : Launch} {G : Gv} {σ : Sto} {a0 : Nat} {a1 : Nat} {z : Int32} (hF : F_X10_left σ a0 a1 = some z) : Con l yX10_left cX10_left 2 (some .int) 5 G shC νC [.ref a0, .ref a1] (ovC σ) (some (.int z)) (ovC σ) := by
  rw [F_X10_left] at hF
  refine Con_enter (own := RX10) 0 (lv := [some (.ref a0), some (.ref a1)]) mi_X10_left.2.2.2 rfl (Nat.le_of_ble_eq_true rfl) rfl (fun h hr hin => ?_)
  refine st_aload_0 h dX10_left_0 ?_
  refine st_aload_1 h dX10_left_1 ?_
  obtain ⟨g1, hF⟩ := gI hF
  obtain ⟨x1, hx1, hF⟩ := bI hF
  refine st_cVi (vs := [.ref a1]) (st := []) h (w_X10_allowed hx1) mi_X10_allowed mv_X10_allowed ml_X10_83 dX10_left_2 (shC_e g1) rfl ⟨Nat.le_of_ble_eq_true rfl, Nat.le_of_ble_eq_true rfl⟩ (Nat.le_of_ble_eq_true rfl) rfl ?_
  refine st_aload_0 h dX10_left_5 ?_
  refine st_aload_1 h dX10_left_6 ?_
  obtain ⟨x2, hx2, hF⟩ := bI hF
  refine st_cVi (vs := [.ref a1]) (st := [.int x1]) h (w_X10_spent hx2) mi_X10_spent mv_X10_spent ml_X10_77 dX10_left_7 (shC_e g1) rfl ⟨Nat.le_of_ble_eq_true rfl, Nat.le_of_ble_eq_true rfl⟩ (Nat.le_of_ble_eq_true rfl) rfl ?_
  refine st_isub h dX10_left_10 ?_
  cases hF
  exact st_iret h hr dX10_left_11
set_option maxRecDepth 100000 in
set_option maxHeartbeats 4000000 in
theorem w_X10_isKept {l : Launch} {G : Gv} {σ : Sto} {a0 : Nat} {a1 : Nat} {z : Int32} (hF : F_X10_isKept σ a0 a1 = some z) : Con l yX10_isKept cX10_isKept 2 (some .boolean) 6 G shC νC [.ref a0, .ref a1] (ovC σ) (some (.int z)) (ovC σ) := by
  rw [F_X10_isKept] at hF
  refine Con_enter (own := RX10) 0 (lv := [some (.ref a0), some (.ref a1)]) mi_X10_isKept.2.2.2 rfl (Nat.le_of_ble_eq_true rfl) rfl (fun h hr hin => ?_)
  refine st_aload_0 h dX10_isKept_0 ?_
  refine st_aload_1 h dX10_isKept_1 ?_
  obtain ⟨g1, hF⟩ := gI hF
  obtain ⟨x1, hx1, hF⟩ := bI hF
  refine st_cVi (vs := [.ref a1]) (st := []) h (w_X10_left hx1) mi_X10_left mv_X10_left ml_X10_86 dX10_isKept_2 (shC_e g1) rfl ⟨Nat.le_of_ble_eq_true rfl, Nat.le_of_ble_eq_true rfl⟩ (Nat.le_of_ble_eq_true rfl) rfl ?_
  refine st_if_lt (t := 12) h dX10_isKept_5 (by decide) (fun q1 => ?_) (fun q1 => ?_)
  · have hF := pI q1 hF
    refine st_ic_0 h dX10_isKept_12 ?_
    cases hF
    exact st_zret h hr (Or.inl rfl) dX10_isKept_13
  · have hF := qI q1 hF
    refine st_ic_1 h dX10_isKept_8 ?_
    refine st_goto (t := 13) h dX10_isKept_9 (by decide) ?_
    cases hF
    exact st_zret h hr (Or.inr rfl) dX10_isKept_13
set_option maxRecDepth 100000 in
set_option maxHeartbeats 4000000 in
theorem w_X9_off_4 {p : Program} {l : Launch} {e : Env} {s : State} {m : MethodId} {args : Array Value} {below : List Frame} {meth : Method} {c : Code} {G : Gv} (h : Cx p s m args meth c G cX9_off 4 RX9) (hr : meth.sig.returnType = (some .int)) : ∀ (n : Nat) (σ : Sto) (a0 : Nat) (a1 : Nat) (i2 : Int32) (i3 : Int32) (z : Int32), F_X9_off_4 n σ a0 a1 i2 i3 = some z → AW p l e (rmD 2 0 0) s m args below meth c (MQ below (QcR G shC νC (some (.int z)) (ovC σ)) args s 0 0 (gA G)) 0 0 G 4 4 [some (.ref a0), some (.ref a1), some (.int i2), some (.int i3)] [] shC νC (ovC σ) := by
  intro n
  induction n with
  | zero => intro σ a0 a1 i2 i3 z hF; cases hF
  | succ n ih =>
    intro σ a0 a1 i2 i3 z hF
    rw [F_X9_off_4] at hF
    refine st_iload_3 h dX9_off_4 ?_
    refine st_aload_0 h dX9_off_5 ?_
    obtain ⟨g1, hF⟩ := gI hF
    refine gX9_0 h fl_X9_34 dX9_off_6 g1 ?_
    refine st_icmp_ge (t := 34) h dX9_off_9 (by decide) (fun q1 => ?_) (fun q1 => ?_)
    · have hF := pI q1 hF
      refine st_iload_2 h dX9_off_34 ?_
      cases hF
      exact st_iret h hr dX9_off_35
    · have hF := qI q1 hF
      refine st_iload_2 h dX9_off_12 ?_
      refine st_aload_1 h dX9_off_13 ?_
      refine st_iload_3 h dX9_off_14 ?_
      obtain ⟨g2, hF⟩ := gI hF
      obtain ⟨g3, hF⟩ := gI hF
      refine iaC h dX9_off_15 g2 g3 ?_
      refine st_aload_0 h dX9_off_16 ?_
      refine st_ic_3 h dX9_off_17 ?_
      refine st_iload_3 h dX9_off_18 ?_
      obtain ⟨x1, hx1, hF⟩ := bI hF
      refine st_cVi (vs := [.int 3, .int i3]) (st := [.int (σ.1 a1 (ix i3)), .int i2]) h (w_X9_valueOf hx1) mi_X9_valueOf mv_X9_valueOf ml_X9_47 dX9_off_19 (shC_e g1) rfl ⟨Nat.le_of_ble_eq_true rfl, Nat.le_of_ble_eq_true rfl⟩ (Nat.le_of_ble_eq_true rfl) rfl ?_
      refine st_isub h dX9_off_22 ?_
      refine st_abs h ml_X9_56 mt_abs.1 mt_abs.2.1 mt_abs.2.2 dX9_off_23 ⟨Nat.le_of_ble_eq_true rfl, Nat.le_of_ble_eq_true rfl⟩ (Nat.le_of_ble_eq_true rfl) ⟨Nat.zero_le _, Nat.zero_le _⟩ ?_
      refine st_iadd h dX9_off_26 ?_
      obtain ⟨v1, hv1, hF⟩ := swI hF
      refine st_nmi hv1 ?_
      refine st_istore_2 h dX9_off_27 ?_
      refine st_iinc_3 (y := i3 + 1) h dX9_off_28 (ii_1 _) ?_
      refine st_goto (t := 4) h dX9_off_31 (by decide) ?_
      exact st_sub (ls_s (ls_s (ls_s (ls_s ls_e)))) (ih σ a0 a1 v1 (i3 + 1) z hF)
set_option maxRecDepth 100000 in
set_option maxHeartbeats 4000000 in
theorem w_X9_off {l : Launch} {G : Gv} {σ : Sto} {a0 : Nat} {a1 : Nat} {z : Int32} (hF : F_X9_off σ a0 a1 = some z) : Con l yX9_off cX9_off 4 (some .int) 2 G shC νC [.ref a0, .ref a1] (ovC σ) (some (.int z)) (ovC σ) := by
  rw [F_X9_off] at hF
  refine Con_enter (own := RX9) 2 (lv := [some (.ref a0), some (.ref a1), none, none]) mi_X9_off.2.2.2 rfl (Nat.le_of_ble_eq_true rfl) rfl (fun h hr hin => ?_)
  refine st_ic_0 h dX9_off_0 ?_
  refine st_istore_2 h dX9_off_1 ?_
  refine st_ic_0 h dX9_off_2 ?_
  refine st_istore_3 h dX9_off_3 ?_
  exact st_sub (ls_s (ls_s (ls_s (ls_s ls_e)))) (w_X9_off_4 h hr FU σ a0 a1 0 0 z hF)
set_option maxRecDepth 100000 in
set_option maxHeartbeats 4000000 in
theorem w_X11_refuse {l : Launch} {G : Gv} {σ : Sto} {i1 : Int32} {z : (Int32 × Sto)} (hF : F_X11_refuse σ i1 = some z) : Con l yX11_refuse cX11_refuse 2 (some .int) 1 G shC νC [.ref 0, .int i1] (ovC σ) (some (.int z.1)) (ovC z.2) := by
  rw [F_X11_refuse] at hF
  refine Con_enter (own := RX11) 0 (lv := [some (.ref 0), some (.int i1)]) mi_X11_refuse.2.2.2 rfl (Nat.le_of_ble_eq_true rfl) rfl (fun h hr hin => ?_)
  refine st_aload_0 h dX11_refuse_0 ?_
  refine st_iload_1 h dX11_refuse_1 ?_
  obtain ⟨s1, hs1, hF⟩ := swI hF
  refine pX11_18 h fl_X11_128 dX11_refuse_2 (congrArg Prod.fst kC_0) hs1 ?_
  refine st_ic_m1 h dX11_refuse_5 ?_
  cases hF
  exact st_iret h hr dX11_refuse_6
set_option maxRecDepth 100000 in
set_option maxHeartbeats 4000000 in
theorem w_X11_about_222 {p : Program} {l : Launch} {e : Env} {s : State} {m : MethodId} {args : Array Value} {below : List Frame} {meth : Method} {c : Code} {G : Gv} (h : Cx p s m args meth c G cX11_about 2 RX11) (hr : meth.sig.returnType = (some .int)) : ∀ (σ : Sto) (e1 : Int32) (z : (Int32 × Sto)), F_X11_about_222 σ e1 = some z → AW p l e (rmD 7 0 0) s m args below meth c (MQ below (QcR G shC νC (some (.int z.1)) (ovC z.2)) args s 0 0 (gA G)) 0 0 G 2 222 [none, none] [.int e1, .ref 0] shC νC (ovC σ) := by
  intro σ e1 z hF
  rw [F_X11_about_222] at hF
  obtain ⟨x1, hx1, hF⟩ := bI hF
  refine st_cVi (vs := [.int e1]) (st := []) h (w_X11_answer hx1) mi_X11_answer mv_X11_answer ml_X11_125 dX11_about_222 kC_0 rfl ⟨Nat.le_of_ble_eq_true rfl, Nat.le_of_ble_eq_true rfl⟩ (Nat.le_of_ble_eq_true rfl) rfl ?_
  cases hF
  exact st_iret h hr dX11_about_225
set_option maxRecDepth 100000 in
set_option maxHeartbeats 4000000 in
theorem w_X11_about {l : Launch} {G : Gv} {σ : Sto} {i1 : Int32} {z : (Int32 × Sto)} (hF : F_X11_about σ i1 = some z) : Con l yX11_about cX11_about 2 (some .int) 7 G shC νC [.ref 0, .int i1] (ovC σ) (some (.int z.1)) (ovC z.2) := by
  rw [F_X11_about] at hF
  refine Con_enter (own := RX11) 0 (lv := [some (.ref 0), some (.int i1)]) mi_X11_about.2.2.2 rfl (Nat.le_of_ble_eq_true rfl) rfl (fun h hr hin => ?_)
  refine st_aload_0 h dX11_about_0 ?_
  refine gX11_13 h fl_X11_131 dX11_about_1 (congrArg Prod.fst kC_0) ?_
  refine st_if_ne (t := 13) h dX11_about_4 (by decide) (fun q1 => ?_) (fun q1 => ?_)
  · have hF := qI q1 hF
    refine st_iload_1 h dX11_about_13 ?_
    by_cases q2 : i1 = 0
    · have hF := pI q2 hF
      refine st_tableIn (t := 76) h dX11_about_14 (by rw [q2]; decide) (by rw [q2]; decide) (by rw [q2]; rfl) (by decide) ?_
      refine st_aload_0 h dX11_about_76 ?_
      refine st_aload_0 h dX11_about_77 ?_
      obtain ⟨x1, hx1, hF⟩ := bI hF
      refine gX11_11 h fl_X11_83 dX11_about_78 hx1 ?_
      obtain ⟨g1, hF⟩ := gI hF
      refine gX9_0 h fl_X11_122 dX11_about_81 g1 ?_
      obtain ⟨x2, hx2, hF⟩ := bI hF
      refine st_cVi (vs := [.int (σ.1 x1 0)]) (st := []) h (w_X11_answer hx2) mi_X11_answer mv_X11_answer ml_X11_125 dX11_about_84 kC_0 rfl ⟨Nat.le_of_ble_eq_true rfl, Nat.le_of_ble_eq_true rfl⟩ (Nat.le_of_ble_eq_true rfl) rfl ?_
      cases hF
      exact st_iret h hr dX11_about_87
    have hF := qI q2 hF
    by_cases q3 : i1 = 1
    · have hF := pI q3 hF
      refine st_tableIn (t := 88) h dX11_about_14 (by rw [q3]; decide) (by rw [q3]; decide) (by rw [q3]; rfl) (by decide) ?_
      refine st_aload_0 h dX11_about_88 ?_
      refine st_aload_0 h dX11_about_89 ?_
      refine gX11_2 h fl_X11_23 dX11_about_90 (congrArg Prod.fst kC_0) ?_
      refine gX10_0 h fl_X11_135 dX11_about_93 (congrArg Prod.fst kC_3) ?_
      obtain ⟨x3, hx3, hF⟩ := bI hF
      refine st_cVi (vs := [.int (σ.1 3 0)]) (st := []) h (w_X11_answer hx3) mi_X11_answer mv_X11_answer ml_X11_125 dX11_about_96 kC_0 rfl ⟨Nat.le_of_ble_eq_true rfl, Nat.le_of_ble_eq_true rfl⟩ (Nat.le_of_ble_eq_true rfl) rfl ?_
      cases hF
      exact st_iret h hr dX11_about_99
    have hF := qI q3 hF
    by_cases q4 : i1 = 2
    · have hF := pI q4 hF
      refine st_tableIn (t := 100) h dX11_about_14 (by rw [q4]; decide) (by rw [q4]; decide) (by rw [q4]; rfl) (by decide) ?_
      refine st_aload_0 h dX11_about_100 ?_
      refine st_aload_0 h dX11_about_101 ?_
      refine gX11_2 h fl_X11_23 dX11_about_102 (congrArg Prod.fst kC_0) ?_
      obtain ⟨x4, hx4, hF⟩ := bI hF
      refine st_cVi (vs := []) (st := [.ref 0]) h (w_X10_rate hx4) mi_X10_rate mv_X10_rate ml_X11_138 dX11_about_105 kC_3 rfl ⟨Nat.le_of_ble_eq_true rfl, Nat.le_of_ble_eq_true rfl⟩ (Nat.le_of_ble_eq_true rfl) rfl ?_
      obtain ⟨x5, hx5, hF⟩ := bI hF
      refine st_cVi (vs := [.int x4]) (st := []) h (w_X11_answer hx5) mi_X11_answer mv_X11_answer ml_X11_125 dX11_about_108 kC_0 rfl ⟨Nat.le_of_ble_eq_true rfl, Nat.le_of_ble_eq_true rfl⟩ (Nat.le_of_ble_eq_true rfl) rfl ?_
      cases hF
      exact st_iret h hr dX11_about_111
    have hF := qI q4 hF
    by_cases q5 : i1 = 3
    · have hF := pI q5 hF
      refine st_tableIn (t := 112) h dX11_about_14 (by rw [q5]; decide) (by rw [q5]; decide) (by rw [q5]; rfl) (by decide) ?_
      refine st_aload_0 h dX11_about_112 ?_
      refine st_aload_0 h dX11_about_113 ?_
      refine gX11_2 h fl_X11_23 dX11_about_114 (congrArg Prod.fst kC_0) ?_
      refine st_aload_0 h dX11_about_117 ?_
      obtain ⟨x6, hx6, hF⟩ := bI hF
      refine gX11_11 h fl_X11_83 dX11_about_118 hx6 ?_
      obtain ⟨x7, hx7, hF⟩ := bI hF
      refine st_cVi (vs := [.ref x6]) (st := [.ref 0]) h (w_X10_weights hx7) mi_X10_weights mv_X10_weights ml_X11_142 dX11_about_121 kC_3 rfl ⟨Nat.le_of_ble_eq_true rfl, Nat.le_of_ble_eq_true rfl⟩ (Nat.le_of_ble_eq_true rfl) rfl ?_
      obtain ⟨x8, hx8, hF⟩ := bI hF
      refine st_cVi (vs := [.int x7]) (st := []) h (w_X11_answer hx8) mi_X11_answer mv_X11_answer ml_X11_125 dX11_about_124 kC_0 rfl ⟨Nat.le_of_ble_eq_true rfl, Nat.le_of_ble_eq_true rfl⟩ (Nat.le_of_ble_eq_true rfl) rfl ?_
      cases hF
      exact st_iret h hr dX11_about_127
    have hF := qI q5 hF
    by_cases q6 : i1 = 4
    · have hF := pI q6 hF
      refine st_tableIn (t := 128) h dX11_about_14 (by rw [q6]; decide) (by rw [q6]; decide) (by rw [q6]; rfl) (by decide) ?_
      refine st_aload_0 h dX11_about_128 ?_
      refine st_aload_0 h dX11_about_129 ?_
      obtain ⟨x9, hx9, hF⟩ := bI hF
      refine gX11_11 h fl_X11_83 dX11_about_130 hx9 ?_
      refine st_aload_0 h dX11_about_133 ?_
      refine gX11_2 h fl_X11_23 dX11_about_134 (congrArg Prod.fst kC_0) ?_
      refine gX10_2 h fl_X11_146 dX11_about_137 (congrArg Prod.fst kC_3) ?_
      refine st_aload_0 h dX11_about_140 ?_
      refine gX11_2 h fl_X11_23 dX11_about_141 (congrArg Prod.fst kC_0) ?_
      refine gX10_2 h fl_X11_146 dX11_about_144 (congrArg Prod.fst kC_3) ?_
      obtain ⟨g2, hF⟩ := gI hF
      obtain ⟨x10, hx10, hF⟩ := bI hF
      refine st_cVi (vs := [.ref (3 + 1), .ref (3 + 1)]) (st := [.ref 0]) h (w_X9_costing hx10) mi_X9_costing mv_X9_costing ml_X11_149 dX11_about_147 (shC_e g2) rfl ⟨Nat.le_of_ble_eq_true rfl, Nat.le_of_ble_eq_true rfl⟩ (Nat.le_of_ble_eq_true rfl) rfl ?_
      obtain ⟨x11, hx11, hF⟩ := bI hF
      refine st_cVi (vs := [.int x10]) (st := []) h (w_X11_answer hx11) mi_X11_answer mv_X11_answer ml_X11_125 dX11_about_150 kC_0 rfl ⟨Nat.le_of_ble_eq_true rfl, Nat.le_of_ble_eq_true rfl⟩ (Nat.le_of_ble_eq_true rfl) rfl ?_
      cases hF
      exact st_iret h hr dX11_about_153
    have hF := qI q6 hF
    by_cases q7 : i1 = 5
    · have hF := pI q7 hF
      refine st_tableIn (t := 154) h dX11_about_14 (by rw [q7]; decide) (by rw [q7]; decide) (by rw [q7]; rfl) (by decide) ?_
      refine st_aload_0 h dX11_about_154 ?_
      refine st_aload_0 h dX11_about_155 ?_
      refine gX11_2 h fl_X11_23 dX11_about_156 (congrArg Prod.fst kC_0) ?_
      refine st_aload_0 h dX11_about_159 ?_
      obtain ⟨x12, hx12, hF⟩ := bI hF
      refine gX11_11 h fl_X11_83 dX11_about_160 hx12 ?_
      obtain ⟨x13, hx13, hF⟩ := bI hF
      refine st_cVi (vs := [.ref x12]) (st := [.ref 0]) h (w_X10_dues hx13) mi_X10_dues mv_X10_dues ml_X11_153 dX11_about_163 kC_3 rfl ⟨Nat.le_of_ble_eq_true rfl, Nat.le_of_ble_eq_true rfl⟩ (Nat.le_of_ble_eq_true rfl) rfl ?_
      obtain ⟨x14, hx14, hF⟩ := bI hF
      refine st_cVi (vs := [.int x13]) (st := []) h (w_X11_answer hx14) mi_X11_answer mv_X11_answer ml_X11_125 dX11_about_166 kC_0 rfl ⟨Nat.le_of_ble_eq_true rfl, Nat.le_of_ble_eq_true rfl⟩ (Nat.le_of_ble_eq_true rfl) rfl ?_
      cases hF
      exact st_iret h hr dX11_about_169
    have hF := qI q7 hF
    by_cases q8 : i1 = 6
    · have hF := pI q8 hF
      refine st_tableIn (t := 170) h dX11_about_14 (by rw [q8]; decide) (by rw [q8]; decide) (by rw [q8]; rfl) (by decide) ?_
      refine st_aload_0 h dX11_about_170 ?_
      refine st_aload_0 h dX11_about_171 ?_
      refine gX11_2 h fl_X11_23 dX11_about_172 (congrArg Prod.fst kC_0) ?_
      refine st_aload_0 h dX11_about_175 ?_
      obtain ⟨x15, hx15, hF⟩ := bI hF
      refine gX11_11 h fl_X11_83 dX11_about_176 hx15 ?_
      obtain ⟨x16, hx16, hF⟩ := bI hF
      refine st_cVi (vs := [.ref x15]) (st := [.ref 0]) h (w_X10_allowed hx16) mi_X10_allowed mv_X10_allowed ml_X11_156 dX11_about_179 kC_3 rfl ⟨Nat.le_of_ble_eq_true rfl, Nat.le_of_ble_eq_true rfl⟩ (Nat.le_of_ble_eq_true rfl) rfl ?_
      obtain ⟨x17, hx17, hF⟩ := bI hF
      refine st_cVi (vs := [.int x16]) (st := []) h (w_X11_answer hx17) mi_X11_answer mv_X11_answer ml_X11_125 dX11_about_182 kC_0 rfl ⟨Nat.le_of_ble_eq_true rfl, Nat.le_of_ble_eq_true rfl⟩ (Nat.le_of_ble_eq_true rfl) rfl ?_
      cases hF
      exact st_iret h hr dX11_about_185
    have hF := qI q8 hF
    by_cases q9 : i1 = 7
    · have hF := pI q9 hF
      refine st_tableIn (t := 186) h dX11_about_14 (by rw [q9]; decide) (by rw [q9]; decide) (by rw [q9]; rfl) (by decide) ?_
      refine st_aload_0 h dX11_about_186 ?_
      refine st_aload_0 h dX11_about_187 ?_
      refine gX11_2 h fl_X11_23 dX11_about_188 (congrArg Prod.fst kC_0) ?_
      refine st_aload_0 h dX11_about_191 ?_
      obtain ⟨x18, hx18, hF⟩ := bI hF
      refine gX11_11 h fl_X11_83 dX11_about_192 hx18 ?_
      obtain ⟨x19, hx19, hF⟩ := bI hF
      refine st_cVi (vs := [.ref x18]) (st := [.ref 0]) h (w_X10_spent hx19) mi_X10_spent mv_X10_spent ml_X11_159 dX11_about_195 kC_3 rfl ⟨Nat.le_of_ble_eq_true rfl, Nat.le_of_ble_eq_true rfl⟩ (Nat.le_of_ble_eq_true rfl) rfl ?_
      obtain ⟨x20, hx20, hF⟩ := bI hF
      refine st_cVi (vs := [.int x19]) (st := []) h (w_X11_answer hx20) mi_X11_answer mv_X11_answer ml_X11_125 dX11_about_198 kC_0 rfl ⟨Nat.le_of_ble_eq_true rfl, Nat.le_of_ble_eq_true rfl⟩ (Nat.le_of_ble_eq_true rfl) rfl ?_
      cases hF
      exact st_iret h hr dX11_about_201
    have hF := qI q9 hF
    by_cases q10 : i1 = 8
    · have hF := pI q10 hF
      refine st_tableIn (t := 202) h dX11_about_14 (by rw [q10]; decide) (by rw [q10]; decide) (by rw [q10]; rfl) (by decide) ?_
      refine st_aload_0 h dX11_about_202 ?_
      refine st_aload_0 h dX11_about_203 ?_
      refine gX11_2 h fl_X11_23 dX11_about_204 (congrArg Prod.fst kC_0) ?_
      refine st_aload_0 h dX11_about_207 ?_
      obtain ⟨x21, hx21, hF⟩ := bI hF
      refine gX11_11 h fl_X11_83 dX11_about_208 hx21 ?_
      obtain ⟨x22, hx22, hF⟩ := bI hF
      refine st_cVi (vs := [.ref x21]) (st := [.ref 0]) h (w_X10_isKept hx22) mi_X10_isKept mv_X10_isKept ml_X11_162 dX11_about_211 kC_3 rfl ⟨Nat.le_of_ble_eq_true rfl, Nat.le_of_ble_eq_true rfl⟩ (Nat.le_of_ble_eq_true rfl) rfl ?_
      refine st_if_eq (t := 221) h dX11_about_214 (by decide) (fun q11 => ?_) (fun q11 => ?_)
      · have hF := pI q11 hF
        refine st_ic_0 h dX11_about_221 ?_
        exact st_sub (ls_n (ls_n ls_e)) (w_X11_about_222 h hr σ 0 z hF)
      · have hF := qI q11 hF
        refine st_ic_1 h dX11_about_217 ?_
        refine st_goto (t := 222) h dX11_about_218 (by decide) ?_
        exact st_sub (ls_n (ls_n ls_e)) (w_X11_about_222 h hr σ 1 z hF)
    have hF := qI q10 hF
    by_cases q12 : i1 = 9
    · have hF := pI q12 hF
      refine st_tableIn (t := 226) h dX11_about_14 (by rw [q12]; decide) (by rw [q12]; decide) (by rw [q12]; rfl) (by decide) ?_
      refine st_aload_0 h dX11_about_226 ?_
      refine st_aload_0 h dX11_about_227 ?_
      refine gX11_4 h fl_X11_37 dX11_about_228 (congrArg Prod.fst kC_0) ?_
      refine gX5_2 h fl_X11_166 dX11_about_231 (congrArg Prod.fst kC_10) ?_
      obtain ⟨x23, hx23, hF⟩ := bI hF
      refine st_cVi (vs := [.int (σ.1 10 2)]) (st := []) h (w_X11_answer hx23) mi_X11_answer mv_X11_answer ml_X11_125 dX11_about_234 kC_0 rfl ⟨Nat.le_of_ble_eq_true rfl, Nat.le_of_ble_eq_true rfl⟩ (Nat.le_of_ble_eq_true rfl) rfl ?_
      cases hF
      exact st_iret h hr dX11_about_237
    have hF := qI q12 hF
    by_cases q13 : i1 = 10
    · have hF := pI q13 hF
      refine st_tableIn (t := 238) h dX11_about_14 (by rw [q13]; decide) (by rw [q13]; decide) (by rw [q13]; rfl) (by decide) ?_
      refine st_aload_0 h dX11_about_238 ?_
      refine st_aload_0 h dX11_about_239 ?_
      obtain ⟨x24, hx24, hF⟩ := bI hF
      refine gX11_11 h fl_X11_83 dX11_about_240 hx24 ?_
      refine st_aload_0 h dX11_about_243 ?_
      refine gX11_2 h fl_X11_23 dX11_about_244 (congrArg Prod.fst kC_0) ?_
      refine gX10_2 h fl_X11_146 dX11_about_247 (congrArg Prod.fst kC_3) ?_
      obtain ⟨g3, hF⟩ := gI hF
      obtain ⟨x25, hx25, hF⟩ := bI hF
      refine st_cVi (vs := [.ref (3 + 1)]) (st := [.ref 0]) h (w_X9_off hx25) mi_X9_off mv_X9_off ml_X11_169 dX11_about_250 (shC_e g3) rfl ⟨Nat.le_of_ble_eq_true rfl, Nat.le_of_ble_eq_true rfl⟩ (Nat.le_of_ble_eq_true rfl) rfl ?_
      obtain ⟨x26, hx26, hF⟩ := bI hF
      refine st_cVi (vs := [.int x25]) (st := []) h (w_X11_answer hx26) mi_X11_answer mv_X11_answer ml_X11_125 dX11_about_253 kC_0 rfl ⟨Nat.le_of_ble_eq_true rfl, Nat.le_of_ble_eq_true rfl⟩ (Nat.le_of_ble_eq_true rfl) rfl ?_
      cases hF
      exact st_iret h hr dX11_about_256
    have hF := qI q13 hF
    by_cases q14 : i1 = 11
    · have hF := pI q14 hF
      refine st_tableIn (t := 257) h dX11_about_14 (by rw [q14]; decide) (by rw [q14]; decide) (by rw [q14]; rfl) (by decide) ?_
      refine st_aload_0 h dX11_about_257 ?_
      refine st_aload_0 h dX11_about_258 ?_
      obtain ⟨x27, hx27, hF⟩ := bI hF
      refine gX11_11 h fl_X11_83 dX11_about_259 hx27 ?_
      refine st_aload_0 h dX11_about_262 ?_
      refine gX11_2 h fl_X11_23 dX11_about_263 (congrArg Prod.fst kC_0) ?_
      refine gX10_3 h fl_X11_173 dX11_about_266 (congrArg Prod.fst kC_3) ?_
      obtain ⟨g4, hF⟩ := gI hF
      obtain ⟨x28, hx28, hF⟩ := bI hF
      refine st_cVi (vs := [.ref (3 + 2)]) (st := [.ref 0]) h (w_X9_off hx28) mi_X9_off mv_X9_off ml_X11_169 dX11_about_269 (shC_e g4) rfl ⟨Nat.le_of_ble_eq_true rfl, Nat.le_of_ble_eq_true rfl⟩ (Nat.le_of_ble_eq_true rfl) rfl ?_
      obtain ⟨x29, hx29, hF⟩ := bI hF
      refine st_cVi (vs := [.int x28]) (st := []) h (w_X11_answer hx29) mi_X11_answer mv_X11_answer ml_X11_125 dX11_about_272 kC_0 rfl ⟨Nat.le_of_ble_eq_true rfl, Nat.le_of_ble_eq_true rfl⟩ (Nat.le_of_ble_eq_true rfl) rfl ?_
      cases hF
      exact st_iret h hr dX11_about_275
    have hF := qI q14 hF
    refine st_tableOut (t := 276) h dX11_about_14 (tsw_0_11 q2 q3 q4 q5 q6 q7 q8 q9 q10 q12 q13 q14) (by decide) ?_
    refine st_aload_0 h dX11_about_276 ?_
    refine st_ic_1 h dX11_about_277 ?_
    obtain ⟨x30, hx30, hF⟩ := bI hF
    refine st_cVi (vs := [.int 1]) (st := []) h (w_X11_refuse hx30) mi_X11_refuse mv_X11_refuse ml_X11_99 dX11_about_278 kC_0 rfl ⟨Nat.le_of_ble_eq_true rfl, Nat.le_of_ble_eq_true rfl⟩ (Nat.le_of_ble_eq_true rfl) rfl ?_
    cases hF
    exact st_iret h hr dX11_about_281
  · have hF := pI q1 hF
    refine st_aload_0 h dX11_about_7 ?_
    refine st_ic_1 h dX11_about_8 ?_
    obtain ⟨x31, hx31, hF⟩ := bI hF
    refine st_cVi (vs := [.int 1]) (st := []) h (w_X11_refuse hx31) mi_X11_refuse mv_X11_refuse ml_X11_99 dX11_about_9 kC_0 rfl ⟨Nat.le_of_ble_eq_true rfl, Nat.le_of_ble_eq_true rfl⟩ (Nat.le_of_ble_eq_true rfl) rfl ?_
    cases hF
    exact st_iret h hr dX11_about_12
set_option maxRecDepth 100000 in
set_option maxHeartbeats 4000000 in
theorem w_X12_of {l : Launch} {G : Gv} {σ : Sto} {i1 : Int32} {i2 : Int32} {z : Int32} (hF : F_X12_of σ i1 i2 = some z) : Con l yX12_of cX12_of 3 (some .int) 1 G shM νM [.ref 0, .int i1, .int i2] (ovM σ) (some (.int z)) (ovM σ) := by
  rw [F_X12_of] at hF
  refine Con_enter (own := RX12) 0 (lv := [some (.ref 0), some (.int i1), some (.int i2)]) mi_X12_of.2.2.2 rfl (Nat.le_of_ble_eq_true rfl) rfl (fun h hr hin => ?_)
  refine st_aload_0 h dX12_of_0 ?_
  refine gX12_14 h fl_X12_17 dX12_of_1 (congrArg Prod.fst kM_0) ?_
  refine st_bipush (v := 7) h dX12_of_4 (by decide) ?_
  refine st_iload_1 h dX12_of_6 ?_
  refine st_imul h dX12_of_7 ?_
  refine st_iload_2 h dX12_of_8 ?_
  refine st_iadd h dX12_of_9 ?_
  obtain ⟨g1, hF⟩ := gI hF
  refine iaM h dX12_of_10 kM_2 g1 ?_
  cases hF
  exact st_iret h hr dX12_of_11
set_option maxRecDepth 100000 in
set_option maxHeartbeats 4000000 in
theorem w_X12_isNear_38 {p : Program} {l : Launch} {e : Env} {s : State} {m : MethodId} {args : Array Value} {below : List Frame} {meth : Method} {c : Code} {G : Gv} (h : Cx p s m args meth c G cX12_isNear 3 RX12) (hr : meth.sig.returnType = (some .boolean)) : ∀ (σ : Sto) (z : Int32), F_X12_isNear_38 σ  = some z → AW p l e (rmD 2 0 0) s m args below meth c (MQ below (QcR G shM νM (some (.int z)) (ovM σ)) args s 0 0 (gA G)) 0 0 G 3 38 [none, none, none] [] shM νM (ovM σ) := by
  intro σ z hF
  rw [F_X12_isNear_38] at hF
  refine st_ic_1 h dX12_isNear_38 ?_
  refine st_goto (t := 43) h dX12_isNear_39 (by decide) ?_
  cases hF
  exact st_zret h hr (Or.inr rfl) dX12_isNear_43
set_option maxRecDepth 100000 in
set_option maxHeartbeats 4000000 in
theorem w_X12_isNear {l : Launch} {G : Gv} {σ : Sto} {i1 : Int32} {i2 : Int32} {z : Int32} (hF : F_X12_isNear σ i1 i2 = some z) : Con l yX12_isNear cX12_isNear 3 (some .boolean) 2 G shM νM [.ref 0, .int i1, .int i2] (ovM σ) (some (.int z)) (ovM σ) := by
  rw [F_X12_isNear] at hF
  refine Con_enter (own := RX12) 0 (lv := [some (.ref 0), some (.int i1), some (.int i2)]) mi_X12_isNear.2.2.2 rfl (Nat.le_of_ble_eq_true rfl) rfl (fun h hr hin => ?_)
  refine st_aload_0 h dX12_isNear_0 ?_
  refine gX12_38 h fl_X12_64 dX12_isNear_1 (congrArg Prod.fst kM_0) ?_
  refine st_ic_m1 h dX12_isNear_4 ?_
  refine st_icmp_eq (t := 38) h dX12_isNear_5 (by decide) (fun q1 => ?_) (fun q1 => ?_)
  · have hF := pI q1 hF
    exact st_sub (ls_n (ls_n (ls_n ls_e))) (w_X12_isNear_38 h hr σ  z hF)
  · have hF := qI q1 hF
    refine st_iload_2 h dX12_isNear_8 ?_
    refine st_aload_0 h dX12_isNear_9 ?_
    refine st_iload_1 h dX12_isNear_10 ?_
    refine st_ic_0 h dX12_isNear_11 ?_
    obtain ⟨x1, hx1, hF⟩ := bI hF
    refine st_cVi (vs := [.int i1, .int 0]) (st := [.int i2]) h (w_X12_of hx1) mi_X12_of mv_X12_of ml_X12_236 dX12_isNear_12 kM_0 rfl ⟨Nat.le_of_ble_eq_true rfl, Nat.le_of_ble_eq_true rfl⟩ (Nat.le_of_ble_eq_true rfl) rfl ?_
    refine st_isub h dX12_isNear_15 ?_
    refine st_aload_0 h dX12_isNear_16 ?_
    refine gX12_38 h fl_X12_64 dX12_isNear_17 (congrArg Prod.fst kM_0) ?_
    refine st_icmp_gt (t := 42) h dX12_isNear_20 (by decide) (fun q2 => ?_) (fun q2 => ?_)
    · have hF := pI q2 hF
      refine st_ic_0 h dX12_isNear_42 ?_
      cases hF
      exact st_zret h hr (Or.inl rfl) dX12_isNear_43
    · have hF := qI q2 hF
      refine st_aload_0 h dX12_isNear_23 ?_
      refine st_iload_1 h dX12_isNear_24 ?_
      refine st_ic_0 h dX12_isNear_25 ?_
      obtain ⟨x2, hx2, hF⟩ := bI hF
      refine st_cVi (vs := [.int i1, .int 0]) (st := []) h (w_X12_of hx2) mi_X12_of mv_X12_of ml_X12_236 dX12_isNear_26 kM_0 rfl ⟨Nat.le_of_ble_eq_true rfl, Nat.le_of_ble_eq_true rfl⟩ (Nat.le_of_ble_eq_true rfl) rfl ?_
      refine st_iload_2 h dX12_isNear_29 ?_
      refine st_isub h dX12_isNear_30 ?_
      refine st_aload_0 h dX12_isNear_31 ?_
      refine gX12_38 h fl_X12_64 dX12_isNear_32 (congrArg Prod.fst kM_0) ?_
      refine st_icmp_gt (t := 42) h dX12_isNear_35 (by decide) (fun q3 => ?_) (fun q3 => ?_)
      · have hF := pI q3 hF
        refine st_ic_0 h dX12_isNear_42 ?_
        cases hF
        exact st_zret h hr (Or.inl rfl) dX12_isNear_43
      · have hF := qI q3 hF
        exact st_sub (ls_n (ls_n (ls_n ls_e))) (w_X12_isNear_38 h hr σ  z hF)
set_option maxRecDepth 100000 in
set_option maxHeartbeats 4000000 in
theorem w_X12_bears_74 {p : Program} {l : Launch} {e : Env} {s : State} {m : MethodId} {args : Array Value} {below : List Frame} {meth : Method} {c : Code} {G : Gv} (h : Cx p s m args meth c G cX12_bears 5 RX12) (hr : meth.sig.returnType = (some .boolean)) : ∀ (σ : Sto) (z : (Int32 × Sto)), F_X12_bears_74 σ  = some z → AW p l e (rmD 1 0 0) s m args below meth c (MQ below (QcR G shM νM (some (.int z.1)) (ovM z.2)) args s 0 0 (gA G)) 0 0 G 5 74 [none, none, none, none, none] [] shM νM (ovM σ) := by
  intro σ z hF
  rw [F_X12_bears_74] at hF
  refine st_ic_1 h dX12_bears_74 ?_
  refine st_goto (t := 79) h dX12_bears_75 (by decide) ?_
  cases hF
  exact st_zret h hr (Or.inr rfl) dX12_bears_79
set_option maxRecDepth 100000 in
set_option maxHeartbeats 4000000 in
theorem w_X12_bears_5 {p : Program} {l : Launch} {e : Env} {s : State} {m : MethodId} {args : Array Value} {below : List Frame} {meth : Method} {c : Code} {G : Gv} (h : Cx p s m args meth c G cX12_bears 5 RX12) (hr : meth.sig.returnType = (some .boolean)) : ∀ (n : Nat) (σ : Sto) (i1 : Int32) (i2 : Int32) (i3 : Int32) (i4 : Int32) (z : (Int32 × Sto)), F_X12_bears_5 n σ i1 i2 i3 i4 = some z → AW p l e (rmD 1 0 0) s m args below meth c (MQ below (QcR G shM νM (some (.int z.1)) (ovM z.2)) args s 0 0 (gA G)) 0 0 G 5 5 [some (.ref 0), some (.int i1), some (.int i2), some (.int i3), some (.int i4)] [] shM νM (ovM σ) := by
  intro n
  induction n with
  | zero => intro σ i1 i2 i3 i4 z hF; cases hF
  | succ n ih =>
    intro σ i1 i2 i3 i4 z hF
    rw [F_X12_bears_5] at hF
    refine st_iload_4 h dX12_bears_5 ?_
    refine st_aload_0 h dX12_bears_7 ?_
    refine gX12_28 h fl_X12_223 dX12_bears_8 (congrArg Prod.fst kM_0) ?_
    refine st_icmp_ge (t := 63) h dX12_bears_11 (by decide) (fun q1 => ?_) (fun q1 => ?_)
    · have hF := pI q1 hF
      refine st_iload_3 h dX12_bears_63 ?_
      refine st_if_ne (t := 74) h dX12_bears_64 (by decide) (fun q2 => ?_) (fun q2 => ?_)
      · have hF := qI q2 hF
        exact st_sub (ls_n (ls_n (ls_n (ls_n (ls_n ls_e))))) (w_X12_bears_74 h hr σ  z hF)
      · have hF := pI q2 hF
        refine st_aload_0 h dX12_bears_67 ?_
        refine gX12_39 h fl_X12_283 dX12_bears_68 (congrArg Prod.fst kM_0) ?_
        refine st_if_ne (t := 78) h dX12_bears_71 (by decide) (fun q3 => ?_) (fun q3 => ?_)
        · have hF := qI q3 hF
          refine st_ic_0 h dX12_bears_78 ?_
          cases hF
          exact st_zret h hr (Or.inl rfl) dX12_bears_79
        · have hF := pI q3 hF
          exact st_sub (ls_n (ls_n (ls_n (ls_n (ls_n ls_e))))) (w_X12_bears_74 h hr σ  z hF)
    · have hF := qI q1 hF
      refine st_aload_0 h dX12_bears_14 ?_
      refine gX12_40 h fl_X12_67 dX12_bears_15 (congrArg Prod.fst kM_0) ?_
      refine st_iload_4 h dX12_bears_18 ?_
      refine st_dup2 h rfl rfl dX12_bears_20 ?_
      obtain ⟨g1, hF⟩ := gI hF
      refine iaM h dX12_bears_21 kM_17 g1 ?_
      refine st_aload_0 h dX12_bears_22 ?_
      refine gX12_26 h fl_X12_43 dX12_bears_23 (congrArg Prod.fst kM_0) ?_
      refine st_ic_4 h dX12_bears_26 ?_
      refine st_iload_4 h dX12_bears_27 ?_
      refine st_imul h dX12_bears_29 ?_
      refine st_iload_1 h dX12_bears_30 ?_
      refine st_iadd h dX12_bears_31 ?_
      obtain ⟨g2, hF⟩ := gI hF
      refine iaM h dX12_bears_32 kM_10 g2 ?_
      refine st_iload_2 h dX12_bears_33 ?_
      refine st_imul h dX12_bears_34 ?_
      refine st_isub h dX12_bears_35 ?_
      obtain ⟨s1, hs1, hF⟩ := swI hF
      refine isM h dX12_bears_36 kM_17 g1 hs1 ?_
      refine st_iload_3 h dX12_bears_37 ?_
      refine st_if_eq (t := 55) h dX12_bears_38 (by decide) (fun q4 => ?_) (fun q4 => ?_)
      · have hF := pI q4 hF
        refine st_ic_0 h dX12_bears_55 ?_
        refine st_istore_3 h dX12_bears_56 ?_
        refine st_iinc_4 (y := i4 + 1) h dX12_bears_57 (ii_1 _) ?_
        refine st_goto (t := 5) h dX12_bears_60 (by decide) ?_
        exact st_sub (ls_s (ls_s (ls_s (ls_s (ls_s ls_e))))) (ih s1 i1 i2 0 (i4 + 1) z hF)
      · have hF := qI q4 hF
        refine st_aload_0 h dX12_bears_41 ?_
        refine gX12_40 h fl_X12_67 dX12_bears_42 (congrArg Prod.fst kM_0) ?_
        refine st_iload_4 h dX12_bears_45 ?_
        refine iaM h dX12_bears_47 kM_17 g1 ?_
        refine st_if_lt (t := 55) h dX12_bears_48 (by decide) (fun q5 => ?_) (fun q5 => ?_)
        · have hF := pI q5 hF
          refine st_ic_0 h dX12_bears_55 ?_
          refine st_istore_3 h dX12_bears_56 ?_
          refine st_iinc_4 (y := i4 + 1) h dX12_bears_57 (ii_1 _) ?_
          refine st_goto (t := 5) h dX12_bears_60 (by decide) ?_
          exact st_sub (ls_s (ls_s (ls_s (ls_s (ls_s ls_e))))) (ih s1 i1 i2 0 (i4 + 1) z hF)
        · have hF := qI q5 hF
          refine st_ic_1 h dX12_bears_51 ?_
          refine st_goto (t := 56) h dX12_bears_52 (by decide) ?_
          refine st_istore_3 h dX12_bears_56 ?_
          refine st_iinc_4 (y := i4 + 1) h dX12_bears_57 (ii_1 _) ?_
          refine st_goto (t := 5) h dX12_bears_60 (by decide) ?_
          exact st_sub (ls_s (ls_s (ls_s (ls_s (ls_s ls_e))))) (ih s1 i1 i2 1 (i4 + 1) z hF)
set_option maxRecDepth 100000 in
set_option maxHeartbeats 4000000 in
theorem w_X12_bears {l : Launch} {G : Gv} {σ : Sto} {i1 : Int32} {i2 : Int32} {z : (Int32 × Sto)} (hF : F_X12_bears σ i1 i2 = some z) : Con l yX12_bears cX12_bears 5 (some .boolean) 1 G shM νM [.ref 0, .int i1, .int i2] (ovM σ) (some (.int z.1)) (ovM z.2) := by
  rw [F_X12_bears] at hF
  refine Con_enter (own := RX12) 2 (lv := [some (.ref 0), some (.int i1), some (.int i2), none, none]) mi_X12_bears.2.2.2 rfl (Nat.le_of_ble_eq_true rfl) rfl (fun h hr hin => ?_)
  refine st_ic_1 h dX12_bears_0 ?_
  refine st_istore_3 h dX12_bears_1 ?_
  refine st_ic_0 h dX12_bears_2 ?_
  refine st_istore_4 h dX12_bears_3 ?_
  exact st_sub (ls_s (ls_s (ls_s (ls_s (ls_s ls_e))))) (w_X12_bears_5 h hr FU σ i1 i2 1 0 z hF)
set_option maxRecDepth 100000 in
set_option maxHeartbeats 4000000 in
theorem w_X12_tries_148 {p : Program} {l : Launch} {e : Env} {s : State} {m : MethodId} {args : Array Value} {below : List Frame} {meth : Method} {c : Code} {G : Gv} (h : Cx p s m args meth c G cX12_tries 6 RX12) (hr : meth.sig.returnType = none) {d : Nat} {kr : Sto → Int32 → Int32 → Int32 → Option Sto} (Hr : ∀ (σ : Sto) (i1 : Int32) (i2 : Int32) (i3 : Int32) (z : Sto), kr σ i1 i2 i3 = some z → Con l yX12_tries cX12_tries 6 none (d + 3) G shM νM [.ref 0, .int i1, .int i2, .int i3] (ovM σ) none (ovM z)) {k65 : Sto → Int32 → Int32 → Int32 → Int32 → Option Sto} (H65 : ∀ (σ : Sto) (i1 : Int32) (i2 : Int32) (i3 : Int32) (i4 : Int32) (z : Sto), k65 σ i1 i2 i3 i4 = some z → AW p l e (rmD (d + 1 + 3) 0 0) s m args below meth c (MQ below (QcR G shM νM none (ovM z)) args s 0 0 (gA G)) 0 0 G 6 65 [some (.ref 0), some (.int i1), some (.int i2), some (.int i3), some (.int i4), none] [] shM νM (ovM σ)) : ∀ (σ : Sto) (i1 : Int32) (i2 : Int32) (i3 : Int32) (i4 : Int32) (z : Sto), F_X12_tries_148 kr k65 σ i1 i2 i3 i4 = some z → AW p l e (rmD (d + 1 + 3) 0 0) s m args below meth c (MQ below (QcR G shM νM none (ovM z)) args s 0 0 (gA G)) 0 0 G 6 148 [some (.ref 0), some (.int i1), some (.int i2), some (.int i3), some (.int i4), none] [] shM νM (ovM σ) := by
  intro σ i1 i2 i3 i4 z hF
  rw [F_X12_tries_148] at hF
  refine st_aload_0 h dX12_tries_148 ?_
  refine st_iload_1 h dX12_tries_149 ?_
  refine st_iload_4 h dX12_tries_150 ?_
  refine st_ineg h dX12_tries_152 ?_
  obtain ⟨x1, hx1, hF⟩ := bI hF
  refine st_cVi (vs := [.int i1, .int (-i4)]) (st := []) h (w_X12_bears hx1) mi_X12_bears mv_X12_bears ml_X12_292 dX12_tries_153 kM_0 rfl (by constructor <;> simp only [rmD] <;> omega) (Nat.le_of_ble_eq_true rfl) rfl ?_
  refine st_istore_5 h dX12_tries_156 ?_
  refine st_iinc_4 (y := i4 + 1) h dX12_tries_158 (ii_1 _) ?_
  refine st_goto (t := 65) h dX12_tries_161 (by decide) ?_
  exact st_sub (ls_s (ls_s (ls_s (ls_s (ls_s (ls_n ls_e)))))) (H65 x1.2 i1 i2 i3 (i4 + 1) z hF)
set_option maxRecDepth 100000 in
set_option maxHeartbeats 4000000 in
theorem w_X12_tries_65 {p : Program} {l : Launch} {e : Env} {s : State} {m : MethodId} {args : Array Value} {below : List Frame} {meth : Method} {c : Code} {G : Gv} (h : Cx p s m args meth c G cX12_tries 6 RX12) (hr : meth.sig.returnType = none) {d : Nat} {kr : Sto → Int32 → Int32 → Int32 → Option Sto} (Hr : ∀ (σ : Sto) (i1 : Int32) (i2 : Int32) (i3 : Int32) (z : Sto), kr σ i1 i2 i3 = some z → Con l yX12_tries cX12_tries 6 none (d + 3) G shM νM [.ref 0, .int i1, .int i2, .int i3] (ovM σ) none (ovM z)) : ∀ (n : Nat) (σ : Sto) (i1 : Int32) (i2 : Int32) (i3 : Int32) (i4 : Int32) (z : Sto), F_X12_tries_65 kr n σ i1 i2 i3 i4 = some z → AW p l e (rmD (d + 1 + 3) 0 0) s m args below meth c (MQ below (QcR G shM νM none (ovM z)) args s 0 0 (gA G)) 0 0 G 6 65 [some (.ref 0), some (.int i1), some (.int i2), some (.int i3), some (.int i4), none] [] shM νM (ovM σ) := by
  intro n
  induction n with
  | zero => intro σ i1 i2 i3 i4 z hF; cases hF
  | succ n ih =>
    intro σ i1 i2 i3 i4 z hF
    rw [F_X12_tries_65] at hF
    refine st_iload_4 h dX12_tries_65 ?_
    refine st_bipush (v := 20) h dX12_tries_67 (by decide) ?_
    refine st_icmp_gt (t := 164) h dX12_tries_69 (by decide) (fun q1 => ?_) (fun q1 => ?_)
    · have hF := pI q1 hF
      cases hF
      exact st_vret h hr dX12_tries_164
    · have hF := qI q1 hF
      refine st_iload_4 h dX12_tries_72 ?_
      refine st_aload_0 h dX12_tries_74 ?_
      refine gX12_33 h fl_X12_55 dX12_tries_75 (congrArg Prod.fst kM_0) ?_
      refine st_iload_1 h dX12_tries_78 ?_
      obtain ⟨g1, hF⟩ := gI hF
      refine iaM h dX12_tries_79 kM_14 g1 ?_
      refine st_imul h dX12_tries_80 ?_
      refine st_iload_2 h dX12_tries_81 ?_
      refine st_icmp_gt (t := 164) h dX12_tries_82 (by decide) (fun q2 => ?_) (fun q2 => ?_)
      · have hF := pI q2 hF
        cases hF
        exact st_vret h hr dX12_tries_164
      · have hF := qI q2 hF
        refine st_aload_0 h dX12_tries_85 ?_
        refine st_iload_1 h dX12_tries_86 ?_
        refine st_iload_4 h dX12_tries_87 ?_
        obtain ⟨x1, hx1, hF⟩ := bI hF
        refine st_cVi (vs := [.int i1, .int i4]) (st := []) h (w_X12_isNear hx1) mi_X12_isNear mv_X12_isNear ml_X12_289 dX12_tries_89 kM_0 rfl (by constructor <;> simp only [rmD] <;> omega) (Nat.le_of_ble_eq_true rfl) rfl ?_
        refine st_if_ne (t := 98) h dX12_tries_92 (by decide) (fun q3 => ?_) (fun q3 => ?_)
        · have hF := qI q3 hF
          refine st_aload_0 h dX12_tries_98 ?_
          refine gX12_34 h fl_X12_58 dX12_tries_99 (congrArg Prod.fst kM_0) ?_
          refine st_iload_1 h dX12_tries_102 ?_
          refine st_iload_4 h dX12_tries_103 ?_
          obtain ⟨s1, hs1, hF⟩ := swI hF
          refine isM h dX12_tries_105 kM_15 g1 hs1 ?_
          refine st_aload_0 h dX12_tries_106 ?_
          refine st_iload_1 h dX12_tries_107 ?_
          refine st_iload_4 h dX12_tries_108 ?_
          obtain ⟨x2, hx2, hF⟩ := bI hF
          refine st_cVi (vs := [.int i1, .int i4]) (st := []) h (w_X12_bears hx2) mi_X12_bears mv_X12_bears ml_X12_292 dX12_tries_110 kM_0 rfl (by constructor <;> simp only [rmD] <;> omega) (Nat.le_of_ble_eq_true rfl) rfl ?_
          refine st_if_eq (t := 148) h dX12_tries_113 (by decide) (fun q4 => ?_) (fun q4 => ?_)
          · have hF := pI q4 hF
            exact st_sub (ls_s (ls_s (ls_s (ls_s (ls_s (ls_n ls_e)))))) (w_X12_tries_148 h hr Hr ih x2.2 i1 i2 i3 i4 z hF)
          · have hF := qI q4 hF
            refine st_aload_0 h dX12_tries_116 ?_
            refine st_iload_1 h dX12_tries_117 ?_
            refine st_ic_1 h dX12_tries_118 ?_
            refine st_iadd h dX12_tries_119 ?_
            refine st_iload_2 h dX12_tries_120 ?_
            refine st_iload_4 h dX12_tries_121 ?_
            refine st_aload_0 h dX12_tries_123 ?_
            refine gX12_33 h fl_X12_55 dX12_tries_124 (congrArg Prod.fst kM_0) ?_
            refine st_iload_1 h dX12_tries_127 ?_
            refine iaM h dX12_tries_128 kM_14 g1 ?_
            refine st_imul h dX12_tries_129 ?_
            refine st_isub h dX12_tries_130 ?_
            refine st_iload_3 h dX12_tries_131 ?_
            refine st_aload_0 h dX12_tries_132 ?_
            refine gX12_31 h fl_X12_49 dX12_tries_133 (congrArg Prod.fst kM_0) ?_
            refine st_bipush (v := 21) h dX12_tries_136 (by decide) ?_
            refine st_iload_1 h dX12_tries_138 ?_
            refine st_imul h dX12_tries_139 ?_
            refine st_iload_4 h dX12_tries_140 ?_
            refine st_iadd h dX12_tries_142 ?_
            obtain ⟨g2, hF⟩ := gI hF
            refine iaM h dX12_tries_143 kM_12 g2 ?_
            refine st_iadd h dX12_tries_144 ?_
            obtain ⟨x3, hx3, hF⟩ := bI hF
            refine st_cVv (vs := [.int (i1 + 1), .int (i2 - (i4 * (x2.2.1 14 (ix i1)))), .int (i3 + (x2.2.1 12 (ix ((21 * i1) + i4))))]) (st := []) h (Hr x2.2 (i1 + 1) (i2 - (i4 * (x2.2.1 14 (ix i1)))) (i3 + (x2.2.1 12 (ix ((21 * i1) + i4)))) x3 hx3) mi_X12_tries mv_X12_tries ml_X12_294 dX12_tries_145 kM_0 rfl (by constructor <;> simp only [rmD] <;> omega) (Nat.le_of_ble_eq_true rfl) rfl ?_
            exact st_sub (ls_s (ls_s (ls_s (ls_s (ls_s (ls_n ls_e)))))) (w_X12_tries_148 h hr Hr ih x3 i1 i2 i3 i4 z hF)
        · have hF := pI q3 hF
          refine st_goto (t := 158) h dX12_tries_95 (by decide) ?_
          refine st_iinc_4 (y := i4 + 1) h dX12_tries_158 (ii_1 _) ?_
          refine st_goto (t := 65) h dX12_tries_161 (by decide) ?_
          exact st_sub (ls_s (ls_s (ls_s (ls_s (ls_s (ls_n ls_e)))))) (ih σ i1 i2 i3 (i4 + 1) z hF)
set_option maxRecDepth 100000 in
set_option maxHeartbeats 4000000 in
theorem w_X12_tries_32 {p : Program} {l : Launch} {e : Env} {s : State} {m : MethodId} {args : Array Value} {below : List Frame} {meth : Method} {c : Code} {G : Gv} (h : Cx p s m args meth c G cX12_tries 6 RX12) (hr : meth.sig.returnType = none) {d : Nat} {kr : Sto → Int32 → Int32 → Int32 → Option Sto} (Hr : ∀ (σ : Sto) (i1 : Int32) (i2 : Int32) (i3 : Int32) (z : Sto), kr σ i1 i2 i3 = some z → Con l yX12_tries cX12_tries 6 none (d + 3) G shM νM [.ref 0, .int i1, .int i2, .int i3] (ovM σ) none (ovM z)) : ∀ (n : Nat) (σ : Sto) (i4 : Int32) (z : Sto), F_X12_tries_32 kr n σ i4 = some z → AW p l e (rmD (d + 1 + 3) 0 0) s m args below meth c (MQ below (QcR G shM νM none (ovM z)) args s 0 0 (gA G)) 0 0 G 6 32 [some (.ref 0), none, none, none, some (.int i4), none] [] shM νM (ovM σ) := by
  intro n
  induction n with
  | zero => intro σ i4 z hF; cases hF
  | succ n ih =>
    intro σ i4 z hF
    rw [F_X12_tries_32] at hF
    refine st_iload_4 h dX12_tries_32 ?_
    refine st_aload_0 h dX12_tries_34 ?_
    refine gX12_22 h fl_X12_220 dX12_tries_35 (congrArg Prod.fst kM_0) ?_
    refine st_icmp_ge (t := 61) h dX12_tries_38 (by decide) (fun q1 => ?_) (fun q1 => ?_)
    · have hF := pI q1 hF
      cases hF
      exact st_vret h hr dX12_tries_61
    · have hF := qI q1 hF
      refine st_aload_0 h dX12_tries_41 ?_
      refine gX12_35 h fl_X12_61 dX12_tries_42 (congrArg Prod.fst kM_0) ?_
      refine st_iload_4 h dX12_tries_45 ?_
      refine st_aload_0 h dX12_tries_47 ?_
      refine gX12_34 h fl_X12_58 dX12_tries_48 (congrArg Prod.fst kM_0) ?_
      refine st_iload_4 h dX12_tries_51 ?_
      obtain ⟨g1, hF⟩ := gI hF
      refine iaM h dX12_tries_53 kM_15 g1 ?_
      obtain ⟨s1, hs1, hF⟩ := swI hF
      refine isM h dX12_tries_54 kM_16 g1 hs1 ?_
      refine st_iinc_4 (y := i4 + 1) h dX12_tries_55 (ii_1 _) ?_
      refine st_goto (t := 32) h dX12_tries_58 (by decide) ?_
      exact st_sub (ls_s (ls_n (ls_n (ls_n (ls_s (ls_n ls_e)))))) (ih s1 (i4 + 1) z hF)
set_option maxRecDepth 100000 in
set_option maxHeartbeats 4000000 in
theorem w_X12_tries {l : Launch} {G : Gv} : ∀ (d : Nat) (σ : Sto) (i1 : Int32) (i2 : Int32) (i3 : Int32) (z : Sto), F_X12_tries d σ i1 i2 i3 = some z → Con l yX12_tries cX12_tries 6 none (d + 3) G shM νM [.ref 0, .int i1, .int i2, .int i3] (ovM σ) none (ovM z) := by
  intro d
  induction d with
  | zero => intro σ i1 i2 i3 z hF; cases hF
  | succ d Hr =>
    intro σ i1 i2 i3 z hF
    rw [F_X12_tries] at hF
    refine Con_enter (own := RX12) 2 (lv := [some (.ref 0), some (.int i1), some (.int i2), some (.int i3), none, none]) mi_X12_tries.2.2.2 rfl (Nat.le_of_ble_eq_true rfl) rfl (fun h hr hin => ?_)
    refine st_iload_3 h dX12_tries_0 ?_
    refine st_aload_0 h dX12_tries_1 ?_
    refine gX12_32 h fl_X12_52 dX12_tries_2 (congrArg Prod.fst kM_0) ?_
    refine st_iload_1 h dX12_tries_5 ?_
    obtain ⟨g1, hF⟩ := gI hF
    refine iaM h dX12_tries_6 kM_13 g1 ?_
    refine st_iadd h dX12_tries_7 ?_
    refine st_aload_0 h dX12_tries_8 ?_
    refine gX12_36 h fl_X12_286 dX12_tries_9 (congrArg Prod.fst kM_0) ?_
    refine st_icmp_gt (t := 16) h dX12_tries_12 (by decide) (fun q1 => ?_) (fun q1 => ?_)
    · have hF := pI q1 hF
      refine st_iload_1 h dX12_tries_16 ?_
      refine st_aload_0 h dX12_tries_17 ?_
      refine gX12_22 h fl_X12_220 dX12_tries_18 (congrArg Prod.fst kM_0) ?_
      refine st_icmp_ne (t := 62) h dX12_tries_21 (by decide) (fun q2 => ?_) (fun q2 => ?_)
      · have hF := qI q2 hF
        refine st_ic_0 h dX12_tries_62 ?_
        refine st_istore_4 h dX12_tries_63 ?_
        exact st_sub (ls_s (ls_s (ls_s (ls_s (ls_s (ls_n ls_e)))))) (w_X12_tries_65 h hr Hr FU σ i1 i2 i3 0 z hF)
      · have hF := pI q2 hF
        refine st_aload_0 h dX12_tries_24 ?_
        refine st_iload_3 h dX12_tries_25 ?_
        obtain ⟨s1, hs1, hF⟩ := swI hF
        refine pX12_36 h fl_X12_286 dX12_tries_26 (congrArg Prod.fst kM_0) hs1 ?_
        refine st_ic_0 h dX12_tries_29 ?_
        refine st_istore_4 h dX12_tries_30 ?_
        exact st_sub (ls_s (ls_n (ls_n (ls_n (ls_s (ls_n ls_e)))))) (w_X12_tries_32 h hr Hr FU s1 0 z hF)
    · have hF := qI q1 hF
      cases hF
      exact st_vret h hr dX12_tries_15
