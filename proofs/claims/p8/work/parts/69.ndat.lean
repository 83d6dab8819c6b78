/-! nights, as they are told: what (0 steal, 1 build, 2 go, 3 carry, 4 night), the flight or person, the place, the thing -/
abbrev NL : Type := List (Int × Int × Int × Int)
section Zpn
variable (T : Nat → Int) (n : Nat)
def kwL (x : PS) : Int := if eQ T n (kB T n x.2) = 2 then kwi (eW T n (kB T n x.2)) else -1
def vFl (D : ZD) (x : PS) : Int := fxI D (vTo T n (dN D 0) x) (vE T n (gTo T n (dN D 0) x))
def gFl (D : ZD) (x : PS) : PS := if vFl T n D x = -1 then gF T n 4 (gNh T n (gTo T n (dN D 0) x)) else gNx T n (gNh T n (gTo T n (dN D 0) x))
def pNR (D : ZD) (k : Int) (x : PS) : PS × (Int × Int × Int × Int) :=
  if k ≤ 18 then (gS T n 59 (gFl T n D x), (k - 17, vFl T n D x, 0, 0))
  else if k = 19 then (gS T n 59 (gPl T n D (gTo T n (dN D 3) x)), (2, vTo T n (dN D 3) x, vPl T n D (gTo T n (dN D 3) x), 0))
  else if k = 20 then (gS T n 59 (gPl T n D (gTo T n (dN D 2) (gTo T n (dN D 3) x))), (3, vTo T n (dN D 3) x, vPl T n D (gTo T n (dN D 2) (gTo T n (dN D 3) x)), vTo T n (dN D 2) (gTo T n (dN D 3) x)))
  else (gS T n 59 x, (4, 0, 0, 0))
def pNL (D : ZD) (x : PS) (L : NL) : PS × NL :=
  if kwL T n x < 17 ∨ 21 < kwL T n x then (gF T n 1 x, L)
  else if 40 ≤ L.length then (gF T n 5 x, L)
  else ((pNR T n D (kwL T n x) (gNx T n x)).1, if (pNR T n D (kwL T n x) (gNx T n x)).1.1 = 0 then L ++ [(pNR T n D (kwL T n x) (gNx T n x)).2] else L)
def pNA (D : ZD) : Nat → PS → NL → PS × NL
  | 0, x, L => (x, L)
  | f + 1, x, L => if x.1 = 0 ∧ eQ T n (kB T n x.2) ≠ 1 then pNA D f (pNL T n D x L).1 (pNL T n D x L).2 else (x, L)
end Zpn
theorem pNR_a {T : Nat → Int} {n : Nat} {D : ZD} {k : Int} {x : PS} (h : k ≤ 18) : pNR T n D k x = (gS T n 59 (gFl T n D x), (k - 17, vFl T n D x, 0, 0)) := if_pos h
theorem pNR_b {T : Nat → Int} {n : Nat} {D : ZD} {x : PS} : pNR T n D 19 x = (gS T n 59 (gPl T n D (gTo T n (dN D 3) x)), (2, vTo T n (dN D 3) x, vPl T n D (gTo T n (dN D 3) x), 0)) := by
  unfold pNR; rw [if_neg (by decide), if_pos rfl]
theorem pNR_c {T : Nat → Int} {n : Nat} {D : ZD} {x : PS} : pNR T n D 20 x = (gS T n 59 (gPl T n D (gTo T n (dN D 2) (gTo T n (dN D 3) x))), (3, vTo T n (dN D 3) x, vPl T n D (gTo T n (dN D 2) (gTo T n (dN D 3) x)), vTo T n (dN D 2) (gTo T n (dN D 3) x))) := by
  unfold pNR; rw [if_neg (by decide), if_neg (by decide), if_pos rfl]
theorem pNR_d {T : Nat → Int} {n : Nat} {D : ZD} {x : PS} : pNR T n D 21 x = (gS T n 59 x, (4, 0, 0, 0)) := by
  unfold pNR; rw [if_neg (by decide), if_neg (by decide), if_neg (by decide)]
theorem pNL_1 {T : Nat → Int} {n : Nat} {D : ZD} {x : PS} {L : NL} (h : kwL T n x < 17 ∨ 21 < kwL T n x) : pNL T n D x L = (gF T n 1 x, L) := if_pos h
theorem pNL_2 {T : Nat → Int} {n : Nat} {D : ZD} {x : PS} {L : NL} (h : 17 ≤ kwL T n x) (h2 : kwL T n x ≤ 21) (h3 : 40 ≤ L.length) : pNL T n D x L = (gF T n 5 x, L) := by
  unfold pNL; rw [if_neg (by omega), if_pos h3]
theorem pNL_3 {T : Nat → Int} {n : Nat} {D : ZD} {x : PS} {L : NL} (h : 17 ≤ kwL T n x) (h2 : kwL T n x ≤ 21) (h3 : L.length < 40) : pNL T n D x L = ((pNR T n D (kwL T n x) (gNx T n x)).1, if (pNR T n D (kwL T n x) (gNx T n x)).1.1 = 0 then L ++ [(pNR T n D (kwL T n x) (gNx T n x)).2] else L) := by
  unfold pNL; rw [if_neg (by omega), if_neg (by omega)]
