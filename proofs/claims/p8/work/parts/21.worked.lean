/-! worked: its codes are nested -/
def PX11_opens : List (List (Option Op0)) := [[(some (3, 0, 2, 0, 1, [])), (some (17, 11, 36, 0, 4, [])), none, none, (some (3, 1, 0, 0, 5, [])), (some (0, 0, 0, 0, 6, [])), (some (20, 0, 0, 0, 7, [])), (some (3, 0, 2, 0, 8, [])), (some (17, 11, 38, 0, 11, [])), none, none, (some (3, 1, 0, 0, 12, [])), (some (0, 0, 0, 0, 13, [])), (some (20, 0, 0, 0, 14, [])), (some (3, 0, 2, 0, 15, [])), (some (17, 11, 39, 0, 18, []))], [none, none, (some (3, 1, 0, 0, 19, [])), (some (0, 0, 0, 0, 20, [])), (some (20, 0, 0, 0, 21, [])), (some (3, 0, 2, 0, 22, [])), (some (17, 11, 40, 0, 25, [])), none, none, (some (3, 1, 0, 0, 26, [])), (some (0, 0, 0, 20, 28, [])), none, (some (20, 0, 0, 0, 29, [])), (some (3, 0, 2, 0, 30, [])), (some (17, 11, 42, 0, 33, [])), none], [none, (some (3, 1, 0, 0, 34, [])), (some (0, 0, 0, 0, 35, [])), (some (20, 0, 0, 0, 36, [])), (some (22, 0, 2, 0, 0, []))]]
theorem PX11_opens_ok : Pck (mtX11[77]) PX11_opens = true := by decide +kernel
def PX11_sums : List (List (Option Op0)) := [[(some (3, 0, 2, 0, 1, [])), (some (17, 11, 39, 0, 4, [])), none, none, (some (3, 1, 0, 0, 5, [])), (some (3, 0, 2, 0, 6, [])), (some (17, 11, 40, 0, 9, [])), none, none, (some (3, 1, 0, 0, 10, [])), (some (19, 0, 0, 0, 11, [])), (some (0, 0, 0, 21, 13, [])), none, (some (14, 32, 1, 0, 16, [])), none, none], [(some (3, 0, 2, 0, 17, [])), (some (17, 11, 39, 0, 20, [])), none, none, (some (3, 1, 0, 0, 21, [])), (some (19, 0, 0, 0, 22, [])), (some (3, 0, 2, 0, 23, [])), (some (17, 11, 41, 0, 26, [])), none, none, (some (3, 1, 0, 0, 27, [])), (some (19, 0, 0, 0, 28, [])), (some (5, 0, 1, 0, 29, [])), (some (12, 0, 0, 0, 45, [])), none, none], [(some (3, 0, 2, 0, 33, [])), (some (17, 11, 39, 0, 36, [])), none, none, (some (3, 1, 0, 0, 37, [])), (some (19, 0, 0, 0, 38, [])), (some (3, 0, 2, 0, 39, [])), (some (17, 11, 41, 0, 42, [])), none, none, (some (3, 1, 0, 0, 43, [])), (some (19, 0, 0, 0, 44, [])), (some (5, 0, 0, 0, 45, [])), (some (20, 0, 0, 0, 46, [])), (some (3, 0, 2, 0, 47, [])), (some (17, 11, 42, 0, 50, []))], [none, none, (some (3, 1, 0, 0, 51, [])), (some (0, 0, 0, 0, 52, [])), (some (20, 0, 0, 0, 53, [])), (some (22, 0, 2, 0, 0, []))]]
theorem PX11_sums_ok : Pck (mtX11[108]) PX11_sums = true := by decide +kernel
def PX11_tests : List (List (Option Op0)) := [[(some (3, 0, 2, 0, 1, [])), (some (3, 1, 0, 0, 2, [])), (some (23, 1516, 1, 1, 5, [256])), none, none, (some (3, 0, 2, 0, 6, [])), (some (17, 11, 39, 0, 9, [])), none, none, (some (3, 1, 0, 0, 10, [])), (some (19, 0, 0, 0, 11, [])), (some (4, 2, 0, 0, 12, [])), (some (3, 0, 2, 0, 13, [])), (some (17, 11, 38, 0, 16, [])), none, none], [(some (3, 1, 0, 0, 17, [])), (some (19, 0, 0, 0, 18, [])), (some (0, 0, 0, 24, 20, [])), none, (some (14, 44, 1, 0, 23, [])), none, none, (some (3, 0, 2, 0, 24, [])), (some (17, 11, 37, 0, 27, [])), none, none, (some (3, 1, 0, 0, 28, [])), (some (19, 0, 0, 0, 29, [])), (some (3, 0, 2, 0, 30, [])), (some (17, 11, 39, 0, 33, [])), none], [none, (some (3, 1, 0, 0, 34, [])), (some (19, 0, 0, 0, 35, [])), (some (14, 42, 3, 0, 38, [])), none, none, (some (0, 0, 0, 1, 39, [])), (some (12, 0, 0, 0, 43, [])), none, none, (some (0, 0, 0, 0, 43, [])), (some (4, 2, 0, 0, 44, [])), (some (3, 0, 2, 0, 45, [])), (some (17, 11, 38, 0, 48, [])), none, none], [(some (3, 1, 0, 0, 49, [])), (some (19, 0, 0, 0, 50, [])), (some (0, 0, 0, 25, 52, [])), none, (some (14, 76, 1, 0, 55, [])), none, none, (some (3, 0, 2, 0, 56, [])), (some (17, 11, 37, 0, 59, [])), none, none, (some (3, 1, 0, 0, 60, [])), (some (19, 0, 0, 0, 61, [])), (some (3, 0, 2, 0, 62, [])), (some (17, 11, 39, 0, 65, [])), none], [none, (some (3, 1, 0, 0, 66, [])), (some (19, 0, 0, 0, 67, [])), (some (14, 74, 1, 0, 70, [])), none, none, (some (0, 0, 0, 1, 71, [])), (some (12, 0, 0, 0, 75, [])), none, none, (some (0, 0, 0, 0, 75, [])), (some (4, 2, 0, 0, 76, [])), (some (3, 0, 2, 0, 77, [])), (some (17, 11, 36, 0, 80, [])), none, none], [(some (3, 1, 0, 0, 81, [])), (some (19, 0, 0, 0, 82, [])), (some (0, 0, 0, 26, 84, [])), none, (some (14, 106, 1, 0, 87, [])), none, none, (some (3, 0, 2, 0, 88, [])), (some (17, 11, 35, 0, 91, [])), none, none, (some (3, 1, 0, 0, 92, [])), (some (19, 0, 0, 0, 93, [])), (some (13, 104, 0, 0, 96, [])), none, none], [(some (3, 2, 0, 0, 97, [])), (some (13, 104, 0, 0, 100, [])), none, none, (some (0, 0, 0, 1, 101, [])), (some (12, 0, 0, 0, 105, [])), none, none, (some (0, 0, 0, 0, 105, [])), (some (4, 2, 0, 0, 106, [])), (some (3, 0, 2, 0, 107, [])), (some (17, 11, 36, 0, 110, [])), none, none, (some (3, 1, 0, 0, 111, [])), (some (19, 0, 0, 0, 112, []))], [(some (0, 0, 0, 27, 114, [])), none, (some (14, 136, 1, 0, 117, [])), none, none, (some (3, 0, 2, 0, 118, [])), (some (17, 11, 35, 0, 121, [])), none, none, (some (3, 1, 0, 0, 122, [])), (some (19, 0, 0, 0, 123, [])), (some (13, 130, 1, 0, 126, [])), none, none, (some (3, 2, 0, 0, 127, [])), (some (13, 134, 0, 0, 130, []))], [none, none, (some (0, 0, 0, 1, 131, [])), (some (12, 0, 0, 0, 135, [])), none, none, (some (0, 0, 0, 0, 135, [])), (some (4, 2, 0, 0, 136, [])), (some (3, 0, 2, 0, 137, [])), (some (17, 11, 35, 0, 140, [])), none, none, (some (3, 1, 0, 0, 141, [])), (some (3, 2, 0, 0, 142, [])), (some (20, 0, 0, 0, 143, [])), (some (3, 0, 2, 0, 144, []))], [(some (17, 11, 38, 0, 147, [])), none, none, (some (3, 1, 0, 0, 148, [])), (some (0, 0, 0, 0, 149, [])), (some (20, 0, 0, 0, 150, [])), (some (3, 0, 2, 0, 151, [])), (some (17, 11, 39, 0, 154, [])), none, none, (some (3, 1, 0, 0, 155, [])), (some (0, 0, 0, 0, 156, [])), (some (20, 0, 0, 0, 157, [])), (some (3, 0, 2, 0, 158, [])), (some (17, 11, 40, 0, 161, [])), none], [none, (some (3, 1, 0, 0, 162, [])), (some (0, 0, 0, 20, 164, [])), none, (some (20, 0, 0, 0, 165, [])), (some (22, 0, 2, 0, 0, []))]]
theorem PX11_tests_ok : Pck (mtX11[109]) PX11_tests = true := by decide +kernel
def cx1053 : Cx := (1485, 1, 2, [(198, 0, 7), (200, 0, 7), (201, 0, 7), (202, 0, 7), (204, 0, 7)], ((0, [(0, (2, 172, 0)), (1, (0, 1, 0))], [], [(0, 0, 0, 0, 0), (0, 6, 0, 0, 0)], []), [(3, 0, 0), (0, 1, 0)]), [((0, [], [], [(0, 0, 0, 0, 0), (0, 6, 0, 0, 0)], []), [(3, 0, 0), (3, 1, 0)])])
def ct1053 : List (Cu × Rk) := []
theorem hd1053 : Hd HTw RGw 229 mtb (xsT 229) cx1053 := chk_ok (FK := FKw) (me := mtX11[77]) (EX := exA HTw cx1053.2.2.2.1 cx1053.2.1 exX11) (P := Pt PX11_opens) (cs := fun _ => []) (f := 600) (pcs := []) (cuts := ct1053) (by decide) hUw hKCw (fun _ _ _ _ _ _ _ _ _ z a b c d e => exA_ok (lv := cx1053.2.1) (hlv := z) (me := mtX11[77]) exX11_ok a b c d e) rfl (Pck_ok PX11_opens_ok) (fun _ => (List.forall_mem_nil _)) (by decide +kernel)
def cx1054 : Cx := (1516, 1, 2, [(201, 0, 7), (204, 0, 7)], ((0, [(0, (2, 172, 0)), (1, (0, 1, 0))], [], [(0, 0, 0, 0, 0), (0, 6, 0, 0, 0)], []), [(3, 0, 0), (0, 1, 0)]), [((0, [], [], [(0, 0, 0, 0, 0), (0, 6, 0, 0, 0)], []), [(3, 0, 0), (3, 1, 0)])])
def ct1054 : List (Cu × Rk) := [(((45, [(0, (2, 172, 0)), (1, (0, 1, 0))], [(0, 2, 0), (0, 1, 0), (2, 201, 0)], [(0, 0, 0, 0, 0), (0, 6, 0, 0, 0), ((-2147483648), 2147483647, 0, 0, 0)], []), [(3, 0, 0), (3, 1, 0), (2, 0, 0)]), [(0, 0, 0)])]
theorem hd1054 : Hd HTw RGw 229 mtb (xsT 229) cx1054 := chk_ok (FK := FKw) (me := mtX11[108]) (EX := exA HTw cx1054.2.2.2.1 cx1054.2.1 exX11) (P := Pt PX11_sums) (cs := fun _ => []) (f := 600) (pcs := [45]) (cuts := ct1054) (by decide) hUw hKCw (fun _ _ _ _ _ _ _ _ _ z a b c d e => exA_ok (lv := cx1054.2.1) (hlv := z) (me := mtX11[108]) exX11_ok a b c d e) rfl (Pck_ok PX11_sums_ok) (fun _ => (List.forall_mem_nil _)) (by decide +kernel)
def cx1055 : Cx := (1517, 2, 2, [(197, 0, 7), (200, 0, 7), (201, 0, 7), (202, 0, 7), (204, 0, 7)], ((0, [(0, (2, 172, 0)), (1, (0, 1, 0))], [], [(0, 0, 0, 0, 0), (0, 6, 0, 0, 0)], []), [(3, 0, 0), (0, 1, 0)]), [((0, [], [], [(0, 0, 0, 0, 0), (0, 6, 0, 0, 0)], []), [(3, 0, 0), (3, 1, 0)])])
def ct1055 : List (Cu × Rk) := [(((44, [(0, (2, 172, 0)), (1, (0, 1, 0)), (2, (0, 2, 0))], [], [(0, 0, 0, 0, 0), (0, 6, 0, 0, 0), ((-2147483648), 2147483647, 0, 0, 0)], []), [(3, 0, 0), (3, 1, 0), (0, 2, 0)]), [(0, 0, 11)]),
  (((43, [(0, (2, 172, 0)), (1, (0, 1, 0)), (2, (0, 2, 0))], [(0, 0, 1)], [(0, 0, 0, 0, 0), (0, 6, 0, 0, 0), ((-2147483647), 2147483647, 0, 0, 0)], []), [(3, 0, 0), (3, 1, 0), (0, 2, 0)]), [(0, 0, 12)]),
  (((43, [(0, (2, 172, 0)), (1, (0, 1, 0)), (2, (0, 2, 0))], [(0, 0, 0)], [(0, 0, 0, 0, 0), (0, 6, 0, 0, 0), ((-2147483648), 2147483647, 0, 0, 0)], []), [(3, 0, 0), (3, 1, 0), (0, 2, 0)]), [(0, 0, 13)]),
  (((76, [(0, (2, 172, 0)), (1, (0, 1, 0)), (2, (0, 2, 0))], [], [(0, 0, 0, 0, 0), (0, 6, 0, 0, 0), ((-2147483648), 2147483647, 0, 0, 0)], []), [(3, 0, 0), (3, 1, 0), (0, 2, 0)]), [(0, 0, 8)]),
  (((75, [(0, (2, 172, 0)), (1, (0, 1, 0)), (2, (0, 2, 0))], [(0, 0, 1)], [(0, 0, 0, 0, 0), (0, 6, 0, 0, 0), ((-2147483648), 2147483647, 0, 0, 0)], []), [(3, 0, 0), (3, 1, 0), (0, 2, 0)]), [(0, 0, 9)]),
  (((75, [(0, (2, 172, 0)), (1, (0, 1, 0)), (2, (0, 2, 0))], [(0, 0, 0)], [(0, 0, 0, 0, 0), (0, 6, 0, 0, 0), ((-2147483648), 2147483647, 0, 0, 0)], []), [(3, 0, 0), (3, 1, 0), (0, 2, 0)]), [(0, 0, 10)]),
  (((106, [(0, (2, 172, 0)), (1, (0, 1, 0)), (2, (0, 2, 0))], [], [(0, 0, 0, 0, 0), (0, 6, 0, 0, 0), ((-2147483648), 2147483647, 0, 0, 0)], []), [(3, 0, 0), (3, 1, 0), (0, 2, 0)]), [(0, 0, 4)]),
  (((104, [(0, (2, 172, 0)), (1, (0, 1, 0)), (2, (0, 2, 0))], [], [(0, 0, 0, 0, 0), (0, 6, 0, 0, 0), ((-2147483648), 2147483647, 0, 0, 0)], []), [(3, 0, 0), (3, 1, 0), (0, 2, 0)]), [(0, 0, 6)]),
  (((105, [(0, (2, 172, 0)), (1, (0, 1, 0)), (2, (0, 2, 0))], [(0, 0, 1)], [(0, 0, 0, 0, 0), (0, 6, 0, 0, 0), ((-2147483648), 2147483647, 0, 0, 0)], []), [(3, 0, 0), (3, 1, 0), (0, 2, 0)]), [(0, 0, 7)]),
  (((136, [(0, (2, 172, 0)), (1, (0, 1, 0)), (2, (0, 2, 0))], [], [(0, 0, 0, 0, 0), (0, 6, 0, 0, 0), ((-2147483648), 2147483647, 0, 0, 0)], []), [(3, 0, 0), (3, 1, 0), (0, 2, 0)]), [(0, 0, 0)]),
  (((130, [(0, (2, 172, 0)), (1, (0, 1, 0)), (2, (0, 2, 0))], [], [(0, 0, 0, 0, 0), (0, 6, 0, 0, 0), ((-2147483648), 2147483647, 0, 0, 0)], []), [(3, 0, 0), (3, 1, 0), (0, 2, 0)]), [(0, 0, 2)]),
  (((135, [(0, (2, 172, 0)), (1, (0, 1, 0)), (2, (0, 2, 0))], [(0, 0, 0)], [(0, 0, 0, 0, 0), (0, 6, 0, 0, 0), (0, 0, 0, 0, 0)], []), [(3, 0, 0), (3, 1, 0), (0, 2, 0)]), [(0, 0, 3)]),
  (((105, [(0, (2, 172, 0)), (1, (0, 1, 0)), (2, (0, 2, 0))], [(0, 0, 0)], [(0, 0, 0, 0, 0), (0, 6, 0, 0, 0), ((-2147483648), 2147483647, 0, 0, 0)], []), [(3, 0, 0), (3, 1, 0), (0, 2, 0)]), [(0, 0, 5)]),
  (((135, [(0, (2, 172, 0)), (1, (0, 1, 0)), (2, (0, 2, 0))], [(0, 0, 1)], [(0, 0, 0, 0, 0), (0, 6, 0, 0, 0), ((-2147483648), 2147483647, 0, 0, 0)], []), [(3, 0, 0), (3, 1, 0), (0, 2, 0)]), [(0, 0, 1)])]
theorem hd1055 : Hd HTw RGw 229 mtb (xsT 229) cx1055 := chk_ok (FK := FKw) (me := mtX11[109]) (EX := exA HTw cx1055.2.2.2.1 cx1055.2.1 exX11) (P := Pt PX11_tests) (cs := fun _ => [cx1054]) (f := 600) (pcs := [43, 44, 75, 76, 104, 105, 106, 130, 135, 136]) (cuts := ct1055) (by decide) hUw hKCw (fun _ _ _ _ _ _ _ _ _ z a b c d e => exA_ok (lv := cx1055.2.1) (hlv := z) (me := mtX11[109]) exX11_ok a b c d e) rfl (Pck_ok PX11_tests_ok) (fun _ => (List.forall_mem_cons.mpr ⟨hd1054, (List.forall_mem_nil _)⟩)) (by decide +kernel)
def wkF : List Bool → Fa
  | [] => []
  | b :: t => (205, t.length + 1, (0, 0, if b = true then 1 else 0)) :: wkF t
def wkH (st : List Bool) (e : Se) (f : Fa) : Ab := (14, [(0, (2, 172, 0)), (1, (0, 0, 0)), (2, (0, 0, (st.length : Int))), (3, (0, 1, 0))], [], [(0, 0, 0, 0, 0), e], f ++ wkF st)
def wkE0 : Se := (0, 1000, 0, 0, 0)
def wkP (st : List Bool) (e : Se) : Ab := (32, [(0, (2, 172, 0)), (1, (0, 0, 0)), (2, (0, 0, (st.length : Int))), (3, (0, 1, 0)), (4, (0, 3, 0))], [], [(0, 0, 0, 0, 0), (0, 999, 0, 0, 0), (0, 1000, 2, 1, 2000), e], (194, 4294967297, (0, 3, 0)) :: (193, 0, (0, 2, 0)) :: wkF st)
def wkN (st : List Bool) (e : Se) : Ab := (14, [(0, (2, 172, 0)), (1, (0, 0, 0)), (2, (0, 0, (st.length : Int))), (3, (0, 1, 1))], [], [(0, 0, 0, 0, 0), (0, 999, 0, 0, 0), (0, 1000, 2, 1, 2000), e], wkF st)
def wkX (sy : Sy) : Cu := ((0, [], [(0, sy.length, 0)], sy ++ [tp32], []), (List.range sy.length).map (fun i => (3, i, 0)) ++ [(2, 0, 0)])
def wkNx : Op0 → Ab → Option (List Ab) := nxA HTw RGw FKw UNw KCw mtb (exA HTw cx953.2.2.2.1 3 exX11) cx953.2.2.2.1 3 (fun _ => [cx1053, cx1054, cx1055])
def wkS : Nat → List (List Bool)
  | 0 => [[]]
  | n + 1 => wkS n ++ ((wkS n).filter (fun l => l.length == n)).flatMap fun l => [true :: l, false :: l]
/-- from the head to a code read, or to the end -/
def wkC1 : Bool := (wkS 6).all fun st => rn RGw (Pt PX11_worked) wkNx 2 0 [wkX [(0, 0, 0, 0, 0), wkE0]] [32] [((wkP st tp32, [(3, 0, 0), (3, 1, 0), (1, 193, 0), (0, 4, 0)]), [])] none 200 (wkH st wkE0 [])
def wkL : List (Int × Int) := [(28, 28), (30, 30), (20, 22), (24, 27), (29, 29), (0, 19), (23, 23), (31, 2147483647)]
/-- from a code read to the head again -/
def wkC2 (st : List Bool) : Bool := wkL.all fun q => match nsStep q.1 st with
  | none => true
  | some st' => rn RGw (Pt PX11_worked) wkNx 4 0 [wkX (wkP st (q.1, q.2, 0, 0, 0)).2.2.2.1] [14] [((wkN st' (q.1, q.2, 0, 0, 0), [(3, 0, 0), (3, 1, 0), (3, 2, 0), (3, 3, 0)]), [])] none 400 (wkP st (q.1, q.2, 0, 0, 0))
def wkT (i : Nat) : List (List Bool) := ((wkS 6).drop (8 * i)).take 8
theorem wkC1_ok : wkC1 = true := by decide +kernel
theorem wkC2_0 : (wkT 0).all wkC2 = true := by decide +kernel
theorem wkC2_1 : (wkT 1).all wkC2 = true := by decide +kernel
theorem wkC2_2 : (wkT 2).all wkC2 = true := by decide +kernel
theorem wkC2_3 : (wkT 3).all wkC2 = true := by decide +kernel
theorem wkC2_4 : (wkT 4).all wkC2 = true := by decide +kernel
theorem wkC2_5 : (wkT 5).all wkC2 = true := by decide +kernel
theorem wkC2_6 : (wkT 6).all wkC2 = true := by decide +kernel
theorem wkC2_7 : (wkT 7).all wkC2 = true := by decide +kernel
theorem wkC2_8 : (wkT 8).all wkC2 = true := by decide +kernel
theorem wkC2_9 : (wkT 9).all wkC2 = true := by decide +kernel
theorem wkC2_10 : (wkT 10).all wkC2 = true := by decide +kernel
theorem wkC2_11 : (wkT 11).all wkC2 = true := by decide +kernel
theorem wkC2_12 : (wkT 12).all wkC2 = true := by decide +kernel
theorem wkC2_13 : (wkT 13).all wkC2 = true := by decide +kernel
theorem wkC2_14 : (wkT 14).all wkC2 = true := by decide +kernel
theorem wkC2_15 : (wkT 15).all wkC2 = true := by decide +kernel
theorem wkT_all : wkS 6 = wkT 0 ++ wkT 1 ++ wkT 2 ++ wkT 3 ++ wkT 4 ++ wkT 5 ++ wkT 6 ++ wkT 7 ++ wkT 8 ++ wkT 9 ++ wkT 10 ++ wkT 11 ++ wkT 12 ++ wkT 13 ++ wkT 14 ++ wkT 15 := by decide +kernel
theorem wkC2_ok : (wkS 6).all wkC2 = true := by
  rw [wkT_all]
  simp only [List.all_append, wkC2_0, wkC2_1, wkC2_2, wkC2_3, wkC2_4, wkC2_5, wkC2_6, wkC2_7, wkC2_8, wkC2_9, wkC2_10, wkC2_11, wkC2_12, wkC2_13, wkC2_14, wkC2_15, Bool.and_self]
theorem wkS_mem : ∀ (n : Nat) (st : List Bool), st.length ≤ n → st ∈ wkS n
  | 0, st, h => by
    have : st = [] := List.length_eq_zero_iff.mp (by omega)
    subst this
    exact List.mem_cons_self
  | n + 1, st, h => by
    unfold wkS
    by_cases hl : st.length ≤ n
    · exact List.mem_append_left _ (wkS_mem n st hl)
    · apply List.mem_append_right
      cases st with
      | nil => exact absurd (Nat.zero_le n) hl
      | cons b t =>
        have ht : t.length = n := by simp at h hl; omega
        refine List.mem_flatMap.mpr ⟨t, List.mem_filter.mpr ⟨wkS_mem n t (by omega), by simp [ht]⟩, ?_⟩
        cases b
        · exact List.mem_cons_of_mem _ List.mem_cons_self
        · exact List.mem_cons_self
theorem dw_len : ∀ (st : List Bool), (st.dropWhile id).length ≤ st.length
  | [] => Nat.le_refl 0
  | b :: t => by
    rw [List.dropWhile_cons]
    split
    · exact Nat.le_succ_of_le (dw_len t)
    · exact Nat.le_refl _
theorem ns_len {c : Int} {st st' : List Bool} (h : nsStep c st = some st') (hl : st.length ≤ 6) : st'.length ≤ 6 := by
  unfold nsStep at h
  split at h
  · split at h
    · cases h
      simp
      omega
    · cases h
  · split at h
    · cases h
      exact hl
    · split at h
      · split at h
        · cases h
        · rename_i b t
          cases h
          have := dw_len t
          simp at hl
          omega
      · split at h
        · cases h
        · cases h
          have := dw_len st
          omega
theorem wk_cls {c : Int} {st st' : List Bool} (hc : c ≤ 2147483647) (h : nsStep c st = some st') : ∃ q ∈ wkL, q.1 ≤ c ∧ c ≤ q.2 ∧ nsStep q.1 st = some st' := by
  have key : ∀ lo hi : Int, (lo, hi) ∈ wkL → lo ≤ c → c ≤ hi → nsStep lo st = nsStep c st → ∃ q ∈ wkL, q.1 ≤ c ∧ c ≤ q.2 ∧ nsStep q.1 st = some st' := fun lo hi h1 h2 h3 h4 => ⟨(lo, hi), h1, h2, h3, by rw [h4]; exact h⟩
  have h0 : 0 ≤ c := by
    by_cases h0 : 0 ≤ c
    · exact h0
    · unfold nsStep at h
      rw [if_neg (by omega), if_neg (by omega), if_neg (by omega), if_pos (by omega)] at h
      cases h
  have e1 : 20 ≤ c → c ≤ 27 → c ≠ 23 → nsStep c st = some st := fun a b d => by
    unfold nsStep
    rw [if_neg (by omega), if_pos ⟨a, b, d⟩]
  have e2 : (0 ≤ c) → (c < 20 ∨ c = 23 ∨ 31 ≤ c) → nsStep c st = some (st.dropWhile id) := fun a b => by
    unfold nsStep
    rw [if_neg (by omega), if_neg (by omega), if_neg (by omega), if_neg (by omega)]
  by_cases a1 : c = 28
  · exact key 28 28 (by decide) (by omega) (by omega) (by rw [a1])
  by_cases a2 : c = 30
  · exact key 30 30 (by decide) (by omega) (by omega) (by rw [a2])
  by_cases a3 : c = 29
  · exact key 29 29 (by decide) (by omega) (by omega) (by rw [a3])
  by_cases a4 : c = 23
  · exact key 23 23 (by decide) (by omega) (by omega) (by rw [a4])
  by_cases a5 : c < 20
  · exact key 0 19 (by decide) (by omega) (by omega) (by rw [e2 h0 (Or.inl a5)]; rfl)
  by_cases a6 : c ≤ 22
  · exact key 20 22 (by decide) (by omega) (by omega) (by rw [e1 (by omega) (by omega) a4]; rfl)
  by_cases a7 : c ≤ 27
  · exact key 24 27 (by decide) (by omega) (by omega) (by rw [e1 (by omega) (by omega) a4]; rfl)
  · exact key 31 2147483647 (by decide) (by omega) hc (by rw [e2 h0 (Or.inr (Or.inr (by omega)))]; rfl)
abbrev wkM : Me := mtX11[118]
abbrev wkMd : Md := cx953.2.2.2.1
abbrev wkSt (d : Nat) : Cf → Cf → Prop := pm_Stp mtb (xsT 229) d (pm_Ex mtb (xsT 229) 229 d) wkM 229
def wkG (d : Nat) (h0 : Ph) (cf : Cf) : Prop := ∃ (N : Nat) (cf' : Cf) (r : Int32) (h' : Ph), pm_It (wkSt d) N cf cf' ∧ pm_res wkM.2.2.2.1 wkM.2.1 cf' = some (some (.int r), h') ∧ hI HTw RGw 229 h' ∧ fr wkMd h0 h'
theorem wk_toEn {d : Nat} {vs0 : List Int} {sy : Sy} {h0 : Ph} {cf : Cf} (g : gs sy vs0) (G : wkG d h0 cf) : En HTw RGw 229 wkMd h0 vs0 wkM (wkSt d) [wkX sy] cf := by
  obtain ⟨N, cf', r, h', h1, h2, h3, h4⟩ := G
  exact ⟨N, cf', some (.int r), h', h1, h2, wkX sy, List.mem_cons_self, vs0 ++ [r.toInt], ⟨_, rfl⟩, rfl, fun q hq => (by cases hq), ⟨⟨rfl, r.toInt, ix_new g, (Int.add_zero _).symm⟩, trivial⟩, gs_push g ⟨(r32 r).1, (r32 r).2, Or.inl rfl⟩, fun q hq => (by cases hq), h3, h4⟩
theorem wk_ofEn {d : Nat} {vs0 : List Int} {sy : Sy} {h0 : Ph} {cf : Cf} (h : En HTw RGw 229 wkMd h0 vs0 wkM (wkSt d) [wkX sy] cf) : wkG d h0 cf := by
  obtain ⟨N, cf', r, h', h1, h2, E, hE, vsE, -, g⟩ := h
  have := List.mem_singleton.mp hE
  subst this
  obtain ⟨-, -, g2, -, -, g5, g6⟩ := g
  obtain ⟨v, us, e1, e2, e3⟩ := gst_cons (show gst RGw vsE [(0, sy.length, 0)] r.toList from g2)
  obtain ⟨x, w, rfl, -, -⟩ := gv_int e2 rfl
  cases r with
  | none => cases e1
  | some u =>
    have e1 : [u] = Value.int x :: us := e1
    cases e1
    exact ⟨N, cf', x, h', h1, h2, g5, g6⟩
theorem wk_gf {vs vs2 : List Int} {h : Ph} (h1 : vs[0]? = some 0) (h2 : vs2[0]? = some 0) : ∀ (st : List Bool), st.length ≤ 6 → gf RGw vs (wkF st) h → gf RGw vs2 (wkF st) h
  | [], _, _ => fun q hq => by cases hq
  | b :: t, hl, g => by
    intro q hq
    have hl2 : t.length + 1 ≤ 6 := by simpa using hl
    rcases List.mem_cons.mp hq with rfl | hq
    · have := g _ List.mem_cons_self
      rcases this with ⟨k1, -⟩ | ⟨k1, i, v, e0, e1, e2⟩
      · exfalso
        have k1 : t.length + 1 = 4294967295 := k1
        omega
      · refine Or.inr ⟨k1, i, v, ?_, e1, ?_⟩
        · rcases e0 with e0 | ⟨e0, -⟩
          · exact Or.inl e0
          · exfalso
            have e0 : 4294967296 ≤ t.length + 1 := e0
            omega
        · obtain ⟨x, w, rfl, w1, w2⟩ := gv_int e2 rfl
          have w1 : vs[0]? = some w := w1
          rw [h1] at w1
          cases w1
          exact ⟨rfl, 0, h2, w2⟩
    · exact wk_gf h1 h2 t (by omega) (fun r hr => g r (List.mem_cons_of_mem _ hr)) q hq
theorem wk_nx {d : Nat} (hd : 3 ≤ d + 1) {h0 : Ph} : ∀ o A Bs vs cf, ga HTw RGw 229 wkMd h0 vs A cf → Pt PX11_worked A.1 = some o → o.1 ≠ 22 → wkNx o A = some Bs → ∃ cf', wkSt d cf cf' ∧ ∃ B ∈ Bs, ∃ ws, ga HTw RGw 229 wkMd h0 (vs ++ ws) B cf' :=
  nxA_ok (me := wkM) (by decide) hUw hKCw (fun _ _ _ _ _ _ _ _ _ z a b c d e => exA_ok (hlv := z) (me := wkM) exX11_ok a b c d e) (Pck_ok PX11_worked_ok) (fun _ => (List.forall_mem_cons.mpr ⟨hd1053, (List.forall_mem_cons.mpr ⟨hd1054, (List.forall_mem_cons.mpr ⟨hd1055, (List.forall_mem_nil _)⟩)⟩)⟩)) hd
theorem wk_slot {h0 h : Ph} (hf : fr wkMd h0 h) {c j : Nat} (hc : c = 192 ∨ c = 193 ∨ c = 194) : ivl h c j = ivl h0 c j := by
  unfold ivl
  rw [hf c j]
  intro hcov
  obtain ⟨m, hm, h1, -⟩ := hcov
  have key : (wkMd.all fun m => decide (m.1 ≠ 192 ∧ m.1 ≠ 193 ∧ m.1 ≠ 194)) = true := by decide +kernel
  have := List.all_eq_true.mp key m hm
  simp only [decide_eq_true_eq] at this
  omega
theorem wk_head {d : Nat} (hd : 3 ≤ d + 1) (h0 : Ph) (st : List Bool) (κ : Int) (cf : Cf) (hl : st.length ≤ 6) (g : ga HTw RGw 229 wkMd h0 [0, κ] (wkH st wkE0 []) cf) (KK : ∀ (lam gam : Int) (cf' : Cf), ga HTw RGw 229 wkMd h0 ([0, κ] ++ [lam, gam]) (wkP st tp32) cf' → ivl h0 cLT 0 = lam → ivl h0 cCO κ.toNat = gam → κ + 1 ≤ lam → 0 ≤ κ → κ ≤ 999 → gam ≤ 2147483647 → wkG d h0 cf') : wkG d h0 cf := by
  have hrn := List.all_eq_true.mp wkC1_ok st (wkS_mem 6 st hl)
  refine wk_ofEn (rn_ok (vs0 := [0, κ]) (vsI := [0, κ]) (me := wkM) (Pck_ok PX11_worked_ok) (wk_nx hd) (fun R hR => by cases hR) (fun c hc => by rw [List.mem_singleton.mp hc]; rfl) (fun c hc vs' cf' g' hp _ => ?_) 200 _ _ cf g ⟨[], rfl⟩ ⟨[], rfl⟩ hrn)
  rw [List.mem_singleton.mp hc] at g'
  have g' : ga HTw RGw 229 wkMd h0 vs' (wkP st tp32) cf' := g'
  obtain ⟨ws, rfl⟩ := hp
  obtain ⟨p0, p1, p2, p3, p4, p5, p6⟩ := g'
  have hlen := p3.1
  match ws, hlen with
  | [lam, gam], _ =>
  have f1 := p4 (194, 4294967297, (0, 3, 0)) List.mem_cons_self
  obtain ⟨i, v, s0, s1, s2⟩ := gf1_v f1 (by decide)
  obtain ⟨x, w, rfl, w1, w2⟩ := gv_int s2 rfl
  have w1 : some gam = some w := w1
  cases w1
  have w2 : x.toInt = gam + 0 := w2
  rcases s0 with ⟨s0, -⟩ | ⟨-, s0⟩
  · exact absurd s0 (by decide)
  have s0 : some κ = some (i : Int) := s0
  have s0 := Option.some.inj s0
  have f2 := p4 (193, 0, (0, 2, 0)) (List.mem_cons_of_mem _ List.mem_cons_self)
  obtain ⟨i2, v2, t0, t1, t2⟩ := gf1_v f2 (by decide)
  obtain ⟨y, w', rfl, w3, w4⟩ := gv_int t2 rfl
  have w3 : some lam = some w' := w3
  cases w3
  have w4 : y.toInt = lam + 0 := w4
  have t0 : i2 = 0 := by
    rcases t0 with ⟨-, t0⟩ | ⟨t0, -⟩
    · exact t0
    · exact absurd t0 (by decide)
  subst t0
  have eLT : ivl h0 cLT 0 = lam := by
    rw [← wk_slot p6 (c := cLT) (Or.inr (Or.inl rfl))]
    unfold ivl
    rw [show pm_slot (cf'.2.2.2 cLT) 0 = some (.int y) from t1]
    show y.toInt = lam
    omega
  have eCO : ivl h0 cCO κ.toNat = gam := by
    rw [← wk_slot p6 (c := cCO) (Or.inr (Or.inr rfl))]
    unfold ivl
    rw [show κ.toNat = i from by omega, show pm_slot (cf'.2.2.2 cCO) i = some (.int x) from s1]
    show x.toInt = gam
    omega
  have r2 := p3.2.2 2 (0, 1000, 2, 1, 2000) lam rfl rfl
  have r1 := p3.2.2 1 (0, 999, 0, 0, 0) κ rfl rfl
  have hlt : κ + 1 ≤ lam := by
    rcases r2.2.2 with q | ⟨b, q, q2, -⟩
    · cases q
    · have q : some κ = some b := q
      cases q
      exact q2
  have r1a : (0 : Int) ≤ κ := r1.1
  have r1b : κ ≤ 999 := r1.2.1
  exact wk_toEn g.2.2.2.1 (KK lam gam cf' ⟨p0, p1, p2, p3, p4, p5, p6⟩ eLT eCO hlt r1a r1b (by have := (r32 x).2; omega))
theorem wk_loop {d : Nat} (hd : 3 ≤ d + 1) (h0 : Ph) : ∀ (N : Nat) (st st2 : List Bool) (κ : Int) (cf : Cf), st.length ≤ 6 → ga HTw RGw 229 wkMd h0 [0, κ] (wkH st wkE0 []) cf → (ivl h0 cLT 0).toNat - κ.toNat = N → nsRun (ivl h0 cCO) N κ.toNat st = some st2 → wkG d h0 cf := by
  intro N
  induction N with
  | zero =>
    intro st st2 κ cf hl g hN hrun
    refine wk_head hd h0 st κ cf hl g (fun lam gam cf' g' eLT eCO hlt r1a r1b hgm => ?_)
    exfalso
    rw [eLT] at hN
    omega
  | succ N ih =>
    intro st st2 κ cf hl g hN hrun
    refine wk_head hd h0 st κ cf hl g (fun lam gam cf' g' eLT eCO hlt r1a r1b hgm => ?_)
    unfold nsRun at hrun
    rw [eCO] at hrun
    split at hrun
    · cases hrun
    · rename_i st1 hst1
      obtain ⟨q, hq, q1, q2, q3⟩ := wk_cls hgm hst1
      obtain ⟨p0, p1, p2, p3, p4, p5, p6⟩ := g'
      have hl1 := ns_len hst1 hl
      have hrn2 := List.all_eq_true.mp (List.all_eq_true.mp wkC2_ok st (wkS_mem 6 st hl)) q hq
      rw [q3] at hrn2
      have gsq : gs (wkP st (q.1, q.2, 0, 0, 0)).2.2.2.1 ([0, κ] ++ [lam, gam]) := gs_set (s := 3) p3 rfl ⟨q1, q2, Or.inl rfl⟩
      have gP : ga HTw RGw 229 wkMd h0 ([0, κ] ++ [lam, gam]) (wkP st (q.1, q.2, 0, 0, 0)) cf' := ⟨p0, p1, p2, gsq, p4, p5, p6⟩
      refine (wk_ofEn (rn_ok (vs0 := [0, κ] ++ [lam, gam]) (vsI := [0, κ] ++ [lam, gam]) (me := wkM) (Pck_ok PX11_worked_ok) (wk_nx hd) (fun R hR => by cases hR) (fun c hc => by rw [List.mem_singleton.mp hc]; rfl) (fun c2 hc2 vs2 cf2 g2 hp2 _ => ?_) 400 _ _ cf' gP ⟨[], rfl⟩ ⟨[], rfl⟩ hrn2))
      rw [List.mem_singleton.mp hc2] at g2
      have g2 : ga HTw RGw 229 wkMd h0 vs2 (wkN st1 (q.1, q.2, 0, 0, 0)) cf2 := g2
      obtain ⟨ws2, rfl⟩ := hp2
      obtain ⟨u0, u1, u2, u3, u4, u5, u6⟩ := g2
      have hlen2 := u3.1
      match ws2, hlen2 with
      | [], _ =>
      refine wk_toEn gsq (ih st1 st2 (κ + 1) cf2 hl1 ⟨u0, ?_, (by rw [gst_nil u2]; trivial), ⟨rfl, rfl, ?_⟩, ?_, u5, u6⟩ (by rw [eLT] at hN ⊢; omega) (by rw [show (κ + 1).toNat = κ.toNat + 1 from by omega]; exact hrun))
      · intro z hz
        rcases List.mem_cons.mp hz with rfl | hz
        · exact u1 _ List.mem_cons_self
        rcases List.mem_cons.mp hz with rfl | hz
        · obtain ⟨vv, z1, z2⟩ := u1 (1, (0, 0, 0)) (List.mem_cons_of_mem _ List.mem_cons_self)
          obtain ⟨xx, ww, rfl, z3, z4⟩ := gv_int z2 rfl
          have z3 : some (0 : Int) = some ww := z3
          cases z3
          exact ⟨_, z1, rfl, 0, rfl, z4⟩
        rcases List.mem_cons.mp hz with rfl | hz
        · obtain ⟨vv, z1, z2⟩ := u1 (2, (0, 0, (st1.length : Int))) (List.mem_cons_of_mem _ (List.mem_cons_of_mem _ List.mem_cons_self))
          obtain ⟨xx, ww, rfl, z3, z4⟩ := gv_int z2 rfl
          have z3 : some (0 : Int) = some ww := z3
          cases z3
          exact ⟨_, z1, rfl, 0, rfl, z4⟩
        rcases List.mem_cons.mp hz with rfl | hz
        · obtain ⟨vv, z1, z2⟩ := u1 (3, (0, 1, 1)) (List.mem_cons_of_mem _ (List.mem_cons_of_mem _ (List.mem_cons_of_mem _ List.mem_cons_self)))
          obtain ⟨xx, ww, rfl, z3, z4⟩ := gv_int z2 rfl
          have z3 : some κ = some ww := z3
          cases z3
          have z4 : xx.toInt = κ + 1 := z4
          exact ⟨_, z1, rfl, κ + 1, rfl, by show xx.toInt = κ + 1 + 0; omega⟩
        · cases hz
      · intro s e w he hw
        match s, he, hw with
        | 0, he, hw =>
          cases he
          cases hw
          exact ⟨Int.le_refl 0, Int.le_refl 0, Or.inl rfl⟩
        | 1, he, hw =>
          cases he
          cases hw
          exact ⟨by show (0 : Int) ≤ κ + 1; omega, by show κ + 1 ≤ (1000 : Int); omega, Or.inl rfl⟩
      · exact wk_gf (vs := [0, κ] ++ [lam, gam] ++ []) rfl rfl st1 hl1 u4
def wkC0 : Bool := rn RGw (Pt PX11_worked) wkNx 1 0 [wkX [(0, 0, 0, 0, 0)]] [14] [((wkH [] wkE0 [(192, 0, (0, 1, 0))], [(3, 0, 0), (0, 3, 0)]), [])] none 100 cx953.2.2.2.2.1.1
theorem wkC0_ok : wkC0 = true := by decide +kernel
theorem hdW : Hd HTw RGw 229 mtb (xsT 229) cx953 := by
  intro d hd av h vs0 hsl g
  have hd3 : 3 ≤ d := hd
  obtain ⟨d', rfl⟩ : ∃ d', d = d' + 1 := ⟨d - 1, by omega⟩
  have hv : vs0 = [0] := by
    have h1 : 1 = vs0.length := g.2.2.2.1.1
    match vs0, h1 with
    | [z], _ =>
      have h2 : some z = some 0 := g.2.2.2.1.2.1
      cases h2
      rfl
  subst hv
  have hG : wkG d' h (0, lv_args 0 av, [], h) := by
    refine wk_ofEn (rn_ok (vs0 := [0]) (vsI := [0]) (me := wkM) (Pck_ok PX11_worked_ok) (wk_nx hd3) (fun R hR => by cases hR) (fun c hc => by rw [List.mem_singleton.mp hc]; rfl) (fun c hc vs' cf' g' hp _ => ?_) 100 _ _ _ g ⟨[], rfl⟩ ⟨[], rfl⟩ wkC0_ok)
    rw [List.mem_singleton.mp hc] at g'
    have g' : ga HTw RGw 229 wkMd h vs' (wkH [] wkE0 [(192, 0, (0, 1, 0))]) cf' := g'
    obtain ⟨ws, rfl⟩ := hp
    obtain ⟨p0, p1, p2, p3, p4, p5, p6⟩ := g'
    have hlen := p3.1
    match ws, hlen with
    | [κ], _ =>
    refine wk_toEn g.2.2.2.1 ?_
    obtain ⟨i2, v2, t0, t1, t2⟩ := gf1_v (p4 (192, 0, (0, 1, 0)) List.mem_cons_self) (by decide)
    obtain ⟨y, w', rfl, w3, w4⟩ := gv_int t2 rfl
    have w3 : some κ = some w' := w3
    cases w3
    have w4 : y.toInt = κ + 0 := w4
    have t0 : i2 = 0 := by
      rcases t0 with ⟨-, t0⟩ | ⟨t0, -⟩
      · exact t0
      · exact absurd t0 (by decide)
    subst t0
    have eLF : ivl h cLF 0 = κ := by
      rw [← wk_slot p6 (c := cLF) (Or.inl rfl)]
      unfold ivl
      rw [show pm_slot (cf'.2.2.2 cLF) 0 = some (.int y) from t1]
      show y.toInt = κ
      omega
    obtain ⟨-, st, hst⟩ := (g.2.2.2.2.2.1.2 (by decide +kernel)).1
    rw [eLF] at hst
    exact wk_loop hd3 h _ [] st κ cf' (by decide) ⟨p0, p1, p2, p3, fun q hq => (by cases hq), p5, p6⟩ rfl hst
  obtain ⟨N, cf', r, h', h1, h2, h3, h4⟩ := hG
  refine ⟨some (.int r), h', _, [0] ++ [r.toInt], ⟨wkM, rfl, by rw [hsl]; decide, N, cf', h1, h2⟩, List.mem_cons_self, ⟨_, rfl⟩, rfl, fun q hq => (by cases hq), ⟨⟨rfl, r.toInt, rfl, (Int.add_zero _).symm⟩, trivial⟩, gs_push g.2.2.2.1 ⟨(r32 r).1, (r32 r).2, Or.inl rfl⟩, fun q hq => (by cases hq), h3, h4⟩
