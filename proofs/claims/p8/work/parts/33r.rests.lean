/-! rests of the class: instructions and contexts -/
def PX10_rests : List (List (Option Op0)) := [[(some (3, 0, 2, 0, 1, [])), (some (17, 10, 3, 0, 4, [])), none, none, (some (0, 0, 0, 4, 5, [])), (some (3, 1, 0, 0, 6, [])), (some (23, 1034, 2, 1, 9, [129])), none, none, (some (13, 44, 0, 0, 12, [])), none, none, (some (3, 0, 2, 0, 13, [])), (some (17, 10, 3, 0, 16, [])), none, none], [(some (0, 0, 0, 4, 17, [])), (some (3, 2, 0, 0, 18, [])), (some (23, 1034, 2, 1, 21, [129])), none, none, (some (13, 44, 0, 0, 24, [])), none, none, (some (3, 1, 0, 0, 25, [])), (some (3, 2, 0, 0, 26, [])), (some (14, 44, 0, 0, 29, [])), none, none, (some (3, 0, 2, 0, 30, [])), (some (17, 10, 5, 0, 33, [])), none], [none, (some (3, 0, 2, 0, 34, [])), (some (17, 10, 3, 0, 37, [])), none, none, (some (3, 3, 0, 0, 38, [])), (some (23, 775, 2, 1, 41, [267])), none, none, (some (13, 55, 1, 0, 44, [])), none, none, none, none, none, none], [none, none, none, none, none, none, none, (some (3, 0, 2, 0, 56, [])), (some (17, 10, 3, 0, 59, [])), none, none, (some (3, 1, 0, 0, 60, [])), (some (3, 3, 0, 0, 61, [])), (some (23, 1044, 2, 1, 64, [278])), none, none], [(some (3, 0, 2, 0, 65, [])), (some (17, 10, 3, 0, 68, [])), none, none, (some (3, 2, 0, 0, 69, [])), (some (3, 3, 0, 0, 70, [])), (some (23, 1044, 2, 1, 73, [278])), none, none, (some (3, 4, 0, 0, 75, [])), none, (some (23, 1293, 3, 0, 78, [281])), none, none, (some (4, 5, 0, 0, 80, [])), none], [(some (3, 5, 0, 0, 82, [])), none, (some (0, 0, 0, (-1), 83, [])), (some (14, 97, 1, 0, 86, [])), none, none, none, none, none, none, none, none, none, none, none, none], [none, (some (3, 5, 0, 0, 99, [])), none, (some (22, 0, 0, 0, 0, []))]]
theorem PX10_rests_ok : Pck (mtX10[31]) PX10_rests = true := by decide +kernel
def PX10_firstRests : List (List (Option Op0)) := [[(some (3, 1, 0, 0, 1, [])), (some (3, 2, 0, 0, 2, [])), (some (14, 11, 2, 0, 5, [])), none, none, (some (3, 0, 0, 0, 6, [])), (some (3, 1, 0, 0, 7, [])), (some (5, 0, 1, 0, 8, [])), (some (12, 0, 0, 0, 12, [])), none, none, (some (0, 0, 0, 0, 12, [])), (some (4, 3, 0, 0, 13, [])), (some (0, 0, 0, 0, 14, [])), (some (4, 4, 0, 0, 16, [])), none], [(some (3, 4, 0, 0, 18, [])), none, (some (0, 0, 0, 10, 20, [])), none, (some (14, 49, 3, 0, 23, [])), none, none, (some (3, 4, 0, 0, 25, [])), none, (some (3, 2, 0, 0, 26, [])), (some (14, 36, 2, 0, 29, [])), none, none, (some (3, 0, 0, 0, 30, [])), (some (3, 4, 0, 0, 32, [])), none], [(some (5, 0, 1, 0, 33, [])), (some (12, 0, 0, 0, 37, [])), none, none, (some (0, 0, 0, 0, 37, [])), (some (3, 3, 0, 0, 38, [])), (some (14, 43, 5, 0, 41, [])), none, none, (some (0, 0, 0, 0, 42, [])), (some (22, 0, 0, 0, 0, [])), (some (16, 4, 0, 1, 46, [])), none, none, (some (12, 0, 0, 0, 16, [])), none], [none, (some (0, 0, 0, 1, 50, [])), (some (22, 0, 0, 0, 0, []))]]
theorem PX10_firstRests_ok : Pck (mtX10[15]) PX10_firstRests = true := by decide +kernel
def PX10_secondRests : List (List (Option Op0)) := [[(some (3, 2, 0, 0, 1, [])), (some (3, 1, 0, 0, 2, [])), (some (14, 11, 5, 0, 5, [])), none, none, (some (3, 0, 0, 0, 6, [])), (some (3, 2, 0, 0, 7, [])), (some (5, 0, 1, 0, 8, [])), (some (12, 0, 0, 0, 12, [])), none, none, (some (0, 0, 0, 0, 12, [])), (some (4, 3, 0, 0, 13, [])), (some (0, 0, 0, 0, 14, [])), (some (4, 4, 0, 0, 16, [])), none], [(some (3, 4, 0, 0, 18, [])), none, (some (0, 0, 0, 10, 20, [])), none, (some (14, 49, 3, 0, 23, [])), none, none, (some (3, 4, 0, 0, 25, [])), none, (some (3, 1, 0, 0, 26, [])), (some (14, 36, 5, 0, 29, [])), none, none, (some (3, 0, 0, 0, 30, [])), (some (3, 4, 0, 0, 32, [])), none], [(some (5, 0, 1, 0, 33, [])), (some (12, 0, 0, 0, 37, [])), none, none, (some (0, 0, 0, 0, 37, [])), (some (3, 3, 0, 0, 38, [])), (some (14, 43, 5, 0, 41, [])), none, none, (some (0, 0, 0, 0, 42, [])), (some (22, 0, 0, 0, 0, [])), (some (16, 4, 0, 1, 46, [])), none, none, (some (12, 0, 0, 0, 16, [])), none], [none, (some (0, 0, 0, 1, 50, [])), (some (22, 0, 0, 0, 0, []))]]
theorem PX10_secondRests_ok : Pck (mtX10[32]) PX10_secondRests = true := by decide +kernel
def PX10_findRest : List (List (Option Op0)) := [[(some (0, 0, 0, 0, 1, [])), (some (4, 3, 0, 0, 2, [])), (some (0, 0, 0, 0, 3, [])), (some (4, 4, 0, 0, 5, [])), none, (some (3, 4, 0, 0, 7, [])), none, (some (0, 0, 0, 100, 9, [])), none, (some (14, 65, 3, 0, 12, [])), none, none, (some (3, 4, 0, 0, 14, [])), none, (some (0, 0, 0, 10, 16, [])), none], [(some (5, 0, 9, 0, 17, [])), (some (4, 5, 0, 0, 19, [])), none, (some (3, 4, 0, 0, 21, [])), none, (some (0, 0, 0, 10, 23, [])), none, (some (5, 0, 10, 0, 24, [])), (some (4, 6, 0, 0, 26, [])), none, (some (3, 0, 0, 0, 27, [])), (some (3, 5, 0, 0, 29, [])), none, (some (3, 6, 0, 0, 31, [])), none, (some (23, 1295, 3, 0, 34, [322]))], [none, none, (some (13, 59, 0, 0, 37, [])), none, none, (some (3, 1, 0, 0, 38, [])), (some (3, 5, 0, 0, 40, [])), none, (some (3, 6, 0, 0, 42, [])), none, (some (23, 1312, 3, 0, 45, [326])), none, none, (some (13, 59, 0, 0, 48, [])), none, none], [(some (3, 3, 0, 0, 49, [])), (some (3, 2, 0, 0, 50, [])), (some (14, 56, 1, 0, 53, [])), none, none, (some (3, 4, 0, 0, 55, [])), none, (some (22, 0, 0, 0, 0, [])), (some (16, 3, 0, 1, 59, [])), none, none, (some (16, 4, 0, 1, 62, [])), none, none, (some (12, 0, 0, 0, 5, [])), none], [none, (some (3, 2, 0, 0, 66, [])), (some (0, 0, 0, (-1), 67, [])), (some (14, 74, 1, 0, 70, [])), none, none, (some (3, 3, 0, 0, 71, [])), (some (12, 0, 0, 0, 75, [])), none, none, (some (0, 0, 0, (-1), 75, [])), (some (22, 0, 0, 0, 0, []))]]
theorem PX10_findRest_ok : Pck (mtX10[13]) PX10_findRest = true := by decide +kernel
def PX8_worth : List (List (Option Op0)) := [[(some (3, 0, 2, 0, 1, [])), (some (17, 8, 4, 0, 4, [])), none, none, (some (3, 1, 0, 0, 5, [])), (some (19, 0, 9, 0, 6, [])), (some (0, 0, 0, 1, 7, [])), (some (19, 0, 0, 0, 8, [])), (some (4, 3, 0, 0, 9, [])), (some (3, 0, 2, 0, 10, [])), (some (17, 8, 1, 0, 13, [])), none, none, (some (3, 2, 0, 0, 14, [])), (some (19, 0, 9, 0, 15, [])), (some (0, 0, 0, 2, 16, []))], [(some (19, 0, 0, 0, 17, [])), (some (3, 0, 2, 0, 18, [])), (some (17, 8, 4, 0, 21, [])), none, none, (some (3, 1, 0, 0, 22, [])), (some (19, 0, 9, 0, 23, [])), (some (0, 0, 0, 0, 24, [])), (some (19, 0, 0, 0, 25, [])), (some (14, 32, 2, 0, 28, [])), none, none, (some (3, 3, 0, 0, 29, [])), (some (12, 0, 0, 0, 35, [])), none, none], [(some (3, 3, 0, 0, 33, [])), (some (0, 0, 0, 2, 34, [])), (some (5, 0, 9, 0, 35, [])), (some (22, 0, 0, 0, 0, []))]]
theorem PX8_worth_ok : Pck (mtX8[20]) PX8_worth = true := by decide +kernel
def cx1353 : Cx := (1295, 1, 3, [], ((0, [(0, (0, 1, 0)), (1, (0, 2, 0)), (2, (0, 3, 0))], [], [(0, 0, 0, 0, 0), ((-2147483648), 2147483647, 0, 0, 0), (0, 9, 0, 0, 0), (0, 9, 0, 0, 0)], []), [(3, 0, 0), (0, 0, 0), (0, 1, 0), (0, 2, 0)]), [((0, [], [(0, 0, 0)], [(0, 0, 0, 0, 0), ((-2147483648), 2147483647, 0, 0, 0), (0, 9, 0, 0, 0), (0, 9, 3, (-9), 9)], []), [(3, 0, 0), (3, 1, 0), (3, 2, 0), (3, 3, 0)]), ((0, [], [(0, 0, 1)], [(0, 0, 0, 0, 0), ((-2147483648), 2147483647, 0, 0, 0), (0, 9, 0, 0, 0), (0, 9, 3, (-9), 9)], []), [(3, 0, 0), (3, 1, 0), (3, 2, 0), (3, 3, 0)])])
def ct1353 : List (Cu × Rk) := [(((12, [(0, (0, 1, 0)), (1, (0, 2, 0)), (2, (0, 3, 0))], [(0, 4, 0)], [(0, 0, 0, 0, 0), ((-2147483648), 2147483647, 0, 0, 0), (0, 9, 0, 0, 0), (0, 9, 3, (-9), 0), ((-2147483648), 2147483647, 0, 0, 0)], []), [(3, 0, 0), (3, 1, 0), (3, 2, 0), (3, 3, 0), (2, 0, 0)]), [(0, 0, 1), (0, 0, 0), (0, 0, 0)]),
  (((12, [(0, (0, 1, 0)), (1, (0, 2, 0)), (2, (0, 3, 0))], [(0, 0, 0)], [(0, 0, 0, 0, 0), ((-2147483648), 2147483647, 0, 0, 0), (0, 8, 0, 0, 0), (1, 9, 3, 1, 9)], []), [(3, 0, 0), (3, 1, 0), (3, 2, 0), (3, 3, 0)]), [(0, 0, 2), (0, 0, 0), (0, 0, 0)]),
  (((16, [(0, (0, 1, 0)), (1, (0, 2, 0)), (2, (0, 3, 0)), (3, (0, 4, 0)), (4, (0, 5, 0))], [], [(0, 0, 0, 0, 0), ((-2147483648), 2147483647, 0, 0, 0), (0, 9, 0, 0, 0), (0, 9, 3, (-9), 9), ((-2147483648), 2147483647, 0, 0, 0), (0, 10, 0, 0, 0)], []), [(3, 0, 0), (3, 1, 0), (3, 2, 0), (3, 3, 0), (0, 3, 0), (0, 4, 0)]), [(0, 0, 0), (1, 5, 10), (0, 0, 2)]),
  (((37, [(0, (0, 1, 0)), (1, (0, 2, 0)), (2, (0, 3, 0)), (3, (0, 4, 0)), (4, (0, 5, 0))], [(0, 6, 0)], [(0, 0, 0, 0, 0), ((-2147483648), 2147483647, 0, 0, 0), (0, 9, 0, 0, 0), (0, 9, 3, (-9), 9), ((-2147483648), 2147483647, 0, 0, 0), (0, 9, 0, 0, 0), ((-2147483648), 2147483647, 2, (-4294967295), 4294967295)], []), [(3, 0, 0), (3, 1, 0), (3, 2, 0), (3, 3, 0), (0, 3, 0), (0, 4, 0), (2, 0, 0)]), [(0, 0, 0), (1, 5, 10), (0, 0, 1)]),
  (((37, [(0, (0, 1, 0)), (1, (0, 2, 0)), (2, (0, 3, 0)), (3, (0, 4, 0)), (4, (0, 5, 0))], [(0, 0, 0)], [(0, 0, 0, 0, 0), ((-2147483648), 2147483647, 0, 0, 0), (0, 9, 0, 0, 0), (1, 9, 3, (-9), 9), ((-2147483648), 2147483647, 0, 0, 0), (0, 8, 0, 0, 0)], []), [(3, 0, 0), (3, 1, 0), (3, 2, 0), (3, 3, 0), (0, 3, 0), (0, 4, 0)]), [(0, 0, 0), (1, 5, 10), (0, 0, 0)])]
set_option maxRecDepth 16384 in
theorem hd1353 : Hd HTw RGw 229 mtb (xsT 229) cx1353 := chk_ok (FK := FKw) (me := mtX10[15]) (EX := exA HTw cx1353.2.2.2.1 cx1353.2.1 exX10) (P := Pt PX10_firstRests) (cs := fun _ => []) (f := 600) (pcs := [12, 16, 37]) (cuts := ct1353) (by decide) hUw hKCw (fun _ _ _ _ _ _ _ _ _ z a b c d e => exA_ok (lv := cx1353.2.1) (hlv := z) (me := mtX10[15]) exX10_ok a b c d e) rfl (Pck_ok PX10_firstRests_ok) (fun _ => (List.forall_mem_nil _)) (by decide +kernel)
def cx1354 : Cx := (1312, 1, 3, [], ((0, [(0, (0, 1, 0)), (1, (0, 2, 0)), (2, (0, 3, 0))], [], [(0, 0, 0, 0, 0), ((-2147483648), 2147483647, 0, 0, 0), (0, 9, 0, 0, 0), (0, 9, 0, 0, 0)], []), [(3, 0, 0), (0, 0, 0), (0, 1, 0), (0, 2, 0)]), [((0, [], [(0, 0, 0)], [(0, 0, 0, 0, 0), ((-2147483648), 2147483647, 0, 0, 0), (0, 9, 0, 0, 0), (0, 9, 3, (-9), 9)], []), [(3, 0, 0), (3, 1, 0), (3, 2, 0), (3, 3, 0)]), ((0, [], [(0, 0, 1)], [(0, 0, 0, 0, 0), ((-2147483648), 2147483647, 0, 0, 0), (0, 9, 0, 0, 0), (0, 9, 3, (-9), 9)], []), [(3, 0, 0), (3, 1, 0), (3, 2, 0), (3, 3, 0)])])
def ct1354 : List (Cu × Rk) := [(((12, [(0, (0, 1, 0)), (1, (0, 2, 0)), (2, (0, 3, 0))], [(0, 4, 0)], [(0, 0, 0, 0, 0), ((-2147483648), 2147483647, 0, 0, 0), (0, 8, 0, 0, 0), (1, 9, 3, 1, 9), ((-2147483648), 2147483647, 0, 0, 0)], []), [(3, 0, 0), (3, 1, 0), (3, 2, 0), (3, 3, 0), (2, 0, 0)]), [(0, 0, 1), (0, 0, 0), (0, 0, 0)]),
  (((12, [(0, (0, 1, 0)), (1, (0, 2, 0)), (2, (0, 3, 0))], [(0, 0, 0)], [(0, 0, 0, 0, 0), ((-2147483648), 2147483647, 0, 0, 0), (0, 9, 0, 0, 0), (0, 9, 3, (-9), 0)], []), [(3, 0, 0), (3, 1, 0), (3, 2, 0), (3, 3, 0)]), [(0, 0, 2), (0, 0, 0), (0, 0, 0)]),
  (((16, [(0, (0, 1, 0)), (1, (0, 2, 0)), (2, (0, 3, 0)), (3, (0, 4, 0)), (4, (0, 5, 0))], [], [(0, 0, 0, 0, 0), ((-2147483648), 2147483647, 0, 0, 0), (0, 9, 0, 0, 0), (0, 9, 3, (-9), 9), ((-2147483648), 2147483647, 0, 0, 0), (0, 10, 0, 0, 0)], []), [(3, 0, 0), (3, 1, 0), (3, 2, 0), (3, 3, 0), (0, 3, 0), (0, 4, 0)]), [(0, 0, 0), (1, 5, 10), (0, 0, 2)]),
  (((37, [(0, (0, 1, 0)), (1, (0, 2, 0)), (2, (0, 3, 0)), (3, (0, 4, 0)), (4, (0, 5, 0))], [(0, 0, 0)], [(0, 0, 0, 0, 0), ((-2147483648), 2147483647, 0, 0, 0), (0, 9, 0, 0, 0), (0, 9, 3, (-9), 9), ((-2147483648), 2147483647, 0, 0, 0), (0, 9, 0, 0, 0)], []), [(3, 0, 0), (3, 1, 0), (3, 2, 0), (3, 3, 0), (0, 3, 0), (0, 4, 0)]), [(0, 0, 0), (1, 5, 10), (0, 0, 0)]),
  (((37, [(0, (0, 1, 0)), (1, (0, 2, 0)), (2, (0, 3, 0)), (3, (0, 4, 0)), (4, (0, 5, 0))], [(0, 6, 0)], [(0, 0, 0, 0, 0), ((-2147483648), 2147483647, 0, 0, 0), (0, 8, 0, 0, 0), (0, 9, 3, (-9), 9), ((-2147483648), 2147483647, 0, 0, 0), (1, 9, 3, 1, 9), ((-2147483648), 2147483647, 0, 0, 0)], []), [(3, 0, 0), (3, 1, 0), (3, 2, 0), (3, 3, 0), (0, 3, 0), (0, 4, 0), (2, 0, 0)]), [(0, 0, 0), (1, 5, 10), (0, 0, 1)])]
set_option maxRecDepth 16384 in
theorem hd1354 : Hd HTw RGw 229 mtb (xsT 229) cx1354 := chk_ok (FK := FKw) (me := mtX10[32]) (EX := exA HTw cx1354.2.2.2.1 cx1354.2.1 exX10) (P := Pt PX10_secondRests) (cs := fun _ => []) (f := 600) (pcs := [12, 16, 37]) (cuts := ct1354) (by decide) hUw hKCw (fun _ _ _ _ _ _ _ _ _ z a b c d e => exA_ok (lv := cx1354.2.1) (hlv := z) (me := mtX10[32]) exX10_ok a b c d e) rfl (Pck_ok PX10_secondRests_ok) (fun _ => (List.forall_mem_nil _)) (by decide +kernel)
def cx1355 : Cx := (1293, 2, 3, [], ((0, [(0, (0, 1, 0)), (1, (0, 2, 0)), (2, (0, 3, 0))], [], [(0, 0, 0, 0, 0), ((-2147483648), 2147483647, 0, 0, 0), ((-2147483648), 2147483647, 0, 0, 0), ((-2147483648), 2147483647, 0, 0, 0)], []), [(3, 0, 0), (0, 0, 0), (0, 1, 0), (0, 2, 0)]), [((0, [], [(0, 4, 0)], [(0, 0, 0, 0, 0), ((-2147483648), 2147483647, 0, 0, 0), ((-2147483648), 2147483647, 0, 0, 0), ((-2147483648), 2147483647, 0, 0, 0), ((-2147483648), 2147483647, 0, 0, 0)], []), [(3, 0, 0), (3, 1, 0), (3, 2, 0), (3, 3, 0), (2, 0, 0)])])
def ct1355 : List (Cu × Rk) := [(((5, [(0, (0, 1, 0)), (1, (0, 2, 0)), (2, (0, 3, 0)), (3, (0, 4, 0)), (4, (0, 5, 0))], [], [(0, 0, 0, 0, 0), ((-2147483648), 2147483647, 0, 0, 0), ((-2147483648), 2147483647, 0, 0, 0), ((-2147483648), 2147483647, 0, 0, 0), ((-2147483648), 2147483647, 0, 0, 0), (0, 100, 0, 0, 0)], []), [(3, 0, 0), (3, 1, 0), (3, 2, 0), (3, 3, 0), (0, 3, 0), (0, 4, 0)]), [(0, 0, 2), (1, 5, 100), (0, 0, 1)]),
  (((59, [(0, (0, 1, 0)), (1, (0, 2, 0)), (2, (0, 3, 0)), (3, (0, 6, 0)), (4, (0, 7, 0)), (5, (0, 4, 0)), (6, (0, 5, 0))], [], [(0, 0, 0, 0, 0), ((-2147483648), 2147483647, 0, 0, 0), ((-2147483648), 2147483647, 0, 0, 0), ((-2147483648), 2147483647, 0, 0, 0), (0, 9, 0, 0, 0), (0, 9, 5, (-1073741824), 9), ((-2147483648), 2147483647, 0, 0, 0), (0, 99, 0, 0, 0)], []), [(3, 0, 0), (3, 1, 0), (3, 2, 0), (3, 3, 0), (0, 5, 0), (0, 6, 0), (0, 3, 0), (0, 4, 0)]), [(0, 0, 2), (1, 7, 100), (0, 0, 0)]),
  (((75, [(0, (0, 1, 0)), (1, (0, 2, 0)), (2, (0, 3, 0)), (3, (0, 4, 0)), (4, (0, 5, 0))], [(0, 4, 0)], [(0, 0, 0, 0, 0), ((-2147483648), 2147483647, 0, 0, 0), ((-2147483648), 2147483647, 0, 0, 0), ((-1), (-1), 0, 0, 0), ((-2147483648), 2147483647, 0, 0, 0), (100, 100, 0, 0, 0)], []), [(3, 0, 0), (3, 1, 0), (3, 2, 0), (3, 3, 0), (0, 3, 0), (0, 4, 0)]), [(0, 0, 0), (0, 0, 0), (0, 0, 0)]),
  (((75, [(0, (0, 1, 0)), (1, (0, 2, 0)), (2, (0, 3, 0)), (3, (0, 4, 0)), (4, (0, 5, 0))], [(0, 0, (-1))], [(0, 0, 0, 0, 0), ((-2147483648), 2147483647, 0, 0, 0), ((-2147483648), 2147483647, 0, 0, 0), ((-2147483648), 2147483647, 0, 0, 0), ((-2147483648), 2147483647, 0, 0, 0), (100, 100, 0, 0, 0)], []), [(3, 0, 0), (3, 1, 0), (3, 2, 0), (3, 3, 0), (0, 3, 0), (0, 4, 0)]), [(0, 0, 1), (0, 0, 0), (0, 0, 0)])]
set_option maxRecDepth 16384 in
theorem hd1355 : Hd HTw RGw 229 mtb (xsT 229) cx1355 := chk_ok (FK := FKw) (me := mtX10[13]) (EX := exA HTw cx1355.2.2.2.1 cx1355.2.1 exX10) (P := Pt PX10_findRest) (cs := fun _ => [cx1353, cx1354]) (f := 600) (pcs := [5, 59, 75]) (cuts := ct1355) (by decide) hUw hKCw (fun _ _ _ _ _ _ _ _ _ z a b c d e => exA_ok (lv := cx1355.2.1) (hlv := z) (me := mtX10[13]) exX10_ok a b c d e) rfl (Pck_ok PX10_findRest_ok) (fun _ => (List.forall_mem_cons.mpr ⟨hd1353, (List.forall_mem_cons.mpr ⟨hd1354, (List.forall_mem_nil _)⟩)⟩)) (by decide +kernel)
def cx1356 : Cx := (1034, 1, 3, [], ((0, [(0, (2, 43, 0)), (1, (0, 0, 4)), (2, (0, 1, 0))], [], [(0, 0, 0, 0, 0), ((-2147483648), 2147483647, 0, 0, 0)], []), [(3, 0, 0), (0, 2, 0)]), [((0, [], [(0, 0, 1)], [(0, 0, 0, 0, 0), (0, 3, 0, 0, 0)], []), [(3, 0, 0), (3, 1, 0)]), ((0, [], [(0, 0, 0)], [(0, 0, 0, 0, 0), ((-2147483648), 2147483647, 0, 0, 0)], []), [(3, 0, 0), (3, 1, 0)])])
def ct1356 : List (Cu × Rk) := [(((18, [(0, (2, 43, 0)), (1, (0, 0, 4)), (2, (0, 1, 0))], [], [(0, 0, 0, 0, 0), ((-2147483648), 2147483647, 0, 0, 0)], []), [(3, 0, 0), (3, 1, 0)]), [(0, 0, 1)]),
  (((19, [(0, (2, 43, 0)), (1, (0, 0, 4)), (2, (0, 1, 0))], [(0, 0, 1)], [(0, 0, 0, 0, 0), (0, 3, 0, 0, 0), (1, 4, 2, 1, 4)], [(44, 4, (0, 2, 0))]), [(3, 0, 0), (3, 1, 0), (1, 44, 4)]), [(0, 0, 2)]),
  (((19, [(0, (2, 43, 0)), (1, (0, 0, 4)), (2, (0, 1, 0))], [(0, 0, 0)], [(0, 0, 0, 0, 0), ((-2147483648), 2147483647, 0, 0, 0)], []), [(3, 0, 0), (3, 1, 0)]), [(0, 0, 0)])]
set_option maxRecDepth 16384 in
theorem hd1356 : Hd HTw RGw 229 mtb (xsT 229) cx1356 := chk_ok (FK := FKw) (me := mtX8[10]) (EX := exA HTw cx1356.2.2.2.1 cx1356.2.1 exX8) (P := Pt PX8_has) (cs := fun _ => []) (f := 600) (pcs := [18, 19]) (cuts := ct1356) (by decide) hUw hKCw (fun _ _ _ _ _ _ _ _ _ z a b c d e => exA_ok (lv := cx1356.2.1) (hlv := z) (me := mtX8[10]) exX8_ok a b c d e) rfl (Pck_ok PX8_has_ok) (fun _ => (List.forall_mem_nil _)) (by decide +kernel)
def cx1357 : Cx := (1034, 1, 3, [], ((0, [(0, (2, 7, 0)), (1, (0, 0, 4)), (2, (0, 1, 0))], [], [(0, 0, 0, 0, 0), ((-2147483648), 2147483647, 0, 0, 0)], []), [(3, 0, 0), (0, 2, 0)]), [((0, [], [(0, 0, 1)], [(0, 0, 0, 0, 0), (0, 3, 0, 0, 0)], []), [(3, 0, 0), (3, 1, 0)]), ((0, [], [(0, 0, 0)], [(0, 0, 0, 0, 0), ((-2147483648), 2147483647, 0, 0, 0)], []), [(3, 0, 0), (3, 1, 0)])])
def ct1357 : List (Cu × Rk) := [(((18, [(0, (2, 7, 0)), (1, (0, 0, 4)), (2, (0, 1, 0))], [], [(0, 0, 0, 0, 0), ((-2147483648), 2147483647, 0, 0, 0)], []), [(3, 0, 0), (3, 1, 0)]), [(0, 0, 1)]),
  (((19, [(0, (2, 7, 0)), (1, (0, 0, 4)), (2, (0, 1, 0))], [(0, 0, 1)], [(0, 0, 0, 0, 0), (0, 3, 0, 0, 0), (1, 4, 2, 1, 4)], [(8, 4, (0, 2, 0))]), [(3, 0, 0), (3, 1, 0), (1, 8, 4)]), [(0, 0, 2)]),
  (((19, [(0, (2, 7, 0)), (1, (0, 0, 4)), (2, (0, 1, 0))], [(0, 0, 0)], [(0, 0, 0, 0, 0), ((-2147483648), 2147483647, 0, 0, 0)], []), [(3, 0, 0), (3, 1, 0)]), [(0, 0, 0)])]
set_option maxRecDepth 16384 in
theorem hd1357 : Hd HTw RGw 229 mtb (xsT 229) cx1357 := chk_ok (FK := FKw) (me := mtX8[10]) (EX := exA HTw cx1357.2.2.2.1 cx1357.2.1 exX8) (P := Pt PX8_has) (cs := fun _ => []) (f := 600) (pcs := [18, 19]) (cuts := ct1357) (by decide) hUw hKCw (fun _ _ _ _ _ _ _ _ _ z a b c d e => exA_ok (lv := cx1357.2.1) (hlv := z) (me := mtX8[10]) exX8_ok a b c d e) rfl (Pck_ok PX8_has_ok) (fun _ => (List.forall_mem_nil _)) (by decide +kernel)
def cx1358 : Cx := (1044, 1, 3, [], ((0, [(0, (2, 43, 0)), (1, (0, 1, 0)), (2, (0, 2, 0))], [], [(0, 0, 0, 0, 0), (0, 3, 0, 0, 0), (0, 9, 0, 0, 0)], []), [(3, 0, 0), (0, 1, 0), (0, 2, 0)]), [((0, [], [(0, 3, 0)], [(0, 0, 0, 0, 0), (0, 3, 0, 0, 0), (0, 9, 0, 0, 0), ((-2147483648), 2147483647, 0, 0, 0)], []), [(3, 0, 0), (3, 1, 0), (3, 2, 0), (2, 0, 0)])])
def ct1358 : List (Cu × Rk) := [(((35, [(0, (2, 43, 0)), (1, (0, 1, 0)), (2, (0, 2, 0)), (3, (0, 3, 0))], [(0, 4, 0)], [(0, 0, 0, 0, 0), (0, 3, 0, 0, 0), (0, 9, 0, 0, 0), ((-2147483648), 2147483647, 0, 0, 0), ((-2147483648), 2147483647, 4, (-4294967295), 4294967295)], []), [(3, 0, 0), (3, 1, 0), (3, 2, 0), (0, 3, 0), (2, 0, 0)]), [(0, 0, 0)])]
set_option maxRecDepth 16384 in
theorem hd1358 : Hd HTw RGw 229 mtb (xsT 229) cx1358 := chk_ok (FK := FKw) (me := mtX8[20]) (EX := exA HTw cx1358.2.2.2.1 cx1358.2.1 exX8) (P := Pt PX8_worth) (cs := fun _ => []) (f := 600) (pcs := [35]) (cuts := ct1358) (by decide) hUw hKCw (fun _ _ _ _ _ _ _ _ _ z a b c d e => exA_ok (lv := cx1358.2.1) (hlv := z) (me := mtX8[20]) exX8_ok a b c d e) rfl (Pck_ok PX8_worth_ok) (fun _ => (List.forall_mem_nil _)) (by decide +kernel)
def cx1359 : Cx := (1044, 1, 3, [], ((0, [(0, (2, 7, 0)), (1, (0, 1, 0)), (2, (0, 2, 0))], [], [(0, 0, 0, 0, 0), (0, 3, 0, 0, 0), (0, 9, 0, 0, 0)], []), [(3, 0, 0), (0, 1, 0), (0, 2, 0)]), [((0, [], [(0, 3, 0)], [(0, 0, 0, 0, 0), (0, 3, 0, 0, 0), (0, 9, 0, 0, 0), ((-2147483648), 2147483647, 0, 0, 0)], []), [(3, 0, 0), (3, 1, 0), (3, 2, 0), (2, 0, 0)])])
def ct1359 : List (Cu × Rk) := [(((35, [(0, (2, 7, 0)), (1, (0, 1, 0)), (2, (0, 2, 0)), (3, (0, 3, 0))], [(0, 4, 0)], [(0, 0, 0, 0, 0), (0, 3, 0, 0, 0), (0, 9, 0, 0, 0), ((-2147483648), 2147483647, 0, 0, 0), ((-2147483648), 2147483647, 4, (-4294967295), 4294967295)], []), [(3, 0, 0), (3, 1, 0), (3, 2, 0), (0, 3, 0), (2, 0, 0)]), [(0, 0, 0)])]
set_option maxRecDepth 16384 in
theorem hd1359 : Hd HTw RGw 229 mtb (xsT 229) cx1359 := chk_ok (FK := FKw) (me := mtX8[20]) (EX := exA HTw cx1359.2.2.2.1 cx1359.2.1 exX8) (P := Pt PX8_worth) (cs := fun _ => []) (f := 600) (pcs := [35]) (cuts := ct1359) (by decide) hUw hKCw (fun _ _ _ _ _ _ _ _ _ z a b c d e => exA_ok (lv := cx1359.2.1) (hlv := z) (me := mtX8[20]) exX8_ok a b c d e) rfl (Pck_ok PX8_worth_ok) (fun _ => (List.forall_mem_nil _)) (by decide +kernel)
/-- the class's rests, up to its throws -/
abbrev rM : Me := mtX10[31]
def rS (d : Nat) (a b : Cf) : Prop := pm_sem rM.2.2.2.2.1 229 rM.2.2.1 rM.2.1 a = some b ∨ pm_Call mtb (pm_Ex mtb (xsT 229) 229 d) rM 229 a b
def rCs : List Cx := [cx423, cx427, cx1355, cx1356, cx1357, cx1358, cx1359]
theorem rCs_ok : ∀ c ∈ rCs, Hd HTw RGw 229 mtb (xsT 229) c := (List.forall_mem_cons.mpr ⟨hd423, (List.forall_mem_cons.mpr ⟨hd427, (List.forall_mem_cons.mpr ⟨hd1355, (List.forall_mem_cons.mpr ⟨hd1356, (List.forall_mem_cons.mpr ⟨hd1357, (List.forall_mem_cons.mpr ⟨hd1358, (List.forall_mem_cons.mpr ⟨hd1359, (List.forall_mem_nil _)⟩)⟩)⟩)⟩)⟩)⟩)⟩)
def rNx : Op0 → Ab → Option (List Ab) := nxA HTw RGw FKw UNw KCw mtb (fun _ _ => none) [] 3 (fun _ => rCs)
theorem r_nx {d : Nat} (hd : 3 ≤ d + 1) {h : Ph} : ∀ o A Bs vs cf, ga HTw RGw 229 [] h vs A cf → Pt PX10_rests A.1 = some o → o.1 ≠ 22 → rNx o A = some Bs → ∃ cf', rS d cf cf' ∧ ∃ B ∈ Bs, ∃ ws, ga HTw RGw 229 [] h (vs ++ ws) B cf' := by
  intro o A Bs vs cf gA ho h22 hx
  obtain ⟨ins, len, hdc, hr⟩ := Pck_ok PX10_rests_ok A.1 o ho
  rw [← gA.1] at hdc hr
  unfold rNx nxA at hx
  split at hx
  · rename_i h23
    split at hx
    · rename_i hst
      obtain ⟨idx, i1, i2, i3, i4⟩ := rop_inv hr h23
      subst i2
      unfold stF at hst
      split at hst
      · rename_i me' hme'
        have hst : (me'.2.2.2.2.2 == (o.2.2.2.1.toNat == 0)) = true := hst
        rw [beq_iff_eq] at hst
        obtain ⟨cf', w1, w2⟩ := callA_ok (me := rM) (me' := me') (idx := idx) (d := d) (KC := KCw) gA hd rCs_ok (fun ci hci => hKCw o.2.1 ci me' hci hme') hme' i1 (by
          rcases i4 with ⟨j1, rfl⟩ | ⟨j1, rfl⟩
          · left
            rw [j1] at hst ⊢
            exact ⟨rfl, hst, hdc⟩
          · right
            rw [j1] at hst ⊢
            exact ⟨rfl, hst, hdc⟩) i3 hx
        exact ⟨cf', Or.inr w1, w2⟩
      · cases hst
    · cases hx
  · cases hx
  · obtain ⟨cf', w1, w2⟩ := aop_ok (by decide) hUw gA hr hx
    refine ⟨cf', Or.inl ?_, w2⟩
    unfold pm_sem
    rw [hdc]
    exact w1
section Rr
variable {p : Program} {l : Launch} {e : Env} {R : Room} {s : State} {m : MethodId} {args : Array Value} {below : List Frame} {meth : Method} {c : Code} {Q : State → Prop}
variable {g : va_G} {aC : Nat → ClassId} {aM : Nat → Nat} {A : Nat → Prop} {ad : Nat → Nat} {cf cf' : Cf}
theorem r_call {d n : Nat} {MT : Nat → Option Me} {ex : Nat → List Value → Ph → Option Value → Ph → Prop} {me : Me} {k : Nat} (hRR : d + 1 ≤ R.frames ∧ 60 * (d + 1) ≤ R.locals) (hMT : pm_okM MT) (hme : MT k = some me) (F : Fx p s m args c me.2.1 me.2.2.1 me.1.cls g aC aM A)
    (hex : ∀ (k' : Nat) (me' : Me) (av : List Value) (h : Ph) (r : Option Value) (h' : Ph), MT k' = some me' → ex k' av h r h' → Ct l g aC aM me'.1 me'.2.1 me'.2.2.1 me'.2.2.2.1 d (av.map (pm_v ad)) (pm_w aC ad n h) (pm_Qx g aC ad n r h') 0 0)
    (hc : pm_Call MT ex me n cf cf') (kk : pm_W p l e R s m args below meth c Q g aC A ad n me.2.2.1 cf') : pm_W p l e R s m args below meth c Q g aC A ad n me.2.2.1 cf := by
  obtain ⟨idx, k', np, me', av, st, r, h', e1, e2, e3, e4, e5, rfl, e6⟩ := hc
  obtain ⟨o1, o2, o3, o4, o5, o6, o7, o8⟩ := hMT k' me' e2
  obtain ⟨-, -, -, -, -, -, -, w8⟩ := hMT k me hme
  obtain ⟨x1, x2⟩ := w8 idx k' np me' e1 e2
  have ct := hex k' me' av _ r h' e2 e5
  intro H locs ls hP hD hS hl
  have hC := pm_all (aC := aC) (ad := ad) (n := n) (h := cf.2.2.2)
  have hW : ((st.map (pm_v ad)).map fun v => v.category).sum ≤ 8 := by
    rw [List.map_map]
    have : (fun v => v.category) ∘ pm_v ad = fun v : Value => v.category := funext fun v => pm_cat ad v
    rw [this]
    exact e4
  have hR : d + 1 ≤ R.frames ∧ 8 + (me'.2.2.1 + 11) + 60 * d ≤ R.locals := ⟨hRR.1, by omega⟩
  rcases e6 with ⟨s1, s2, s3⟩ | ⟨s1, s2, b0, ci, As, fs, q, rfl, s3, s4, s5, s6, s7⟩
  · rcases o7 with ⟨-, o7⟩ | ⟨o7, -⟩
    · refine pm_go F hP hD hS hl (runS (n := np) F hP hD hS ct (List.range n) (pm_range_nd n) hC o3 x1 o7 o4 ⟨o6.1, o6.2, x2⟩ hR (by rw [List.length_map]; exact s3) hl.1 (by rw [e3, List.map_append, List.map_reverse]) hW s2 ⟨Nat.zero_le _, Nat.zero_le _⟩) kk
    · rw [s1] at o7; cases o7
  · rcases o7 with ⟨o7, -⟩ | ⟨-, o7, o9⟩
    · rw [s1] at o7; cases o7
    · have hat := pm_at (aC := aC) (ad := ad) (h := cf.2.2.2) s4
      rw [s5] at hat
      refine pm_go F hP hD hS hl (runV (n := np) (b := ad b0) (As := As.map (pm_v ad)) F hP hD hS ct (List.range n) (pm_range_nd n) hC b0 ci s6 hat s7 o3 x1 o7 o9 o4 ⟨o6.1, o6.2, x2⟩ hR (by rw [List.length_map]; exact s3) hl.1 (by rw [e3, List.reverse_cons, List.append_assoc, List.map_append, List.map_reverse]; rfl) hW s2 ⟨Nat.zero_le _, Nat.zero_le _⟩) kk
theorem rS_ok {d : Nat} (hRR : d + 1 ≤ R.frames ∧ 60 * (d + 1) ≤ R.locals) (had : pm_ad aM ad) (F : Fx p s m args c rM.2.1 rM.2.2.1 rM.1.cls g aC aM A) (hab : rS d cf cf') (kk : pm_W p l e R s m args below meth c Q g aC A ad 229 rM.2.2.1 cf') : pm_W p l e R s m args below meth c Q g aC A ad 229 rM.2.2.1 cf := by
  rcases hab with hab | hab
  · exact pm_sem_ok F (mtb_ok 1311 rM rfl).1 had hab kk
  · exact r_call (k := 1311) hRR mtb_ok rfl F (fun k' me' av' h1 r1 h1' hk' hx' => pm_Ex_ok mtb_ok (xsT_ok had) had d k' me' av' h1 r1 h1' hk' hx') hab kk
end Rr
def rZ : Sy := [(0, 0, 0, 0, 0), tp32, tp32, tp32, tp32]
def rC (pc : Nat) : Cu := ((pc, [], [], rZ, []), bG5)
def rC99 : Cu := ((99, [], [(0, 5, 0)], rZ ++ [tp32], []), bG5 ++ [(2, 0, 0)])
def rA0 : Ab := (0, [(0, (2, 0, 0)), (1, (0, 1, 0)), (2, (0, 2, 0)), (3, (0, 3, 0)), (4, (0, 4, 0))], [], rZ, [])
theorem rK_ok : rn RGw (Pt PX10_rests) rNx 5 0 [] [44, 86, 99] [(rC 44, []), (rC 86, []), (rC99, [])] none 200 rA0 = true := by decide +kernel
theorem rx1 : Cond.classLink RX10 271 NSE ∈ gw := List.mem_filter.mpr ⟨List.mem_append_right _ (by decide +kernel), by decide +kernel⟩
theorem rx2 : Cond.initialized NSE ∈ gw := List.mem_filter.mpr ⟨List.mem_append_right _ (by decide +kernel), by decide +kernel⟩
theorem drX_44 : decode cX10_rests 44 = .ok (.new 271, 3) := by decide +kernel
theorem drX_47 : decode cX10_rests 47 = .ok (.dup, 1) := by decide +kernel
theorem drX_48 : decode cX10_rests 48 = .ok (.ldc_w 273, 3) := by decide +kernel
theorem drX_51 : decode cX10_rests 51 = .ok (.invokespecial 275, 3) := by decide +kernel
theorem drX_54 : decode cX10_rests 54 = .ok (.athrow, 1) := by decide +kernel
theorem drX_86 : decode cX10_rests 86 = .ok (.new 271, 3) := by decide +kernel
theorem drX_89 : decode cX10_rests 89 = .ok (.dup, 1) := by decide +kernel
theorem drX_90 : decode cX10_rests 90 = .ok (.ldc_w 285, 3) := by decide +kernel
theorem drX_93 : decode cX10_rests 93 = .ok (.invokespecial 275, 3) := by decide +kernel
theorem drX_96 : decode cX10_rests 96 = .ok (.athrow, 1) := by decide +kernel
theorem drX_99 : decode cX10_rests 99 = .ok (.ireturn, 1) := by decide +kernel
theorem pP_up {g : va_G} {ws : va_W} {H H1 : Heap} (hP : va_P g vwCl ws H) (hs : H.size ≤ H1.size) (hq : ∀ q : Nat, q < H.size → H1[q]? = H[q]?) (hl : ∀ (k : Nat) (q : Nat × va_E), ws[k]? = some q → q.1 < H.size) : va_P g vwCl ws H1 := hP.kept (fun k q hk => hq q.1 (hl k q hk))
/-- the class's rests: it answers, or throws; what it leaves -/
def CtX2 (l : Launch) (g : va_G) (aC : Nat → ClassId) (aM ad : Nat → Nat) (av : List Value) (h : Ph) (J : Ph → Prop) : Prop :=
  ∀ sz : Nat, vx_Met l yX10_rests (uw yX10_rests cX10_rests 6 (some .int)) (rmL 8 1 6) (va_Pc av (PrX g aC aM (pm_w aC ad 229 h) sz)) (QI g (fun (_ : Int32) (h' : Ph) => J h') (fun h' => pm_w aC ad 229 h') (va_A (pm_w aC ad 229 h) sz)) (vx_X (fun h' : Ph => J h') (fun E h' t => E = NSE ∧ va_P g vwCl (pm_w aC ad 229 h') t.heap ∧ va_D (va_A (pm_w aC ad 229 h) sz) (pm_w aC ad 229 h')) (va_A (pm_w aC ad 229 h) sz)) 1 6 (va_A (pm_w aC ad 229 h) sz)
