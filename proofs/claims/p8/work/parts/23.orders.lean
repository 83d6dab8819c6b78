/-! orders -/
def cx1253 : Cx := (1525, 1, 3, [], ((0, [(0, (0, 1, 0)), (1, (0, 0, 0)), (2, (0, 0, 1))], [], [(0, 0, 0, 0, 0), ((-2147483648), 2147483647, 0, 0, 0)], []), [(3, 0, 0), (0, 0, 0)]), [((0, [], [(0, 0, 1)], [(0, 0, 0, 0, 0), (0, 1, 0, 0, 0)], []), [(3, 0, 0), (3, 1, 0)]), ((0, [], [(0, 0, 0)], [(0, 0, 0, 0, 0), ((-2147483648), 2147483647, 0, 0, 0)], []), [(3, 0, 0), (3, 1, 0)])])
def ct1253 : List (Cu × Rk) := [(((14, [(0, (0, 1, 0)), (1, (0, 0, 0)), (2, (0, 0, 1))], [], [(0, 0, 0, 0, 0), ((-2147483648), 2147483647, 0, 0, 0)], []), [(3, 0, 0), (3, 1, 0)]), [(0, 0, 1)]),
  (((15, [(0, (0, 1, 0)), (1, (0, 0, 0)), (2, (0, 0, 1))], [(0, 0, 1)], [(0, 0, 0, 0, 0), (0, 1, 0, 0, 0)], []), [(3, 0, 0), (3, 1, 0)]), [(0, 0, 2)]),
  (((15, [(0, (0, 1, 0)), (1, (0, 0, 0)), (2, (0, 0, 1))], [(0, 0, 0)], [(0, 0, 0, 0, 0), ((-2147483648), 2147483647, 0, 0, 0)], []), [(3, 0, 0), (3, 1, 0)]), [(0, 0, 0)])]
theorem hd1253 : Hd HTw RGw 229 mtb (xsT 229) cx1253 := chk_ok (FK := FKw) (me := mtX11[117]) (EX := exA HTw cx1253.2.2.2.1 cx1253.2.1 exX11) (P := Pt PX11_within) (cs := fun _ => []) (f := 600) (pcs := [14, 15]) (cuts := ct1253) (by decide) hUw hKCw (fun _ _ _ _ _ _ _ _ _ z a b c d e => exA_ok (lv := cx1253.2.1) (hlv := z) (me := mtX11[117]) exX11_ok a b c d e) rfl (Pck_ok PX11_within_ok) (fun _ => (List.forall_mem_nil _)) (by decide +kernel)
def cx1254 : Cx := (1525, 1, 3, [], ((0, [(0, (0, 1, 0)), (1, (0, 0, 0)), (2, (0, 0, 2))], [], [(0, 0, 0, 0, 0), ((-2147483648), 2147483647, 0, 0, 0)], []), [(3, 0, 0), (0, 0, 0)]), [((0, [], [(0, 0, 1)], [(0, 0, 0, 0, 0), (0, 2, 0, 0, 0)], []), [(3, 0, 0), (3, 1, 0)]), ((0, [], [(0, 0, 0)], [(0, 0, 0, 0, 0), ((-2147483648), 2147483647, 0, 0, 0)], []), [(3, 0, 0), (3, 1, 0)])])
def ct1254 : List (Cu × Rk) := [(((14, [(0, (0, 1, 0)), (1, (0, 0, 0)), (2, (0, 0, 2))], [], [(0, 0, 0, 0, 0), ((-2147483648), 2147483647, 0, 0, 0)], []), [(3, 0, 0), (3, 1, 0)]), [(0, 0, 1)]),
  (((15, [(0, (0, 1, 0)), (1, (0, 0, 0)), (2, (0, 0, 2))], [(0, 0, 1)], [(0, 0, 0, 0, 0), (0, 2, 0, 0, 0)], []), [(3, 0, 0), (3, 1, 0)]), [(0, 0, 2)]),
  (((15, [(0, (0, 1, 0)), (1, (0, 0, 0)), (2, (0, 0, 2))], [(0, 0, 0)], [(0, 0, 0, 0, 0), ((-2147483648), 2147483647, 0, 0, 0)], []), [(3, 0, 0), (3, 1, 0)]), [(0, 0, 0)])]
theorem hd1254 : Hd HTw RGw 229 mtb (xsT 229) cx1254 := chk_ok (FK := FKw) (me := mtX11[117]) (EX := exA HTw cx1254.2.2.2.1 cx1254.2.1 exX11) (P := Pt PX11_within) (cs := fun _ => []) (f := 600) (pcs := [14, 15]) (cuts := ct1254) (by decide) hUw hKCw (fun _ _ _ _ _ _ _ _ _ z a b c d e => exA_ok (lv := cx1254.2.1) (hlv := z) (me := mtX11[117]) exX11_ok a b c d e) rfl (Pck_ok PX11_within_ok) (fun _ => (List.forall_mem_nil _)) (by decide +kernel)
def cx1255 : Cx := (1525, 1, 3, [], ((0, [(0, (0, 1, 0)), (1, (0, 0, 0)), (2, (0, 0, 3))], [], [(0, 0, 0, 0, 0), ((-2147483648), 2147483647, 0, 0, 0)], []), [(3, 0, 0), (0, 0, 0)]), [((0, [], [(0, 0, 1)], [(0, 0, 0, 0, 0), (0, 3, 0, 0, 0)], []), [(3, 0, 0), (3, 1, 0)]), ((0, [], [(0, 0, 0)], [(0, 0, 0, 0, 0), ((-2147483648), 2147483647, 0, 0, 0)], []), [(3, 0, 0), (3, 1, 0)])])
def ct1255 : List (Cu × Rk) := [(((14, [(0, (0, 1, 0)), (1, (0, 0, 0)), (2, (0, 0, 3))], [], [(0, 0, 0, 0, 0), ((-2147483648), 2147483647, 0, 0, 0)], []), [(3, 0, 0), (3, 1, 0)]), [(0, 0, 1)]),
  (((15, [(0, (0, 1, 0)), (1, (0, 0, 0)), (2, (0, 0, 3))], [(0, 0, 1)], [(0, 0, 0, 0, 0), (0, 3, 0, 0, 0)], []), [(3, 0, 0), (3, 1, 0)]), [(0, 0, 2)]),
  (((15, [(0, (0, 1, 0)), (1, (0, 0, 0)), (2, (0, 0, 3))], [(0, 0, 0)], [(0, 0, 0, 0, 0), ((-2147483648), 2147483647, 0, 0, 0)], []), [(3, 0, 0), (3, 1, 0)]), [(0, 0, 0)])]
theorem hd1255 : Hd HTw RGw 229 mtb (xsT 229) cx1255 := chk_ok (FK := FKw) (me := mtX11[117]) (EX := exA HTw cx1255.2.2.2.1 cx1255.2.1 exX11) (P := Pt PX11_within) (cs := fun _ => []) (f := 600) (pcs := [14, 15]) (cuts := ct1255) (by decide) hUw hKCw (fun _ _ _ _ _ _ _ _ _ z a b c d e => exA_ok (lv := cx1255.2.1) (hlv := z) (me := mtX11[117]) exX11_ok a b c d e) rfl (Pck_ok PX11_within_ok) (fun _ => (List.forall_mem_nil _)) (by decide +kernel)
def cx1256 : Cx := (1525, 1, 3, [], ((0, [(0, (0, 1, 0)), (1, (0, 0, 0)), (2, (0, 0, 4))], [], [(0, 0, 0, 0, 0), ((-2147483648), 2147483647, 0, 0, 0)], []), [(3, 0, 0), (0, 0, 0)]), [((0, [], [(0, 0, 1)], [(0, 0, 0, 0, 0), (0, 4, 0, 0, 0)], []), [(3, 0, 0), (3, 1, 0)]), ((0, [], [(0, 0, 0)], [(0, 0, 0, 0, 0), ((-2147483648), 2147483647, 0, 0, 0)], []), [(3, 0, 0), (3, 1, 0)])])
def ct1256 : List (Cu × Rk) := [(((14, [(0, (0, 1, 0)), (1, (0, 0, 0)), (2, (0, 0, 4))], [], [(0, 0, 0, 0, 0), ((-2147483648), 2147483647, 0, 0, 0)], []), [(3, 0, 0), (3, 1, 0)]), [(0, 0, 1)]),
  (((15, [(0, (0, 1, 0)), (1, (0, 0, 0)), (2, (0, 0, 4))], [(0, 0, 1)], [(0, 0, 0, 0, 0), (0, 4, 0, 0, 0)], []), [(3, 0, 0), (3, 1, 0)]), [(0, 0, 2)]),
  (((15, [(0, (0, 1, 0)), (1, (0, 0, 0)), (2, (0, 0, 4))], [(0, 0, 0)], [(0, 0, 0, 0, 0), ((-2147483648), 2147483647, 0, 0, 0)], []), [(3, 0, 0), (3, 1, 0)]), [(0, 0, 0)])]
theorem hd1256 : Hd HTw RGw 229 mtb (xsT 229) cx1256 := chk_ok (FK := FKw) (me := mtX11[117]) (EX := exA HTw cx1256.2.2.2.1 cx1256.2.1 exX11) (P := Pt PX11_within) (cs := fun _ => []) (f := 600) (pcs := [14, 15]) (cuts := ct1256) (by decide) hUw hKCw (fun _ _ _ _ _ _ _ _ _ z a b c d e => exA_ok (lv := cx1256.2.1) (hlv := z) (me := mtX11[117]) exX11_ok a b c d e) rfl (Pck_ok PX11_within_ok) (fun _ => (List.forall_mem_nil _)) (by decide +kernel)
def cx1257 : Cx := (1525, 1, 3, [], ((0, [(0, (0, 1, 0)), (1, (0, 0, 0)), (2, (0, 0, 5))], [], [(0, 0, 0, 0, 0), ((-2147483648), 2147483647, 0, 0, 0)], []), [(3, 0, 0), (0, 0, 0)]), [((0, [], [(0, 0, 1)], [(0, 0, 0, 0, 0), (0, 5, 0, 0, 0)], []), [(3, 0, 0), (3, 1, 0)]), ((0, [], [(0, 0, 0)], [(0, 0, 0, 0, 0), ((-2147483648), 2147483647, 0, 0, 0)], []), [(3, 0, 0), (3, 1, 0)])])
def ct1257 : List (Cu × Rk) := [(((14, [(0, (0, 1, 0)), (1, (0, 0, 0)), (2, (0, 0, 5))], [], [(0, 0, 0, 0, 0), ((-2147483648), 2147483647, 0, 0, 0)], []), [(3, 0, 0), (3, 1, 0)]), [(0, 0, 1)]),
  (((15, [(0, (0, 1, 0)), (1, (0, 0, 0)), (2, (0, 0, 5))], [(0, 0, 1)], [(0, 0, 0, 0, 0), (0, 5, 0, 0, 0)], []), [(3, 0, 0), (3, 1, 0)]), [(0, 0, 2)]),
  (((15, [(0, (0, 1, 0)), (1, (0, 0, 0)), (2, (0, 0, 5))], [(0, 0, 0)], [(0, 0, 0, 0, 0), ((-2147483648), 2147483647, 0, 0, 0)], []), [(3, 0, 0), (3, 1, 0)]), [(0, 0, 0)])]
theorem hd1257 : Hd HTw RGw 229 mtb (xsT 229) cx1257 := chk_ok (FK := FKw) (me := mtX11[117]) (EX := exA HTw cx1257.2.2.2.1 cx1257.2.1 exX11) (P := Pt PX11_within) (cs := fun _ => []) (f := 600) (pcs := [14, 15]) (cuts := ct1257) (by decide) hUw hKCw (fun _ _ _ _ _ _ _ _ _ z a b c d e => exA_ok (lv := cx1257.2.1) (hlv := z) (me := mtX11[117]) exX11_ok a b c d e) rfl (Pck_ok PX11_within_ok) (fun _ => (List.forall_mem_nil _)) (by decide +kernel)
def cx1258 : Cx := (1525, 1, 3, [], ((0, [(0, (0, 1, 0)), (1, (0, 0, 0)), (2, (0, 0, 6))], [], [(0, 0, 0, 0, 0), ((-2147483648), 2147483647, 0, 0, 0)], []), [(3, 0, 0), (0, 0, 0)]), [((0, [], [(0, 0, 1)], [(0, 0, 0, 0, 0), (0, 6, 0, 0, 0)], []), [(3, 0, 0), (3, 1, 0)]), ((0, [], [(0, 0, 0)], [(0, 0, 0, 0, 0), ((-2147483648), 2147483647, 0, 0, 0)], []), [(3, 0, 0), (3, 1, 0)])])
def ct1258 : List (Cu × Rk) := [(((14, [(0, (0, 1, 0)), (1, (0, 0, 0)), (2, (0, 0, 6))], [], [(0, 0, 0, 0, 0), ((-2147483648), 2147483647, 0, 0, 0)], []), [(3, 0, 0), (3, 1, 0)]), [(0, 0, 1)]),
  (((15, [(0, (0, 1, 0)), (1, (0, 0, 0)), (2, (0, 0, 6))], [(0, 0, 1)], [(0, 0, 0, 0, 0), (0, 6, 0, 0, 0)], []), [(3, 0, 0), (3, 1, 0)]), [(0, 0, 2)]),
  (((15, [(0, (0, 1, 0)), (1, (0, 0, 0)), (2, (0, 0, 6))], [(0, 0, 0)], [(0, 0, 0, 0, 0), ((-2147483648), 2147483647, 0, 0, 0)], []), [(3, 0, 0), (3, 1, 0)]), [(0, 0, 0)])]
theorem hd1258 : Hd HTw RGw 229 mtb (xsT 229) cx1258 := chk_ok (FK := FKw) (me := mtX11[117]) (EX := exA HTw cx1258.2.2.2.1 cx1258.2.1 exX11) (P := Pt PX11_within) (cs := fun _ => []) (f := 600) (pcs := [14, 15]) (cuts := ct1258) (by decide) hUw hKCw (fun _ _ _ _ _ _ _ _ _ z a b c d e => exA_ok (lv := cx1258.2.1) (hlv := z) (me := mtX11[117]) exX11_ok a b c d e) rfl (Pck_ok PX11_within_ok) (fun _ => (List.forall_mem_nil _)) (by decide +kernel)
def cx1259 : Cx := (1525, 1, 3, [], ((0, [(0, (0, 1, 0)), (1, (0, 0, 0)), (2, (0, 0, 7))], [], [(0, 0, 0, 0, 0), ((-2147483648), 2147483647, 0, 0, 0)], []), [(3, 0, 0), (0, 0, 0)]), [((0, [], [(0, 0, 1)], [(0, 0, 0, 0, 0), (0, 7, 0, 0, 0)], []), [(3, 0, 0), (3, 1, 0)]), ((0, [], [(0, 0, 0)], [(0, 0, 0, 0, 0), ((-2147483648), 2147483647, 0, 0, 0)], []), [(3, 0, 0), (3, 1, 0)])])
def ct1259 : List (Cu × Rk) := [(((14, [(0, (0, 1, 0)), (1, (0, 0, 0)), (2, (0, 0, 7))], [], [(0, 0, 0, 0, 0), ((-2147483648), 2147483647, 0, 0, 0)], []), [(3, 0, 0), (3, 1, 0)]), [(0, 0, 1)]),
  (((15, [(0, (0, 1, 0)), (1, (0, 0, 0)), (2, (0, 0, 7))], [(0, 0, 1)], [(0, 0, 0, 0, 0), (0, 7, 0, 0, 0)], []), [(3, 0, 0), (3, 1, 0)]), [(0, 0, 2)]),
  (((15, [(0, (0, 1, 0)), (1, (0, 0, 0)), (2, (0, 0, 7))], [(0, 0, 0)], [(0, 0, 0, 0, 0), ((-2147483648), 2147483647, 0, 0, 0)], []), [(3, 0, 0), (3, 1, 0)]), [(0, 0, 0)])]
theorem hd1259 : Hd HTw RGw 229 mtb (xsT 229) cx1259 := chk_ok (FK := FKw) (me := mtX11[117]) (EX := exA HTw cx1259.2.2.2.1 cx1259.2.1 exX11) (P := Pt PX11_within) (cs := fun _ => []) (f := 600) (pcs := [14, 15]) (cuts := ct1259) (by decide) hUw hKCw (fun _ _ _ _ _ _ _ _ _ z a b c d e => exA_ok (lv := cx1259.2.1) (hlv := z) (me := mtX11[117]) exX11_ok a b c d e) rfl (Pck_ok PX11_within_ok) (fun _ => (List.forall_mem_nil _)) (by decide +kernel)
def cx1260 : Cx := (1525, 1, 3, [], ((0, [(0, (0, 1, 0)), (1, (0, 0, 0)), (2, (0, 0, 8))], [], [(0, 0, 0, 0, 0), ((-2147483648), 2147483647, 0, 0, 0)], []), [(3, 0, 0), (0, 0, 0)]), [((0, [], [(0, 0, 1)], [(0, 0, 0, 0, 0), (0, 8, 0, 0, 0)], []), [(3, 0, 0), (3, 1, 0)]), ((0, [], [(0, 0, 0)], [(0, 0, 0, 0, 0), ((-2147483648), 2147483647, 0, 0, 0)], []), [(3, 0, 0), (3, 1, 0)])])
def ct1260 : List (Cu × Rk) := [(((14, [(0, (0, 1, 0)), (1, (0, 0, 0)), (2, (0, 0, 8))], [], [(0, 0, 0, 0, 0), ((-2147483648), 2147483647, 0, 0, 0)], []), [(3, 0, 0), (3, 1, 0)]), [(0, 0, 1)]),
  (((15, [(0, (0, 1, 0)), (1, (0, 0, 0)), (2, (0, 0, 8))], [(0, 0, 1)], [(0, 0, 0, 0, 0), (0, 8, 0, 0, 0)], []), [(3, 0, 0), (3, 1, 0)]), [(0, 0, 2)]),
  (((15, [(0, (0, 1, 0)), (1, (0, 0, 0)), (2, (0, 0, 8))], [(0, 0, 0)], [(0, 0, 0, 0, 0), ((-2147483648), 2147483647, 0, 0, 0)], []), [(3, 0, 0), (3, 1, 0)]), [(0, 0, 0)])]
theorem hd1260 : Hd HTw RGw 229 mtb (xsT 229) cx1260 := chk_ok (FK := FKw) (me := mtX11[117]) (EX := exA HTw cx1260.2.2.2.1 cx1260.2.1 exX11) (P := Pt PX11_within) (cs := fun _ => []) (f := 600) (pcs := [14, 15]) (cuts := ct1260) (by decide) hUw hKCw (fun _ _ _ _ _ _ _ _ _ z a b c d e => exA_ok (lv := cx1260.2.1) (hlv := z) (me := mtX11[117]) exX11_ok a b c d e) rfl (Pck_ok PX11_within_ok) (fun _ => (List.forall_mem_nil _)) (by decide +kernel)
def cx1261 : Cx := (1525, 1, 3, [], ((0, [(0, (0, 1, 0)), (1, (0, 0, 0)), (2, (0, 0, 9))], [], [(0, 0, 0, 0, 0), ((-2147483648), 2147483647, 0, 0, 0)], []), [(3, 0, 0), (0, 0, 0)]), [((0, [], [(0, 0, 1)], [(0, 0, 0, 0, 0), (0, 9, 0, 0, 0)], []), [(3, 0, 0), (3, 1, 0)]), ((0, [], [(0, 0, 0)], [(0, 0, 0, 0, 0), ((-2147483648), 2147483647, 0, 0, 0)], []), [(3, 0, 0), (3, 1, 0)])])
def ct1261 : List (Cu × Rk) := [(((14, [(0, (0, 1, 0)), (1, (0, 0, 0)), (2, (0, 0, 9))], [], [(0, 0, 0, 0, 0), ((-2147483648), 2147483647, 0, 0, 0)], []), [(3, 0, 0), (3, 1, 0)]), [(0, 0, 1)]),
  (((15, [(0, (0, 1, 0)), (1, (0, 0, 0)), (2, (0, 0, 9))], [(0, 0, 1)], [(0, 0, 0, 0, 0), (0, 9, 0, 0, 0)], []), [(3, 0, 0), (3, 1, 0)]), [(0, 0, 2)]),
  (((15, [(0, (0, 1, 0)), (1, (0, 0, 0)), (2, (0, 0, 9))], [(0, 0, 0)], [(0, 0, 0, 0, 0), ((-2147483648), 2147483647, 0, 0, 0)], []), [(3, 0, 0), (3, 1, 0)]), [(0, 0, 0)])]
theorem hd1261 : Hd HTw RGw 229 mtb (xsT 229) cx1261 := chk_ok (FK := FKw) (me := mtX11[117]) (EX := exA HTw cx1261.2.2.2.1 cx1261.2.1 exX11) (P := Pt PX11_within) (cs := fun _ => []) (f := 600) (pcs := [14, 15]) (cuts := ct1261) (by decide) hUw hKCw (fun _ _ _ _ _ _ _ _ _ z a b c d e => exA_ok (lv := cx1261.2.1) (hlv := z) (me := mtX11[117]) exX11_ok a b c d e) rfl (Pck_ok PX11_within_ok) (fun _ => (List.forall_mem_nil _)) (by decide +kernel)
def cx1262 : Cx := (1525, 1, 3, [], ((0, [(0, (0, 1, 0)), (1, (0, 0, 0)), (2, (0, 0, 10))], [], [(0, 0, 0, 0, 0), ((-2147483648), 2147483647, 0, 0, 0)], []), [(3, 0, 0), (0, 0, 0)]), [((0, [], [(0, 0, 1)], [(0, 0, 0, 0, 0), (0, 10, 0, 0, 0)], []), [(3, 0, 0), (3, 1, 0)]), ((0, [], [(0, 0, 0)], [(0, 0, 0, 0, 0), ((-2147483648), 2147483647, 0, 0, 0)], []), [(3, 0, 0), (3, 1, 0)])])
def ct1262 : List (Cu × Rk) := [(((14, [(0, (0, 1, 0)), (1, (0, 0, 0)), (2, (0, 0, 10))], [], [(0, 0, 0, 0, 0), ((-2147483648), 2147483647, 0, 0, 0)], []), [(3, 0, 0), (3, 1, 0)]), [(0, 0, 1)]),
  (((15, [(0, (0, 1, 0)), (1, (0, 0, 0)), (2, (0, 0, 10))], [(0, 0, 1)], [(0, 0, 0, 0, 0), (0, 10, 0, 0, 0)], []), [(3, 0, 0), (3, 1, 0)]), [(0, 0, 2)]),
  (((15, [(0, (0, 1, 0)), (1, (0, 0, 0)), (2, (0, 0, 10))], [(0, 0, 0)], [(0, 0, 0, 0, 0), ((-2147483648), 2147483647, 0, 0, 0)], []), [(3, 0, 0), (3, 1, 0)]), [(0, 0, 0)])]
theorem hd1262 : Hd HTw RGw 229 mtb (xsT 229) cx1262 := chk_ok (FK := FKw) (me := mtX11[117]) (EX := exA HTw cx1262.2.2.2.1 cx1262.2.1 exX11) (P := Pt PX11_within) (cs := fun _ => []) (f := 600) (pcs := [14, 15]) (cuts := ct1262) (by decide) hUw hKCw (fun _ _ _ _ _ _ _ _ _ z a b c d e => exA_ok (lv := cx1262.2.1) (hlv := z) (me := mtX11[117]) exX11_ok a b c d e) rfl (Pck_ok PX11_within_ok) (fun _ => (List.forall_mem_nil _)) (by decide +kernel)
def cx1263 : Cx := (1525, 1, 3, [], ((0, [(0, (0, 1, 0)), (1, (0, 0, 0)), (2, (0, 0, 11))], [], [(0, 0, 0, 0, 0), ((-2147483648), 2147483647, 0, 0, 0)], []), [(3, 0, 0), (0, 0, 0)]), [((0, [], [(0, 0, 1)], [(0, 0, 0, 0, 0), (0, 11, 0, 0, 0)], []), [(3, 0, 0), (3, 1, 0)]), ((0, [], [(0, 0, 0)], [(0, 0, 0, 0, 0), ((-2147483648), 2147483647, 0, 0, 0)], []), [(3, 0, 0), (3, 1, 0)])])
def ct1263 : List (Cu × Rk) := [(((14, [(0, (0, 1, 0)), (1, (0, 0, 0)), (2, (0, 0, 11))], [], [(0, 0, 0, 0, 0), ((-2147483648), 2147483647, 0, 0, 0)], []), [(3, 0, 0), (3, 1, 0)]), [(0, 0, 1)]),
  (((15, [(0, (0, 1, 0)), (1, (0, 0, 0)), (2, (0, 0, 11))], [(0, 0, 1)], [(0, 0, 0, 0, 0), (0, 11, 0, 0, 0)], []), [(3, 0, 0), (3, 1, 0)]), [(0, 0, 2)]),
  (((15, [(0, (0, 1, 0)), (1, (0, 0, 0)), (2, (0, 0, 11))], [(0, 0, 0)], [(0, 0, 0, 0, 0), ((-2147483648), 2147483647, 0, 0, 0)], []), [(3, 0, 0), (3, 1, 0)]), [(0, 0, 0)])]
theorem hd1263 : Hd HTw RGw 229 mtb (xsT 229) cx1263 := chk_ok (FK := FKw) (me := mtX11[117]) (EX := exA HTw cx1263.2.2.2.1 cx1263.2.1 exX11) (P := Pt PX11_within) (cs := fun _ => []) (f := 600) (pcs := [14, 15]) (cuts := ct1263) (by decide) hUw hKCw (fun _ _ _ _ _ _ _ _ _ z a b c d e => exA_ok (lv := cx1263.2.1) (hlv := z) (me := mtX11[117]) exX11_ok a b c d e) rfl (Pck_ok PX11_within_ok) (fun _ => (List.forall_mem_nil _)) (by decide +kernel)
/-- runs with cuts that are met by hand -/
theorem runM {HT : Nat → Hk} {RG : Nat → List Nat} {n : Nat} {md : Md} {h0 : Ph} {vs0 : List Int} {me : Me} {S : Cf → Cf → Prop} {P : Nat → Option Op0} {nxt : Op0 → Ab → Option (List Ab)} {exits : List Cu} {pcs : List Nat} {cR cM : List (Cu × Rk)} {f : Nat} (hP : ∀ pc o, P pc = some o → ∃ ins len, decode me.2.1 pc = .ok (ins, len) ∧ rop me.2.2.2.2.1 me.2.2.1 pc ins len = some o)
    (hN : ∀ o A Bs vs cf, ga HT RG n md h0 vs A cf → P A.1 = some o → o.1 ≠ 22 → nxt o A = some Bs → ∃ cf', S cf cf' ∧ ∃ B ∈ Bs, ∃ ws, ga HT RG n md h0 (vs ++ ws) B cf')
    (hB : (cR ++ cM).all (fun c => rkB c.1.1.2.2.2.1 c.2) = true)
    (KM : ∀ c ∈ cM, ∀ (vs' : List Int) (cf' : Cf), ga HT RG n md h0 vs' c.1.1 cf' → (∃ ws, vs' = vs0 ++ ws) → En HT RG n md h0 vs0 me S exits cf')
    (hR : cR.all (fun c => rn RG P nxt vs0.length (rtc me.2.2.2.1) exits pcs (cR ++ cM) (some c.2) f c.1.1) = true) (A : Ab) (cf : Cf) (g : ga HT RG n md h0 vs0 A cf) (h : rn RG P nxt vs0.length (rtc me.2.2.2.1) exits pcs (cR ++ cM) none f A = true) : En HT RG n md h0 vs0 me S exits cf := by
  have hB2 : ∀ c ∈ cR ++ cM, rkB c.1.1.2.2.2.1 c.2 = true := fun c hc => List.all_eq_true.mp hB c hc
  have hcut : ∀ (N : Nat), ∀ c ∈ cR ++ cM, ∀ (vs' : List Int) (cf' : Cf), ga HT RG n md h0 vs' c.1.1 cf' → (∃ ws, vs' = vs0 ++ ws) → NN (c.2.map (rk1 vs')) < N → En HT RG n md h0 vs0 me S exits cf' := by
    intro N
    induction N with
    | zero =>
      intro c hc vs' cf' gc _ hlt
      have := NN_rg (ts := c.2.map (rk1 vs')) (fun t ht => by
        obtain ⟨r, hr, rfl⟩ := List.mem_map.mp ht
        exact rkB_ok gc.2.2.2.1 (hB2 c hc) r hr)
      exact absurd hlt (by have := this.1; omega)
    | succ N ih =>
      intro c hc vs' cf' gc hpre hlt
      rcases List.mem_append.mp hc with hcR | hcM
      · refine rn_ok (vsI := vs') hP hN (fun R hR => ?_) hB2 (fun c' hc' vs2 cf2 g2 hp2 hR => ih c' hc' vs2 cf2 g2 hp2 (by have := hR c.2 rfl; omega)) f c.1.1 vs' cf' gc hpre ⟨[], (List.append_nil _).symm⟩ (List.all_eq_true.mp hR c hcR)
        cases hR
        refine ⟨fun r hr => ?_, fun r hr => (rkB_ok gc.2.2.2.1 (hB2 c hc) r hr).1⟩
        have hb := List.all_eq_true.mp (hB2 c hc) r hr
        split at hb
        · rename_i p hp
          unfold iv at hp
          split at hp
          · cases hp
          · rename_i e he
            have := (List.getElem?_eq_some_iff.mp he).1
            rw [gc.2.2.2.1.1] at this
            exact ⟨_, List.getElem?_eq_getElem this⟩
        · cases hb
      · exact KM c hcM vs' cf' gc hpre
  exact rn_ok (vsI := vs0) hP hN (fun R hR => by cases hR) hB2 (fun c hc vs' cf' gc hp _ => hcut ((NN (c.2.map (rk1 vs'))).toNat + 1) c hc vs' cf' gc hp (by omega)) f A vs0 cf g ⟨[], (List.append_nil _).symm⟩ ⟨[], (List.append_nil _).symm⟩ h
/-- an int is the answer -/
def gG (me : Me) (md : Md) (d : Nat) (h0 : Ph) (cf : Cf) : Prop := ∃ (N : Nat) (cf' : Cf) (r : Int32) (h' : Ph), pm_It (pm_Stp mtb (xsT 229) d (pm_Ex mtb (xsT 229) 229 d) me 229) N cf cf' ∧ pm_res me.2.2.2.1 me.2.1 cf' = some (some (.int r), h') ∧ hI HTw RGw 229 h' ∧ fr md h0 h'
theorem gG_toEn {me : Me} {md : Md} {d : Nat} {vs0 : List Int} {sy : Sy} {h0 : Ph} {cf : Cf} (g : gs sy vs0) (G : gG me md d h0 cf) : En HTw RGw 229 md h0 vs0 me (pm_Stp mtb (xsT 229) d (pm_Ex mtb (xsT 229) 229 d) me 229) [wkX sy] cf := by
  obtain ⟨N, cf', r, h', h1, h2, h3, h4⟩ := G
  exact ⟨N, cf', some (.int r), h', h1, h2, wkX sy, List.mem_cons_self, vs0 ++ [r.toInt], ⟨_, rfl⟩, rfl, fun q hq => (by cases hq), ⟨⟨rfl, r.toInt, ix_new g, (Int.add_zero _).symm⟩, trivial⟩, gs_push g ⟨(r32 r).1, (r32 r).2, Or.inl rfl⟩, fun q hq => (by cases hq), h3, h4⟩
theorem gG_ofEn {me : Me} {md : Md} {d : Nat} {vs0 : List Int} {sy : Sy} {h0 : Ph} {cf : Cf} (h : En HTw RGw 229 md h0 vs0 me (pm_Stp mtb (xsT 229) d (pm_Ex mtb (xsT 229) 229 d) me 229) [wkX sy] cf) : gG me md d h0 cf := by
  obtain ⟨N, cf', r, h', h1, h2, E, hE, vsE, -, g⟩ := h
  have := List.mem_singleton.mp hE
  subst this
  obtain ⟨-, -, g2, -, -, g5, g6⟩ := g
  obtain ⟨v, us, e1, e2, e3⟩ := gst_cons (show gst RGw vsE [(0, sy.length, 0)] r.toList from g2)
  obtain ⟨x, w, rfl, -, -⟩ := gv_int e2 rfl
  cases r with
  | none => cases e1
  | some u =>
    have e1 : [u] = Value.int x :: us := e1
    cases e1
    exact ⟨N, cf', x, h', h1, h2, g5, g6⟩
def popN : Nat → Nat → Nat
  | 0, _ => 0
  | k + 1, g => g % 2 + popN k (g / 2)
theorem popN_le : ∀ (k g : Nat), popN k g ≤ k
  | 0, _ => Nat.le_refl 0
  | k + 1, g => by
    have := popN_le k (g / 2)
    unfold popN
    omega
/-- one bit of a set, exactly -/
def decIs (cc : ByteArray) (pc : Nat) (q : Instr × Nat → Bool) : Bool := match decode cc pc with
  | .ok r => q r
  | _ => false
def isLd (k len : Nat) (r : Instr × Nat) : Bool := match r with
  | (.iload_n z, l) => (z : Nat) == k && l == 1 && len == 1
  | (.iload z, l) => z == k && l == 2 && len == 2
  | _ => false
def isShr (r : Instr × Nat) : Bool := match r with
  | (.ishr, l) => l == 1
  | _ => false
def isOne (r : Instr × Nat) : Bool := match r with
  | (.iconst z, l) => decide (z = 1) && l == 1
  | _ => false
def isAnd (r : Instr × Nat) : Bool := match r with
  | (.iand, l) => l == 1
  | _ => false
theorem ld_sem {L : Lk} {n nL k len : Nat} {cc : ByteArray} {cf : Cf} {x : Int32} (h : decIs cc cf.1 (isLd k len) = true) (hx : pm_g cf.2.1 k = some (.int x)) : pm_sem L n nL cc cf = some (cf.1 + len, cf.2.1, .int x :: cf.2.2.1, cf.2.2.2) := by
  unfold decIs at h
  unfold pm_sem
  split at h
  · rename_i r hr
    rw [hr]
    unfold isLd at h
    split at h
    · rename_i z l
      simp only [Bool.and_eq_true, beq_iff_eq] at h
      obtain ⟨⟨h1, h2⟩, h3⟩ := h
      subst h1 h2 h3
      show pi_gd 1 1 (pi_ld pm_isI (z : Nat) 1 cf) = _
      unfold pi_gd pi_ld
      rw [if_pos rfl, hx]
      rfl
    · rename_i z l
      simp only [Bool.and_eq_true, beq_iff_eq] at h
      obtain ⟨⟨h1, h2⟩, h3⟩ := h
      subst h1 h2 h3
      show pi_gd 2 2 (pi_ld pm_isI z 2 cf) = _
      unfold pi_gd pi_ld
      rw [if_pos rfl, hx]
      rfl
    · cases h
  · cases h
theorem shr_sem {L : Lk} {n nL : Nat} {cc : ByteArray} {pc : Nat} {lo : List (Nat × Value)} {x y : Int32} {st : List Value} {hh : Ph} (h : decIs cc pc isShr = true) : pm_sem L n nL cc (pc, lo, .int y :: .int x :: st, hh) = some (pc + 1, lo, .int (x >>> (y &&& 31)) :: st, hh) := by
  unfold decIs at h
  unfold pm_sem
  split at h
  · rename_i r hr
    rw [hr]
    unfold isShr at h
    split at h
    · rename_i l
      simp only [beq_iff_eq] at h
      subst h
      rfl
    · cases h
  · cases h
theorem one_sem {L : Lk} {n nL : Nat} {cc : ByteArray} {cf : Cf} (h : decIs cc cf.1 isOne = true) : pm_sem L n nL cc cf = some (cf.1 + 1, cf.2.1, .int 1 :: cf.2.2.1, cf.2.2.2) := by
  unfold decIs at h
  unfold pm_sem
  split at h
  · rename_i r hr
    rw [hr]
    unfold isOne at h
    split at h
    · rename_i z l
      simp only [Bool.and_eq_true, beq_iff_eq, decide_eq_true_eq] at h
      obtain ⟨h1, h2⟩ := h
      subst h1 h2
      rfl
    · cases h
  · cases h
theorem and_sem {L : Lk} {n nL : Nat} {cc : ByteArray} {pc : Nat} {lo : List (Nat × Value)} {x y : Int32} {st : List Value} {hh : Ph} (h : decIs cc pc isAnd = true) : pm_sem L n nL cc (pc, lo, .int y :: .int x :: st, hh) = some (pc + 1, lo, .int (x &&& y) :: st, hh) := by
  unfold decIs at h
  unfold pm_sem
  split at h
  · rename_i r hr
    rw [hr]
    unfold isAnd at h
    split at h
    · rename_i l
      simp only [beq_iff_eq] at h
      subst h
      rfl
    · cases h
  · cases h
def bitK (cc : ByteArray) (p la l1 lb l2 : Nat) : Bool := decIs cc p (isLd la l1) && decIs cc (p + l1) (isLd lb l2) && decIs cc (p + l1 + l2) isShr && decIs cc (p + l1 + l2 + 1) isOne && decIs cc (p + l1 + l2 + 2) isAnd
theorem bit5 {MT : Nat → Option Me} {xs : Nat → Me → Cf → Cf → Prop} {d n : Nat} {ex : Nat → List Value → Ph → Option Value → Ph → Prop} {me : Me} {p la l1 lb l2 : Nat} {lo : List (Nat × Value)} {x y : Int32} {st : List Value} {hh : Ph} (h : bitK me.2.1 p la l1 lb l2 = true) (g1 : pm_g lo la = some (.int x)) (g2 : pm_g lo lb = some (.int y)) : pm_It (pm_Stp MT xs d ex me n) 5 (p, lo, st, hh) (p + l1 + l2 + 3, lo, .int ((x >>> (y &&& 31)) &&& 1) :: st, hh) := by
  simp only [bitK, Bool.and_eq_true] at h
  obtain ⟨⟨⟨⟨h1, h2⟩, h3⟩, h4⟩, h5⟩ := h
  exact ⟨_, Or.inl (ld_sem (cf := (p, lo, st, hh)) h1 g1), _, Or.inl (ld_sem (cf := (p + l1, lo, .int x :: st, hh)) h2 g2), _, Or.inl (shr_sem h3), _, Or.inl (one_sem (cf := (p + l1 + l2 + 1, lo, .int (x >>> (y &&& 31)) :: st, hh)) h4), _, Or.inl (and_sem h5), rfl⟩
def bitV : Bool := (List.range 1024).all fun g => (List.range 10).all fun k => ((Int32.ofNat g >>> (Int32.ofNat k &&& 31)) &&& 1).toInt == ((g / 2 ^ k % 2 : Nat) : Int)
theorem bitV_ok : bitV = true := by decide +kernel
theorem bit_val {x y : Int32} {g k : Nat} (hx : x.toInt = (g : Int)) (hy : y.toInt = (k : Int)) (hg : g < 1024) (hk : k < 10) : ((x >>> (y &&& 31)) &&& 1).toInt = ((g / 2 ^ k % 2 : Nat) : Int) := by
  have ex : x = Int32.ofNat g := by
    apply Int32.toInt_inj.mp
    rw [Int32.toInt_ofNat_of_lt (by omega)]
    exact hx
  have ey : y = Int32.ofNat k := by
    apply Int32.toInt_inj.mp
    rw [Int32.toInt_ofNat_of_lt (by omega)]
    exact hy
  have := List.all_eq_true.mp (List.all_eq_true.mp bitV_ok g (List.mem_range.mpr hg)) k (List.mem_range.mpr hk)
  rw [ex, ey]
  exact eq_of_beq this
theorem popN_s {k g f : Nat} (h : f < k) : popN (k - f) (g / 2 ^ f) = g / 2 ^ f % 2 + popN (k - (f + 1)) (g / 2 ^ (f + 1)) := by
  obtain ⟨j, hj⟩ : ∃ j, k - f = j + 1 := ⟨k - f - 1, by omega⟩
  rw [hj, show k - (f + 1) = j from by omega, Nat.pow_succ, ← Nat.div_div_eq_div_mul]
  rfl
theorem gl_i {vs : List Int} {al : List (Nat × Av)} {lo : List (Nat × Value)} {i s : Nat} {o w : Int} (g : gl RGw vs al lo) (h : (i, (0, s, o)) ∈ al) (hw : vs[s]? = some w) : ∃ x : Int32, pm_g lo i = some (.int x) ∧ x.toInt = w + o := by
  obtain ⟨v, z1, z2⟩ := g _ h
  obtain ⟨x, w', rfl, z3, z4⟩ := gv_int z2 rfl
  have z3 : vs[s]? = some w' := z3
  rw [hw] at z3
  cases z3
  exact ⟨x, z1, z4⟩
theorem gl_r {vs : List Int} {al : List (Nat × Av)} {lo : List (Nat × Value)} {i c : Nat} {z : Int} (g : gl RGw vs al lo) (h : (i, (2, c, z)) ∈ al) : pm_g lo i = some (.ref c) := by
  obtain ⟨v, z1, z2⟩ := g _ h
  have := gv_ref z2 rfl
  subst this
  exact z1
theorem gsB {es : Sy} {ws : List Int} (hl : es.length = ws.length) (h : ∀ (i : Nat) (e : Se) (w : Int), es[i]? = some e → ws[i]? = some w → e.1 ≤ w ∧ w ≤ e.2.1 ∧ e.2.2.1 = 0) : gs ((0, 0, 0, 0, 0) :: es) (0 :: ws) := by
  refine ⟨by simp [hl], rfl, fun s e w he hw => ?_⟩
  cases s with
  | zero =>
    cases he
    cases hw
    exact ⟨Int.le_refl 0, Int.le_refl 0, Or.inl rfl⟩
  | succ s =>
    obtain ⟨h1, h2, h3⟩ := h s e w (by simpa using he) (by simpa using hw)
    exact ⟨h1, h2, Or.inl h3⟩
theorem It_app {S : Cf → Cf → Prop} : ∀ {N M : Nat} {a b c : Cf}, pm_It S N a b → pm_It S M b c → pm_It S (N + M) a c
  | 0, M, a, b, c, h1, h2 => by
    have h1 : a = b := h1
    subst h1
    rw [Nat.zero_add]
    exact h2
  | N + 1, M, a, b, c, ⟨d, h0, h1⟩, h2 => by
    rw [Nat.add_right_comm]
    exact ⟨d, h0, It_app h1 h2⟩
/-- bits, exactly -/
abbrev bM : Me := mtX11[6]
abbrev bSt (d : Nat) : Cf → Cf → Prop := pm_Stp mtb (xsT 229) d (pm_Ex mtb (xsT 229) 229 d) bM 229
def bQ (d g : Nat) (h0 : Ph) (cf : Cf) : Prop := ∃ (N : Nat) (cf' : Cf) (r : Int32) (h' : Ph), pm_It (bSt d) N cf cf' ∧ pm_res bM.2.2.2.1 bM.2.1 cf' = some (some (.int r), h') ∧ r.toInt = (popN 10 g : Int) ∧ hI HTw RGw 229 h' ∧ fr [] h0 h'
theorem bQ_stp {d g : Nat} {h0 : Ph} : ∀ a b, bSt d a b → bQ d g h0 b → bQ d g h0 a := by
  intro a b h ⟨N, cf', r, h', h1, h2⟩
  exact ⟨N + 1, cf', r, h', ⟨b, h, h1⟩, h2⟩
def bZ : Sy := [(0, 0, 0, 0, 0), (0, 1023, 0, 0, 0), (0, 10, 0, 0, 0)]
def bLo (k b : Nat) : List (Nat × Av) := [(0, (0, 1, 0)), (1, (0, 2, (b : Int))), (2, (0, 0, (k : Int)))]
def bH (k : Nat) : Ab := (4, bLo k 0, [], bZ, [])
def bG3 : List (Nat × Nat × Nat) := [(3, 0, 0), (3, 1, 0), (3, 2, 0)]
def bC (k : Nat) : Cu := ((11, bLo k 0, [(0, 2, 0)], bZ, []), bG3)
def bP (k b : Nat) : Ab := (16, bLo k 0, [(0, 0, (b : Int)), (0, 2, 0)], bZ, [])
def bN (k b : Nat) : Cu := ((4, bLo (k + 1) b, [], bZ, []), bG3)
def bNx : Op0 → Ab → Option (List Ab) := nxA HTw RGw FKw UNw KCw mtb (exA HTw [] 1 []) [] 1 (fun _ => [])
def bK1 : Bool := (List.range 10).all fun k => rn RGw (Pt PX11_bits) bNx 3 0 [] [11] [(bC k, [])] none 40 (bH k)
def bK2 : Bool := (List.range 10).all fun k => (List.range 2).all fun b => rn RGw (Pt PX11_bits) bNx 3 0 [] [4] [(bN k b, [])] none 40 (bP k b)
def bE : Cu := ((25, [], [(0, 2, 0)], bZ, []), bG3)
def bK3 : Bool := rn RGw (Pt PX11_bits) bNx 3 0 [] [25] [(bE, [])] none 40 (bH 10)
def bZ0 : Sy := [(0, 0, 0, 0, 0), (0, 1023, 0, 0, 0)]
def bK0 : Bool := rn RGw (Pt PX11_bits) bNx 2 0 [] [4] [(((4, [(0, (0, 1, 0)), (1, (0, 0, 0)), (2, (0, 0, 0))], [], bZ0, []), [(3, 0, 0), (3, 1, 0)]), [])] none 40 (0, [(0, (0, 1, 0))], [], bZ0, [])
theorem bK1_ok : bK1 = true := by decide +kernel
theorem bK2_ok : bK2 = true := by decide +kernel
theorem bK3_ok : bK3 = true := by decide +kernel
theorem bK0_ok : bK0 = true := by decide +kernel
theorem bBit : bitK bM.2.1 11 0 1 2 1 = true := by decide +kernel
theorem b_nx {d : Nat} {h0 : Ph} : ∀ o A Bs vs cf, ga HTw RGw 229 [] h0 vs A cf → Pt PX11_bits A.1 = some o → o.1 ≠ 22 → bNx o A = some Bs → ∃ cf', bSt d cf cf' ∧ ∃ B ∈ Bs, ∃ ws, ga HTw RGw 229 [] h0 (vs ++ ws) B cf' :=
  nxA_ok (me := bM) (by decide) hUw hKCw (fun _ _ _ _ _ _ _ _ _ z a b c d e => exA_ok (hlv := z) (me := bM) (fun q hq => by cases hq) a b c d e) (Pck_ok PX11_bits_ok) (fun _ _ h => by cases h) (by omega)
theorem bZ_ok {g : Nat} {v : Int} (hg : g < 1024) (h1 : 0 ≤ v) (h2 : v ≤ 10) : gs bZ [0, (g : Int), v] := gsB rfl (fun i e w he hw => by
  match i, he, hw with
  | 0, he, hw =>
    cases he
    cases hw
    exact ⟨by show (0 : Int) ≤ _; omega, by show _ ≤ (1023 : Int); omega, rfl⟩
  | 1, he, hw =>
    cases he
    cases hw
    exact ⟨h1, h2, rfl⟩)
theorem bLo_ok {vs : List Int} {lo : List (Nat × Value)} {x y z : Int32} {k b : Nat} {g v : Int} (h0 : vs[0]? = some 0) (h1 : vs[1]? = some g) (h2 : vs[2]? = some v) (g0 : pm_g lo 0 = some (.int x)) (g1 : pm_g lo 1 = some (.int y)) (g2 : pm_g lo 2 = some (.int z)) (e0 : x.toInt = g) (e1 : y.toInt = v + (b : Int)) (e2 : z.toInt = (k : Int)) : gl RGw vs (bLo k b) lo := by
  intro q hq
  rcases List.mem_cons.mp hq with rfl | hq
  · exact ⟨_, g0, rfl, g, h1, by show x.toInt = g + 0; omega⟩
  rcases List.mem_cons.mp hq with rfl | hq
  · exact ⟨_, g1, rfl, v, h2, e1⟩
  rcases List.mem_cons.mp hq with rfl | hq
  · exact ⟨_, g2, rfl, 0, h0, by show z.toInt = 0 + (k : Int); omega⟩
  · cases hq
theorem ws0 {α : Type} {sy : List α} {vs0 ws : List Int} (h : sy.length = (vs0 ++ ws).length) (h2 : sy.length = vs0.length) : ws = [] := by
  rw [List.length_append] at h
  exact List.length_eq_zero_iff.mp (by omega)
theorem b_loop {d g : Nat} {h0 : Ph} (hg : g < 1024) : ∀ (m k : Nat) (v : Int) (cf : Cf), k + m = 10 → 0 ≤ v → v ≤ k → v + popN (10 - k) (g / 2 ^ k) = (popN 10 g : Int) → ga HTw RGw 229 [] h0 [0, (g : Int), v] (bH k) cf → bQ d g h0 cf := by
  intro m
  induction m with
  | zero =>
    intro k v cf hk hv0 hv1 hp gA
    have hk : k = 10 := by omega
    subst hk
    refine rn_to (vs0 := [0, (g : Int), v]) bQ_stp (b_nx (d := d)) (fun c hc2 vs' cf' g' hp' => ?_) 40 _ _ cf gA ⟨[], rfl⟩ bK3_ok
    rw [List.mem_singleton.mp hc2] at g'
    obtain ⟨ws, rfl⟩ := hp'
    obtain ⟨p0, p1, p2, p3, p4, p5, p6⟩ := g'
    have := ws0 p3.1 rfl
    subst this
    have p0 : cf'.1 = 25 := p0
    obtain ⟨u, us, e1, e2, e3⟩ := gst_cons p2
    have := gst_nil e3
    subst this
    obtain ⟨x, w, rfl, w1, w2⟩ := gv_int e2 rfl
    have w1 : some v = some w := w1
    cases w1
    obtain ⟨ins, len, hd, hr⟩ := Pck_ok PX11_bits_ok 25 (22, 0, 0, 0, 0, []) rfl
    obtain ⟨hl, hi⟩ := rop_ret hr rfl
    subst hl
    have hi : ins = .ireturn := by
      rcases hi with ⟨hb, -⟩ | ⟨-, hb⟩ | ⟨-, hb⟩
      · exact hb
      · cases hb
      · cases hb
    subst hi
    have w2 : x.toInt = v + 0 := w2
    have hp0 : v + (popN 0 (g / 2 ^ 10) : Int) = _ := hp
    refine ⟨0, cf', x, cf'.2.2.2, rfl, ?_, by rw [w2, ← hp0]; rfl, p5, p6⟩
    unfold pm_res
    rw [p0, hd, e1]
    exact if_pos ⟨rfl, rfl⟩
  | succ m ih =>
    intro k v cf hk hv0 hv1 hp gA
    have hk10 : k < 10 := by omega
    refine rn_to (vs0 := [0, (g : Int), v]) bQ_stp (b_nx (d := d)) (fun c hc2 vs' cf' g' hp' => ?_) 40 _ _ cf gA ⟨[], rfl⟩ (List.all_eq_true.mp bK1_ok k (List.mem_range.mpr hk10))
    rw [List.mem_singleton.mp hc2] at g'
    obtain ⟨ws, rfl⟩ := hp'
    obtain ⟨p0, p1, p2, p3, p4, p5, p6⟩ := g'
    have := ws0 p3.1 rfl
    subst this
    have p0 : cf'.1 = 11 := p0
    obtain ⟨u, us, e1, e2, e3⟩ := gst_cons p2
    have := gst_nil e3
    subst this
    obtain ⟨x, x1, x2⟩ := gl_i (i := 0) (s := 1) (o := 0) p1 List.mem_cons_self rfl
    obtain ⟨y, y1, y2⟩ := gl_i (i := 1) (s := 2) (o := ((0 : Nat) : Int)) p1 (List.mem_cons_of_mem _ List.mem_cons_self) rfl
    obtain ⟨z, z1, z2⟩ := gl_i (i := 2) (s := 0) (o := (k : Int)) p1 (List.mem_cons_of_mem _ (List.mem_cons_of_mem _ List.mem_cons_self)) rfl
    have hb := bit_val (x := x) (y := z) (g := g) (k := k) (by omega) (by omega) hg hk10
    have hit := bit5 (MT := mtb) (xs := xsT 229) (d := d) (n := 229) (ex := pm_Ex mtb (xsT 229) 229 d) (me := bM) (st := [u]) (hh := cf'.2.2.2) bBit x1 z1
    have hcf : cf' = (11, cf'.2.1, [u], cf'.2.2.2) := by rw [← p0, ← e1]
    rw [hcf]
    refine pm_It_ok (P := bQ d g h0) bQ_stp 5 _ _ hit ?_
    have hb2 : g / 2 ^ k % 2 < 2 := Nat.mod_lt _ (by decide)
    have hps := popN_s (k := 10) (g := g) (f := k) hk10
    rw [hps] at hp
    obtain ⟨b, hbe⟩ : ∃ b, g / 2 ^ k % 2 = b := ⟨_, rfl⟩
    rw [hbe] at hb hb2 hp
    refine rn_to (vs0 := [0, (g : Int), v]) bQ_stp (b_nx (d := d)) (fun c hc3 vs3 cf3 g3 hp3 => ?_) 40 (bP k (b)) [0, (g : Int), v] _ ⟨rfl, p1, ⟨⟨rfl, 0, rfl, by show _ = 0 + ((b : Nat) : Int); rw [hb]; omega⟩, e2, trivial⟩, p3, fun q hq => (by cases hq), p5, p6⟩ ⟨[], rfl⟩ (List.all_eq_true.mp (List.all_eq_true.mp bK2_ok k (List.mem_range.mpr hk10)) _ (List.mem_range.mpr hb2))
    rw [List.mem_singleton.mp hc3] at g3
    obtain ⟨ws, rfl⟩ := hp3
    obtain ⟨q0, q1, q2, q3, q4, q5, q6⟩ := g3
    have := ws0 q3.1 rfl
    subst this
    obtain ⟨x', x1', x2'⟩ := gl_i (i := 0) (s := 1) (o := 0) q1 List.mem_cons_self rfl
    obtain ⟨y', y1', y2'⟩ := gl_i (i := 1) (s := 2) (o := ((b : Nat) : Int)) q1 (List.mem_cons_of_mem _ List.mem_cons_self) rfl
    obtain ⟨z', z1', z2'⟩ := gl_i (i := 2) (s := 0) (o := ((k + 1 : Nat) : Int)) q1 (List.mem_cons_of_mem _ (List.mem_cons_of_mem _ List.mem_cons_self)) rfl
    refine ih (k + 1) (v + ((b : Nat) : Int)) cf3 (by omega) (by omega) (by omega) (by omega) ⟨q0, bLo_ok (b := 0) rfl rfl rfl x1' y1' z1' (by omega) (by omega) (by omega), by rw [gst_nil q2]; trivial, bZ_ok hg (by omega) (by omega), fun q hq => (by cases hq), q5, q6⟩
theorem bits_ex {d g : Nat} (hd : 1 ≤ d) (hg : g < 1024) {x : Int32} {h : Ph} (hx : x.toInt = (g : Int)) (gI : hI HTw RGw 229 h) : ∃ (r : Int32) (h' : Ph), pm_Ex mtb (xsT 229) 229 d 1414 [.int x] h (some (.int r)) h' ∧ r.toInt = (popN 10 g : Int) ∧ hI HTw RGw 229 h' ∧ fr [] h h' := by
  obtain ⟨d', rfl⟩ : ∃ d', d = d' + 1 := ⟨d - 1, by omega⟩
  have gz : gs bZ0 [0, (g : Int)] := gsB rfl (fun i e w he hw => by
    match i, he, hw with
    | 0, he, hw =>
      cases he
      cases hw
      exact ⟨by show (0 : Int) ≤ _; omega, by show _ ≤ (1023 : Int); omega, rfl⟩)
  have hq : bQ d' g h (0, lv_args 0 [.int x], [], h) := by
    refine rn_to (vs0 := [0, (g : Int)]) (h0 := h) (md := []) bQ_stp (b_nx (d := d')) (fun c hc2 vs' cf' g' hp' => ?_) 40 (0, [(0, (0, 1, 0))], [], bZ0, []) [0, (g : Int)] _ ⟨rfl, ?_, trivial, gz, fun q hq => (by cases hq), gI, fun c j _ => rfl⟩ ⟨[], rfl⟩ bK0_ok
    · rw [List.mem_singleton.mp hc2] at g'
      obtain ⟨ws, rfl⟩ := hp'
      obtain ⟨p0, p1, p2, p3, p4, p5, p6⟩ := g'
      have := ws0 p3.1 rfl
      subst this
      obtain ⟨x', x1', x2'⟩ := gl_i (i := 0) (s := 1) (o := 0) p1 List.mem_cons_self rfl
      obtain ⟨y', y1', y2'⟩ := gl_i (i := 1) (s := 0) (o := 0) p1 (List.mem_cons_of_mem _ List.mem_cons_self) rfl
      obtain ⟨z', z1', z2'⟩ := gl_i (i := 2) (s := 0) (o := 0) p1 (List.mem_cons_of_mem _ (List.mem_cons_of_mem _ List.mem_cons_self)) rfl
      exact b_loop hg 10 0 0 cf' rfl (Int.le_refl 0) (Int.le_refl 0) (by rw [Nat.pow_zero, Nat.div_one]; exact Int.zero_add _) ⟨p0, bLo_ok (b := 0) rfl rfl rfl x1' y1' z1' (by omega) (by omega) (by omega), by rw [gst_nil p2]; trivial, bZ_ok hg (Int.le_refl 0) (by decide), fun q hq => (by cases hq), p5, p6⟩
    · intro q hq
      rcases List.mem_cons.mp hq with rfl | hq
      · exact ⟨.int x, rfl, rfl, (g : Int), rfl, by show x.toInt = (g : Int) + 0; omega⟩
      · cases hq
  obtain ⟨N, cf', r, h', h1, h2, h3, h4, h5⟩ := hq
  exact ⟨r, h', ⟨bM, rfl, by show 1 ≤ _; decide, N, cf', h1, h2⟩, h3, h4, h5⟩
abbrev oM : Me := mtX11[78]
abbrev oSt (d : Nat) : Cf → Cf → Prop := pm_Stp mtb (xsT 229) d (pm_Ex mtb (xsT 229) 229 d) oM 229
theorem gG_stp {me : Me} {md : Md} {d : Nat} {h0 : Ph} : ∀ a b, pm_Stp mtb (xsT 229) d (pm_Ex mtb (xsT 229) 229 d) me 229 a b → gG me md d h0 b → gG me md d h0 a := by
  intro a b h ⟨N, cf', r, h', h1, h2⟩
  exact ⟨N + 1, cf', r, h', ⟨b, h, h1⟩, h2⟩
def oMd : Md := [(172, 0, 1), (172, 64, 65), (172, 68, 69), (172, 69, 70), (172, 70, 71), (222, 0, 5120), (223, 0, 4), (224, 0, 10), (225, 0, 10), (226, 0, 4)]
def cxO : Cx := (1486, 13, 2, oMd, ((0, [(0, (2, 172, 0)), (1, (0, 1, 0))], [], [(0, 0, 0, 0, 0), tp32], []), [(3, 0, 0), (0, 1, 0)]), [((0, [], [(0, 2, 0)], [(0, 0, 0, 0, 0), tp32, tp32], []), [(3, 0, 0), (3, 1, 0), (2, 0, 0)])])
def oCs : List Cx := [cx603, cx952, cx1000, cx1014, cx1253, cx1254, cx1255, cx1256, cx1257, cx1258, cx1259, cx1260, cx1261, cx1262, cx1263]
def oNx (cs : List Cx) : Op0 → Ab → Option (List Ab) := nxA HTw RGw FKw UNw KCw mtb (exA HTw oMd 13 exX11) oMd 13 (fun _ => cs)
def oLo : List (Nat × Av) := [(0, (2, 172, 0)), (1, (0, 1, 0)), (2, (0, 2, 0))]
def oG (pc : Nat) (e f : Se) : Ab := (pc, oLo, [], [(0, 0, 0, 0, 0), e, f], [])
def oR1 : List (Cu × Rk) := [(((22, [(0, (2, 172, 0)), (1, (0, 1, 0)), (2, (0, 2, 0)), (3, (0, 4, 0))], [], [(0, 0, 0, 0, 0), ((-2147483648), 2147483647, 0, 0, 0), (0, 1023, 0, 0, 0), (0, 1023, 0, 0, 0), ((-1), 9, 0, 0, 0)], [(172, 0, (0, 0, 0)), (216, 0, (0, 3, 0))]), [(3, 0, 0), (3, 1, 0), (0, 2, 0), (1, 216, 0), (0, 3, 0)]), [(0, 0, 1), (0, 4, 1), (0, 0, 1)]),
  (((43, [(0, (2, 172, 0)), (1, (0, 1, 0)), (2, (0, 2, 0)), (3, (0, 4, 0))], [], [(0, 0, 0, 0, 0), ((-2147483648), 2147483647, 0, 0, 0), (0, 1023, 0, 0, 0), (0, 1023, 0, 0, 0), (0, 9, 0, 0, 0)], [(172, 0, (0, 0, 0)), (216, 0, (0, 3, 0))]), [(3, 0, 0), (3, 1, 0), (0, 2, 0), (1, 216, 0), (0, 3, 0)]), [(0, 0, 1), (0, 4, 1), (0, 0, 0)])]
def oM1 : List (Cu × Rk) := [((oG 49 tp32 (0, 1023, 0, 0, 0), [(3, 0, 0), (3, 1, 0), (0, 2, 0)]), [(0, 0, 0), (0, 0, 0), (0, 0, 0)])]
def oR3 : List (Cu × Rk) := [(((78, [(0, (2, 172, 0)), (1, (0, 1, 0)), (2, (0, 2, 0)), (3, (0, 3, 0))], [], [(0, 0, 0, 0, 0), (0, 11, 0, 0, 0), (0, 1023, 0, 0, 0), (0, 10, 0, 0, 0)], [(172, 69, (0, 0, 0)), (172, 70, (0, 0, 0))]), [(3, 0, 0), (3, 1, 0), (3, 2, 0), (0, 3, 0)]), [(0, 0, 3), (1, 3, 10), (0, 0, 0), (0, 0, 0), (0, 0, 0)]),
  (((100, [(0, (2, 172, 0)), (1, (0, 1, 0)), (2, (0, 2, 0)), (3, (0, 3, 0))], [], [(0, 0, 0, 0, 0), (0, 11, 0, 0, 0), (0, 1023, 0, 0, 0), (1, 16, 0, 0, 0)], []), [(3, 0, 0), (3, 1, 0), (3, 2, 0), (0, 3, 0)]), [(0, 0, 2), (1, 3, 16), (0, 0, 1), (0, 0, 0), (0, 0, 0)]),
  (((120, [(0, (2, 172, 0)), (1, (0, 1, 0)), (2, (0, 2, 0)), (3, (0, 5, 0)), (4, (0, 4, 0))], [], [(0, 0, 0, 0, 0), (0, 11, 0, 0, 0), (0, 1023, 0, 0, 0), (0, 4, 0, 0, 0), (1, 1024, 0, 0, 0), (1, 15, 0, 0, 0)], [(174, 4, (0, 3, 0))]), [(3, 0, 0), (3, 1, 0), (3, 2, 0), (1, 174, 4), (0, 4, 0), (0, 3, 0)]), [(0, 0, 2), (1, 5, 16), (0, 0, 0), (1, 4, 1024), (0, 0, 1)]),
  (((196, [(0, (2, 172, 0)), (1, (0, 1, 0)), (2, (0, 2, 0)), (3, (0, 4, 0))], [(0, 0, 0)], [(0, 0, 0, 0, 0), (0, 1, 0, 0, 0), (0, 1023, 0, 0, 0), (0, 4, 0, 0, 0), (1, 2, 0, 0, 0)], [(172, 69, (0, 0, 0)), (172, 70, (0, 0, 0)), (174, 4, (0, 3, 0))]), [(3, 0, 0), (3, 1, 0), (3, 2, 0), (1, 174, 4), (0, 3, 0)]), [(0, 0, 4), (0, 0, 0), (0, 0, 0), (0, 0, 0), (0, 0, 0)]),
  (((164, [(0, (2, 172, 0)), (1, (0, 1, 0)), (2, (0, 2, 0)), (3, (0, 4, 0)), (4, (0, 5, 0))], [], [(0, 0, 0, 0, 0), (0, 11, 0, 0, 0), (0, 1023, 0, 0, 0), (0, 4, 0, 0, 0), (1, 15, 0, 0, 0), (1, 1023, 0, 0, 0)], [(174, 4, (0, 3, 0))]), [(3, 0, 0), (3, 1, 0), (3, 2, 0), (1, 174, 4), (0, 3, 0), (0, 4, 0)]), [(0, 0, 2), (1, 4, 16), (0, 0, 0), (1, 5, 1024), (0, 0, 0)]),
  (((196, [(0, (2, 172, 0)), (1, (0, 1, 0)), (2, (0, 2, 0)), (3, (0, 3, 0))], [(0, 4, 0)], [(0, 0, 0, 0, 0), (0, 1, 0, 0, 0), (0, 1023, 0, 0, 0), (1, 16, 0, 0, 0), ((-2147483648), 2147483647, 0, 0, 0), (0, 4, 0, 0, 0)], [(174, 4, (0, 5, 0))]), [(3, 0, 0), (3, 1, 0), (3, 2, 0), (0, 3, 0), (2, 0, 0), (1, 174, 4)]), [(0, 0, 1), (0, 0, 0), (0, 0, 0), (0, 0, 0), (0, 0, 0)])]
def oM3 : List (Cu × Rk) := [((oG 197 (2, 11, 0, 0, 0) (0, 1023, 0, 0, 0), [(3, 0, 0), (3, 1, 0), (3, 2, 0)]), [(0, 0, 0), (0, 0, 0), (0, 0, 0), (0, 0, 0), (0, 0, 0)])]
def oC1 : Bool := (oR1 ++ oM1).all (fun c => rkB c.1.1.2.2.2.1 c.2) && oR1.all (fun c => rn RGw (Pt PX11_orders) (oNx oCs) 2 0 [wkX [(0, 0, 0, 0, 0), tp32]] ([22, 43, 49]) (oR1 ++ oM1) (some c.2) 600 c.1.1) && rn RGw (Pt PX11_orders) (oNx oCs) 2 0 [wkX [(0, 0, 0, 0, 0), tp32]] ([22, 43, 49]) (oR1 ++ oM1) none 600 cxO.2.2.2.2.1.1
theorem oC1_ok : oC1 = true := by decide +kernel
def oE3 : Sy := [(0, 0, 0, 0, 0), (0, 11, 0, 0, 0), (0, 1023, 0, 0, 0)]
def oC3 : Bool := (oR3 ++ oM3).all (fun c => rkB c.1.1.2.2.2.1 c.2) && oR3.all (fun c => rn RGw (Pt PX11_orders) (oNx oCs) 3 0 [wkX oE3] ([78, 100, 120, 164, 196, 197]) (oR3 ++ oM3) (some c.2) 600 c.1.1) && rn RGw (Pt PX11_orders) (oNx oCs) 3 0 [wkX oE3] ([78, 100, 120, 164, 196, 197]) (oR3 ++ oM3) none 600 (oG 66 (0, 11, 0, 0, 0) (0, 1023, 0, 0, 0))
theorem oC3_ok : oC3 = true := by decide +kernel
def oE : Sy := [(0, 0, 0, 0, 0), tp32, (0, 1023, 0, 0, 0)]
def o53 : Cu := ((53, oLo, [(0, 2, 0), (0, 0, 1), (0, 0, 0), (0, 1, 0)], oE, []), bG3)
theorem oA_ok : rn RGw (Pt PX11_orders) (oNx oCs) 3 0 [] [53] [(o53, [])] none 60 (oG 49 tp32 (0, 1023, 0, 0, 0)) = true := by decide +kernel
def o56 (p : Nat) : Ab := (56, oLo, [(0, 0, (p : Int)), (0, 0, 1), (0, 0, 0), (0, 1, 0)], oE, [])
def o66 (p : Nat) : Cu := ((66, oLo, [], [(0, 0, 0, 0, 0), (0, 1 + (p : Int), 0, 0, 0), (0, 1023, 0, 0, 0)], []), bG3)
def oB : Bool := (List.range 11).all fun p => rn RGw (Pt PX11_orders) (oNx oCs) 3 0 [wkX oE] [66] [(o66 p, [])] none 200 (o56 p)
theorem oB_ok : oB = true := by decide +kernel
def oZ : Sy := [(0, 0, 0, 0, 0), (2, 11, 0, 0, 0), (0, 1023, 0, 0, 0)]
def o204 : Cu := ((204, [(0, (2, 172, 0)), (2, (0, 2, 0)), (3, (0, 1, -2)), (4, (0, 0, 0))], [], oZ, []), bG3)
theorem oD_ok : rn RGw (Pt PX11_orders) (oNx []) 3 0 [] [204] [(o204, [])] none 60 (oG 197 (2, 11, 0, 0, 0) (0, 1023, 0, 0, 0)) = true := by decide +kernel
def oW (b : Nat) : Sy := [(0, 0, 0, 0, 0), (0, 1023, 0, 0, 0), ((b : Int), 9, 0, 0, 0)]
def oL4 (f b : Nat) : List (Nat × Av) := [(0, (2, 172, 0)), (2, (0, 1, 0)), (3, (0, 2, -(b : Int))), (4, (0, 0, (f : Int)))]
def oL (f : Nat) : Ab := (204, oL4 f 0, [], oW 0, [])
def o210 (f b : Nat) : Ab := (210, oL4 f 0, [(0, 0, (b : Int))], oW 0, [])
def o218 (f b : Nat) : Cu := ((218, oL4 f 0, [(0, 2, 0)], oW b, []), bG3)
def oF : Bool := (List.range 10).all fun f => (List.range 2).all fun b => rn RGw (Pt PX11_orders) (oNx []) 3 0 [wkX (oW 0)] [218] [(o218 f b, [])] none 80 (o210 f b)
theorem oF_ok : oF = true := by decide +kernel
def o224 (f b : Nat) : Ab := (224, oL4 f 0, [(0, 0, (b : Int)), (0, 2, 0)], oW b, [])
def oN (f b : Nat) : Cu := ((204, oL4 (f + 1) b, [], oW b, []), bG3)
def oH : Bool := (List.range 10).all fun f => (List.range 2).all fun b => rn RGw (Pt PX11_orders) (oNx []) 3 0 [] [204] [(oN f b, [])] none 80 (o224 f b)
theorem oH_ok : oH = true := by decide +kernel
theorem oBit1 : bitK oM.2.1 204 2 1 4 2 = true := by decide +kernel
theorem oBit2 : bitK oM.2.1 218 2 1 4 2 = true := by decide +kernel
theorem o_nx {d : Nat} (hd : 13 ≤ d + 1) {h0 : Ph} {cs : List Cx} (hc : ∀ c ∈ cs, Hd HTw RGw 229 mtb (xsT 229) c) : ∀ o A Bs vs cf, ga HTw RGw 229 oMd h0 vs A cf → Pt PX11_orders A.1 = some o → o.1 ≠ 22 → oNx cs o A = some Bs → ∃ cf', oSt d cf cf' ∧ ∃ B ∈ Bs, ∃ ws, ga HTw RGw 229 oMd h0 (vs ++ ws) B cf' :=
  nxA_ok (me := oM) (by decide) hUw hKCw (fun _ _ _ _ _ _ _ _ _ z a b c d e => exA_ok (hlv := z) (me := oM) exX11_ok a b c d e) (Pck_ok PX11_orders_ok) (fun _ => hc) hd
theorem oCs_ok : ∀ c ∈ oCs, Hd HTw RGw 229 mtb (xsT 229) c := (List.forall_mem_cons.mpr ⟨hd603, (List.forall_mem_cons.mpr ⟨hd952, (List.forall_mem_cons.mpr ⟨hd1000, (List.forall_mem_cons.mpr ⟨hd1014, (List.forall_mem_cons.mpr ⟨hd1253, (List.forall_mem_cons.mpr ⟨hd1254, (List.forall_mem_cons.mpr ⟨hd1255, (List.forall_mem_cons.mpr ⟨hd1256, (List.forall_mem_cons.mpr ⟨hd1257, (List.forall_mem_cons.mpr ⟨hd1258, (List.forall_mem_cons.mpr ⟨hd1259, (List.forall_mem_cons.mpr ⟨hd1260, (List.forall_mem_cons.mpr ⟨hd1261, (List.forall_mem_cons.mpr ⟨hd1262, (List.forall_mem_cons.mpr ⟨hd1263, (List.forall_mem_nil _)⟩)⟩)⟩)⟩)⟩)⟩)⟩)⟩)⟩)⟩)⟩)⟩)⟩)⟩)⟩)
theorem oW_ok {g b : Nat} {v : Int} (hg : g < 1024) (h1 : (b : Int) ≤ v) (h2 : v ≤ 9) : gs (oW b) [0, (g : Int), v] := gsB rfl (fun i e w he hw => by
  match i, he, hw with
  | 0, he, hw =>
    cases he
    cases hw
    exact ⟨by show (0 : Int) ≤ _; omega, by show _ ≤ (1023 : Int); omega, rfl⟩
  | 1, he, hw =>
    cases he
    cases hw
    exact ⟨h1, h2, rfl⟩)
theorem oL4_ok {vs : List Int} {lo : List (Nat × Value)} {x y z : Int32} {f : Nat} {g v : Int} (h0 : vs[0]? = some 0) (h1 : vs[1]? = some g) (h2 : vs[2]? = some v) (g0 : pm_g lo 0 = some (.ref 172)) (g2 : pm_g lo 2 = some (.int x)) (g3 : pm_g lo 3 = some (.int y)) (g4 : pm_g lo 4 = some (.int z)) (e2 : x.toInt = g) (e3 : y.toInt = v) (e4 : z.toInt = (f : Int)) : gl RGw vs (oL4 f 0) lo := by
  intro q hq
  rcases List.mem_cons.mp hq with rfl | hq
  · exact ⟨_, g0, Or.inl ⟨rfl, rfl⟩⟩
  rcases List.mem_cons.mp hq with rfl | hq
  · exact ⟨_, g2, rfl, g, h1, by show x.toInt = g + 0; omega⟩
  rcases List.mem_cons.mp hq with rfl | hq
  · exact ⟨_, g3, rfl, v, h2, by show y.toInt = v + -((0 : Nat) : Int); omega⟩
  rcases List.mem_cons.mp hq with rfl | hq
  · exact ⟨_, g4, rfl, 0, h0, by show z.toInt = 0 + (f : Int); omega⟩
  · cases hq
theorem o_loop {d g : Nat} (hd : 13 ≤ d + 1) {h0 : Ph} (hg : g < 1024) : ∀ (m f : Nat) (v : Int) (cf : Cf), f + m = 10 → 0 ≤ v → v ≤ 9 → v + 1 ≤ (popN (10 - f) (g / 2 ^ f) : Int) → ga HTw RGw 229 oMd h0 [0, (g : Int), v] (oL f) cf → gG oM oMd d h0 cf := by
  intro m
  induction m with
  | zero =>
    intro f v cf hf hv0 hv1 hp gA
    exfalso
    rw [show 10 - f = 0 from by omega] at hp
    have hp : v + 1 ≤ ((0 : Nat) : Int) := hp
    omega
  | succ m ih =>
    intro f v cf hf hv0 hv1 hp gA
    have hf10 : f < 10 := by omega
    obtain ⟨p0, p1, p2, p3, p4, p5, p6⟩ := gA
    have p0 : cf.1 = 204 := p0
    have p2 := gst_nil p2
    obtain ⟨x, x1, x2⟩ := gl_i (i := 2) (s := 1) (o := 0) p1 (List.mem_cons_of_mem _ List.mem_cons_self) rfl
    obtain ⟨z, z1, z2⟩ := gl_i (i := 4) (s := 0) (o := (f : Int)) p1 (List.mem_cons_of_mem _ (List.mem_cons_of_mem _ (List.mem_cons_of_mem _ List.mem_cons_self))) rfl
    have hb := bit_val (x := x) (y := z) (g := g) (k := f) (by omega) (by omega) hg hf10
    have hb2 : g / 2 ^ f % 2 < 2 := Nat.mod_lt _ (by decide)
    rw [popN_s (k := 10) (g := g) (f := f) hf10] at hp
    obtain ⟨b, hbe⟩ : ∃ b, g / 2 ^ f % 2 = b := ⟨_, rfl⟩
    rw [hbe] at hb hb2 hp
    have hcf : cf = (204, cf.2.1, [], cf.2.2.2) := by rw [← p0, ← p2]
    rw [hcf]
    refine pm_It_ok (P := gG oM oMd d h0) gG_stp 5 _ _ (bit5 (st := []) (hh := cf.2.2.2) oBit1 x1 z1) ?_
    have g210 : ga HTw RGw 229 oMd h0 [0, (g : Int), v] (o210 f b) (210, cf.2.1, [.int ((x >>> (z &&& 31)) &&& 1)], cf.2.2.2) := ⟨rfl, p1, ⟨⟨rfl, 0, rfl, by show _ = 0 + (b : Int); rw [hb]; omega⟩, trivial⟩, p3, fun q hq => (by cases hq), p5, p6⟩
    refine gG_ofEn (rn_ok (vs0 := [0, (g : Int), v]) (vsI := [0, (g : Int), v]) (me := oM) (Pck_ok PX11_orders_ok) (o_nx hd (List.forall_mem_nil _)) (fun R hR => by cases hR) (fun c hc => by rw [List.mem_singleton.mp hc]; rfl) (fun c hc vs' cf2 g' hp' _ => ?_) 80 _ _ _ g210 ⟨[], rfl⟩ ⟨[], rfl⟩ (List.all_eq_true.mp (List.all_eq_true.mp oF_ok f (List.mem_range.mpr hf10)) b (List.mem_range.mpr hb2)))
    rw [List.mem_singleton.mp hc] at g'
    obtain ⟨ws, rfl⟩ := hp'
    obtain ⟨q0, q1, q2, q3, q4, q5, q6⟩ := g'
    have := ws0 q3.1 rfl
    subst this
    have q0 : cf2.1 = 218 := q0
    obtain ⟨u, us, e1, e2, e3⟩ := gst_cons q2
    have := gst_nil e3
    subst this
    have rv := q3.2.2 2 ((b : Int), 9, 0, 0, 0) v rfl rfl
    have rv1 : (b : Int) ≤ v := rv.1
    refine gG_toEn p3 ?_
    obtain ⟨x', x1', x2'⟩ := gl_i (i := 2) (s := 1) (o := 0) q1 (List.mem_cons_of_mem _ List.mem_cons_self) rfl
    obtain ⟨z', z1', z2'⟩ := gl_i (i := 4) (s := 0) (o := (f : Int)) q1 (List.mem_cons_of_mem _ (List.mem_cons_of_mem _ (List.mem_cons_of_mem _ List.mem_cons_self))) rfl
    have hb' := bit_val (x := x') (y := z') (g := g) (k := f) (by omega) (by omega) hg hf10
    rw [hbe] at hb'
    have hcf2 : cf2 = (218, cf2.2.1, [u], cf2.2.2.2) := by rw [← q0, ← e1]
    rw [hcf2]
    refine pm_It_ok (P := gG oM oMd d h0) gG_stp 5 _ _ (bit5 (st := [u]) (hh := cf2.2.2.2) oBit2 x1' z1') ?_
    refine rn_to (vs0 := [0, (g : Int), v]) gG_stp (o_nx hd (List.forall_mem_nil _)) (fun c hc3 vs3 cf3 g3 hp3 => ?_) 80 (o224 f b) [0, (g : Int), v] _ ⟨rfl, q1, ⟨⟨rfl, 0, rfl, by show _ = 0 + (b : Int); rw [hb']; omega⟩, e2, trivial⟩, q3, fun q hq => (by cases hq), q5, q6⟩ ⟨[], rfl⟩ (List.all_eq_true.mp (List.all_eq_true.mp oH_ok f (List.mem_range.mpr hf10)) b (List.mem_range.mpr hb2))
    rw [List.mem_singleton.mp hc3] at g3
    obtain ⟨ws, rfl⟩ := hp3
    obtain ⟨r0, r1, r2, r3, r4, r5, r6⟩ := g3
    have := ws0 r3.1 rfl
    subst this
    have k0 := gl_r (i := 0) (c := 172) (z := 0) r1 List.mem_cons_self
    obtain ⟨x3, x31, x32⟩ := gl_i (i := 2) (s := 1) (o := 0) r1 (List.mem_cons_of_mem _ List.mem_cons_self) rfl
    obtain ⟨y3, y31, y32⟩ := gl_i (i := 3) (s := 2) (o := -(b : Int)) r1 (List.mem_cons_of_mem _ (List.mem_cons_of_mem _ List.mem_cons_self)) rfl
    obtain ⟨z3, z31, z32⟩ := gl_i (i := 4) (s := 0) (o := ((f + 1 : Nat) : Int)) r1 (List.mem_cons_of_mem _ (List.mem_cons_of_mem _ (List.mem_cons_of_mem _ List.mem_cons_self))) rfl
    exact ih (f + 1) (v - (b : Int)) cf3 (by omega) (by omega) (by omega) (by omega) ⟨r0, oL4_ok rfl rfl rfl k0 x31 y31 z31 (by omega) (by omega) (by omega), by rw [gst_nil r2]; trivial, oW_ok hg (by omega) (by omega), fun q hq => (by cases hq), r5, r6⟩
set_option maxRecDepth 16384 in
theorem o53P : Pt PX11_orders 53 = some (23, 1414, 1, 0, 56, [471]) := rfl
set_option maxRecDepth 16384 in
theorem o_call {cf : Cf} {d : Nat} {u v1 v2 v3 : Value} {h1 : Ph} {r : Int32} (p0 : cf.1 = 53) (e1 : cf.2.2.1 = u :: v1 :: v2 :: v3 :: []) (hc : (v1.category + (v2.category + (v3.category + 0))) ≤ 8) (x1 : pm_Ex mtb (xsT 229) 229 d 1414 [u] cf.2.2.2 (some (.int r)) h1) : pm_Call mtb (pm_Ex mtb (xsT 229) 229 d) oM 229 cf (56, cf.2.1, .int r :: v1 :: v2 :: v3 :: [], h1) := by
  obtain ⟨ins, len, hd1, hr⟩ := Pck_ok PX11_orders_ok 53 (23, 1414, 1, 0, 56, [471]) o53P
  obtain ⟨idx, i1, i2, i3⟩ := ly_inv hr
  subst i2 i3
  refine ⟨idx, 1414, 1, bM, [u], [v1, v2, v3], some (.int r), h1, i1, rfl, ?_, hc, x1, by rw [p0]; rfl, Or.inl ⟨rfl, by rw [p0]; exact hd1, rfl⟩⟩
  rw [e1]
  rfl
theorem hdO : Hd HTw RGw 229 mtb (xsT 229) cxO := by
  intro d hd av h vs0 hsl g
  have hd3 : 13 ≤ d := hd
  obtain ⟨d', rfl⟩ : ∃ d', d = d' + 1 := ⟨d - 1, by omega⟩
  have hv : ∃ w, vs0 = [0, w] := by
    have h1 : 2 = vs0.length := g.2.2.2.1.1
    match vs0, h1 with
    | [z, w], _ =>
      have h2 : some z = some 0 := g.2.2.2.1.2.1
      cases h2
      exact ⟨w, rfl⟩
  obtain ⟨w, rfl⟩ := hv
  have c1 := oC1_ok
  simp only [oC1, Bool.and_eq_true] at c1
  have c3 := oC3_ok
  simp only [oC3, Bool.and_eq_true] at c3
  have hG : gG oM oMd d' h (0, lv_args 0 av, [], h) := by
    refine gG_ofEn (runM (me := oM) (vs0 := [0, w]) (exits := [wkX [(0, 0, 0, 0, 0), tp32]]) (cR := oR1) (cM := oM1) (f := 600) (Pck_ok PX11_orders_ok) (o_nx hd3 oCs_ok) c1.1.1 (fun c hc vs' cf' g' hp => ?_) c1.1.2 _ _ g c1.2)
    rw [List.mem_singleton.mp hc] at g'
    have g' : ga HTw RGw 229 oMd h vs' (oG 49 tp32 (0, 1023, 0, 0, 0)) cf' := g'
    obtain ⟨ws, rfl⟩ := hp
    have hlen := g'.2.2.2.1.1
    match ws, hlen with
    | [gm], _ =>
    have gsT : gs [(0, 0, 0, 0, 0), tp32] [0, w] := g.2.2.2.1
    refine gG_toEn gsT ?_
    have r2 := g'.2.2.2.1.2.2 2 (0, 1023, 0, 0, 0) gm rfl rfl
    have r2a : (0 : Int) ≤ gm := r2.1
    have r2b : gm ≤ 1023 := r2.2.1
    obtain ⟨gn, rfl⟩ : ∃ gn : Nat, gm = (gn : Int) := ⟨gm.toNat, by omega⟩
    have hgn : gn < 1024 := by omega
    refine rn_to (vs0 := [0, w, (gn : Int)]) gG_stp (o_nx hd3 oCs_ok) (fun c hc vs' cf5 g5 hp => ?_) 60 _ _ cf' g' ⟨[], rfl⟩ oA_ok
    rw [List.mem_singleton.mp hc] at g5
    obtain ⟨ws, rfl⟩ := hp
    obtain ⟨p0, p1, p2, p3, p4, p5, p6⟩ := g5
    have := ws0 p3.1 rfl
    subst this
    have p0 : cf5.1 = 53 := p0
    obtain ⟨u, us, e1, e2, p2⟩ := gst_cons p2
    obtain ⟨v1, v2, v3, us, rfl, f1, f2, f3, p2⟩ := gst_cons3 p2
    have := gst_nil p2
    subst this
    obtain ⟨x, wx, rfl, w1, w2⟩ := gv_int e2 rfl
    have w1 : some (gn : Int) = some wx := w1
    cases w1
    have w2 : x.toInt = (gn : Int) + 0 := w2
    obtain ⟨r, h1, y1, y2, y3, y4⟩ := bits_ex (d := d') (by omega) hgn (x := x) (by omega) p5
    have hcat : v1.category + (v2.category + (v3.category + 0)) ≤ 8 := by
      rw [gv_catv f1, gv_catv f2, gv_catv f3]
      decide
    refine gG_stp _ _ (Or.inr (Or.inr (o_call p0 e1 hcat y1))) ?_
    have hpop := popN_le 10 gn
    obtain ⟨p, hpe⟩ : ∃ p, popN 10 gn = p := ⟨_, rfl⟩
    rw [hpe] at y2 hpop
    have g56 : ga HTw RGw 229 oMd h [0, w, (gn : Int)] (o56 p) (56, cf5.2.1, .int r :: v1 :: v2 :: v3 :: [], h1) := ⟨rfl, p1, ⟨⟨rfl, 0, rfl, by show r.toInt = 0 + (p : Int); omega⟩, f1, f2, f3, trivial⟩, p3, fun q hq => (by cases hq), y3, fun c j hcj => by rw [y4 c j (fun ⟨m, hm, _⟩ => by cases hm)]; exact p6 c j hcj⟩
    refine gG_ofEn (rn_ok (vs0 := [0, w, (gn : Int)]) (vsI := [0, w, (gn : Int)]) (me := oM) (Pck_ok PX11_orders_ok) (o_nx hd3 oCs_ok) (fun R hR => by cases hR) (fun c hc => by rw [List.mem_singleton.mp hc]; rfl) (fun c hc vs' cf6 g6 hp6 _ => ?_) 200 _ _ _ g56 ⟨[], rfl⟩ ⟨[], rfl⟩ (List.all_eq_true.mp oB_ok p (List.mem_range.mpr (by omega))))
    rw [List.mem_singleton.mp hc] at g6
    obtain ⟨ws, rfl⟩ := hp6
    obtain ⟨q0, q1, q2, q3, q4, q5, q6⟩ := g6
    have := ws0 q3.1 rfl
    subst this
    refine gG_toEn p3 ?_
    have rw1 := q3.2.2 1 (0, 1 + (p : Int), 0, 0, 0) w rfl rfl
    have wa : (0 : Int) ≤ w := rw1.1
    have wb : w ≤ 1 + (p : Int) := rw1.2.1
    have gs3 : gs oE3 [0, w, (gn : Int)] := gsB rfl (fun i e w' he hw => by
      match i, he, hw with
      | 0, he, hw =>
        cases he
        cases hw
        exact ⟨wa, by show w ≤ (11 : Int); omega, rfl⟩
      | 1, he, hw =>
        cases he
        cases hw
        exact ⟨r2a, r2b, rfl⟩)
    have g66 : ga HTw RGw 229 oMd h [0, w, (gn : Int)] (oG 66 (0, 11, 0, 0, 0) (0, 1023, 0, 0, 0)) cf6 := ⟨q0, q1, by rw [gst_nil q2]; trivial, gs3, fun q hq => (by cases hq), q5, q6⟩
    refine gG_ofEn (runM (me := oM) (vs0 := [0, w, (gn : Int)]) (exits := [wkX oE3]) (cR := oR3) (cM := oM3) (f := 600) (Pck_ok PX11_orders_ok) (o_nx hd3 oCs_ok) c3.1.1 (fun c hc vs' cf7 g7 hp7 => ?_) c3.1.2 _ _ g66 c3.2)
    rw [List.mem_singleton.mp hc] at g7
    obtain ⟨ws, rfl⟩ := hp7
    have := ws0 g7.2.2.2.1.1 rfl
    subst this
    refine gG_toEn gs3 ?_
    have wc : (2 : Int) ≤ w := (g7.2.2.2.1.2.2 1 (2, 11, 0, 0, 0) w rfl rfl).1
    refine rn_to (vs0 := [0, w, (gn : Int)]) gG_stp (o_nx hd3 (List.forall_mem_nil _)) (fun c hc vs' cf8 g8 hp8 => ?_) 60 _ _ cf7 g7 ⟨[], rfl⟩ oD_ok
    rw [List.mem_singleton.mp hc] at g8
    obtain ⟨ws, rfl⟩ := hp8
    obtain ⟨t0, t1, t2, t3, t4, t5, t6⟩ := g8
    have := ws0 t3.1 rfl
    subst this
    have k0 := gl_r (i := 0) (c := 172) (z := 0) t1 List.mem_cons_self
    obtain ⟨x3, x31, x32⟩ := gl_i (i := 2) (s := 2) (o := 0) t1 (List.mem_cons_of_mem _ List.mem_cons_self) rfl
    obtain ⟨y3', y31, y32⟩ := gl_i (i := 3) (s := 1) (o := -2) t1 (List.mem_cons_of_mem _ (List.mem_cons_of_mem _ List.mem_cons_self)) rfl
    obtain ⟨z3, z31, z32⟩ := gl_i (i := 4) (s := 0) (o := 0) t1 (List.mem_cons_of_mem _ (List.mem_cons_of_mem _ (List.mem_cons_of_mem _ List.mem_cons_self))) rfl
    exact o_loop hd3 hgn 10 0 (w - 2) cf8 rfl (by omega) (by omega) (by rw [Nat.pow_zero, Nat.div_one]; show w - 2 + 1 ≤ (popN 10 gn : Int); rw [hpe]; omega) ⟨t0, oL4_ok rfl rfl rfl k0 x31 y31 z31 (by omega) (by omega) (by omega), by rw [gst_nil t2]; trivial, oW_ok hgn (by omega) (by omega), fun q hq => (by cases hq), t5, t6⟩
  obtain ⟨N, cf', r, h', h1, h2, h3, h4⟩ := hG
  exact ⟨some (.int r), h', _, [0, w] ++ [r.toInt], ⟨oM, rfl, by rw [hsl]; decide, N, cf', h1, h2⟩, List.mem_cons_self, ⟨_, rfl⟩, rfl, fun q hq => (by cases hq), ⟨⟨rfl, r.toInt, rfl, (Int.add_zero _).symm⟩, trivial⟩, gs_push g.2.2.2.1 ⟨(r32 r).1, (r32 r).2, Or.inl rfl⟩, fun q hq => (by cases hq), h3, h4⟩
