/-! a machine of whole numbers: what a run of the pure machine looks like, as a function of ints -/
abbrev Zs : Type := Nat → Nat → Int
abbrev Zv : Type := Int × Nat
abbrev Zm : Type := List Int × List Zv × Zs
abbrev Zc : Type := Nat × Zm
abbrev Zr : Type := List Zv × Zs
def zu (s : Zs) (c j : Nat) (v : Int) : Zs := fun c' j' => if c' = c then (if j' = j then v else s c' j') else s c' j'
def w32 (z : Int) : Int := z.bmod 4294967296
def w64 (z : Int) : Int := z.bmod 18446744073709551616
def zand (x y : Int) : Int := (Int32.ofInt x &&& Int32.ofInt y).toInt
def zor (x y : Int) : Int := (Int32.ofInt x ||| Int32.ofInt y).toInt
def zxor (x y : Int) : Int := (Int32.ofInt x ^^^ Int32.ofInt y).toInt
def zshl (x y : Int) : Int := (Int32.ofInt x <<< (Int32.ofInt y &&& 31)).toInt
def zshr (x y : Int) : Int := (Int32.ofInt x >>> (Int32.ofInt y &&& 31)).toInt
def zushr (x y : Int) : Int := (((Int32.ofInt x).toUInt32 >>> ((Int32.ofInt y).toUInt32 &&& Int32.toUInt32 31)).toInt32).toInt
def zdiv (x y : Int) : Int := (Int32.ofInt x / Int32.ofInt y).toInt
def zrem (x y : Int) : Int := (Int32.ofInt x - Int32.ofInt x / Int32.ofInt y * Int32.ofInt y).toInt
def zandL (x y : Int) : Int := (Int64.ofInt x &&& Int64.ofInt y).toInt
def zorL (x y : Int) : Int := (Int64.ofInt x ||| Int64.ofInt y).toInt
def zxorL (x y : Int) : Int := (Int64.ofInt x ^^^ Int64.ofInt y).toInt
def zdivL (x y : Int) : Int := (Int64.ofInt x / Int64.ofInt y).toInt
def zremL (x y : Int) : Int := (Int64.ofInt x - Int64.ofInt x / Int64.ofInt y * Int64.ofInt y).toInt
def zshlL (x y : Int) : Int := (Int64.ofInt x <<< ((Int32.ofInt y).toInt64 &&& 63)).toInt
def zshrL (x y : Int) : Int := (Int64.ofInt x >>> ((Int32.ofInt y).toInt64 &&& 63)).toInt
def zushrL (x y : Int) : Int := (((Int64.ofInt x).toUInt64 >>> ((Int32.ofInt y).toInt64.toUInt64 &&& Int64.toUInt64 63)).toInt64).toInt
def zq_neg (x : Int) : Int := (-(Int32.ofInt x)).toInt
def zi2b (x : Int) : Int := (Int32.ofInt x).toInt8.toInt32.toInt
def zi2c (x : Int) : Int := (((Int32.ofInt x).toUInt32 % 65536).toInt32).toInt
def zl2i (x : Int) : Int := (Int64.ofInt x).toInt32.toInt
def zst2 (x : Int) : Int := (vp_nar .char (Int32.ofInt x)).toInt
def zst3 (x : Int) : Int := (vp_nar .boolean (Int32.ofInt x)).toInt
def zcmpL (x y : Int) : Int := if y < x then 1 else if x = y then 0 else -1
def zsgn (x : Int) : Int := if x = 40 then 0 else if x = 41 then 1 else if x = 60 then 2 else if x = 61 then 3 else if x = 43 then 4 else if x = 45 then 5 else if x = 42 then 6 else if x = 59 then 7 else -1
def zii (b : Nat) (x y : Int) : Int := match b with
  | 0 => w32 (x + y)
  | 1 => w32 (x - y)
  | 2 => w32 (x * y)
  | 3 => zand x y
  | 4 => zor x y
  | 5 => zxor x y
  | 6 => zshl x y
  | 7 => zshr x y
  | 8 => zushr x y
  | 9 => zdiv x y
  | _ => zrem x y
def zll (b : Nat) (x y : Int) : Int := match b with
  | 0 => w64 (x + y)
  | 1 => w64 (x - y)
  | 2 => w64 (x * y)
  | 3 => zandL x y
  | 4 => zorL x y
  | 5 => zxorL x y
  | 6 => zdivL x y
  | _ => zremL x y
def zli (b : Nat) (x y : Int) : Int := match b with
  | 0 => zshlL x y
  | 1 => zshrL x y
  | _ => zushrL x y
def zif {α : Type} (q : Nat) (x y : Int) (a b : α) : α := match q with
  | 0 => if x = y then a else b
  | 1 => if x = y then b else a
  | 2 => if x < y then a else b
  | 3 => if x < y then b else a
  | 4 => if y < x then a else b
  | _ => if y < x then b else a
def zsw {α : Type} (go : Nat → α) (x : Int) (d : Nat) : Int → List Nat → α
  | _, [] => go d
  | lo, t :: ts => if x = lo then go t else zsw go x d (lo + 1) ts
def zcpy (s : Zs) (a b k : Nat) : Zs := fun c j => if c = b then (if j < k then s a j else s c j) else s c j
/-- what stands for ever: which fields are fixed, what they hold, how long arrays are, which fields are long -/
def zfl : List (List Nat × List Nat) := [([0], []), ([2], []), ([0, 2], []), ([1, 2, 3, 4], []), ([0, 2], []), ([0, 3], []), ([1, 2], []), ([2, 3], [7]), ([0, 1, 2, 3, 4, 7, 8, 9, 10, 11], []), ([0], []), ([0, 1, 2, 5, 6, 7, 8, 9, 10, 12, 13, 14], [15]), ([2, 10, 11, 12, 13, 14, 15, 16, 17, 18, 19, 20, 21, 22, 23, 24, 25, 26, 27, 28, 29, 30, 33, 34, 35, 36, 37, 38, 39, 40, 41, 42, 43, 44, 46, 47, 48, 49, 50, 51, 52, 53, 54, 55, 56, 57, 58, 59, 61, 62, 63, 65, 66, 67, 71, 72], [7, 73])]
def zfin (ci j : Nat) : Bool := (((zfl[ci]?).getD ([], [])).1).contains j
def zcat (ci j : Nat) : Nat := if (((zfl[ci]?).getD ([], [])).2).contains j = true then 1 else 0
def zrho (c j : Nat) : Nat := match pm_slot (hZ c) j with
  | some (.ref r) => r
  | _ => 0
def zq_len (c : Nat) : Int := if c = 1000 then 5 else match hZ c with
  | .inl (_, k, _) => (k : Int)
  | _ => 0
def zlo : Nat → List Zv → List Int
  | 0, _ => []
  | n + 1, [] => 0 :: zlo n []
  | n + 1, (x, 0) :: as => x :: zlo n as
  | 1, (x, _) :: _ => [x]
  | n + 2, (x, _) :: as => x :: 0 :: zlo n as
def znx (E : Nat → Option Nat) (cl : Nat → List Zv → Zs → Option Zr) (o : Op0) (m : Zm) (go : Nat → Zm → Option Zr) : Option Zr := match o.1 with
  | 0 => go o.2.2.2.2.1 (m.1, (o.2.2.2.1, 0) :: m.2.1, m.2.2)
  | 1 => go o.2.2.2.2.1 (m.1, (o.2.2.2.1, 1) :: m.2.1, m.2.2)
  | 2 => go o.2.2.2.2.1 (m.1, ((o.2.1 : Int), 0) :: m.2.1, m.2.2)
  | 3 => go o.2.2.2.2.1 (m.1, (m.1.getD o.2.1 0, if o.2.2.1 = 1 then 1 else 0) :: m.2.1, m.2.2)
  | 4 => match m.2.1 with
    | x :: st => go o.2.2.2.2.1 (m.1.set o.2.1 x.1, st, m.2.2)
    | _ => none
  | 5 => match m.2.1 with
    | y :: x :: st => go o.2.2.2.2.1 (m.1, (zii o.2.2.1 x.1 y.1, 0) :: st, m.2.2)
    | _ => none
  | 27 => match m.2.1 with
    | y :: x :: st => go o.2.2.2.2.1 (m.1, (zii o.2.2.1 x.1 y.1, 0) :: st, m.2.2)
    | _ => none
  | 6 => match m.2.1 with
    | y :: x :: st => go o.2.2.2.2.1 (m.1, (zll o.2.2.1 x.1 y.1, 1) :: st, m.2.2)
    | _ => none
  | 25 => match m.2.1 with
    | y :: x :: st => go o.2.2.2.2.1 (m.1, (zli o.2.2.1 x.1 y.1, 1) :: st, m.2.2)
    | _ => none
  | 7 => match m.2.1 with
    | x :: st => (match o.2.2.1 with
      | 0 => go o.2.2.2.2.1 (m.1, (zq_neg x.1, 0) :: st, m.2.2)
      | 1 => go o.2.2.2.2.1 (m.1, (x.1, 1) :: st, m.2.2)
      | 2 => go o.2.2.2.2.1 (m.1, (zi2b x.1, 0) :: st, m.2.2)
      | _ => go o.2.2.2.2.1 (m.1, (zi2c x.1, 0) :: st, m.2.2))
    | _ => none
  | 26 => match m.2.1 with
    | x :: st => go o.2.2.2.2.1 (m.1, (zl2i x.1, 0) :: st, m.2.2)
    | _ => none
  | 8 => match m.2.1 with
    | y :: x :: st => go o.2.2.2.2.1 (m.1, (zcmpL x.1 y.1, 0) :: st, m.2.2)
    | _ => none
  | 9 => match m.2.1 with
    | x :: st => go o.2.2.2.2.1 (m.1, x :: x :: st, m.2.2)
    | _ => none
  | 10 => match m.2.1 with
    | _ :: st => go o.2.2.2.2.1 (m.1, st, m.2.2)
    | _ => none
  | 11 => match m.2.1 with
    | x :: y :: st => go o.2.2.2.2.1 (m.1, x :: y :: x :: y :: st, m.2.2)
    | _ => none
  | 12 => go o.2.2.2.2.1 m
  | 13 => match m.2.1 with
    | x :: st => zif o.2.2.1 x.1 0 (go o.2.1 (m.1, st, m.2.2)) (go o.2.2.2.2.1 (m.1, st, m.2.2))
    | _ => none
  | 14 => match m.2.1 with
    | y :: x :: st => zif o.2.2.1 x.1 y.1 (go o.2.1 (m.1, st, m.2.2)) (go o.2.2.2.2.1 (m.1, st, m.2.2))
    | _ => none
  | 15 => match m.2.1 with
    | x :: st => zsw (fun t => go t (m.1, st, m.2.2)) x.1 o.2.2.2.2.1 o.2.2.2.1 o.2.2.2.2.2
    | _ => none
  | 16 => go o.2.2.2.2.1 (m.1.set o.2.1 (w32 (m.1.getD o.2.1 0 + o.2.2.2.1)), m.2.1, m.2.2)
  | 17 => match m.2.1 with
    | x :: st => go o.2.2.2.2.1 (m.1, (if zfin o.2.1 o.2.2.1 = true then ((zrho x.1.toNat o.2.2.1 : Nat) : Int) else m.2.2 x.1.toNat o.2.2.1, zcat o.2.1 o.2.2.1) :: st, m.2.2)
    | _ => none
  | 18 => match m.2.1 with
    | v :: x :: st => go o.2.2.2.2.1 (m.1, st, zu m.2.2 x.1.toNat o.2.2.1 v.1)
    | _ => none
  | 19 => match m.2.1 with
    | i :: x :: st => go o.2.2.2.2.1 (m.1, (if o.2.2.1 = 9 then ((zrho x.1.toNat i.1.toNat : Nat) : Int) else m.2.2 x.1.toNat i.1.toNat, if o.2.2.1 = 1 then 1 else 0) :: st, m.2.2)
    | _ => none
  | 20 => match m.2.1 with
    | v :: i :: x :: st => go o.2.2.2.2.1 (m.1, st, zu m.2.2 x.1.toNat i.1.toNat (if o.2.2.1 = 2 then zst2 v.1 else if o.2.2.1 = 3 then zst3 v.1 else v.1))
    | _ => none
  | 21 => match m.2.1 with
    | x :: st => go o.2.2.2.2.1 (m.1, (zq_len x.1.toNat, 0) :: st, m.2.2)
    | _ => none
  | 22 => some (if o.2.2.1 = 2 then [] else m.2.1.take 1, m.2.2)
  | 23 => (cl o.2.1 ((m.2.1.take (o.2.2.1 + o.2.2.2.1.toNat)).reverse) m.2.2).bind (fun p => go o.2.2.2.2.1 (m.1, p.1 ++ m.2.1.drop (o.2.2.1 + o.2.2.2.1.toNat), p.2))
  | 24 => match E o.2.1 with
    | some 0 => (match m.2.1 with
      | y :: x :: st => go o.2.2.2.2.1 (m.1, (if x.1 < y.1 then y.1 else x.1, 0) :: st, m.2.2)
      | _ => none)
    | some 1 => (match m.2.1 with
      | y :: x :: st => go o.2.2.2.2.1 (m.1, (if y.1 < x.1 then y.1 else x.1, 0) :: st, m.2.2)
      | _ => none)
    | some 2 => (match m.2.1 with
      | x :: st => go o.2.2.2.2.1 (m.1, (if 0 ≤ x.1 then x.1 else w32 (0 - x.1), 0) :: st, m.2.2)
      | _ => none)
    | some 3 => (match m.2.1 with
      | y :: x :: st => go o.2.2.2.2.1 (m.1, (if y.1 < x.1 then x.1 else y.1, 1) :: st, m.2.2)
      | _ => none)
    | some 4 => (match m.2.1 with
      | x :: _ :: st => go o.2.2.2.2.1 (m.1, (zsgn x.1, 0) :: st, m.2.2)
      | _ => none)
    | some _ => (match m.2.1 with
      | k :: _ :: d :: _ :: a :: st => go o.2.2.2.2.1 (m.1, st, zcpy m.2.2 a.1.toNat d.1.toNat k.1.toNat)
      | _ => none)
    | none => none
  | _ => none
/-- the tables of all methods by their numbers -/
def zPT0 : List (List (List (Option Op0))) := [PX0_addLarger, PX0_ofAll, PX0_split, PX0_spread, PX0_stays]
def zPT1 : List (List (List (Option Op0))) := [PX1_clear, PX1_keep, PX1_takeBack]
def zPT2 : List (List (List (Option Op0))) := [PX2_read, PX2_readLine, PX2_takeFlight]
def zPT3 : List (List (List (Option Op0))) := [PX3_bestWith, PX3_choose, PX3_fillSums, PX3_hillOf, PX3_pack, PX3_pay, PX3_rise, PX3_whole]
def zPT4 : List (List (List (Option Op0))) := [PX4_add, PX4_beHigh, PX4_clear, PX4_factOf, PX4_isTold, PX4_joinHere, PX4_joined, PX4_readLevel, PX4_readPart, PX4_valueOf]
def zPT5 : List (List (List (Option Op0))) := [PX5_addSeen, PX5_clear, PX5_copy, PX5_isSo, PX5_tell]
def zPT6 : List (List (List (Option Op0))) := [PX6_begin, PX6_builds, PX6_carries, PX6_climbs, PX6_copy, PX6_does, PX6_goes, PX6_isThere, PX6_lack, PX6_liftAt, PX6_open, PX6_steals]
def zPT7 : List (List (List (Option Op0))) := [PX7_begin, PX7_cutNumber, PX7_cutWord, PX7_fail, PX7_feedEight, PX7_hasMore, PX7_isDigit, PX7_isLetter, PX7_isNumber, PX7_isSign, PX7_isWord, PX7_keyHere, [], PX7_nameHere, PX7_next, PX7_numberHere, PX7_takeNumber, PX7_takePlace, PX7_takeSign, PX7_takeTold, PX7_takeWord, PX7_withLetter]
def zPT8 : List (List (List (Option Op0))) := [PX8_addNamed, PX8_addOne, PX8_all, PX8_clear, PX8_close, PX8_find, PX8_findAbove, PX8_flightFrom, PX8_floorsOf, PX8_fromTop, PX8_has, PX8_isFull, PX8_isPlace, PX8_isTold, PX8_lowerOf, PX8_riseOf, PX8_setFlight, PX8_setFloors, PX8_stairs, PX8_way, PX8_worth]
def zPT9 : List (List (List (Option Op0))) := [PX9_lineEnds, PX9_read, PX9_readFlight, PX9_readHill, PX9_readHouse, PX9_readPerson, PX9_readThing, PX9_takeFirst, PX9_takeNewName, PX9_takeOnce]
def zPT10 : List (List (List (Option Op0))) := [PX10_afterRound, PX10_allSeenByTwo, PX10_alone, PX10_best, PX10_build, PX10_carry, PX10_cost, PX10_count, PX10_cut, PX10_cutBy, PX10_draw, PX10_feed, PX10_fillLacks, PX10_findRest, PX10_firstGone, PX10_firstRests, PX10_fits, PX10_flight, PX10_floorsBetween, PX10_go, PX10_judged, PX10_live, PX10_mark, PX10_night, PX10_nights, PX10_orders, PX10_passDrawnNight, PX10_person, PX10_plan, PX10_post, PX10_reach, [], PX10_secondRests, PX10_see, PX10_seersOf, PX10_steal, PX10_thefts, PX10_thing, PX10_town, PX10_undo, PX10_watch, PX10_years]
def zPT11 : List (List (List (Option Op0))) := [PX11_above, PX11_allFlights, PX11_alone, PX11_away, PX11_best, PX11_between, PX11_bits, PX11_build, PX11_builds, PX11_canBuild, PX11_canCarry, PX11_canGo, PX11_canServe, PX11_canSteal, PX11_carries, PX11_carry, PX11_climbs, PX11_closes, PX11_copies, PX11_cost, PX11_count, PX11_cut, PX11_cutBy, PX11_draws, PX11_fact, PX11_fails, PX11_feed, PX11_fills, PX11_fits, PX11_flight, PX11_flightOf, PX11_floorsAway, PX11_fresh, PX11_go, PX11_goes, PX11_houseNamed, PX11_isAsSeen, PX11_isCut, PX11_isFirst, PX11_isFlight, PX11_isFromTop, PX11_isHill, PX11_isKept, PX11_isNew, PX11_isPerson, PX11_isPlace, PX11_isRest, PX11_isSign, PX11_isThing, PX11_isTwice, PX11_isWatched, PX11_isWord, PX11_judged, PX11_keeps, PX11_lays, PX11_laysLines, PX11_laysOdds, PX11_laysSeen, PX11_laysServed, PX11_lessens, PX11_live, PX11_liveOf, PX11_livesNight, PX11_lowerOf, PX11_mark, PX11_moves, PX11_movesNames, PX11_named, PX11_needsBoth, PX11_needsFlight, PX11_needsNumber, PX11_needsPlace, PX11_needsTold, PX11_needsWord, PX11_nextToken, PX11_night, PX11_nights, PX11_opens, PX11_orders, PX11_payOf, PX11_person, PX11_personNamed, PX11_plan, PX11_post, PX11_priceOf, PX11_puts, PX11_reach, PX11_reachOf, PX11_reads, PX11_readsAll, PX11_readsFlight, PX11_readsHill, PX11_readsHouse, PX11_readsLine, PX11_readsOne, PX11_readsPerson, PX11_readsPrice, PX11_readsThing, PX11_rests, PX11_riseOf, PX11_see, PX11_seeks, PX11_signAt, PX11_spreads, PX11_starts, PX11_steal, PX11_steals, PX11_streets, PX11_sums, PX11_tests, PX11_thefts, PX11_thing, PX11_thingNamed, PX11_town, PX11_undo, PX11_watch, PX11_watches, PX11_within, PX11_worked, PX11_worthTo, PX11_years]
def zPT12 : List (List (List (Option Op0))) := [PJ6_bitCount_0f7a4]
def zPT13 : List (List (List (Option Op0))) := [PJ7_fill_53178, PJ7_fill_d0a16]
def zPT : List (List (List (List (Option Op0)))) := [zPT0, zPT1, zPT2, zPT3, zPT4, zPT5, zPT6, zPT7, zPT8, zPT9, zPT10, zPT11, zPT12, zPT13]
def zPl (k : Nat) : List (List (Option Op0)) := (zPT[k / 128]?.getD [])[k % 128]?.getD []
def zP (k : Nat) : Nat → Option Op0 := Pt (zPl k)
def zEl : List (List (Nat × Nat)) := [[], [(27, 1)], [], [(55, 3)], [], [(32, 5)], [(46, 5), (99, 1), (104, 0)], [(78, 4)], [(100, 1), (106, 0)], [], [(311, 2)], [(526, 0)], [], []]
def zE (k : Nat) : Nat → Option Nat := pm_lk ((zEl[k / 128]?).getD [])
def zNT : List (List Nat) := [[4, 2, 8, 6, 4], [1, 2, 2], [3, 4, 4], [11, 4, 7, 5, 4, 1, 1, 1], [2, 1, 1, 1, 1, 2, 3, 7, 6, 7], [3, 1, 2, 5, 3], [3, 3, 5, 7, 2, 4, 4, 3, 4, 6, 4, 6], [1, 1, 2, 2, 6, 1, 1, 1, 1, 2, 2, 1, 6, 1, 1, 1, 4, 4, 2, 4, 2, 3], [5, 3, 1, 1, 2, 5, 5, 4, 2, 4, 3, 2, 2, 4, 2, 4, 6, 3, 5, 5, 4], [1, 3, 6, 7, 5, 9, 7, 3, 4, 2], [6, 3, 3, 8, 3, 5, 6, 2, 1, 4, 2, 7, 3, 7, 3, 5, 7, 3, 2, 4, 5, 4, 3, 1, 2, 3, 2, 3, 6, 7, 5, 6, 5, 5, 7, 3, 9, 2, 3, 1, 4, 6], [4, 1, 4, 2, 7, 3, 3, 2, 2, 2, 4, 3, 4, 2, 4, 4, 8, 1, 5, 8, 2, 1, 4, 2, 1, 2, 11, 7, 7, 3, 5, 2, 2, 3, 4, 2, 4, 4, 2, 2, 3, 2, 1, 1, 2, 2, 7, 2, 2, 2, 5, 3, 6, 2, 1, 4, 6, 4, 4, 3, 4, 5, 3, 2, 5, 3, 3, 6, 5, 2, 3, 3, 3, 3, 2, 1, 1, 2, 5, 4, 3, 2, 5, 9, 3, 2, 2, 2, 6, 2, 3, 4, 4, 3, 3, 4, 1, 4, 7, 4, 4, 6, 2, 8, 1, 2, 3, 3, 2, 3, 7, 2, 2, 2, 1, 3, 4, 3, 6, 3, 6], [1], [4, 5]]
def zNL (k : Nat) : Nat := (zNT[k / 128]?.getD [])[k % 128]?.getD 0
def zgo : Nat → (Nat → Option Nat) → (Nat → Option Op0) → Zc → Option Zr
  | 0, _, _, _ => none
  | n + 1, E, P, z => match P z.1 with
    | none => none
    | some o => znx E (fun k as s => zgo n (zE k) (zP k) (0, zlo (zNL k) as, [], s)) o z.2 (fun t m => zgo n E P (t, m))
/-- more steps change nothing -/
theorem zsw_mono {go go' : Nat → Option Zr} {x : Int} {d : Nat} {p : Zr} (hg : ∀ t q, go t = some q → go' t = some q) : ∀ (lo : Int) (ts : List Nat), zsw go x d lo ts = some p → zsw go' x d lo ts = some p
  | _, [], h => hg _ _ h
  | lo, t :: ts, h => by
    unfold zsw at h ⊢
    split at h
    · rename_i hc
      rw [if_pos hc]
      exact hg _ _ h
    · rename_i hc
      rw [if_neg hc]
      exact zsw_mono hg (lo + 1) ts h
theorem zif_mono {q : Nat} {x y : Int} {a b a' b' : Option Zr} {p : Zr} (ha : ∀ r, a = some r → a' = some r) (hb : ∀ r, b = some r → b' = some r) (h : zif q x y a b = some p) : zif q x y a' b' = some p := by
  unfold zif at h ⊢
  split at h <;> (split at h <;> rename_i hc <;> first | (rw [if_pos hc]; first | exact ha _ h | exact hb _ h) | (rw [if_neg hc]; first | exact ha _ h | exact hb _ h))
set_option maxHeartbeats 4000000 in
theorem znx_mono {E : Nat → Option Nat} {cl cl' : Nat → List Zv → Zs → Option Zr} {o : Op0} {m : Zm} {go go' : Nat → Zm → Option Zr} {p : Zr} (hc : ∀ k as s q, cl k as s = some q → cl' k as s = some q) (hg : ∀ t m q, go t m = some q → go' t m = some q) (h : znx E cl o m go = some p) : znx E cl' o m go' = some p := by
  unfold znx at h ⊢
  split at h
  all_goals first
    | exact hg _ _ _ h
    | (split at h <;> first | exact hg _ _ _ h | (cases h; done) | exact zif_mono (fun r => hg _ _ r) (fun r => hg _ _ r) h | exact zsw_mono (fun t q => hg _ _ q) _ _ h | (split at h <;> first | exact hg _ _ _ h | (cases h; done)))
    | (obtain ⟨q, h1, h2⟩ := Option.bind_eq_some_iff.mp h; rw [hc _ _ _ _ h1]; exact hg _ _ _ h2)
    | exact h
theorem zif_end {R : Zr → Prop} {q : Nat} {x y : Int} {a b : Option Zr} {p : Zr} (ha : ∀ r, a = some r → R r) (hb : ∀ r, b = some r → R r) (h : zif q x y a b = some p) : R p := by
  unfold zif at h
  split at h <;> (split at h <;> first | exact ha _ h | exact hb _ h)
theorem zsw_end {R : Zr → Prop} {go : Nat → Option Zr} {x : Int} {d : Nat} {p : Zr} (hg : ∀ t q, go t = some q → R q) : ∀ (lo : Int) (ts : List Nat), zsw go x d lo ts = some p → R p
  | _, [], h => hg _ _ h
  | lo, t :: ts, h => by
    unfold zsw at h
    split at h
    · exact hg _ _ h
    · exact zsw_end hg (lo + 1) ts h
set_option maxHeartbeats 4000000 in
theorem znx_end {R : Zr → Prop} {E : Nat → Option Nat} {cl : Nat → List Zv → Zs → Option Zr} {o : Op0} {m : Zm} {go : Nat → Zm → Option Zr} {p : Zr} (hg : ∀ t m q, go t m = some q → R q) (hr : o.1 = 22 → ∀ q : Zr, (if o.2.2.1 = 2 then [] else m.2.1.take 1, m.2.2) = q → R q) (h : znx E cl o m go = some p) : R p := by
  unfold znx at h
  split at h
  all_goals first
    | exact hg _ _ _ h
    | (split at h <;> first | exact hg _ _ _ h | (cases h; done) | exact zif_end (fun r => hg _ _ r) (fun r => hg _ _ r) h | exact zsw_end (fun t q => hg _ _ q) _ _ h | (split at h <;> first | exact hg _ _ _ h | (cases h; done)))
    | (obtain ⟨q, h1, h2⟩ := Option.bind_eq_some_iff.mp h; exact hg _ _ _ h2)
    | exact hr (by assumption) _ (Option.some.inj h)
    | cases h
theorem zgo_1 : ∀ (n : Nat) (E : Nat → Option Nat) (P : Nat → Option Op0) (z : Zc) (p : Zr), zgo n E P z = some p → zgo (n + 1) E P z = some p
  | 0, _, _, _, _, h => by cases h
  | n + 1, E, P, z, p, h => by
    unfold zgo at h ⊢
    split at h
    · cases h
    · exact znx_mono (fun k as s q => zgo_1 n _ _ _ q) (fun t m q => zgo_1 n _ _ _ q) h
theorem zgo_le {n m : Nat} {E : Nat → Option Nat} {P : Nat → Option Op0} {z : Zc} {p : Zr} (h : zgo n E P z = some p) (hm : n ≤ m) : zgo m E P z = some p := by
  induction hm with
  | refl => exact h
  | step _ ih => exact zgo_1 _ _ _ _ _ ih
/-- whatever ends within n steps answers so -/
def zT (E : Nat → Option Nat) (P : Nat → Option Op0) (n : Nat) (z : Zc) (Q : Zr → Prop) : Prop := ∀ m p, m ≤ n → zgo m E P z = some p → Q p
def zC (n k : Nat) (as : List Zv) (s : Zs) (Q : Zr → Prop) : Prop := zT (zE k) (zP k) n (0, zlo (zNL k) as, [], s) Q
section Zr
variable {E : Nat → Option Nat} {P : Nat → Option Op0} {n pc : Nat} {L : List Int} {st : List Zv} {s : Zs} {Q : Zr → Prop}
theorem zT_le {m : Nat} {z : Zc} (h : zT E P n z Q) (hm : m ≤ n) : zT E P m z Q := fun a p ha hp => h a p (Nat.le_trans ha hm) hp
theorem zT_q {z : Zc} {Q' : Zr → Prop} (h : zT E P n z Q') (hq : ∀ p, Q' p → Q p) : zT E P n z Q := fun a p ha hp => hq p (h a p ha hp)
theorem zC_q {k : Nat} {as : List Zv} {Q' : Zr → Prop} (h : zC n k as s Q') (hq : ∀ p, Q' p → Q p) : zC n k as s Q := zT_q h hq
theorem zC_le {m k : Nat} {as : List Zv} (h : zC n k as s Q) (hm : m ≤ n) : zC m k as s Q := zT_le h hm
theorem zT_1 {o : Op0} {m m' : Zm} {pc' : Nat} (hP : P pc = some o) (hz : ∀ cl go, znx E cl o m go = go pc' m') (h : ∀ n', n' < n → zT E P n' (pc', m') Q) : zT E P n (pc, m) Q := by
  intro a p ha hp
  cases a with
  | zero => cases hp
  | succ a =>
    unfold zgo at hp
    dsimp only at hp
    rw [hP] at hp
    dsimp only at hp
    rw [hz] at hp
    exact h a (by omega) a p (Nat.le_refl a) hp
theorem zT_s {o : Op0} {m m' : Zm} {pc' : Nat} (hP : P pc = some o) (hz : ∀ cl go, znx E cl o m go = go pc' m') (h : zT E P n (pc', m') Q) : zT E P n (pc, m) Q :=
  zT_1 hP hz (fun n' hn => zT_le h (by omega))
variable {w b i t nx g g' c : Nat} {z x y v : Int} {ls : List Nat}
theorem tK (hP : P pc = some (0, w, b, z, nx, ls)) (h : zT E P n (nx, L, (z, 0) :: st, s) Q) : zT E P n (pc, L, st, s) Q := zT_s hP (fun _ _ => rfl) h
theorem tKL (hP : P pc = some (1, w, b, z, nx, ls)) (h : zT E P n (nx, L, (z, 1) :: st, s) Q) : zT E P n (pc, L, st, s) Q := zT_s hP (fun _ _ => rfl) h
theorem tKR (hP : P pc = some (2, w, b, z, nx, ls)) (h : zT E P n (nx, L, ((w : Int), 0) :: st, s) Q) : zT E P n (pc, L, st, s) Q := zT_s hP (fun _ _ => rfl) h
/-- a local comes onto the stack (its kind by the instruction) -/
theorem tL (x : Int) (g : Nat) (hP : P pc = some (3, i, b, z, nx, ls)) (hL : L.getD i 0 = x) (hg : (if b = 1 then 1 else 0) = g) (h : zT E P n (nx, L, (x, g) :: st, s) Q) : zT E P n (pc, L, st, s) Q := by
  subst hL
  subst hg
  exact zT_s hP (fun _ _ => rfl) h
theorem tS (L' : List Int) (hP : P pc = some (4, i, b, z, nx, ls)) (hL : L.set i x = L') (h : zT E P n (nx, L', st, s) Q) : zT E P n (pc, L, (x, g) :: st, s) Q := by
  subst hL
  exact zT_s hP (fun _ _ => rfl) h
theorem tB (hP : P pc = some (5, w, b, z, nx, ls)) (hv : zii b x y = v) (h : zT E P n (nx, L, (v, 0) :: st, s) Q) : zT E P n (pc, L, (y, g) :: (x, g') :: st, s) Q := by
  subst hv
  exact zT_s hP (fun _ _ => rfl) h
theorem tM (hP : P pc = some (27, w, b, z, nx, ls)) (hv : zii b x y = v) (h : zT E P n (nx, L, (v, 0) :: st, s) Q) : zT E P n (pc, L, (y, g) :: (x, g') :: st, s) Q := by
  subst hv
  exact zT_s hP (fun _ _ => rfl) h
theorem tBL (hP : P pc = some (6, w, b, z, nx, ls)) (hv : zll b x y = v) (h : zT E P n (nx, L, (v, 1) :: st, s) Q) : zT E P n (pc, L, (y, g) :: (x, g') :: st, s) Q := by
  subst hv
  exact zT_s hP (fun _ _ => rfl) h
theorem tBI (hP : P pc = some (25, w, b, z, nx, ls)) (hv : zli b x y = v) (h : zT E P n (nx, L, (v, 1) :: st, s) Q) : zT E P n (pc, L, (y, g) :: (x, g') :: st, s) Q := by
  subst hv
  exact zT_s hP (fun _ _ => rfl) h
theorem tU0 (hP : P pc = some (7, w, 0, z, nx, ls)) (h : zT E P n (nx, L, (zq_neg x, 0) :: st, s) Q) : zT E P n (pc, L, (x, g) :: st, s) Q := zT_s hP (fun _ _ => rfl) h
theorem tU1 (hP : P pc = some (7, w, 1, z, nx, ls)) (h : zT E P n (nx, L, (x, 1) :: st, s) Q) : zT E P n (pc, L, (x, g) :: st, s) Q := zT_s hP (fun _ _ => rfl) h
theorem tU2 (hP : P pc = some (7, w, 2, z, nx, ls)) (h : zT E P n (nx, L, (zi2b x, 0) :: st, s) Q) : zT E P n (pc, L, (x, g) :: st, s) Q := zT_s hP (fun _ _ => rfl) h
theorem tU3 (hP : P pc = some (7, w, 3, z, nx, ls)) (h : zT E P n (nx, L, (zi2c x, 0) :: st, s) Q) : zT E P n (pc, L, (x, g) :: st, s) Q := zT_s hP (fun _ _ => rfl) h
theorem tLI (hP : P pc = some (26, w, b, z, nx, ls)) (h : zT E P n (nx, L, (zl2i x, 0) :: st, s) Q) : zT E P n (pc, L, (x, g) :: st, s) Q := zT_s hP (fun _ _ => rfl) h
theorem tC (hP : P pc = some (8, w, b, z, nx, ls)) (h : zT E P n (nx, L, (zcmpL x y, 0) :: st, s) Q) : zT E P n (pc, L, (y, g) :: (x, g') :: st, s) Q := zT_s hP (fun _ _ => rfl) h
theorem tD (hP : P pc = some (9, w, b, z, nx, ls)) (h : zT E P n (nx, L, (x, g) :: (x, g) :: st, s) Q) : zT E P n (pc, L, (x, g) :: st, s) Q := zT_s hP (fun _ _ => rfl) h
theorem tPop (hP : P pc = some (10, w, b, z, nx, ls)) (h : zT E P n (nx, L, st, s) Q) : zT E P n (pc, L, (x, g) :: st, s) Q := zT_s hP (fun _ _ => rfl) h
theorem tD2 (hP : P pc = some (11, w, b, z, nx, ls)) (h : zT E P n (nx, L, (y, g) :: (x, g') :: (y, g) :: (x, g') :: st, s) Q) : zT E P n (pc, L, (y, g) :: (x, g') :: st, s) Q := zT_s hP (fun _ _ => rfl) h
theorem tG (hP : P pc = some (12, w, b, z, nx, ls)) (h : zT E P n (nx, L, st, s) Q) : zT E P n (pc, L, st, s) Q := zT_s hP (fun _ _ => rfl) h
/-- any step to a place where the run is cut: fewer steps are left -/
theorem tX (h : ∀ m, m < n + 1 → zT E P m (pc, L, st, s) Q) : zT E P n (pc, L, st, s) Q := h n (by omega)
theorem tGb (hP : P pc = some (12, w, b, z, nx, ls)) (h : ∀ m, m < n → zT E P m (nx, L, st, s) Q) : zT E P n (pc, L, st, s) Q := zT_1 hP (fun _ _ => rfl) h
/-- tests: both ways, with one step less -/
theorem tI0 (hP : P pc = some (13, t, 0, z, nx, ls)) (h1 : x = 0 → ∀ m, m < n → zT E P m (t, L, st, s) Q) (h2 : x ≠ 0 → ∀ m, m < n → zT E P m (nx, L, st, s) Q) : zT E P n (pc, L, (x, g) :: st, s) Q := by
  by_cases hc : x = 0
  · exact zT_1 hP (fun _ _ => if_pos hc) (h1 hc)
  · exact zT_1 hP (fun _ _ => if_neg hc) (h2 hc)
theorem tI1 (hP : P pc = some (13, t, 1, z, nx, ls)) (h1 : x ≠ 0 → ∀ m, m < n → zT E P m (t, L, st, s) Q) (h2 : x = 0 → ∀ m, m < n → zT E P m (nx, L, st, s) Q) : zT E P n (pc, L, (x, g) :: st, s) Q := by
  by_cases hc : x = 0
  · exact zT_1 hP (fun _ _ => if_pos hc) (h2 hc)
  · exact zT_1 hP (fun _ _ => if_neg hc) (h1 hc)
theorem tI2 (hP : P pc = some (13, t, 2, z, nx, ls)) (h1 : x < 0 → ∀ m, m < n → zT E P m (t, L, st, s) Q) (h2 : 0 ≤ x → ∀ m, m < n → zT E P m (nx, L, st, s) Q) : zT E P n (pc, L, (x, g) :: st, s) Q := by
  by_cases hc : x < 0
  · exact zT_1 hP (fun _ _ => if_pos hc) (h1 hc)
  · exact zT_1 hP (fun _ _ => if_neg hc) (h2 (by omega))
theorem tI3 (hP : P pc = some (13, t, 3, z, nx, ls)) (h1 : 0 ≤ x → ∀ m, m < n → zT E P m (t, L, st, s) Q) (h2 : x < 0 → ∀ m, m < n → zT E P m (nx, L, st, s) Q) : zT E P n (pc, L, (x, g) :: st, s) Q := by
  by_cases hc : x < 0
  · exact zT_1 hP (fun _ _ => if_pos hc) (h2 hc)
  · exact zT_1 hP (fun _ _ => if_neg hc) (h1 (by omega))
theorem tI4 (hP : P pc = some (13, t, 4, z, nx, ls)) (h1 : 0 < x → ∀ m, m < n → zT E P m (t, L, st, s) Q) (h2 : x ≤ 0 → ∀ m, m < n → zT E P m (nx, L, st, s) Q) : zT E P n (pc, L, (x, g) :: st, s) Q := by
  by_cases hc : 0 < x
  · exact zT_1 hP (fun _ _ => if_pos hc) (h1 hc)
  · exact zT_1 hP (fun _ _ => if_neg hc) (h2 (by omega))
theorem tI5 (hP : P pc = some (13, t, 5, z, nx, ls)) (h1 : x ≤ 0 → ∀ m, m < n → zT E P m (t, L, st, s) Q) (h2 : 0 < x → ∀ m, m < n → zT E P m (nx, L, st, s) Q) : zT E P n (pc, L, (x, g) :: st, s) Q := by
  by_cases hc : 0 < x
  · exact zT_1 hP (fun _ _ => if_pos hc) (h2 hc)
  · exact zT_1 hP (fun _ _ => if_neg hc) (h1 (by omega))
theorem tJ0 (hP : P pc = some (14, t, 0, z, nx, ls)) (h1 : x = y → ∀ m, m < n → zT E P m (t, L, st, s) Q) (h2 : x ≠ y → ∀ m, m < n → zT E P m (nx, L, st, s) Q) : zT E P n (pc, L, (y, g) :: (x, g') :: st, s) Q := by
  by_cases hc : x = y
  · exact zT_1 hP (fun _ _ => if_pos hc) (h1 hc)
  · exact zT_1 hP (fun _ _ => if_neg hc) (h2 hc)
theorem tJ1 (hP : P pc = some (14, t, 1, z, nx, ls)) (h1 : x ≠ y → ∀ m, m < n → zT E P m (t, L, st, s) Q) (h2 : x = y → ∀ m, m < n → zT E P m (nx, L, st, s) Q) : zT E P n (pc, L, (y, g) :: (x, g') :: st, s) Q := by
  by_cases hc : x = y
  · exact zT_1 hP (fun _ _ => if_pos hc) (h2 hc)
  · exact zT_1 hP (fun _ _ => if_neg hc) (h1 hc)
theorem tJ2 (hP : P pc = some (14, t, 2, z, nx, ls)) (h1 : x < y → ∀ m, m < n → zT E P m (t, L, st, s) Q) (h2 : y ≤ x → ∀ m, m < n → zT E P m (nx, L, st, s) Q) : zT E P n (pc, L, (y, g) :: (x, g') :: st, s) Q := by
  by_cases hc : x < y
  · exact zT_1 hP (fun _ _ => if_pos hc) (h1 hc)
  · exact zT_1 hP (fun _ _ => if_neg hc) (h2 (by omega))
theorem tJ3 (hP : P pc = some (14, t, 3, z, nx, ls)) (h1 : y ≤ x → ∀ m, m < n → zT E P m (t, L, st, s) Q) (h2 : x < y → ∀ m, m < n → zT E P m (nx, L, st, s) Q) : zT E P n (pc, L, (y, g) :: (x, g') :: st, s) Q := by
  by_cases hc : x < y
  · exact zT_1 hP (fun _ _ => if_pos hc) (h2 hc)
  · exact zT_1 hP (fun _ _ => if_neg hc) (h1 (by omega))
theorem tJ4 (hP : P pc = some (14, t, 4, z, nx, ls)) (h1 : y < x → ∀ m, m < n → zT E P m (t, L, st, s) Q) (h2 : x ≤ y → ∀ m, m < n → zT E P m (nx, L, st, s) Q) : zT E P n (pc, L, (y, g) :: (x, g') :: st, s) Q := by
  by_cases hc : y < x
  · exact zT_1 hP (fun _ _ => if_pos hc) (h1 hc)
  · exact zT_1 hP (fun _ _ => if_neg hc) (h2 (by omega))
theorem tJ5 (hP : P pc = some (14, t, 5, z, nx, ls)) (h1 : x ≤ y → ∀ m, m < n → zT E P m (t, L, st, s) Q) (h2 : y < x → ∀ m, m < n → zT E P m (nx, L, st, s) Q) : zT E P n (pc, L, (y, g) :: (x, g') :: st, s) Q := by
  by_cases hc : y < x
  · exact zT_1 hP (fun _ _ => if_pos hc) (h2 hc)
  · exact zT_1 hP (fun _ _ => if_neg hc) (h1 (by omega))
theorem zW_d (hP : P pc = some (15, w, b, z, nx, ls)) (h : ∀ {α : Type} (go : Nat → α), zsw go x nx z ls = go t) (k : ∀ m, m < n → zT E P m (t, L, st, s) Q) : zT E P n (pc, L, (x, g) :: st, s) Q := zT_1 hP (fun _ _ => h _) k
/-- a switch, one case at a time -/
theorem tW (hP : P pc = some (15, w, b, z, nx, ls)) (hs : ∀ t, (∀ (go : Nat → Option Zr), zsw go x nx z ls = go t) → ∀ m, m < n → zT E P m (t, L, st, s) Q) (he : ∃ t, ∀ (go : Nat → Option Zr), zsw go x nx z ls = go t) : zT E P n (pc, L, (x, g) :: st, s) Q := by
  obtain ⟨t, ht⟩ := he
  exact zT_1 hP (fun _ _ => ht _) (hs t ht)
theorem tInc (L' : List Int) (hP : P pc = some (16, i, w, z, nx, ls)) (hL : L.set i (w32 (L.getD i 0 + z)) = L') (h : zT E P n (nx, L', st, s) Q) : zT E P n (pc, L, st, s) Q := by
  subst hL
  exact zT_s hP (fun _ _ => rfl) h
theorem tF (g' : Nat) (hP : P pc = some (17, w, b, z, nx, ls)) (hc : x.toNat = c) (hf : zfin w b = false) (hg : zcat w b = g') (h : zT E P n (nx, L, (s c b, g') :: st, s) Q) : zT E P n (pc, L, (x, g) :: st, s) Q := by
  subst hc
  subst hg
  refine zT_s (m' := (L, (s x.toNat b, zcat w b) :: st, s)) hP (fun cl go => ?_) h
  show go nx _ = _
  dsimp only
  rw [hf]
  rfl
theorem tFv (v : Int) (g' : Nat) (hP : P pc = some (17, w, b, z, nx, ls)) (hc : x.toNat = c) (hf : zfin w b = false) (hg : zcat w b = g') (hv : s c b = v) (h : zT E P n (nx, L, (v, g') :: st, s) Q) : zT E P n (pc, L, (x, g) :: st, s) Q := by
  subst hv
  exact tF g' hP hc hf hg h
theorem tFR (r : Nat) (hP : P pc = some (17, w, b, z, nx, ls)) (hc : x.toNat = c) (hf : zfin w b = true) (hg : zcat w b = 0) (hr : zrho c b = r) (h : zT E P n (nx, L, ((r : Int), 0) :: st, s) Q) : zT E P n (pc, L, (x, g) :: st, s) Q := by
  subst hc
  subst hr
  refine zT_s (m' := (L, ((zrho x.toNat b : Nat), 0) :: st, s)) hP (fun cl go => ?_) h
  show go nx _ = _
  dsimp only
  rw [hf, hg]
  rfl
theorem tPut (c : Nat) (hP : P pc = some (18, w, b, z, nx, ls)) (hc : x.toNat = c) (h : zT E P n (nx, L, st, zu s c b v) Q) : zT E P n (pc, L, (v, g) :: (x, g') :: st, s) Q := by
  subst hc
  exact zT_s hP (fun _ _ => rfl) h
theorem tA (c : Nat) (i : Nat) (g1 : Nat) (hP : P pc = some (19, w, b, z, nx, ls)) (hc : x.toNat = c) (hi : y.toNat = i) (hb : b ≠ 9) (hg : (if b = 1 then 1 else 0) = g1) (h : zT E P n (nx, L, (s c i, g1) :: st, s) Q) : zT E P n (pc, L, (y, g) :: (x, g') :: st, s) Q := by
  subst hc
  subst hi
  subst hg
  refine zT_s (m' := (L, (s x.toNat y.toNat, if b = 1 then 1 else 0) :: st, s)) hP (fun cl go => ?_) h
  show go nx _ = _
  dsimp only
  rw [if_neg hb]
theorem tAv (c : Nat) (i : Nat) (v : Int) (g1 : Nat) (hP : P pc = some (19, w, b, z, nx, ls)) (hc : x.toNat = c) (hi : y.toNat = i) (hb : b ≠ 9) (hg : (if b = 1 then 1 else 0) = g1) (hv : s c i = v) (h : zT E P n (nx, L, (v, g1) :: st, s) Q) : zT E P n (pc, L, (y, g) :: (x, g') :: st, s) Q := by
  subst hv
  exact tA c i g1 hP hc hi hb hg h
theorem tAR (r : Nat) (hP : P pc = some (19, w, 9, z, nx, ls)) (hr : zrho x.toNat y.toNat = r) (h : zT E P n (nx, L, ((r : Int), 0) :: st, s) Q) : zT E P n (pc, L, (y, g) :: (x, g') :: st, s) Q := by
  subst hr
  exact zT_s hP (fun _ _ => rfl) h
theorem tAS (c i : Nat) {g2 : Nat} (hP : P pc = some (20, w, b, z, nx, ls)) (hc : x.toNat = c) (hi : y.toNat = i) (hb : b = 0 ∨ b = 1) (h : zT E P n (nx, L, st, zu s c i v) Q) : zT E P n (pc, L, (v, g) :: (y, g') :: (x, g2) :: st, s) Q := by
  subst hc
  subst hi
  refine zT_s (m' := (L, st, zu s x.toNat y.toNat v)) hP (fun cl go => ?_) h
  show go nx _ = _
  dsimp only
  rw [if_neg (by omega), if_neg (by omega)]
theorem tAS2 (c i : Nat) {g2 : Nat} (hP : P pc = some (20, w, 2, z, nx, ls)) (hc : x.toNat = c) (hi : y.toNat = i) (h : zT E P n (nx, L, st, zu s c i (zst2 v)) Q) : zT E P n (pc, L, (v, g) :: (y, g') :: (x, g2) :: st, s) Q := by
  subst hc
  subst hi
  exact zT_s hP (fun _ _ => rfl) h
theorem tAS3 (c i : Nat) {g2 : Nat} (hP : P pc = some (20, w, 3, z, nx, ls)) (hc : x.toNat = c) (hi : y.toNat = i) (h : zT E P n (nx, L, st, zu s c i (zst3 v)) Q) : zT E P n (pc, L, (v, g) :: (y, g') :: (x, g2) :: st, s) Q := by
  subst hc
  subst hi
  exact zT_s hP (fun _ _ => rfl) h
theorem tN (l : Int) (hP : P pc = some (21, w, b, z, nx, ls)) (hl : zq_len x.toNat = l) (h : zT E P n (nx, L, (l, 0) :: st, s) Q) : zT E P n (pc, L, (x, g) :: st, s) Q := by
  subst hl
  exact zT_s hP (fun _ _ => rfl) h
theorem tR (hP : P pc = some (22, w, b, z, nx, ls)) (h : Q (if b = 2 then [] else st.take 1, s)) : zT E P n (pc, L, st, s) Q := by
  intro a p ha hp
  cases a with
  | zero => cases hp
  | succ a =>
    unfold zgo at hp
    dsimp only at hp
    rw [hP] at hp
    cases hp
    exact h
/-- what a method without an answer leaves: nothing -/
theorem zT_void (hv : ∀ pc o, P pc = some o → o.1 = 22 → o.2.2.1 = 2) : ∀ (n : Nat) (z : Zc), zT E P n z (fun p => p.1 = []) := by
  intro n
  induction n with
  | zero =>
    intro z a p ha hp
    have : a = 0 := by omega
    subst this
    cases hp
  | succ n ih =>
    intro z a p ha hp
    cases a with
    | zero => cases hp
    | succ a =>
      unfold zgo at hp
      split at hp
      · cases hp
      · rename_i o ho
        have g : ∀ t m q, zgo a E P (t, m) = some q → q.1 = [] := fun t m q h => ih (t, m) a q (by omega) h
        exact znx_end (R := fun q => q.1 = []) g (fun h22 q hq => by rw [← hq, hv _ o ho h22]; rfl) hp
/-- a call: arguments, what is left below them -/
theorem tCall (as : List Zv) (st' : List Zv) (hP : P pc = some (23, w, b, z, nx, ls)) (ha : (st.take (b + z.toNat)).reverse = as) (hs : st.drop (b + z.toNat) = st') (h : ∀ m, m < n → zC m w as s (fun p => zT E P m (nx, L, p.1 ++ st', p.2) Q)) : zT E P n (pc, L, st, s) Q := by
  subst ha
  subst hs
  intro a p ha hp
  cases a with
  | zero => cases hp
  | succ a =>
    unfold zgo at hp
    dsimp only at hp
    rw [hP] at hp
    dsimp only [znx] at hp
    obtain ⟨q, h1, h2⟩ := Option.bind_eq_some_iff.mp hp
    exact h a (by omega) a q (Nat.le_refl a) h1 a p (Nat.le_refl a) h2
theorem tE0 (hP : P pc = some (24, w, b, z, nx, ls)) (he : E w = some 0) (h : zT E P n (nx, L, (if x < y then y else x, 0) :: st, s) Q) : zT E P n (pc, L, (y, g) :: (x, g') :: st, s) Q :=
  zT_s (m' := (L, (if x < y then y else x, 0) :: st, s)) hP (fun cl go => by dsimp only [znx]; rw [he]; rfl) h
theorem tE1 (hP : P pc = some (24, w, b, z, nx, ls)) (he : E w = some 1) (h : zT E P n (nx, L, (if y < x then y else x, 0) :: st, s) Q) : zT E P n (pc, L, (y, g) :: (x, g') :: st, s) Q :=
  zT_s (m' := (L, (if y < x then y else x, 0) :: st, s)) hP (fun cl go => by dsimp only [znx]; rw [he]; rfl) h
theorem tE2 (hP : P pc = some (24, w, b, z, nx, ls)) (he : E w = some 2) (h : zT E P n (nx, L, (if 0 ≤ x then x else w32 (0 - x), 0) :: st, s) Q) : zT E P n (pc, L, (x, g) :: st, s) Q :=
  zT_s (m' := (L, (if 0 ≤ x then x else w32 (0 - x), 0) :: st, s)) hP (fun cl go => by dsimp only [znx]; rw [he]; rfl) h
theorem tE3 (hP : P pc = some (24, w, b, z, nx, ls)) (he : E w = some 3) (h : zT E P n (nx, L, (if y < x then x else y, 1) :: st, s) Q) : zT E P n (pc, L, (y, g) :: (x, g') :: st, s) Q :=
  zT_s (m' := (L, (if y < x then x else y, 1) :: st, s)) hP (fun cl go => by dsimp only [znx]; rw [he]; rfl) h
theorem tE4 (hP : P pc = some (24, w, b, z, nx, ls)) (he : E w = some 4) (h : zT E P n (nx, L, (zsgn x, 0) :: st, s) Q) : zT E P n (pc, L, (x, g) :: (y, g') :: st, s) Q :=
  zT_s (m' := (L, (zsgn x, 0) :: st, s)) hP (fun cl go => by dsimp only [znx]; rw [he]; rfl) h
theorem tE5 {k p0 q0 d a : Int} {g1 g2 g3 : Nat} (d' a' k' : Nat) (hP : P pc = some (24, w, b, z, nx, ls)) (he : E w = some 5) (hd : d.toNat = d') (ha : a.toNat = a') (hk : k.toNat = k') (h : zT E P n (nx, L, st, zcpy s a' d' k') Q) : zT E P n (pc, L, (k, g) :: (p0, g') :: (d, g1) :: (q0, g2) :: (a, g3) :: st, s) Q := by
  subst hd
  subst ha
  subst hk
  exact zT_s (m' := (L, st, zcpy s a.toNat d.toNat k.toNat)) hP (fun cl go => by dsimp only [znx]; rw [he]; rfl) h
end Zr
