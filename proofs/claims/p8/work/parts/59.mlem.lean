/-! the lines of a town: the model, its smaller methods -/
theorem b_X11_isKept_0 {n : Nat} {Q : Zr → Prop} (s : Zs) 
    (h0 : ∀ (g1 : s 172 6 = 1), ∀ (g2 : zcmpL (s 172 7) 4562600 = 0), Q ([(1, 0)], s))
    (h1 : ∀ (g1 : s 172 6 = 1), ∀ (g2 : zcmpL (s 172 7) 4562600 ≠ 0), ∀ (g3 : zcmpL (s 172 7) 92777419 = 0), Q ([(1, 0)], s))
    (h2 : ∀ (g1 : s 172 6 = 1), ∀ (g2 : zcmpL (s 172 7) 4562600 ≠ 0), ∀ (g3 : zcmpL (s 172 7) 92777419 ≠ 0), ∀ (g4 : zcmpL (s 172 7) 92653220 = 0), Q ([(1, 0)], s))
    (h3 : ∀ (g1 : s 172 6 = 1), ∀ (g2 : zcmpL (s 172 7) 4562600 ≠ 0), ∀ (g3 : zcmpL (s 172 7) 92777419 ≠ 0), ∀ (g4 : zcmpL (s 172 7) 92653220 ≠ 0), ∀ (g5 : zcmpL (s 172 7) 361373 = 0), Q ([(1, 0)], s))
    (h4 : ∀ (g1 : s 172 6 = 1), ∀ (g2 : zcmpL (s 172 7) 4562600 ≠ 0), ∀ (g3 : zcmpL (s 172 7) 92777419 ≠ 0), ∀ (g4 : zcmpL (s 172 7) 92653220 ≠ 0), ∀ (g5 : zcmpL (s 172 7) 361373 ≠ 0), ∀ (g6 : zcmpL (s 172 7) 298288 = 0), Q ([(1, 0)], s))
    (h5 : ∀ (g1 : s 172 6 = 1), ∀ (g2 : zcmpL (s 172 7) 4562600 ≠ 0), ∀ (g3 : zcmpL (s 172 7) 92777419 ≠ 0), ∀ (g4 : zcmpL (s 172 7) 92653220 ≠ 0), ∀ (g5 : zcmpL (s 172 7) 361373 ≠ 0), ∀ (g6 : zcmpL (s 172 7) 298288 ≠ 0), ∀ (g7 : zcmpL (s 172 7) 10793230 = 0), Q ([(1, 0)], s))
    (h6 : ∀ (g1 : s 172 6 = 1), ∀ (g2 : zcmpL (s 172 7) 4562600 ≠ 0), ∀ (g3 : zcmpL (s 172 7) 92777419 ≠ 0), ∀ (g4 : zcmpL (s 172 7) 92653220 ≠ 0), ∀ (g5 : zcmpL (s 172 7) 361373 ≠ 0), ∀ (g6 : zcmpL (s 172 7) 298288 ≠ 0), ∀ (g7 : zcmpL (s 172 7) 10793230 ≠ 0), ∀ (g8 : zcmpL (s 172 7) 6559372 = 0), Q ([(1, 0)], s))
    (h7 : ∀ (g1 : s 172 6 = 1), ∀ (g2 : zcmpL (s 172 7) 4562600 ≠ 0), ∀ (g3 : zcmpL (s 172 7) 92777419 ≠ 0), ∀ (g4 : zcmpL (s 172 7) 92653220 ≠ 0), ∀ (g5 : zcmpL (s 172 7) 361373 ≠ 0), ∀ (g6 : zcmpL (s 172 7) 298288 ≠ 0), ∀ (g7 : zcmpL (s 172 7) 10793230 ≠ 0), ∀ (g8 : zcmpL (s 172 7) 6559372 ≠ 0), ∀ (g9 : zcmpL (s 172 7) 47 = 0), Q ([(1, 0)], s))
    (h8 : ∀ (g1 : s 172 6 = 1), ∀ (g2 : zcmpL (s 172 7) 4562600 ≠ 0), ∀ (g3 : zcmpL (s 172 7) 92777419 ≠ 0), ∀ (g4 : zcmpL (s 172 7) 92653220 ≠ 0), ∀ (g5 : zcmpL (s 172 7) 361373 ≠ 0), ∀ (g6 : zcmpL (s 172 7) 298288 ≠ 0), ∀ (g7 : zcmpL (s 172 7) 10793230 ≠ 0), ∀ (g8 : zcmpL (s 172 7) 6559372 ≠ 0), ∀ (g9 : zcmpL (s 172 7) 47 ≠ 0), ∀ (g10 : zcmpL (s 172 7) 232608281 = 0), Q ([(1, 0)], s))
    (h9 : ∀ (g1 : s 172 6 = 1), ∀ (g2 : zcmpL (s 172 7) 4562600 ≠ 0), ∀ (g3 : zcmpL (s 172 7) 92777419 ≠ 0), ∀ (g4 : zcmpL (s 172 7) 92653220 ≠ 0), ∀ (g5 : zcmpL (s 172 7) 361373 ≠ 0), ∀ (g6 : zcmpL (s 172 7) 298288 ≠ 0), ∀ (g7 : zcmpL (s 172 7) 10793230 ≠ 0), ∀ (g8 : zcmpL (s 172 7) 6559372 ≠ 0), ∀ (g9 : zcmpL (s 172 7) 47 ≠ 0), ∀ (g10 : zcmpL (s 172 7) 232608281 ≠ 0), ∀ (g11 : zcmpL (s 172 7) 9665171 = 0), Q ([(1, 0)], s))
    (h10 : ∀ (g1 : s 172 6 = 1), ∀ (g2 : zcmpL (s 172 7) 4562600 ≠ 0), ∀ (g3 : zcmpL (s 172 7) 92777419 ≠ 0), ∀ (g4 : zcmpL (s 172 7) 92653220 ≠ 0), ∀ (g5 : zcmpL (s 172 7) 361373 ≠ 0), ∀ (g6 : zcmpL (s 172 7) 298288 ≠ 0), ∀ (g7 : zcmpL (s 172 7) 10793230 ≠ 0), ∀ (g8 : zcmpL (s 172 7) 6559372 ≠ 0), ∀ (g9 : zcmpL (s 172 7) 47 ≠ 0), ∀ (g10 : zcmpL (s 172 7) 232608281 ≠ 0), ∀ (g11 : zcmpL (s 172 7) 9665171 ≠ 0), ∀ (g12 : zcmpL (s 172 7) 291595537 = 0), Q ([(1, 0)], s))
    (h11 : ∀ (g1 : s 172 6 = 1), ∀ (g2 : zcmpL (s 172 7) 4562600 ≠ 0), ∀ (g3 : zcmpL (s 172 7) 92777419 ≠ 0), ∀ (g4 : zcmpL (s 172 7) 92653220 ≠ 0), ∀ (g5 : zcmpL (s 172 7) 361373 ≠ 0), ∀ (g6 : zcmpL (s 172 7) 298288 ≠ 0), ∀ (g7 : zcmpL (s 172 7) 10793230 ≠ 0), ∀ (g8 : zcmpL (s 172 7) 6559372 ≠ 0), ∀ (g9 : zcmpL (s 172 7) 47 ≠ 0), ∀ (g10 : zcmpL (s 172 7) 232608281 ≠ 0), ∀ (g11 : zcmpL (s 172 7) 9665171 ≠ 0), ∀ (g12 : zcmpL (s 172 7) 291595537 ≠ 0), ∀ (g13 : zcmpL (s 172 7) 12253591 = 0), Q ([(1, 0)], s))
    (h12 : ∀ (g1 : s 172 6 = 1), ∀ (g2 : zcmpL (s 172 7) 4562600 ≠ 0), ∀ (g3 : zcmpL (s 172 7) 92777419 ≠ 0), ∀ (g4 : zcmpL (s 172 7) 92653220 ≠ 0), ∀ (g5 : zcmpL (s 172 7) 361373 ≠ 0), ∀ (g6 : zcmpL (s 172 7) 298288 ≠ 0), ∀ (g7 : zcmpL (s 172 7) 10793230 ≠ 0), ∀ (g8 : zcmpL (s 172 7) 6559372 ≠ 0), ∀ (g9 : zcmpL (s 172 7) 47 ≠ 0), ∀ (g10 : zcmpL (s 172 7) 232608281 ≠ 0), ∀ (g11 : zcmpL (s 172 7) 9665171 ≠ 0), ∀ (g12 : zcmpL (s 172 7) 291595537 ≠ 0), ∀ (g13 : zcmpL (s 172 7) 12253591 ≠ 0), ∀ (g14 : zcmpL (s 172 7) 164361 = 0), Q ([(1, 0)], s))
    (h13 : ∀ (g1 : s 172 6 = 1), ∀ (g2 : zcmpL (s 172 7) 4562600 ≠ 0), ∀ (g3 : zcmpL (s 172 7) 92777419 ≠ 0), ∀ (g4 : zcmpL (s 172 7) 92653220 ≠ 0), ∀ (g5 : zcmpL (s 172 7) 361373 ≠ 0), ∀ (g6 : zcmpL (s 172 7) 298288 ≠ 0), ∀ (g7 : zcmpL (s 172 7) 10793230 ≠ 0), ∀ (g8 : zcmpL (s 172 7) 6559372 ≠ 0), ∀ (g9 : zcmpL (s 172 7) 47 ≠ 0), ∀ (g10 : zcmpL (s 172 7) 232608281 ≠ 0), ∀ (g11 : zcmpL (s 172 7) 9665171 ≠ 0), ∀ (g12 : zcmpL (s 172 7) 291595537 ≠ 0), ∀ (g13 : zcmpL (s 172 7) 12253591 ≠ 0), ∀ (g14 : zcmpL (s 172 7) 164361 ≠ 0), ∀ (g15 : zcmpL (s 172 7) 316351 = 0), Q ([(1, 0)], s))
    (h14 : ∀ (g1 : s 172 6 = 1), ∀ (g2 : zcmpL (s 172 7) 4562600 ≠ 0), ∀ (g3 : zcmpL (s 172 7) 92777419 ≠ 0), ∀ (g4 : zcmpL (s 172 7) 92653220 ≠ 0), ∀ (g5 : zcmpL (s 172 7) 361373 ≠ 0), ∀ (g6 : zcmpL (s 172 7) 298288 ≠ 0), ∀ (g7 : zcmpL (s 172 7) 10793230 ≠ 0), ∀ (g8 : zcmpL (s 172 7) 6559372 ≠ 0), ∀ (g9 : zcmpL (s 172 7) 47 ≠ 0), ∀ (g10 : zcmpL (s 172 7) 232608281 ≠ 0), ∀ (g11 : zcmpL (s 172 7) 9665171 ≠ 0), ∀ (g12 : zcmpL (s 172 7) 291595537 ≠ 0), ∀ (g13 : zcmpL (s 172 7) 12253591 ≠ 0), ∀ (g14 : zcmpL (s 172 7) 164361 ≠ 0), ∀ (g15 : zcmpL (s 172 7) 316351 ≠ 0), ∀ (g16 : zcmpL (s 172 7) 161152 = 0), Q ([(1, 0)], s))
    (h15 : ∀ (g1 : s 172 6 = 1), ∀ (g2 : zcmpL (s 172 7) 4562600 ≠ 0), ∀ (g3 : zcmpL (s 172 7) 92777419 ≠ 0), ∀ (g4 : zcmpL (s 172 7) 92653220 ≠ 0), ∀ (g5 : zcmpL (s 172 7) 361373 ≠ 0), ∀ (g6 : zcmpL (s 172 7) 298288 ≠ 0), ∀ (g7 : zcmpL (s 172 7) 10793230 ≠ 0), ∀ (g8 : zcmpL (s 172 7) 6559372 ≠ 0), ∀ (g9 : zcmpL (s 172 7) 47 ≠ 0), ∀ (g10 : zcmpL (s 172 7) 232608281 ≠ 0), ∀ (g11 : zcmpL (s 172 7) 9665171 ≠ 0), ∀ (g12 : zcmpL (s 172 7) 291595537 ≠ 0), ∀ (g13 : zcmpL (s 172 7) 12253591 ≠ 0), ∀ (g14 : zcmpL (s 172 7) 164361 ≠ 0), ∀ (g15 : zcmpL (s 172 7) 316351 ≠ 0), ∀ (g16 : zcmpL (s 172 7) 161152 ≠ 0), ∀ (g17 : zcmpL (s 172 7) 453773 = 0), Q ([(1, 0)], s))
    (h16 : ∀ (g1 : s 172 6 = 1), ∀ (g2 : zcmpL (s 172 7) 4562600 ≠ 0), ∀ (g3 : zcmpL (s 172 7) 92777419 ≠ 0), ∀ (g4 : zcmpL (s 172 7) 92653220 ≠ 0), ∀ (g5 : zcmpL (s 172 7) 361373 ≠ 0), ∀ (g6 : zcmpL (s 172 7) 298288 ≠ 0), ∀ (g7 : zcmpL (s 172 7) 10793230 ≠ 0), ∀ (g8 : zcmpL (s 172 7) 6559372 ≠ 0), ∀ (g9 : zcmpL (s 172 7) 47 ≠ 0), ∀ (g10 : zcmpL (s 172 7) 232608281 ≠ 0), ∀ (g11 : zcmpL (s 172 7) 9665171 ≠ 0), ∀ (g12 : zcmpL (s 172 7) 291595537 ≠ 0), ∀ (g13 : zcmpL (s 172 7) 12253591 ≠ 0), ∀ (g14 : zcmpL (s 172 7) 164361 ≠ 0), ∀ (g15 : zcmpL (s 172 7) 316351 ≠ 0), ∀ (g16 : zcmpL (s 172 7) 161152 ≠ 0), ∀ (g17 : zcmpL (s 172 7) 453773 ≠ 0), ∀ (g18 : zcmpL (s 172 7) 8863997 = 0), Q ([(1, 0)], s))
    (h17 : ∀ (g1 : s 172 6 = 1), ∀ (g2 : zcmpL (s 172 7) 4562600 ≠ 0), ∀ (g3 : zcmpL (s 172 7) 92777419 ≠ 0), ∀ (g4 : zcmpL (s 172 7) 92653220 ≠ 0), ∀ (g5 : zcmpL (s 172 7) 361373 ≠ 0), ∀ (g6 : zcmpL (s 172 7) 298288 ≠ 0), ∀ (g7 : zcmpL (s 172 7) 10793230 ≠ 0), ∀ (g8 : zcmpL (s 172 7) 6559372 ≠ 0), ∀ (g9 : zcmpL (s 172 7) 47 ≠ 0), ∀ (g10 : zcmpL (s 172 7) 232608281 ≠ 0), ∀ (g11 : zcmpL (s 172 7) 9665171 ≠ 0), ∀ (g12 : zcmpL (s 172 7) 291595537 ≠ 0), ∀ (g13 : zcmpL (s 172 7) 12253591 ≠ 0), ∀ (g14 : zcmpL (s 172 7) 164361 ≠ 0), ∀ (g15 : zcmpL (s 172 7) 316351 ≠ 0), ∀ (g16 : zcmpL (s 172 7) 161152 ≠ 0), ∀ (g17 : zcmpL (s 172 7) 453773 ≠ 0), ∀ (g18 : zcmpL (s 172 7) 8863997 ≠ 0), ∀ (g19 : zcmpL (s 172 7) 10494723 = 0), Q ([(1, 0)], s))
    (h18 : ∀ (g1 : s 172 6 = 1), ∀ (g2 : zcmpL (s 172 7) 4562600 ≠ 0), ∀ (g3 : zcmpL (s 172 7) 92777419 ≠ 0), ∀ (g4 : zcmpL (s 172 7) 92653220 ≠ 0), ∀ (g5 : zcmpL (s 172 7) 361373 ≠ 0), ∀ (g6 : zcmpL (s 172 7) 298288 ≠ 0), ∀ (g7 : zcmpL (s 172 7) 10793230 ≠ 0), ∀ (g8 : zcmpL (s 172 7) 6559372 ≠ 0), ∀ (g9 : zcmpL (s 172 7) 47 ≠ 0), ∀ (g10 : zcmpL (s 172 7) 232608281 ≠ 0), ∀ (g11 : zcmpL (s 172 7) 9665171 ≠ 0), ∀ (g12 : zcmpL (s 172 7) 291595537 ≠ 0), ∀ (g13 : zcmpL (s 172 7) 12253591 ≠ 0), ∀ (g14 : zcmpL (s 172 7) 164361 ≠ 0), ∀ (g15 : zcmpL (s 172 7) 316351 ≠ 0), ∀ (g16 : zcmpL (s 172 7) 161152 ≠ 0), ∀ (g17 : zcmpL (s 172 7) 453773 ≠ 0), ∀ (g18 : zcmpL (s 172 7) 8863997 ≠ 0), ∀ (g19 : zcmpL (s 172 7) 10494723 ≠ 0), ∀ (g20 : zcmpL (s 172 7) 1483114 = 0), Q ([(1, 0)], s))
    (h19 : ∀ (g1 : s 172 6 = 1), ∀ (g2 : zcmpL (s 172 7) 4562600 ≠ 0), ∀ (g3 : zcmpL (s 172 7) 92777419 ≠ 0), ∀ (g4 : zcmpL (s 172 7) 92653220 ≠ 0), ∀ (g5 : zcmpL (s 172 7) 361373 ≠ 0), ∀ (g6 : zcmpL (s 172 7) 298288 ≠ 0), ∀ (g7 : zcmpL (s 172 7) 10793230 ≠ 0), ∀ (g8 : zcmpL (s 172 7) 6559372 ≠ 0), ∀ (g9 : zcmpL (s 172 7) 47 ≠ 0), ∀ (g10 : zcmpL (s 172 7) 232608281 ≠ 0), ∀ (g11 : zcmpL (s 172 7) 9665171 ≠ 0), ∀ (g12 : zcmpL (s 172 7) 291595537 ≠ 0), ∀ (g13 : zcmpL (s 172 7) 12253591 ≠ 0), ∀ (g14 : zcmpL (s 172 7) 164361 ≠ 0), ∀ (g15 : zcmpL (s 172 7) 316351 ≠ 0), ∀ (g16 : zcmpL (s 172 7) 161152 ≠ 0), ∀ (g17 : zcmpL (s 172 7) 453773 ≠ 0), ∀ (g18 : zcmpL (s 172 7) 8863997 ≠ 0), ∀ (g19 : zcmpL (s 172 7) 10494723 ≠ 0), ∀ (g20 : zcmpL (s 172 7) 1483114 ≠ 0), ∀ (g21 : zcmpL (s 172 7) 204 = 0), Q ([(1, 0)], s))
    (h20 : ∀ (g1 : s 172 6 = 1), ∀ (g2 : zcmpL (s 172 7) 4562600 ≠ 0), ∀ (g3 : zcmpL (s 172 7) 92777419 ≠ 0), ∀ (g4 : zcmpL (s 172 7) 92653220 ≠ 0), ∀ (g5 : zcmpL (s 172 7) 361373 ≠ 0), ∀ (g6 : zcmpL (s 172 7) 298288 ≠ 0), ∀ (g7 : zcmpL (s 172 7) 10793230 ≠ 0), ∀ (g8 : zcmpL (s 172 7) 6559372 ≠ 0), ∀ (g9 : zcmpL (s 172 7) 47 ≠ 0), ∀ (g10 : zcmpL (s 172 7) 232608281 ≠ 0), ∀ (g11 : zcmpL (s 172 7) 9665171 ≠ 0), ∀ (g12 : zcmpL (s 172 7) 291595537 ≠ 0), ∀ (g13 : zcmpL (s 172 7) 12253591 ≠ 0), ∀ (g14 : zcmpL (s 172 7) 164361 ≠ 0), ∀ (g15 : zcmpL (s 172 7) 316351 ≠ 0), ∀ (g16 : zcmpL (s 172 7) 161152 ≠ 0), ∀ (g17 : zcmpL (s 172 7) 453773 ≠ 0), ∀ (g18 : zcmpL (s 172 7) 8863997 ≠ 0), ∀ (g19 : zcmpL (s 172 7) 10494723 ≠ 0), ∀ (g20 : zcmpL (s 172 7) 1483114 ≠ 0), ∀ (g21 : zcmpL (s 172 7) 204 ≠ 0), ∀ (g22 : zcmpL (s 172 7) 1627639 = 0), Q ([(1, 0)], s))
    (h21 : ∀ (g1 : s 172 6 = 1), ∀ (g2 : zcmpL (s 172 7) 4562600 ≠ 0), ∀ (g3 : zcmpL (s 172 7) 92777419 ≠ 0), ∀ (g4 : zcmpL (s 172 7) 92653220 ≠ 0), ∀ (g5 : zcmpL (s 172 7) 361373 ≠ 0), ∀ (g6 : zcmpL (s 172 7) 298288 ≠ 0), ∀ (g7 : zcmpL (s 172 7) 10793230 ≠ 0), ∀ (g8 : zcmpL (s 172 7) 6559372 ≠ 0), ∀ (g9 : zcmpL (s 172 7) 47 ≠ 0), ∀ (g10 : zcmpL (s 172 7) 232608281 ≠ 0), ∀ (g11 : zcmpL (s 172 7) 9665171 ≠ 0), ∀ (g12 : zcmpL (s 172 7) 291595537 ≠ 0), ∀ (g13 : zcmpL (s 172 7) 12253591 ≠ 0), ∀ (g14 : zcmpL (s 172 7) 164361 ≠ 0), ∀ (g15 : zcmpL (s 172 7) 316351 ≠ 0), ∀ (g16 : zcmpL (s 172 7) 161152 ≠ 0), ∀ (g17 : zcmpL (s 172 7) 453773 ≠ 0), ∀ (g18 : zcmpL (s 172 7) 8863997 ≠ 0), ∀ (g19 : zcmpL (s 172 7) 10494723 ≠ 0), ∀ (g20 : zcmpL (s 172 7) 1483114 ≠ 0), ∀ (g21 : zcmpL (s 172 7) 204 ≠ 0), ∀ (g22 : zcmpL (s 172 7) 1627639 ≠ 0), ∀ (g23 : zcmpL (s 172 7) 7622660 = 0), Q ([(1, 0)], s))
    (h22 : ∀ (g1 : s 172 6 = 1), ∀ (g2 : zcmpL (s 172 7) 4562600 ≠ 0), ∀ (g3 : zcmpL (s 172 7) 92777419 ≠ 0), ∀ (g4 : zcmpL (s 172 7) 92653220 ≠ 0), ∀ (g5 : zcmpL (s 172 7) 361373 ≠ 0), ∀ (g6 : zcmpL (s 172 7) 298288 ≠ 0), ∀ (g7 : zcmpL (s 172 7) 10793230 ≠ 0), ∀ (g8 : zcmpL (s 172 7) 6559372 ≠ 0), ∀ (g9 : zcmpL (s 172 7) 47 ≠ 0), ∀ (g10 : zcmpL (s 172 7) 232608281 ≠ 0), ∀ (g11 : zcmpL (s 172 7) 9665171 ≠ 0), ∀ (g12 : zcmpL (s 172 7) 291595537 ≠ 0), ∀ (g13 : zcmpL (s 172 7) 12253591 ≠ 0), ∀ (g14 : zcmpL (s 172 7) 164361 ≠ 0), ∀ (g15 : zcmpL (s 172 7) 316351 ≠ 0), ∀ (g16 : zcmpL (s 172 7) 161152 ≠ 0), ∀ (g17 : zcmpL (s 172 7) 453773 ≠ 0), ∀ (g18 : zcmpL (s 172 7) 8863997 ≠ 0), ∀ (g19 : zcmpL (s 172 7) 10494723 ≠ 0), ∀ (g20 : zcmpL (s 172 7) 1483114 ≠ 0), ∀ (g21 : zcmpL (s 172 7) 204 ≠ 0), ∀ (g22 : zcmpL (s 172 7) 1627639 ≠ 0), ∀ (g23 : zcmpL (s 172 7) 7622660 ≠ 0), ∀ (g24 : zcmpL (s 172 7) 10631 = 0), Q ([(1, 0)], s))
    (h23 : ∀ (g1 : s 172 6 = 1), ∀ (g2 : zcmpL (s 172 7) 4562600 ≠ 0), ∀ (g3 : zcmpL (s 172 7) 92777419 ≠ 0), ∀ (g4 : zcmpL (s 172 7) 92653220 ≠ 0), ∀ (g5 : zcmpL (s 172 7) 361373 ≠ 0), ∀ (g6 : zcmpL (s 172 7) 298288 ≠ 0), ∀ (g7 : zcmpL (s 172 7) 10793230 ≠ 0), ∀ (g8 : zcmpL (s 172 7) 6559372 ≠ 0), ∀ (g9 : zcmpL (s 172 7) 47 ≠ 0), ∀ (g10 : zcmpL (s 172 7) 232608281 ≠ 0), ∀ (g11 : zcmpL (s 172 7) 9665171 ≠ 0), ∀ (g12 : zcmpL (s 172 7) 291595537 ≠ 0), ∀ (g13 : zcmpL (s 172 7) 12253591 ≠ 0), ∀ (g14 : zcmpL (s 172 7) 164361 ≠ 0), ∀ (g15 : zcmpL (s 172 7) 316351 ≠ 0), ∀ (g16 : zcmpL (s 172 7) 161152 ≠ 0), ∀ (g17 : zcmpL (s 172 7) 453773 ≠ 0), ∀ (g18 : zcmpL (s 172 7) 8863997 ≠ 0), ∀ (g19 : zcmpL (s 172 7) 10494723 ≠ 0), ∀ (g20 : zcmpL (s 172 7) 1483114 ≠ 0), ∀ (g21 : zcmpL (s 172 7) 204 ≠ 0), ∀ (g22 : zcmpL (s 172 7) 1627639 ≠ 0), ∀ (g23 : zcmpL (s 172 7) 7622660 ≠ 0), ∀ (g24 : zcmpL (s 172 7) 10631 ≠ 0), ∀ (g25 : zcmpL (s 172 7) 1111 = 0), Q ([(1, 0)], s))
    (h24 : ∀ (g1 : s 172 6 = 1), ∀ (g2 : zcmpL (s 172 7) 4562600 ≠ 0), ∀ (g3 : zcmpL (s 172 7) 92777419 ≠ 0), ∀ (g4 : zcmpL (s 172 7) 92653220 ≠ 0), ∀ (g5 : zcmpL (s 172 7) 361373 ≠ 0), ∀ (g6 : zcmpL (s 172 7) 298288 ≠ 0), ∀ (g7 : zcmpL (s 172 7) 10793230 ≠ 0), ∀ (g8 : zcmpL (s 172 7) 6559372 ≠ 0), ∀ (g9 : zcmpL (s 172 7) 47 ≠ 0), ∀ (g10 : zcmpL (s 172 7) 232608281 ≠ 0), ∀ (g11 : zcmpL (s 172 7) 9665171 ≠ 0), ∀ (g12 : zcmpL (s 172 7) 291595537 ≠ 0), ∀ (g13 : zcmpL (s 172 7) 12253591 ≠ 0), ∀ (g14 : zcmpL (s 172 7) 164361 ≠ 0), ∀ (g15 : zcmpL (s 172 7) 316351 ≠ 0), ∀ (g16 : zcmpL (s 172 7) 161152 ≠ 0), ∀ (g17 : zcmpL (s 172 7) 453773 ≠ 0), ∀ (g18 : zcmpL (s 172 7) 8863997 ≠ 0), ∀ (g19 : zcmpL (s 172 7) 10494723 ≠ 0), ∀ (g20 : zcmpL (s 172 7) 1483114 ≠ 0), ∀ (g21 : zcmpL (s 172 7) 204 ≠ 0), ∀ (g22 : zcmpL (s 172 7) 1627639 ≠ 0), ∀ (g23 : zcmpL (s 172 7) 7622660 ≠ 0), ∀ (g24 : zcmpL (s 172 7) 10631 ≠ 0), ∀ (g25 : zcmpL (s 172 7) 1111 ≠ 0), ∀ (g26 : zcmpL (s 172 7) 423 ≠ 0), Q ([(0, 0)], s))
    (h25 : ∀ (g1 : s 172 6 = 1), ∀ (g2 : zcmpL (s 172 7) 4562600 ≠ 0), ∀ (g3 : zcmpL (s 172 7) 92777419 ≠ 0), ∀ (g4 : zcmpL (s 172 7) 92653220 ≠ 0), ∀ (g5 : zcmpL (s 172 7) 361373 ≠ 0), ∀ (g6 : zcmpL (s 172 7) 298288 ≠ 0), ∀ (g7 : zcmpL (s 172 7) 10793230 ≠ 0), ∀ (g8 : zcmpL (s 172 7) 6559372 ≠ 0), ∀ (g9 : zcmpL (s 172 7) 47 ≠ 0), ∀ (g10 : zcmpL (s 172 7) 232608281 ≠ 0), ∀ (g11 : zcmpL (s 172 7) 9665171 ≠ 0), ∀ (g12 : zcmpL (s 172 7) 291595537 ≠ 0), ∀ (g13 : zcmpL (s 172 7) 12253591 ≠ 0), ∀ (g14 : zcmpL (s 172 7) 164361 ≠ 0), ∀ (g15 : zcmpL (s 172 7) 316351 ≠ 0), ∀ (g16 : zcmpL (s 172 7) 161152 ≠ 0), ∀ (g17 : zcmpL (s 172 7) 453773 ≠ 0), ∀ (g18 : zcmpL (s 172 7) 8863997 ≠ 0), ∀ (g19 : zcmpL (s 172 7) 10494723 ≠ 0), ∀ (g20 : zcmpL (s 172 7) 1483114 ≠ 0), ∀ (g21 : zcmpL (s 172 7) 204 ≠ 0), ∀ (g22 : zcmpL (s 172 7) 1627639 ≠ 0), ∀ (g23 : zcmpL (s 172 7) 7622660 ≠ 0), ∀ (g24 : zcmpL (s 172 7) 10631 ≠ 0), ∀ (g25 : zcmpL (s 172 7) 1111 ≠ 0), ∀ (g26 : zcmpL (s 172 7) 423 = 0), Q ([(1, 0)], s))
    (h26 : ∀ (g1 : s 172 6 ≠ 1), Q ([(1, 0)], s)) : zT (zE 1450) (Pt PX11_isKept) n (0, [((172 : Nat) : Int)], [], s) Q := by
  refine tL ((172 : Nat) : Int) 0 rfl rfl rfl ?_
  refine tFv (c := 172) (s 172 6) 0 rfl rfl rfl rfl rfl ?_
  refine tK rfl ?_
  refine tJ0 rfl (fun g1 _ l1 => zT_le ?_ (Nat.le_of_lt l1)) (fun g1 _ l1 => zT_le ?_ (Nat.le_of_lt l1))
  · refine tL ((172 : Nat) : Int) 0 rfl rfl rfl ?_
    refine tFv (c := 172) (s 172 7) 1 rfl rfl rfl rfl rfl ?_
    refine tKL rfl ?_
    refine tC rfl ?_
    refine tI0 rfl (fun g2 _ l2 => zT_le ?_ (Nat.le_of_lt l2)) (fun g2 _ l2 => zT_le ?_ (Nat.le_of_lt l2))
    · refine tK rfl ?_
      refine tG rfl ?_
      exact tR rfl (h0 g1 g2)
    · refine tL ((172 : Nat) : Int) 0 rfl rfl rfl ?_
      refine tFv (c := 172) (s 172 7) 1 rfl rfl rfl rfl rfl ?_
      refine tKL rfl ?_
      refine tC rfl ?_
      refine tI0 rfl (fun g3 _ l3 => zT_le ?_ (Nat.le_of_lt l3)) (fun g3 _ l3 => zT_le ?_ (Nat.le_of_lt l3))
      · refine tK rfl ?_
        refine tG rfl ?_
        exact tR rfl (h1 g1 g2 g3)
      · refine tL ((172 : Nat) : Int) 0 rfl rfl rfl ?_
        refine tFv (c := 172) (s 172 7) 1 rfl rfl rfl rfl rfl ?_
        refine tKL rfl ?_
        refine tC rfl ?_
        refine tI0 rfl (fun g4 _ l4 => zT_le ?_ (Nat.le_of_lt l4)) (fun g4 _ l4 => zT_le ?_ (Nat.le_of_lt l4))
        · refine tK rfl ?_
          refine tG rfl ?_
          exact tR rfl (h2 g1 g2 g3 g4)
        · refine tL ((172 : Nat) : Int) 0 rfl rfl rfl ?_
          refine tFv (c := 172) (s 172 7) 1 rfl rfl rfl rfl rfl ?_
          refine tKL rfl ?_
          refine tC rfl ?_
          refine tI0 rfl (fun g5 _ l5 => zT_le ?_ (Nat.le_of_lt l5)) (fun g5 _ l5 => zT_le ?_ (Nat.le_of_lt l5))
          · refine tK rfl ?_
            refine tG rfl ?_
            exact tR rfl (h3 g1 g2 g3 g4 g5)
          · refine tL ((172 : Nat) : Int) 0 rfl rfl rfl ?_
            refine tFv (c := 172) (s 172 7) 1 rfl rfl rfl rfl rfl ?_
            refine tKL rfl ?_
            refine tC rfl ?_
            refine tI0 rfl (fun g6 _ l6 => zT_le ?_ (Nat.le_of_lt l6)) (fun g6 _ l6 => zT_le ?_ (Nat.le_of_lt l6))
            · refine tK rfl ?_
              refine tG rfl ?_
              exact tR rfl (h4 g1 g2 g3 g4 g5 g6)
            · refine tL ((172 : Nat) : Int) 0 rfl rfl rfl ?_
              refine tFv (c := 172) (s 172 7) 1 rfl rfl rfl rfl rfl ?_
              refine tKL rfl ?_
              refine tC rfl ?_
              refine tI0 rfl (fun g7 _ l7 => zT_le ?_ (Nat.le_of_lt l7)) (fun g7 _ l7 => zT_le ?_ (Nat.le_of_lt l7))
              · refine tK rfl ?_
                refine tG rfl ?_
                exact tR rfl (h5 g1 g2 g3 g4 g5 g6 g7)
              · refine tL ((172 : Nat) : Int) 0 rfl rfl rfl ?_
                refine tFv (c := 172) (s 172 7) 1 rfl rfl rfl rfl rfl ?_
                refine tKL rfl ?_
                refine tC rfl ?_
                refine tI0 rfl (fun g8 _ l8 => zT_le ?_ (Nat.le_of_lt l8)) (fun g8 _ l8 => zT_le ?_ (Nat.le_of_lt l8))
                · refine tK rfl ?_
                  refine tG rfl ?_
                  exact tR rfl (h6 g1 g2 g3 g4 g5 g6 g7 g8)
                · refine tL ((172 : Nat) : Int) 0 rfl rfl rfl ?_
                  refine tFv (c := 172) (s 172 7) 1 rfl rfl rfl rfl rfl ?_
                  refine tKL rfl ?_
                  refine tC rfl ?_
                  refine tI0 rfl (fun g9 _ l9 => zT_le ?_ (Nat.le_of_lt l9)) (fun g9 _ l9 => zT_le ?_ (Nat.le_of_lt l9))
                  · refine tK rfl ?_
                    refine tG rfl ?_
                    exact tR rfl (h7 g1 g2 g3 g4 g5 g6 g7 g8 g9)
                  · refine tL ((172 : Nat) : Int) 0 rfl rfl rfl ?_
                    refine tFv (c := 172) (s 172 7) 1 rfl rfl rfl rfl rfl ?_
                    refine tKL rfl ?_
                    refine tC rfl ?_
                    refine tI0 rfl (fun g10 _ l10 => zT_le ?_ (Nat.le_of_lt l10)) (fun g10 _ l10 => zT_le ?_ (Nat.le_of_lt l10))
                    · refine tK rfl ?_
                      refine tG rfl ?_
                      exact tR rfl (h8 g1 g2 g3 g4 g5 g6 g7 g8 g9 g10)
                    · refine tL ((172 : Nat) : Int) 0 rfl rfl rfl ?_
                      refine tFv (c := 172) (s 172 7) 1 rfl rfl rfl rfl rfl ?_
                      refine tKL rfl ?_
                      refine tC rfl ?_
                      refine tI0 rfl (fun g11 _ l11 => zT_le ?_ (Nat.le_of_lt l11)) (fun g11 _ l11 => zT_le ?_ (Nat.le_of_lt l11))
                      · refine tK rfl ?_
                        refine tG rfl ?_
                        exact tR rfl (h9 g1 g2 g3 g4 g5 g6 g7 g8 g9 g10 g11)
                      · refine tL ((172 : Nat) : Int) 0 rfl rfl rfl ?_
                        refine tFv (c := 172) (s 172 7) 1 rfl rfl rfl rfl rfl ?_
                        refine tKL rfl ?_
                        refine tC rfl ?_
                        refine tI0 rfl (fun g12 _ l12 => zT_le ?_ (Nat.le_of_lt l12)) (fun g12 _ l12 => zT_le ?_ (Nat.le_of_lt l12))
                        · refine tK rfl ?_
                          refine tG rfl ?_
                          exact tR rfl (h10 g1 g2 g3 g4 g5 g6 g7 g8 g9 g10 g11 g12)
                        · refine tL ((172 : Nat) : Int) 0 rfl rfl rfl ?_
                          refine tFv (c := 172) (s 172 7) 1 rfl rfl rfl rfl rfl ?_
                          refine tKL rfl ?_
                          refine tC rfl ?_
                          refine tI0 rfl (fun g13 _ l13 => zT_le ?_ (Nat.le_of_lt l13)) (fun g13 _ l13 => zT_le ?_ (Nat.le_of_lt l13))
                          · refine tK rfl ?_
                            refine tG rfl ?_
                            exact tR rfl (h11 g1 g2 g3 g4 g5 g6 g7 g8 g9 g10 g11 g12 g13)
                          · refine tL ((172 : Nat) : Int) 0 rfl rfl rfl ?_
                            refine tFv (c := 172) (s 172 7) 1 rfl rfl rfl rfl rfl ?_
                            refine tKL rfl ?_
                            refine tC rfl ?_
                            refine tI0 rfl (fun g14 _ l14 => zT_le ?_ (Nat.le_of_lt l14)) (fun g14 _ l14 => zT_le ?_ (Nat.le_of_lt l14))
                            · refine tK rfl ?_
                              refine tG rfl ?_
                              exact tR rfl (h12 g1 g2 g3 g4 g5 g6 g7 g8 g9 g10 g11 g12 g13 g14)
                            · refine tL ((172 : Nat) : Int) 0 rfl rfl rfl ?_
                              refine tFv (c := 172) (s 172 7) 1 rfl rfl rfl rfl rfl ?_
                              refine tKL rfl ?_
                              refine tC rfl ?_
                              refine tI0 rfl (fun g15 _ l15 => zT_le ?_ (Nat.le_of_lt l15)) (fun g15 _ l15 => zT_le ?_ (Nat.le_of_lt l15))
                              · refine tK rfl ?_
                                refine tG rfl ?_
                                exact tR rfl (h13 g1 g2 g3 g4 g5 g6 g7 g8 g9 g10 g11 g12 g13 g14 g15)
                              · refine tL ((172 : Nat) : Int) 0 rfl rfl rfl ?_
                                refine tFv (c := 172) (s 172 7) 1 rfl rfl rfl rfl rfl ?_
                                refine tKL rfl ?_
                                refine tC rfl ?_
                                refine tI0 rfl (fun g16 _ l16 => zT_le ?_ (Nat.le_of_lt l16)) (fun g16 _ l16 => zT_le ?_ (Nat.le_of_lt l16))
                                · refine tK rfl ?_
                                  refine tG rfl ?_
                                  exact tR rfl (h14 g1 g2 g3 g4 g5 g6 g7 g8 g9 g10 g11 g12 g13 g14 g15 g16)
                                · refine tL ((172 : Nat) : Int) 0 rfl rfl rfl ?_
                                  refine tFv (c := 172) (s 172 7) 1 rfl rfl rfl rfl rfl ?_
                                  refine tKL rfl ?_
                                  refine tC rfl ?_
                                  refine tI0 rfl (fun g17 _ l17 => zT_le ?_ (Nat.le_of_lt l17)) (fun g17 _ l17 => zT_le ?_ (Nat.le_of_lt l17))
                                  · refine tK rfl ?_
                                    refine tG rfl ?_
                                    exact tR rfl (h15 g1 g2 g3 g4 g5 g6 g7 g8 g9 g10 g11 g12 g13 g14 g15 g16 g17)
                                  · refine tL ((172 : Nat) : Int) 0 rfl rfl rfl ?_
                                    refine tFv (c := 172) (s 172 7) 1 rfl rfl rfl rfl rfl ?_
                                    refine tKL rfl ?_
                                    refine tC rfl ?_
                                    refine tI0 rfl (fun g18 _ l18 => zT_le ?_ (Nat.le_of_lt l18)) (fun g18 _ l18 => zT_le ?_ (Nat.le_of_lt l18))
                                    · refine tK rfl ?_
                                      refine tG rfl ?_
                                      exact tR rfl (h16 g1 g2 g3 g4 g5 g6 g7 g8 g9 g10 g11 g12 g13 g14 g15 g16 g17 g18)
                                    · refine tL ((172 : Nat) : Int) 0 rfl rfl rfl ?_
                                      refine tFv (c := 172) (s 172 7) 1 rfl rfl rfl rfl rfl ?_
                                      refine tKL rfl ?_
                                      refine tC rfl ?_
                                      refine tI0 rfl (fun g19 _ l19 => zT_le ?_ (Nat.le_of_lt l19)) (fun g19 _ l19 => zT_le ?_ (Nat.le_of_lt l19))
                                      · refine tK rfl ?_
                                        refine tG rfl ?_
                                        exact tR rfl (h17 g1 g2 g3 g4 g5 g6 g7 g8 g9 g10 g11 g12 g13 g14 g15 g16 g17 g18 g19)
                                      · refine tL ((172 : Nat) : Int) 0 rfl rfl rfl ?_
                                        refine tFv (c := 172) (s 172 7) 1 rfl rfl rfl rfl rfl ?_
                                        refine tKL rfl ?_
                                        refine tC rfl ?_
                                        refine tI0 rfl (fun g20 _ l20 => zT_le ?_ (Nat.le_of_lt l20)) (fun g20 _ l20 => zT_le ?_ (Nat.le_of_lt l20))
                                        · refine tK rfl ?_
                                          refine tG rfl ?_
                                          exact tR rfl (h18 g1 g2 g3 g4 g5 g6 g7 g8 g9 g10 g11 g12 g13 g14 g15 g16 g17 g18 g19 g20)
                                        · refine tL ((172 : Nat) : Int) 0 rfl rfl rfl ?_
                                          refine tFv (c := 172) (s 172 7) 1 rfl rfl rfl rfl rfl ?_
                                          refine tKL rfl ?_
                                          refine tC rfl ?_
                                          refine tI0 rfl (fun g21 _ l21 => zT_le ?_ (Nat.le_of_lt l21)) (fun g21 _ l21 => zT_le ?_ (Nat.le_of_lt l21))
                                          · refine tK rfl ?_
                                            refine tG rfl ?_
                                            exact tR rfl (h19 g1 g2 g3 g4 g5 g6 g7 g8 g9 g10 g11 g12 g13 g14 g15 g16 g17 g18 g19 g20 g21)
                                          · refine tL ((172 : Nat) : Int) 0 rfl rfl rfl ?_
                                            refine tFv (c := 172) (s 172 7) 1 rfl rfl rfl rfl rfl ?_
                                            refine tKL rfl ?_
                                            refine tC rfl ?_
                                            refine tI0 rfl (fun g22 _ l22 => zT_le ?_ (Nat.le_of_lt l22)) (fun g22 _ l22 => zT_le ?_ (Nat.le_of_lt l22))
                                            · refine tK rfl ?_
                                              refine tG rfl ?_
                                              exact tR rfl (h20 g1 g2 g3 g4 g5 g6 g7 g8 g9 g10 g11 g12 g13 g14 g15 g16 g17 g18 g19 g20 g21 g22)
                                            · refine tL ((172 : Nat) : Int) 0 rfl rfl rfl ?_
                                              refine tFv (c := 172) (s 172 7) 1 rfl rfl rfl rfl rfl ?_
                                              refine tKL rfl ?_
                                              refine tC rfl ?_
                                              refine tI0 rfl (fun g23 _ l23 => zT_le ?_ (Nat.le_of_lt l23)) (fun g23 _ l23 => zT_le ?_ (Nat.le_of_lt l23))
                                              · refine tK rfl ?_
                                                refine tG rfl ?_
                                                exact tR rfl (h21 g1 g2 g3 g4 g5 g6 g7 g8 g9 g10 g11 g12 g13 g14 g15 g16 g17 g18 g19 g20 g21 g22 g23)
                                              · refine tL ((172 : Nat) : Int) 0 rfl rfl rfl ?_
                                                refine tFv (c := 172) (s 172 7) 1 rfl rfl rfl rfl rfl ?_
                                                refine tKL rfl ?_
                                                refine tC rfl ?_
                                                refine tI0 rfl (fun g24 _ l24 => zT_le ?_ (Nat.le_of_lt l24)) (fun g24 _ l24 => zT_le ?_ (Nat.le_of_lt l24))
                                                · refine tK rfl ?_
                                                  refine tG rfl ?_
                                                  exact tR rfl (h22 g1 g2 g3 g4 g5 g6 g7 g8 g9 g10 g11 g12 g13 g14 g15 g16 g17 g18 g19 g20 g21 g22 g23 g24)
                                                · refine tL ((172 : Nat) : Int) 0 rfl rfl rfl ?_
                                                  refine tFv (c := 172) (s 172 7) 1 rfl rfl rfl rfl rfl ?_
                                                  refine tKL rfl ?_
                                                  refine tC rfl ?_
                                                  refine tI0 rfl (fun g25 _ l25 => zT_le ?_ (Nat.le_of_lt l25)) (fun g25 _ l25 => zT_le ?_ (Nat.le_of_lt l25))
                                                  · refine tK rfl ?_
                                                    refine tG rfl ?_
                                                    exact tR rfl (h23 g1 g2 g3 g4 g5 g6 g7 g8 g9 g10 g11 g12 g13 g14 g15 g16 g17 g18 g19 g20 g21 g22 g23 g24 g25)
                                                  · refine tL ((172 : Nat) : Int) 0 rfl rfl rfl ?_
                                                    refine tFv (c := 172) (s 172 7) 1 rfl rfl rfl rfl rfl ?_
                                                    refine tKL rfl ?_
                                                    refine tC rfl ?_
                                                    refine tI1 rfl (fun g26 _ l26 => zT_le ?_ (Nat.le_of_lt l26)) (fun g26 _ l26 => zT_le ?_ (Nat.le_of_lt l26))
                                                    · refine tK rfl ?_
                                                      exact tR rfl (h24 g1 g2 g3 g4 g5 g6 g7 g8 g9 g10 g11 g12 g13 g14 g15 g16 g17 g18 g19 g20 g21 g22 g23 g24 g25 g26)
                                                    · refine tK rfl ?_
                                                      refine tG rfl ?_
                                                      exact tR rfl (h25 g1 g2 g3 g4 g5 g6 g7 g8 g9 g10 g11 g12 g13 g14 g15 g16 g17 g18 g19 g20 g21 g22 g23 g24 g25 g26)
  · refine tK rfl ?_
    exact tR rfl (h26 g1)

theorem c_X11_isKept {n : Nat} {Q : Zr → Prop} {a0 : Int} {s : Zs} (h : zT (zE 1450) (Pt PX11_isKept) n (0, [a0], [], s) Q) : zC n 1450 [(a0, 0)] s Q := h

theorem b_X11_named_0 {n : Nat} {Q : Zr → Prop} {c : Nat} (x1 x2 x3 x4 x5 : Int) (s : Zs) 
    (h0 : zT (zE 1475) (Pt PX11_named) n (3, [((c : Nat) : Int), x1, x2, x3, x4, x1], [], s) Q) : zT (zE 1475) (Pt PX11_named) n (0, [((c : Nat) : Int), x1, x2, x3, x4, x5], [], s) Q := by
  refine tL x1 0 rfl rfl rfl ?_
  refine tS [((c : Nat) : Int), x1, x2, x3, x4, x1] rfl rfl ?_
  exact zT_le (h0) (Nat.le_refl n)

theorem b_X11_named_3 {n : Nat} {Q : Zr → Prop} {c : Nat} (x1 x2 x3 x4 x5 : Int) (s : Zs) 
    (h0 : ∀ (g1 : w32 (x1 + x2) ≤ x5), Q ([((-1), 0)], s))
    (h1 : ∀ (g1 : x5 < w32 (x1 + x2)), ∀ (g2 : zcmpL (s c x5.toNat) x3 ≠ 0), ∀ m, m < n → zT (zE 1475) (Pt PX11_named) m (3, [((c : Nat) : Int), x1, x2, x3, x4, w32 (x5 + 1)], [], s) Q)
    (h2 : ∀ (g1 : x5 < w32 (x1 + x2)), ∀ (g2 : zcmpL (s c x5.toNat) x3 = 0), Q ([(w32 (x5 - x1), 0)], s)) : zT (zE 1475) (Pt PX11_named) n (3, [((c : Nat) : Int), x1, x2, x3, x4, x5], [], s) Q := by
  refine tL x5 0 rfl rfl rfl ?_
  refine tL x1 0 rfl rfl rfl ?_
  refine tL x2 0 rfl rfl rfl ?_
  refine tB (v := w32 (x1 + x2)) rfl rfl ?_
  refine tJ3 rfl (fun g1 _ l1 => zT_le ?_ (Nat.le_of_lt l1)) (fun g1 _ l1 => zT_le ?_ (Nat.le_of_lt l1))
  · refine tK rfl ?_
    exact tR rfl (h0 g1)
  · refine tL ((c : Nat) : Int) 0 rfl rfl rfl ?_
    refine tL x5 0 rfl rfl rfl ?_
    refine tAv c x5.toNat (s c x5.toNat) 1 rfl rfl rfl (by decide) rfl rfl ?_
    refine tL x3 1 rfl rfl rfl ?_
    refine tC rfl ?_
    refine tI1 rfl (fun g2 _ l2 => zT_le ?_ (Nat.le_of_lt l2)) (fun g2 _ l2 => zT_le ?_ (Nat.le_of_lt l2))
    · refine tInc [((c : Nat) : Int), x1, x2, x3, x4, w32 (x5 + 1)] rfl rfl ?_
      exact tGb rfl (fun m2 l2 => h1 g1 g2 m2 (Nat.lt_of_lt_of_le l2 (Nat.le_refl n)))
    · refine tL x5 0 rfl rfl rfl ?_
      refine tL x1 0 rfl rfl rfl ?_
      refine tB (v := w32 (x5 - x1)) rfl rfl ?_
      exact tR rfl (h2 g1 g2)

theorem c_X11_named {n : Nat} {Q : Zr → Prop} {a0 a1 a2 a3 : Int} {s : Zs} (h : zT (zE 1475) (Pt PX11_named) n (0, [a0, a1, a2, a3, 0, 0], [], s) Q) : zC n 1475 [(a0, 0), (a1, 0), (a2, 0), (a3, 1)] s Q := h

theorem b_X11_houseNamed_0 {n : Nat} {Q : Zr → Prop} (x1 : Int) (s : Zs) 
    (h0 : ∀ m, m < n → zC m 1475 [(((175 : Nat) : Int), 0), (w32 (5 * x1), 0), (s 174 ((w32 ((w32 (7 * x1)) + 0)).toNat), 0), (s 172 7, 1)] s (fun p => zT (zE 1443) (Pt PX11_houseNamed) m (25, [((172 : Nat) : Int), x1], p.1 ++ [], p.2) Q)) : zT (zE 1443) (Pt PX11_houseNamed) n (0, [((172 : Nat) : Int), x1], [], s) Q := by
  refine tL ((172 : Nat) : Int) 0 rfl rfl rfl ?_
  refine tFR (c := 172) 175 rfl rfl rfl rfl rfl ?_
  refine tK rfl ?_
  refine tL x1 0 rfl rfl rfl ?_
  refine tM (v := w32 (5 * x1)) rfl rfl ?_
  refine tL ((172 : Nat) : Int) 0 rfl rfl rfl ?_
  refine tFR (c := 172) 174 rfl rfl rfl rfl rfl ?_
  refine tK rfl ?_
  refine tL x1 0 rfl rfl rfl ?_
  refine tM (v := w32 (7 * x1)) rfl rfl ?_
  refine tK rfl ?_
  refine tB (v := w32 ((w32 (7 * x1)) + 0)) rfl rfl ?_
  refine tAv 174 ((w32 ((w32 (7 * x1)) + 0)).toNat) (s 174 ((w32 ((w32 (7 * x1)) + 0)).toNat)) 0 rfl rfl rfl (by decide) rfl rfl ?_
  refine tL ((172 : Nat) : Int) 0 rfl rfl rfl ?_
  refine tFv (c := 172) (s 172 7) 1 rfl rfl rfl rfl rfl ?_
  exact tCall [(((175 : Nat) : Int), 0), (w32 (5 * x1), 0), (s 174 ((w32 ((w32 (7 * x1)) + 0)).toNat), 0), (s 172 7, 1)] [] rfl rfl rfl (fun m l => h0 m (Nat.lt_of_lt_of_le l (Nat.le_refl n)))

theorem b_X11_houseNamed_25 {n : Nat} {Q : Zr → Prop} (x1 v0 : Int) (s : Zs) 
    (h0 : Q ([(v0, 0)], s)) : zT (zE 1443) (Pt PX11_houseNamed) n (25, [((172 : Nat) : Int), x1], [(v0, 0)], s) Q := by
  exact tR rfl (h0)

theorem c_X11_houseNamed {n : Nat} {Q : Zr → Prop} {a0 a1 : Int} {s : Zs} (h : zT (zE 1443) (Pt PX11_houseNamed) n (0, [a0, a1], [], s) Q) : zC n 1443 [(a0, 0), (a1, 0)] s Q := h

theorem b_X11_thingNamed_0 {n : Nat} {Q : Zr → Prop} (x1 : Int) (s : Zs) 
    (h0 : ∀ m, m < n → zC m 1475 [(((176 : Nat) : Int), 0), (w32 (4 * x1), 0), (s 174 ((w32 ((w32 (7 * x1)) + 2)).toNat), 0), (s 172 7, 1)] s (fun p => zT (zE 1520) (Pt PX11_thingNamed) m (25, [((172 : Nat) : Int), x1], p.1 ++ [], p.2) Q)) : zT (zE 1520) (Pt PX11_thingNamed) n (0, [((172 : Nat) : Int), x1], [], s) Q := by
  refine tL ((172 : Nat) : Int) 0 rfl rfl rfl ?_
  refine tFR (c := 172) 176 rfl rfl rfl rfl rfl ?_
  refine tK rfl ?_
  refine tL x1 0 rfl rfl rfl ?_
  refine tM (v := w32 (4 * x1)) rfl rfl ?_
  refine tL ((172 : Nat) : Int) 0 rfl rfl rfl ?_
  refine tFR (c := 172) 174 rfl rfl rfl rfl rfl ?_
  refine tK rfl ?_
  refine tL x1 0 rfl rfl rfl ?_
  refine tM (v := w32 (7 * x1)) rfl rfl ?_
  refine tK rfl ?_
  refine tB (v := w32 ((w32 (7 * x1)) + 2)) rfl rfl ?_
  refine tAv 174 ((w32 ((w32 (7 * x1)) + 2)).toNat) (s 174 ((w32 ((w32 (7 * x1)) + 2)).toNat)) 0 rfl rfl rfl (by decide) rfl rfl ?_
  refine tL ((172 : Nat) : Int) 0 rfl rfl rfl ?_
  refine tFv (c := 172) (s 172 7) 1 rfl rfl rfl rfl rfl ?_
  exact tCall [(((176 : Nat) : Int), 0), (w32 (4 * x1), 0), (s 174 ((w32 ((w32 (7 * x1)) + 2)).toNat), 0), (s 172 7, 1)] [] rfl rfl rfl (fun m l => h0 m (Nat.lt_of_lt_of_le l (Nat.le_refl n)))

theorem b_X11_thingNamed_25 {n : Nat} {Q : Zr → Prop} (x1 v0 : Int) (s : Zs) 
    (h0 : Q ([(v0, 0)], s)) : zT (zE 1520) (Pt PX11_thingNamed) n (25, [((172 : Nat) : Int), x1], [(v0, 0)], s) Q := by
  exact tR rfl (h0)

theorem c_X11_thingNamed {n : Nat} {Q : Zr → Prop} {a0 a1 : Int} {s : Zs} (h : zT (zE 1520) (Pt PX11_thingNamed) n (0, [a0, a1], [], s) Q) : zC n 1520 [(a0, 0), (a1, 0)] s Q := h

theorem b_X11_personNamed_0 {n : Nat} {Q : Zr → Prop} (x1 : Int) (s : Zs) 
    (h0 : ∀ m, m < n → zC m 1475 [(((177 : Nat) : Int), 0), (w32 (5 * x1), 0), (s 174 ((w32 ((w32 (7 * x1)) + 3)).toNat), 0), (s 172 7, 1)] s (fun p => zT (zE 1489) (Pt PX11_personNamed) m (25, [((172 : Nat) : Int), x1], p.1 ++ [], p.2) Q)) : zT (zE 1489) (Pt PX11_personNamed) n (0, [((172 : Nat) : Int), x1], [], s) Q := by
  refine tL ((172 : Nat) : Int) 0 rfl rfl rfl ?_
  refine tFR (c := 172) 177 rfl rfl rfl rfl rfl ?_
  refine tK rfl ?_
  refine tL x1 0 rfl rfl rfl ?_
  refine tM (v := w32 (5 * x1)) rfl rfl ?_
  refine tL ((172 : Nat) : Int) 0 rfl rfl rfl ?_
  refine tFR (c := 172) 174 rfl rfl rfl rfl rfl ?_
  refine tK rfl ?_
  refine tL x1 0 rfl rfl rfl ?_
  refine tM (v := w32 (7 * x1)) rfl rfl ?_
  refine tK rfl ?_
  refine tB (v := w32 ((w32 (7 * x1)) + 3)) rfl rfl ?_
  refine tAv 174 ((w32 ((w32 (7 * x1)) + 3)).toNat) (s 174 ((w32 ((w32 (7 * x1)) + 3)).toNat)) 0 rfl rfl rfl (by decide) rfl rfl ?_
  refine tL ((172 : Nat) : Int) 0 rfl rfl rfl ?_
  refine tFv (c := 172) (s 172 7) 1 rfl rfl rfl rfl rfl ?_
  exact tCall [(((177 : Nat) : Int), 0), (w32 (5 * x1), 0), (s 174 ((w32 ((w32 (7 * x1)) + 3)).toNat), 0), (s 172 7, 1)] [] rfl rfl rfl (fun m l => h0 m (Nat.lt_of_lt_of_le l (Nat.le_refl n)))

theorem b_X11_personNamed_25 {n : Nat} {Q : Zr → Prop} (x1 v0 : Int) (s : Zs) 
    (h0 : Q ([(v0, 0)], s)) : zT (zE 1489) (Pt PX11_personNamed) n (25, [((172 : Nat) : Int), x1], [(v0, 0)], s) Q := by
  exact tR rfl (h0)

theorem c_X11_personNamed {n : Nat} {Q : Zr → Prop} {a0 a1 : Int} {s : Zs} (h : zT (zE 1489) (Pt PX11_personNamed) n (0, [a0, a1], [], s) Q) : zC n 1489 [(a0, 0), (a1, 0)] s Q := h

theorem b_X11_isNew_0 {n : Nat} {Q : Zr → Prop} (s : Zs) 
    (h0 : ∀ m, m < n → zC m 1450 [(((172 : Nat) : Int), 0)] s (fun p => zT (zE 1451) (Pt PX11_isNew) m (4, [((172 : Nat) : Int)], p.1 ++ [], p.2) Q)) : zT (zE 1451) (Pt PX11_isNew) n (0, [((172 : Nat) : Int)], [], s) Q := by
  refine tL ((172 : Nat) : Int) 0 rfl rfl rfl ?_
  exact tCall [(((172 : Nat) : Int), 0)] [] rfl rfl rfl (fun m l => h0 m (Nat.lt_of_lt_of_le l (Nat.le_refl n)))

theorem b_X11_isNew_4 {n : Nat} {Q : Zr → Prop} (v0 : Int) (s : Zs) 
    (h0 : ∀ (g1 : v0 = 0), ∀ m, m < n → zC m 1443 [(((172 : Nat) : Int), 0), (1, 0)] s (fun p => zT (zE 1451) (Pt PX11_isNew) m (18, [((172 : Nat) : Int)], p.1 ++ [], p.2) Q))
    (h1 : ∀ (g1 : v0 ≠ 0), Q ([(0, 0)], zu s 172 9 (w32 (1 + (w32 (16 * (s 172 5))))))) : zT (zE 1451) (Pt PX11_isNew) n (4, [((172 : Nat) : Int)], [(v0, 0)], s) Q := by
  refine tI0 rfl (fun g1 _ l1 => zT_le ?_ (Nat.le_of_lt l1)) (fun g1 _ l1 => zT_le ?_ (Nat.le_of_lt l1))
  · refine tL ((172 : Nat) : Int) 0 rfl rfl rfl ?_
    refine tK rfl ?_
    exact tCall [(((172 : Nat) : Int), 0), (1, 0)] [] rfl rfl rfl (fun m l => h0 g1 m (Nat.lt_of_lt_of_le l (Nat.le_refl n)))
  · refine tL ((172 : Nat) : Int) 0 rfl rfl rfl ?_
    refine tK rfl ?_
    refine tCall [(((172 : Nat) : Int), 0), (1, 0)] [] rfl rfl rfl (fun m3 l3 => c_X11_fails (b_X11_fails_0 1 s ?_))
    · show zT (zE 1451) (Pt PX11_isNew) m3 (12, [((172 : Nat) : Int)], [(0, 0)], zu s 172 9 (w32 (1 + (w32 (16 * (s 172 5)))))) Q
      exact tR rfl (h1 g1)

theorem b_X11_isNew_18 {n : Nat} {Q : Zr → Prop} (v0 : Int) (s : Zs) 
    (h0 : ∀ (g1 : 0 ≤ v0), Q ([(0, 0)], zu s 172 9 (w32 (3 + (w32 (16 * (s 172 5)))))))
    (h1 : ∀ (g1 : v0 < 0), ∀ m, m < n → zC m 1520 [(((172 : Nat) : Int), 0), (1, 0)] s (fun p => zT (zE 1451) (Pt PX11_isNew) m (26, [((172 : Nat) : Int)], p.1 ++ [], p.2) Q)) : zT (zE 1451) (Pt PX11_isNew) n (18, [((172 : Nat) : Int)], [(v0, 0)], s) Q := by
  refine tI3 rfl (fun g1 _ l1 => zT_le ?_ (Nat.le_of_lt l1)) (fun g1 _ l1 => zT_le ?_ (Nat.le_of_lt l1))
  · refine tL ((172 : Nat) : Int) 0 rfl rfl rfl ?_
    refine tK rfl ?_
    refine tCall [(((172 : Nat) : Int), 0), (3, 0)] [] rfl rfl rfl (fun m2 l2 => c_X11_fails (b_X11_fails_0 3 s ?_))
    · show zT (zE 1451) (Pt PX11_isNew) m2 (64, [((172 : Nat) : Int)], [(0, 0)], zu s 172 9 (w32 (3 + (w32 (16 * (s 172 5)))))) Q
      refine tI0 rfl (fun g _ l => zT_le ?_ (Nat.le_of_lt l)) (fun g _ l => (absurd g (by decide)))
      refine tK rfl ?_
      exact tR rfl (h0 g1)
  · refine tL ((172 : Nat) : Int) 0 rfl rfl rfl ?_
    refine tK rfl ?_
    exact tCall [(((172 : Nat) : Int), 0), (1, 0)] [] rfl rfl rfl (fun m l => h1 g1 m (Nat.lt_of_lt_of_le l (Nat.le_refl n)))

theorem b_X11_isNew_26 {n : Nat} {Q : Zr → Prop} (v0 : Int) (s : Zs) 
    (h0 : ∀ (g1 : 0 ≤ v0), Q ([(0, 0)], zu s 172 9 (w32 (3 + (w32 (16 * (s 172 5)))))))
    (h1 : ∀ (g1 : v0 < 0), ∀ m, m < n → zC m 1489 [(((172 : Nat) : Int), 0), (1, 0)] s (fun p => zT (zE 1451) (Pt PX11_isNew) m (34, [((172 : Nat) : Int)], p.1 ++ [], p.2) Q)) : zT (zE 1451) (Pt PX11_isNew) n (26, [((172 : Nat) : Int)], [(v0, 0)], s) Q := by
  refine tI3 rfl (fun g1 _ l1 => zT_le ?_ (Nat.le_of_lt l1)) (fun g1 _ l1 => zT_le ?_ (Nat.le_of_lt l1))
  · refine tL ((172 : Nat) : Int) 0 rfl rfl rfl ?_
    refine tK rfl ?_
    refine tCall [(((172 : Nat) : Int), 0), (3, 0)] [] rfl rfl rfl (fun m2 l2 => c_X11_fails (b_X11_fails_0 3 s ?_))
    · show zT (zE 1451) (Pt PX11_isNew) m2 (64, [((172 : Nat) : Int)], [(0, 0)], zu s 172 9 (w32 (3 + (w32 (16 * (s 172 5)))))) Q
      refine tI0 rfl (fun g _ l => zT_le ?_ (Nat.le_of_lt l)) (fun g _ l => (absurd g (by decide)))
      refine tK rfl ?_
      exact tR rfl (h0 g1)
  · refine tL ((172 : Nat) : Int) 0 rfl rfl rfl ?_
    refine tK rfl ?_
    exact tCall [(((172 : Nat) : Int), 0), (1, 0)] [] rfl rfl rfl (fun m l => h1 g1 m (Nat.lt_of_lt_of_le l (Nat.le_refl n)))

theorem b_X11_isNew_34 {n : Nat} {Q : Zr → Prop} (v0 : Int) (s : Zs) 
    (h0 : ∀ (g1 : 0 ≤ v0), Q ([(0, 0)], zu s 172 9 (w32 (3 + (w32 (16 * (s 172 5)))))))
    (h1 : ∀ (g1 : v0 < 0), ∀ m, m < n → zC m 1475 [(((178 : Nat) : Int), 0), (4, 0), (s 174 11, 0), (s 172 7, 1)] s (fun p => zT (zE 1451) (Pt PX11_isNew) m (56, [((172 : Nat) : Int)], p.1 ++ [], p.2) Q)) : zT (zE 1451) (Pt PX11_isNew) n (34, [((172 : Nat) : Int)], [(v0, 0)], s) Q := by
  refine tI3 rfl (fun g1 _ l1 => zT_le ?_ (Nat.le_of_lt l1)) (fun g1 _ l1 => zT_le ?_ (Nat.le_of_lt l1))
  · refine tL ((172 : Nat) : Int) 0 rfl rfl rfl ?_
    refine tK rfl ?_
    refine tCall [(((172 : Nat) : Int), 0), (3, 0)] [] rfl rfl rfl (fun m2 l2 => c_X11_fails (b_X11_fails_0 3 s ?_))
    · show zT (zE 1451) (Pt PX11_isNew) m2 (64, [((172 : Nat) : Int)], [(0, 0)], zu s 172 9 (w32 (3 + (w32 (16 * (s 172 5)))))) Q
      refine tI0 rfl (fun g _ l => zT_le ?_ (Nat.le_of_lt l)) (fun g _ l => (absurd g (by decide)))
      refine tK rfl ?_
      exact tR rfl (h0 g1)
  · refine tL ((172 : Nat) : Int) 0 rfl rfl rfl ?_
    refine tFR (c := 172) 178 rfl rfl rfl rfl rfl ?_
    refine tK rfl ?_
    refine tL ((172 : Nat) : Int) 0 rfl rfl rfl ?_
    refine tFR (c := 172) 174 rfl rfl rfl rfl rfl ?_
    refine tK rfl ?_
    refine tAv 174 11 (s 174 11) 0 rfl rfl rfl (by decide) rfl rfl ?_
    refine tL ((172 : Nat) : Int) 0 rfl rfl rfl ?_
    refine tFv (c := 172) (s 172 7) 1 rfl rfl rfl rfl rfl ?_
    exact tCall [(((178 : Nat) : Int), 0), (4, 0), (s 174 11, 0), (s 172 7, 1)] [] rfl rfl rfl (fun m l => h1 g1 m (Nat.lt_of_lt_of_le l (Nat.le_refl n)))

theorem b_X11_isNew_56 {n : Nat} {Q : Zr → Prop} (v0 : Int) (s : Zs) 
    (h0 : ∀ (g1 : v0 < 0), Q ([(1, 0)], s))
    (h1 : ∀ (g1 : 0 ≤ v0), Q ([(0, 0)], zu s 172 9 (w32 (3 + (w32 (16 * (s 172 5))))))) : zT (zE 1451) (Pt PX11_isNew) n (56, [((172 : Nat) : Int)], [(v0, 0)], s) Q := by
  refine tI2 rfl (fun g1 _ l1 => zT_le ?_ (Nat.le_of_lt l1)) (fun g1 _ l1 => zT_le ?_ (Nat.le_of_lt l1))
  · refine tK rfl ?_
    refine tG rfl ?_
    exact tR rfl (h0 g1)
  · refine tL ((172 : Nat) : Int) 0 rfl rfl rfl ?_
    refine tK rfl ?_
    refine tCall [(((172 : Nat) : Int), 0), (3, 0)] [] rfl rfl rfl (fun m2 l2 => c_X11_fails (b_X11_fails_0 3 s ?_))
    · show zT (zE 1451) (Pt PX11_isNew) m2 (64, [((172 : Nat) : Int)], [(0, 0)], zu s 172 9 (w32 (3 + (w32 (16 * (s 172 5)))))) Q
      refine tI0 rfl (fun g _ l => zT_le ?_ (Nat.le_of_lt l)) (fun g _ l => (absurd g (by decide)))
      refine tK rfl ?_
      exact tR rfl (h1 g1)

theorem c_X11_isNew {n : Nat} {Q : Zr → Prop} {a0 : Int} {s : Zs} (h : zT (zE 1451) (Pt PX11_isNew) n (0, [a0], [], s) Q) : zC n 1451 [(a0, 0)] s Q := h

theorem b_X11_needsTold_0 {n : Nat} {Q : Zr → Prop} (x1 x2 : Int) (s : Zs) 
    (h0 : ∀ m, m < n → zC m 1450 [(((172 : Nat) : Int), 0)] s (fun p => zT (zE 1480) (Pt PX11_needsTold) m (4, [((172 : Nat) : Int), x1, x2], p.1 ++ [], p.2) Q)) : zT (zE 1480) (Pt PX11_needsTold) n (0, [((172 : Nat) : Int), x1, x2], [], s) Q := by
  refine tL ((172 : Nat) : Int) 0 rfl rfl rfl ?_
  exact tCall [(((172 : Nat) : Int), 0)] [] rfl rfl rfl (fun m l => h0 m (Nat.lt_of_lt_of_le l (Nat.le_refl n)))

theorem b_X11_needsTold_4 {n : Nat} {Q : Zr → Prop} (x1 x2 v0 : Int) (s : Zs) 
    (h0 : ∀ (g1 : v0 = 0), ∀ (g2 : x2 ≠ 0), ∀ (g3 : x2 ≠ 1), ∀ m, m < n → zC m 1520 [(((172 : Nat) : Int), 0), (x1, 0)] s (fun p => zT (zE 1480) (Pt PX11_needsTold) m (44, [((172 : Nat) : Int), x1, x2], p.1 ++ [(((172 : Nat) : Int), 0)], p.2) Q))
    (h1 : ∀ (g1 : v0 = 0), ∀ (g2 : x2 ≠ 0), ∀ (g3 : x2 = 1), ∀ m, m < n → zC m 1489 [(((172 : Nat) : Int), 0), (x1, 0)] s (fun p => zT (zE 1480) (Pt PX11_needsTold) m (36, [((172 : Nat) : Int), x1, x2], p.1 ++ [(((172 : Nat) : Int), 0)], p.2) Q))
    (h2 : ∀ (g1 : v0 = 0), ∀ (g2 : x2 = 0), ∀ m, m < n → zC m 1443 [(((172 : Nat) : Int), 0), (x1, 0)] s (fun p => zT (zE 1480) (Pt PX11_needsTold) m (23, [((172 : Nat) : Int), x1, x2], p.1 ++ [(((172 : Nat) : Int), 0)], p.2) Q))
    (h3 : ∀ (g1 : v0 ≠ 0), Q ([(0, 0)], zu s 172 9 (w32 (1 + (w32 (16 * (s 172 5))))))) : zT (zE 1480) (Pt PX11_needsTold) n (4, [((172 : Nat) : Int), x1, x2], [(v0, 0)], s) Q := by
  refine tI0 rfl (fun g1 _ l1 => zT_le ?_ (Nat.le_of_lt l1)) (fun g1 _ l1 => zT_le ?_ (Nat.le_of_lt l1))
  · refine tL ((172 : Nat) : Int) 0 rfl rfl rfl ?_
    refine tL x2 0 rfl rfl rfl ?_
    refine tI1 rfl (fun g2 _ l2 => zT_le ?_ (Nat.le_of_lt l2)) (fun g2 _ l2 => zT_le ?_ (Nat.le_of_lt l2))
    · refine tL x2 0 rfl rfl rfl ?_
      refine tK rfl ?_
      refine tJ1 rfl (fun g3 _ l3 => zT_le ?_ (Nat.le_of_lt l3)) (fun g3 _ l3 => zT_le ?_ (Nat.le_of_lt l3))
      · refine tL ((172 : Nat) : Int) 0 rfl rfl rfl ?_
        refine tL x1 0 rfl rfl rfl ?_
        exact tCall [(((172 : Nat) : Int), 0), (x1, 0)] [(((172 : Nat) : Int), 0)] rfl rfl rfl (fun m l => h0 g1 g2 g3 m (Nat.lt_of_lt_of_le l (Nat.le_refl n)))
      · refine tL ((172 : Nat) : Int) 0 rfl rfl rfl ?_
        refine tL x1 0 rfl rfl rfl ?_
        exact tCall [(((172 : Nat) : Int), 0), (x1, 0)] [(((172 : Nat) : Int), 0)] rfl rfl rfl (fun m l => h1 g1 g2 g3 m (Nat.lt_of_lt_of_le l (Nat.le_refl n)))
    · refine tL ((172 : Nat) : Int) 0 rfl rfl rfl ?_
      refine tL x1 0 rfl rfl rfl ?_
      exact tCall [(((172 : Nat) : Int), 0), (x1, 0)] [(((172 : Nat) : Int), 0)] rfl rfl rfl (fun m l => h2 g1 g2 m (Nat.lt_of_lt_of_le l (Nat.le_refl n)))
  · refine tL ((172 : Nat) : Int) 0 rfl rfl rfl ?_
    refine tK rfl ?_
    refine tCall [(((172 : Nat) : Int), 0), (1, 0)] [] rfl rfl rfl (fun m7 l7 => c_X11_fails (b_X11_fails_0 1 s ?_))
    · show zT (zE 1480) (Pt PX11_needsTold) m7 (12, [((172 : Nat) : Int), x1, x2], [(0, 0)], zu s 172 9 (w32 (1 + (w32 (16 * (s 172 5)))))) Q
      exact tR rfl (h3 g1)

theorem b_X11_needsTold_44 {n : Nat} {Q : Zr → Prop} (x1 x2 v0 : Int) (s : Zs) 
    (h0 : ∀ (g1 : 0 ≤ v0), ∀ m, m < n → zC m 1482 [(((172 : Nat) : Int), 0)] (zu s 172 45 v0) (fun p => zT (zE 1480) (Pt PX11_needsTold) m (64, [((172 : Nat) : Int), x1, x2], p.1 ++ [], p.2) Q))
    (h1 : ∀ (g1 : v0 < 0), Q ([(0, 0)], zu (zu s 172 45 v0) 172 9 (w32 (2 + (w32 (16 * (s 172 5))))))) : zT (zE 1480) (Pt PX11_needsTold) n (44, [((172 : Nat) : Int), x1, x2], [(v0, 0), (((172 : Nat) : Int), 0)], s) Q := by
  refine tPut 172 rfl rfl ?_
  refine tL ((172 : Nat) : Int) 0 rfl rfl rfl ?_
  refine tFv (c := 172) v0 0 rfl rfl rfl rfl rfl ?_
  refine tI3 rfl (fun g1 _ l1 => zT_le ?_ (Nat.le_of_lt l1)) (fun g1 _ l1 => zT_le ?_ (Nat.le_of_lt l1))
  · refine tL ((172 : Nat) : Int) 0 rfl rfl rfl ?_
    exact tCall [(((172 : Nat) : Int), 0)] [] rfl rfl rfl (fun m l => h0 g1 m (Nat.lt_of_lt_of_le l (Nat.le_refl n)))
  · refine tL ((172 : Nat) : Int) 0 rfl rfl rfl ?_
    refine tK rfl ?_
    refine tCall [(((172 : Nat) : Int), 0), (2, 0)] [] rfl rfl rfl (fun m3 l3 => c_X11_fails (b_X11_fails_0 2 (zu s 172 45 v0) ?_))
    · show zT (zE 1480) (Pt PX11_needsTold) m3 (59, [((172 : Nat) : Int), x1, x2], [(0, 0)], zu (zu s 172 45 v0) 172 9 (w32 (2 + (w32 (16 * (s 172 5)))))) Q
      exact tR rfl (h1 g1)

theorem b_X11_needsTold_36 {n : Nat} {Q : Zr → Prop} (x1 x2 v0 : Int) (s : Zs) 
    (h0 : ∀ (g1 : 0 ≤ v0), ∀ m, m < n → zC m 1482 [(((172 : Nat) : Int), 0)] (zu s 172 45 v0) (fun p => zT (zE 1480) (Pt PX11_needsTold) m (64, [((172 : Nat) : Int), x1, x2], p.1 ++ [], p.2) Q))
    (h1 : ∀ (g1 : v0 < 0), Q ([(0, 0)], zu (zu s 172 45 v0) 172 9 (w32 (2 + (w32 (16 * (s 172 5))))))) : zT (zE 1480) (Pt PX11_needsTold) n (36, [((172 : Nat) : Int), x1, x2], [(v0, 0), (((172 : Nat) : Int), 0)], s) Q := by
  refine tG rfl ?_
  refine tPut 172 rfl rfl ?_
  refine tL ((172 : Nat) : Int) 0 rfl rfl rfl ?_
  refine tFv (c := 172) v0 0 rfl rfl rfl rfl rfl ?_
  refine tI3 rfl (fun g1 _ l1 => zT_le ?_ (Nat.le_of_lt l1)) (fun g1 _ l1 => zT_le ?_ (Nat.le_of_lt l1))
  · refine tL ((172 : Nat) : Int) 0 rfl rfl rfl ?_
    exact tCall [(((172 : Nat) : Int), 0)] [] rfl rfl rfl (fun m l => h0 g1 m (Nat.lt_of_lt_of_le l (Nat.le_refl n)))
  · refine tL ((172 : Nat) : Int) 0 rfl rfl rfl ?_
    refine tK rfl ?_
    refine tCall [(((172 : Nat) : Int), 0), (2, 0)] [] rfl rfl rfl (fun m3 l3 => c_X11_fails (b_X11_fails_0 2 (zu s 172 45 v0) ?_))
    · show zT (zE 1480) (Pt PX11_needsTold) m3 (59, [((172 : Nat) : Int), x1, x2], [(0, 0)], zu (zu s 172 45 v0) 172 9 (w32 (2 + (w32 (16 * (s 172 5)))))) Q
      exact tR rfl (h1 g1)

theorem b_X11_needsTold_23 {n : Nat} {Q : Zr → Prop} (x1 x2 v0 : Int) (s : Zs) 
    (h0 : ∀ (g1 : 0 ≤ v0), ∀ m, m < n → zC m 1482 [(((172 : Nat) : Int), 0)] (zu s 172 45 v0) (fun p => zT (zE 1480) (Pt PX11_needsTold) m (64, [((172 : Nat) : Int), x1, x2], p.1 ++ [], p.2) Q))
    (h1 : ∀ (g1 : v0 < 0), Q ([(0, 0)], zu (zu s 172 45 v0) 172 9 (w32 (2 + (w32 (16 * (s 172 5))))))) : zT (zE 1480) (Pt PX11_needsTold) n (23, [((172 : Nat) : Int), x1, x2], [(v0, 0), (((172 : Nat) : Int), 0)], s) Q := by
  refine tG rfl ?_
  refine tPut 172 rfl rfl ?_
  refine tL ((172 : Nat) : Int) 0 rfl rfl rfl ?_
  refine tFv (c := 172) v0 0 rfl rfl rfl rfl rfl ?_
  refine tI3 rfl (fun g1 _ l1 => zT_le ?_ (Nat.le_of_lt l1)) (fun g1 _ l1 => zT_le ?_ (Nat.le_of_lt l1))
  · refine tL ((172 : Nat) : Int) 0 rfl rfl rfl ?_
    exact tCall [(((172 : Nat) : Int), 0)] [] rfl rfl rfl (fun m l => h0 g1 m (Nat.lt_of_lt_of_le l (Nat.le_refl n)))
  · refine tL ((172 : Nat) : Int) 0 rfl rfl rfl ?_
    refine tK rfl ?_
    refine tCall [(((172 : Nat) : Int), 0), (2, 0)] [] rfl rfl rfl (fun m3 l3 => c_X11_fails (b_X11_fails_0 2 (zu s 172 45 v0) ?_))
    · show zT (zE 1480) (Pt PX11_needsTold) m3 (59, [((172 : Nat) : Int), x1, x2], [(0, 0)], zu (zu s 172 45 v0) 172 9 (w32 (2 + (w32 (16 * (s 172 5)))))) Q
      exact tR rfl (h1 g1)

theorem b_X11_needsTold_64 {n : Nat} {Q : Zr → Prop} (x1 x2 : Int) (s : Zs) 
    (h0 : Q ([(1, 0)], s)) : zT (zE 1480) (Pt PX11_needsTold) n (64, [((172 : Nat) : Int), x1, x2], [], s) Q := by
  refine tK rfl ?_
  exact tR rfl (h0)

theorem c_X11_needsTold {n : Nat} {Q : Zr → Prop} {a0 a1 a2 : Int} {s : Zs} (h : zT (zE 1480) (Pt PX11_needsTold) n (0, [a0, a1, a2], [], s) Q) : zC n 1480 [(a0, 0), (a1, 0), (a2, 0)] s Q := h

theorem b_X11_needsPlace_0 {n : Nat} {Q : Zr → Prop} (x1 x2 : Int) (s : Zs) 
    (h0 : ∀ m, m < n → zC m 1480 [(((172 : Nat) : Int), 0), (x1, 0), (0, 0)] s (fun p => zT (zE 1479) (Pt PX11_needsPlace) m (6, [((172 : Nat) : Int), x1, x2], p.1 ++ [], p.2) Q)) : zT (zE 1479) (Pt PX11_needsPlace) n (0, [((172 : Nat) : Int), x1, x2], [], s) Q := by
  refine tL ((172 : Nat) : Int) 0 rfl rfl rfl ?_
  refine tL x1 0 rfl rfl rfl ?_
  refine tK rfl ?_
  exact tCall [(((172 : Nat) : Int), 0), (x1, 0), (0, 0)] [] rfl rfl rfl (fun m l => h0 m (Nat.lt_of_lt_of_le l (Nat.le_refl n)))

theorem b_X11_needsPlace_6 {n : Nat} {Q : Zr → Prop} (x1 x2 v0 : Int) (s : Zs) 
    (h0 : ∀ (g1 : v0 ≠ 0), ∀ m, m < n → zC m 1478 [(((172 : Nat) : Int), 0), (0, 0), (s 179 ((w32 ((w32 (5 * x1)) + (s 172 45))).toNat), 0)] s (fun p => zT (zE 1479) (Pt PX11_needsPlace) m (31, [((172 : Nat) : Int), x1, s 172 45], p.1 ++ [], p.2) Q))
    (h1 : ∀ (g1 : v0 = 0), Q ([(0, 0)], s)) : zT (zE 1479) (Pt PX11_needsPlace) n (6, [((172 : Nat) : Int), x1, x2], [(v0, 0)], s) Q := by
  refine tI1 rfl (fun g1 _ l1 => zT_le ?_ (Nat.le_of_lt l1)) (fun g1 _ l1 => zT_le ?_ (Nat.le_of_lt l1))
  · refine tL ((172 : Nat) : Int) 0 rfl rfl rfl ?_
    refine tFv (c := 172) (s 172 45) 0 rfl rfl rfl rfl rfl ?_
    refine tS [((172 : Nat) : Int), x1, s 172 45] rfl rfl ?_
    refine tL ((172 : Nat) : Int) 0 rfl rfl rfl ?_
    refine tK rfl ?_
    refine tL ((172 : Nat) : Int) 0 rfl rfl rfl ?_
    refine tFR (c := 172) 179 rfl rfl rfl rfl rfl ?_
    refine tK rfl ?_
    refine tL x1 0 rfl rfl rfl ?_
    refine tM (v := w32 (5 * x1)) rfl rfl ?_
    refine tL (s 172 45) 0 rfl rfl rfl ?_
    refine tB (v := w32 ((w32 (5 * x1)) + (s 172 45))) rfl rfl ?_
    refine tAv 179 ((w32 ((w32 (5 * x1)) + (s 172 45))).toNat) (s 179 ((w32 ((w32 (5 * x1)) + (s 172 45))).toNat)) 0 rfl rfl rfl (by decide) rfl rfl ?_
    exact tCall [(((172 : Nat) : Int), 0), (0, 0), (s 179 ((w32 ((w32 (5 * x1)) + (s 172 45))).toNat), 0)] [] rfl rfl rfl (fun m l => h0 g1 m (Nat.lt_of_lt_of_le l (Nat.le_refl n)))
  · refine tK rfl ?_
    exact tR rfl (h1 g1)

theorem b_X11_needsPlace_31 {n : Nat} {Q : Zr → Prop} (x1 x2 v0 : Int) (s : Zs) 
    (h0 : ∀ (g1 : v0 ≠ 0), Q ([(1, 0)], zu s 172 45 (w32 ((s 172 45) + (w32 (6 * x2))))))
    (h1 : ∀ (g1 : v0 = 0), Q ([(0, 0)], s)) : zT (zE 1479) (Pt PX11_needsPlace) n (31, [((172 : Nat) : Int), x1, x2], [(v0, 0)], s) Q := by
  refine tI1 rfl (fun g1 _ l1 => zT_le ?_ (Nat.le_of_lt l1)) (fun g1 _ l1 => zT_le ?_ (Nat.le_of_lt l1))
  · refine tL ((172 : Nat) : Int) 0 rfl rfl rfl ?_
    refine tD rfl ?_
    refine tFv (c := 172) (s 172 45) 0 rfl rfl rfl rfl rfl ?_
    refine tK rfl ?_
    refine tL x2 0 rfl rfl rfl ?_
    refine tM (v := w32 (6 * x2)) rfl rfl ?_
    refine tB (v := w32 ((s 172 45) + (w32 (6 * x2)))) rfl rfl ?_
    refine tPut 172 rfl rfl ?_
    refine tK rfl ?_
    exact tR rfl (h0 g1)
  · refine tK rfl ?_
    exact tR rfl (h1 g1)

theorem c_X11_needsPlace {n : Nat} {Q : Zr → Prop} {a0 a1 : Int} {s : Zs} (h : zT (zE 1479) (Pt PX11_needsPlace) n (0, [a0, a1, 0], [], s) Q) : zC n 1479 [(a0, 0), (a1, 0)] s Q := h

theorem b_X11_isTwice_0 {n : Nat} {Q : Zr → Prop} (x1 : Int) (s : Zs) 
    (h0 : ∀ (g1 : zand (zshr (s 172 32) x1) 1 ≠ 1), Q ([(0, 0)], zu s 172 32 (zor (s 172 32) (zshl 1 x1))))
    (h1 : ∀ (g1 : zand (zshr (s 172 32) x1) 1 = 1), Q ([(1, 0)], s)) : zT (zE 1457) (Pt PX11_isTwice) n (0, [((172 : Nat) : Int), x1], [], s) Q := by
  refine tL ((172 : Nat) : Int) 0 rfl rfl rfl ?_
  refine tFv (c := 172) (s 172 32) 0 rfl rfl rfl rfl rfl ?_
  refine tL x1 0 rfl rfl rfl ?_
  refine tB (v := zshr (s 172 32) x1) rfl rfl ?_
  refine tK rfl ?_
  refine tB (v := zand (zshr (s 172 32) x1) 1) rfl rfl ?_
  refine tK rfl ?_
  refine tJ1 rfl (fun g1 _ l1 => zT_le ?_ (Nat.le_of_lt l1)) (fun g1 _ l1 => zT_le ?_ (Nat.le_of_lt l1))
  · refine tL ((172 : Nat) : Int) 0 rfl rfl rfl ?_
    refine tD rfl ?_
    refine tFv (c := 172) (s 172 32) 0 rfl rfl rfl rfl rfl ?_
    refine tK rfl ?_
    refine tL x1 0 rfl rfl rfl ?_
    refine tB (v := zshl 1 x1) rfl rfl ?_
    refine tB (v := zor (s 172 32) (zshl 1 x1)) rfl rfl ?_
    refine tPut 172 rfl rfl ?_
    refine tK rfl ?_
    exact tR rfl (h0 g1)
  · refine tK rfl ?_
    exact tR rfl (h1 g1)

theorem c_X11_isTwice {n : Nat} {Q : Zr → Prop} {a0 a1 : Int} {s : Zs} (h : zT (zE 1457) (Pt PX11_isTwice) n (0, [a0, a1], [], s) Q) : zC n 1457 [(a0, 0), (a1, 0)] s Q := h

theorem b_X11_flightOf_0 {n : Nat} {Q : Zr → Prop} (x1 x2 x3 x4 : Int) (s : Zs) 
    (h0 : zT (zE 1438) (Pt PX11_flightOf) n (3, [((172 : Nat) : Int), x1, x2, x3, 0], [], s) Q) : zT (zE 1438) (Pt PX11_flightOf) n (0, [((172 : Nat) : Int), x1, x2, x3, x4], [], s) Q := by
  refine tK rfl ?_
  refine tS [((172 : Nat) : Int), x1, x2, x3, 0] rfl rfl ?_
  exact zT_le (h0) (Nat.le_refl n)

theorem b_X11_flightOf_3 {n : Nat} {Q : Zr → Prop} (x1 x2 x3 x4 : Int) (s : Zs) 
    (h0 : ∀ (g1 : s 174 ((w32 ((w32 (7 * x1)) + 1)).toNat) ≤ x4), Q ([((-1), 0)], s))
    (h1 : ∀ (g1 : x4 < s 174 ((w32 ((w32 (7 * x1)) + 1)).toNat)), ∀ (g2 : s 180 ((w32 ((w32 (10 * x1)) + x4)).toNat) ≠ x2), ∀ m, m < n → zT (zE 1438) (Pt PX11_flightOf) m (3, [((172 : Nat) : Int), x1, x2, x3, w32 (x4 + 1)], [], s) Q)
    (h2 : ∀ (g1 : x4 < s 174 ((w32 ((w32 (7 * x1)) + 1)).toNat)), ∀ (g2 : s 180 ((w32 ((w32 (10 * x1)) + x4)).toNat) = x2), ∀ (g3 : s 181 ((w32 ((w32 (10 * x1)) + x4)).toNat) ≠ x3), ∀ m, m < n → zT (zE 1438) (Pt PX11_flightOf) m (3, [((172 : Nat) : Int), x1, x2, x3, w32 (x4 + 1)], [], s) Q)
    (h3 : ∀ (g1 : x4 < s 174 ((w32 ((w32 (7 * x1)) + 1)).toNat)), ∀ (g2 : s 180 ((w32 ((w32 (10 * x1)) + x4)).toNat) = x2), ∀ (g3 : s 181 ((w32 ((w32 (10 * x1)) + x4)).toNat) = x3), Q ([(x4, 0)], s)) : zT (zE 1438) (Pt PX11_flightOf) n (3, [((172 : Nat) : Int), x1, x2, x3, x4], [], s) Q := by
  refine tL x4 0 rfl rfl rfl ?_
  refine tL ((172 : Nat) : Int) 0 rfl rfl rfl ?_
  refine tFR (c := 172) 174 rfl rfl rfl rfl rfl ?_
  refine tK rfl ?_
  refine tL x1 0 rfl rfl rfl ?_
  refine tM (v := w32 (7 * x1)) rfl rfl ?_
  refine tK rfl ?_
  refine tB (v := w32 ((w32 (7 * x1)) + 1)) rfl rfl ?_
  refine tAv 174 ((w32 ((w32 (7 * x1)) + 1)).toNat) (s 174 ((w32 ((w32 (7 * x1)) + 1)).toNat)) 0 rfl rfl rfl (by decide) rfl rfl ?_
  refine tJ3 rfl (fun g1 _ l1 => zT_le ?_ (Nat.le_of_lt l1)) (fun g1 _ l1 => zT_le ?_ (Nat.le_of_lt l1))
  · refine tK rfl ?_
    exact tR rfl (h0 g1)
  · refine tL ((172 : Nat) : Int) 0 rfl rfl rfl ?_
    refine tFR (c := 172) 180 rfl rfl rfl rfl rfl ?_
    refine tK rfl ?_
    refine tL x1 0 rfl rfl rfl ?_
    refine tM (v := w32 (10 * x1)) rfl rfl ?_
    refine tL x4 0 rfl rfl rfl ?_
    refine tB (v := w32 ((w32 (10 * x1)) + x4)) rfl rfl ?_
    refine tAv 180 ((w32 ((w32 (10 * x1)) + x4)).toNat) (s 180 ((w32 ((w32 (10 * x1)) + x4)).toNat)) 0 rfl rfl rfl (by decide) rfl rfl ?_
    refine tL x2 0 rfl rfl rfl ?_
    refine tJ1 rfl (fun g2 _ l2 => zT_le ?_ (Nat.le_of_lt l2)) (fun g2 _ l2 => zT_le ?_ (Nat.le_of_lt l2))
    · refine tInc [((172 : Nat) : Int), x1, x2, x3, w32 (x4 + 1)] rfl rfl ?_
      exact tGb rfl (fun m2 l2 => h1 g1 g2 m2 (Nat.lt_of_lt_of_le l2 (Nat.le_refl n)))
    · refine tL ((172 : Nat) : Int) 0 rfl rfl rfl ?_
      refine tFR (c := 172) 181 rfl rfl rfl rfl rfl ?_
      refine tK rfl ?_
      refine tL x1 0 rfl rfl rfl ?_
      refine tM (v := w32 (10 * x1)) rfl rfl ?_
      refine tL x4 0 rfl rfl rfl ?_
      refine tB (v := w32 ((w32 (10 * x1)) + x4)) rfl rfl ?_
      refine tAv 181 ((w32 ((w32 (10 * x1)) + x4)).toNat) (s 181 ((w32 ((w32 (10 * x1)) + x4)).toNat)) 0 rfl rfl rfl (by decide) rfl rfl ?_
      refine tL x3 0 rfl rfl rfl ?_
      refine tJ1 rfl (fun g3 _ l3 => zT_le ?_ (Nat.le_of_lt l3)) (fun g3 _ l3 => zT_le ?_ (Nat.le_of_lt l3))
      · refine tInc [((172 : Nat) : Int), x1, x2, x3, w32 (x4 + 1)] rfl rfl ?_
        exact tGb rfl (fun m2 l2 => h2 g1 g2 g3 m2 (Nat.lt_of_lt_of_le l2 (Nat.le_refl n)))
      · refine tL x4 0 rfl rfl rfl ?_
        exact tR rfl (h3 g1 g2 g3)

theorem c_X11_flightOf {n : Nat} {Q : Zr → Prop} {a0 a1 a2 a3 : Int} {s : Zs} (h : zT (zE 1438) (Pt PX11_flightOf) n (0, [a0, a1, a2, a3, 0], [], s) Q) : zC n 1438 [(a0, 0), (a1, 0), (a2, 0), (a3, 0)] s Q := h

theorem kwp_ge {w : List Int} : ∀ k : Nat, -1 ≤ kwp w k
  | 0 => Int.le_refl (-1)
  | k + 1 => by
    have := kwp_ge (w := w) k
    show -1 ≤ (if KW k = w then (k : Int) else kwp w k)
    split <;> omega
theorem isNm_iff {T : Nat → Int} {n b : Nat} : isNm T n b = true ↔ eQ T n b = 2 ∧ (kwi (eW T n b) = -1 ∨ 25 ≤ kwi (eW T n b)) := by unfold isNm; simp
section Zml
variable {N : Nat} {s : Zs} {T : Nat → Int} {n p : Nat} {D : ZD}
theorem isKept_ok (h : mst s T n p) : zC N 1450 [(((172 : Nat) : Int), 0)] s (fun r => r = ([(if isNm T n (kB T n p) = true then 0 else 1, 0)], s)) := by
  have h6 : s 172 6 = mQ (eQ T n (kB T n p)) := h.2.2.2.2.1
  have yes : s 172 6 = 1 → ∀ i, i < 25 → s 172 7 = enc 27 (KW i) → isNm T n (kB T n p) = false := fun q i hi e => by
    have hq := mQ_1.mp (h6.symm.trans q)
    have hw := (mword h (by omega) hq).mp e
    refine Bool.eq_false_iff.mpr (fun c => ?_)
    have c := (isNm_iff.mp c).2
    rw [hw, kwi_KW i (by omega)] at c
    omega
  refine c_X11_isKept (b_X11_isKept_0 s (fun g1 g2 => ?_) (fun g1 g2 g3 => ?_) (fun g1 g2 g3 g4 => ?_) (fun g1 g2 g3 g4 g5 => ?_) (fun g1 g2 g3 g4 g5 g6 => ?_) (fun g1 g2 g3 g4 g5 g6 g7 => ?_) (fun g1 g2 g3 g4 g5 g6 g7 g8 => ?_) (fun g1 g2 g3 g4 g5 g6 g7 g8 g9 => ?_) (fun g1 g2 g3 g4 g5 g6 g7 g8 g9 g10 => ?_) (fun g1 g2 g3 g4 g5 g6 g7 g8 g9 g10 g11 => ?_) (fun g1 g2 g3 g4 g5 g6 g7 g8 g9 g10 g11 g12 => ?_) (fun g1 g2 g3 g4 g5 g6 g7 g8 g9 g10 g11 g12 g13 => ?_) (fun g1 g2 g3 g4 g5 g6 g7 g8 g9 g10 g11 g12 g13 g14 => ?_) (fun g1 g2 g3 g4 g5 g6 g7 g8 g9 g10 g11 g12 g13 g14 g15 => ?_) (fun g1 g2 g3 g4 g5 g6 g7 g8 g9 g10 g11 g12 g13 g14 g15 g16 => ?_) (fun g1 g2 g3 g4 g5 g6 g7 g8 g9 g10 g11 g12 g13 g14 g15 g16 g17 => ?_) (fun g1 g2 g3 g4 g5 g6 g7 g8 g9 g10 g11 g12 g13 g14 g15 g16 g17 g18 => ?_) (fun g1 g2 g3 g4 g5 g6 g7 g8 g9 g10 g11 g12 g13 g14 g15 g16 g17 g18 g19 => ?_) (fun g1 g2 g3 g4 g5 g6 g7 g8 g9 g10 g11 g12 g13 g14 g15 g16 g17 g18 g19 g20 => ?_) (fun g1 g2 g3 g4 g5 g6 g7 g8 g9 g10 g11 g12 g13 g14 g15 g16 g17 g18 g19 g20 g21 => ?_) (fun g1 g2 g3 g4 g5 g6 g7 g8 g9 g10 g11 g12 g13 g14 g15 g16 g17 g18 g19 g20 g21 g22 => ?_) (fun g1 g2 g3 g4 g5 g6 g7 g8 g9 g10 g11 g12 g13 g14 g15 g16 g17 g18 g19 g20 g21 g22 g23 => ?_) (fun g1 g2 g3 g4 g5 g6 g7 g8 g9 g10 g11 g12 g13 g14 g15 g16 g17 g18 g19 g20 g21 g22 g23 g24 => ?_) (fun g1 g2 g3 g4 g5 g6 g7 g8 g9 g10 g11 g12 g13 g14 g15 g16 g17 g18 g19 g20 g21 g22 g23 g24 g25 => ?_) (fun g1 g2 g3 g4 g5 g6 g7 g8 g9 g10 g11 g12 g13 g14 g15 g16 g17 g18 g19 g20 g21 g22 g23 g24 g25 g26 => ?_) (fun g1 g2 g3 g4 g5 g6 g7 g8 g9 g10 g11 g12 g13 g14 g15 g16 g17 g18 g19 g20 g21 g22 g23 g24 g25 g26 => ?_) (fun g1 => ?_))
  · rw [yes g1 0 (by omega) ((zcmpL_eq.mp g2).trans (by decide))]; rfl
  · rw [yes g1 1 (by omega) ((zcmpL_eq.mp g3).trans (by decide))]; rfl
  · rw [yes g1 2 (by omega) ((zcmpL_eq.mp g4).trans (by decide))]; rfl
  · rw [yes g1 3 (by omega) ((zcmpL_eq.mp g5).trans (by decide))]; rfl
  · rw [yes g1 4 (by omega) ((zcmpL_eq.mp g6).trans (by decide))]; rfl
  · rw [yes g1 5 (by omega) ((zcmpL_eq.mp g7).trans (by decide))]; rfl
  · rw [yes g1 6 (by omega) ((zcmpL_eq.mp g8).trans (by decide))]; rfl
  · rw [yes g1 7 (by omega) ((zcmpL_eq.mp g9).trans (by decide))]; rfl
  · rw [yes g1 8 (by omega) ((zcmpL_eq.mp g10).trans (by decide))]; rfl
  · rw [yes g1 9 (by omega) ((zcmpL_eq.mp g11).trans (by decide))]; rfl
  · rw [yes g1 10 (by omega) ((zcmpL_eq.mp g12).trans (by decide))]; rfl
  · rw [yes g1 11 (by omega) ((zcmpL_eq.mp g13).trans (by decide))]; rfl
  · rw [yes g1 12 (by omega) ((zcmpL_eq.mp g14).trans (by decide))]; rfl
  · rw [yes g1 13 (by omega) ((zcmpL_eq.mp g15).trans (by decide))]; rfl
  · rw [yes g1 14 (by omega) ((zcmpL_eq.mp g16).trans (by decide))]; rfl
  · rw [yes g1 15 (by omega) ((zcmpL_eq.mp g17).trans (by decide))]; rfl
  · rw [yes g1 16 (by omega) ((zcmpL_eq.mp g18).trans (by decide))]; rfl
  · rw [yes g1 17 (by omega) ((zcmpL_eq.mp g19).trans (by decide))]; rfl
  · rw [yes g1 18 (by omega) ((zcmpL_eq.mp g20).trans (by decide))]; rfl
  · rw [yes g1 19 (by omega) ((zcmpL_eq.mp g21).trans (by decide))]; rfl
  · rw [yes g1 20 (by omega) ((zcmpL_eq.mp g22).trans (by decide))]; rfl
  · rw [yes g1 21 (by omega) ((zcmpL_eq.mp g23).trans (by decide))]; rfl
  · rw [yes g1 22 (by omega) ((zcmpL_eq.mp g24).trans (by decide))]; rfl
  · rw [yes g1 23 (by omega) ((zcmpL_eq.mp g25).trans (by decide))]; rfl
  · have hq := mQ_1.mp (h6.symm.trans g1)
    have hn : isNm T n (kB T n p) = true := by
      refine isNm_iff.mpr ⟨hq, Decidable.byContradiction fun c => ?_⟩
      have h1 : -1 ≤ kwi (eW T n (kB T n p)) := kwp_ge 28
      obtain ⟨j, hj⟩ : ∃ j : Nat, kwi (eW T n (kB T n p)) = (j : Int) := ⟨(kwi (eW T n (kB T n p))).toNat, by omega⟩
      have hj25 : j < 25 := by omega
      have e := (mword h (by omega) hq).mpr ((kwi_iff (by omega)).mp hj)
      have : j = 0 ∨ j = 1 ∨ j = 2 ∨ j = 3 ∨ j = 4 ∨ j = 5 ∨ j = 6 ∨ j = 7 ∨ j = 8 ∨ j = 9 ∨ j = 10 ∨ j = 11 ∨ j = 12 ∨ j = 13 ∨ j = 14 ∨ j = 15 ∨ j = 16 ∨ j = 17 ∨ j = 18 ∨ j = 19 ∨ j = 20 ∨ j = 21 ∨ j = 22 ∨ j = 23 ∨ j = 24 := by omega
      rcases this with rfl | rfl | rfl | rfl | rfl | rfl | rfl | rfl | rfl | rfl | rfl | rfl | rfl | rfl | rfl | rfl | rfl | rfl | rfl | rfl | rfl | rfl | rfl | rfl | rfl
      · exact g2 (zcmpL_eq.mpr (e.trans (by decide)))
      · exact g3 (zcmpL_eq.mpr (e.trans (by decide)))
      · exact g4 (zcmpL_eq.mpr (e.trans (by decide)))
      · exact g5 (zcmpL_eq.mpr (e.trans (by decide)))
      · exact g6 (zcmpL_eq.mpr (e.trans (by decide)))
      · exact g7 (zcmpL_eq.mpr (e.trans (by decide)))
      · exact g8 (zcmpL_eq.mpr (e.trans (by decide)))
      · exact g9 (zcmpL_eq.mpr (e.trans (by decide)))
      · exact g10 (zcmpL_eq.mpr (e.trans (by decide)))
      · exact g11 (zcmpL_eq.mpr (e.trans (by decide)))
      · exact g12 (zcmpL_eq.mpr (e.trans (by decide)))
      · exact g13 (zcmpL_eq.mpr (e.trans (by decide)))
      · exact g14 (zcmpL_eq.mpr (e.trans (by decide)))
      · exact g15 (zcmpL_eq.mpr (e.trans (by decide)))
      · exact g16 (zcmpL_eq.mpr (e.trans (by decide)))
      · exact g17 (zcmpL_eq.mpr (e.trans (by decide)))
      · exact g18 (zcmpL_eq.mpr (e.trans (by decide)))
      · exact g19 (zcmpL_eq.mpr (e.trans (by decide)))
      · exact g20 (zcmpL_eq.mpr (e.trans (by decide)))
      · exact g21 (zcmpL_eq.mpr (e.trans (by decide)))
      · exact g22 (zcmpL_eq.mpr (e.trans (by decide)))
      · exact g23 (zcmpL_eq.mpr (e.trans (by decide)))
      · exact g24 (zcmpL_eq.mpr (e.trans (by decide)))
      · exact g25 (zcmpL_eq.mpr (e.trans (by decide)))
      · exact g26 (zcmpL_eq.mpr (e.trans (by decide)))
    rw [hn]; rfl
  · rw [yes g1 24 (by omega) ((zcmpL_eq.mp g26).trans (by decide))]; rfl
  · have hn : isNm T n (kB T n p) = false := Bool.eq_false_iff.mpr (fun c => g1 (h6.trans (mQ_1.mpr (isNm_iff.mp c).1)))
    rw [hn]; rfl
theorem named_ok {c f m : Nat} {W : List Int} (hW : okW W) {ws : List (List Int)} (hm : ws.length = m) (hm5 : m ≤ 20) (hf : f ≤ 20) (hws : ∀ w ∈ ws, okW w) (hs : ∀ (i : Nat) (w : List Int), ws[i]? = some w → s c (f + i) = enc 27 w) : zC N 1475 [((c : Int), 0), ((f : Int), 0), ((m : Int), 0), (enc 27 W, 1)] s (fun r => r = ([(ixW W ws, 0)], s)) := by
  have loop : ∀ (M i : Nat) (x4 : Int), i ≤ m → (∀ j, j < i → ∀ v, ws[j]? = some v → v ≠ W) → zT (zE 1475) (Pt PX11_named) M (3, [((c : Nat) : Int), (f : Int), (m : Int), enc 27 W, x4, ((f + i : Nat) : Int)], [], s) (fun r => r = ([(ixW W ws, 0)], s)) := by
    intro M
    induction M using Nat.strongRecOn with
    | ind M ih =>
      intro i x4 hi hno
      have e1 : w32 ((f : Int) + (m : Int)) = ((f + m : Nat) : Int) := by rw [w32_id (by omega) (by omega)]; omega
      have hsi : ∀ (hi : i < m), s c (((f + i : Nat) : Int)).toNat = enc 27 (ws[i]'(by omega)) := fun hi => by
        rw [Int.toNat_natCast]
        exact hs i _ (List.getElem?_eq_getElem (by omega))
      have hme : ∀ (hi : i < m), okW (ws[i]'(by omega)) := fun hi => hws _ (List.getElem_mem _)
      refine b_X11_named_3 _ _ _ _ _ s (fun g => ?_) (fun g g2 k hk => ?_) (fun g g2 => ?_)
      · rw [e1] at g
        have hc : ixW W ws = -1 := by
          have hb := ixW_bd (w := W) ws
          by_cases c : ixW W ws = -1
          · exact c
          · exfalso
            have := ixW_mem.mp c
            obtain ⟨j, hj, e⟩ := List.mem_iff_getElem.mp this
            exact hno j (by omega) _ (List.getElem?_eq_getElem hj) e
        rw [hc]
      · rw [e1] at g
        have hi' : i < m := by omega
        rw [hsi hi'] at g2
        rw [w32_id (by omega) (by omega), show (((f + i : Nat) : Int) + 1) = ((f + (i + 1) : Nat) : Int) from by omega]
        refine ih k hk (i + 1) _ (by omega) (fun j hj v hv => ?_)
        by_cases e : j = i
        · subst e
          rw [List.getElem?_eq_getElem (by omega)] at hv
          cases hv
          exact fun e => g2 (zcmpL_eq.mpr (by rw [e]))
        · exact hno j (by omega) v hv
      · rw [e1] at g
        have hi' : i < m := by omega
        rw [hsi hi'] at g2
        have e := enc_inj (Or.inl rfl) _ _ (hme hi') hW (zcmpL_eq.mp g2)
        rw [ixW_yes (k := i) (by rw [List.getElem?_eq_getElem (by omega), e]) hno, w32_id (by omega) (by omega), show ((f + i : Nat) : Int) - (f : Int) = (i : Int) from by omega]
  exact c_X11_named (b_X11_named_0 _ _ _ _ _ s (loop N 0 _ (by omega) (fun j hj => by omega)))
/-- what a town tells, as the model keeps it -/
def mnc (k : Nat) : Nat := if k = 0 then 175 else if k = 2 then 176 else if k = 3 then 177 else 178
def mnb (k : Nat) : Nat := if k = 0 then 5 else if k = 1 then 10 else if k = 2 then 4 else if k = 3 then 5 else 4
def mcc (k : Nat) : Nat := if k = 0 then 179 else if k = 1 then 180 else if k = 2 then 184 else if k = 3 then 186 else 190
def wd2 (k : Nat) : Nat := if k = 0 then 1 else wdt k
def mD (s : Zs) (D : ZD) : Prop := (∀ k, k < 5 → s 174 (7 + k) = (cnt D k : Int)) ∧ (∀ k i w, k < 5 → k ≠ 1 → (dN D k)[i]? = some w → s (mnc k) (mnb k + i) = enc 27 w) ∧ (∀ k j i v, k < 5 → j < wd2 k → (dC D (10 * k + j))[i]? = some v → s (mcc k + j) (mnb k + i) = v)
def wF (D : ZD) : Prop := ∀ (i : Nat) (a b : Int), (dC D 10)[i]? = some a → (dC D 11)[i]? = some b → b < flr D a
def mDh (s : Zs) (D : ZD) (p : Nat) : Prop := s 172 32 = (if dHeap D = -1 then 0 else 32) + (if dWalk D = -1 then 0 else 64) ∧ s 174 12 = (if dHeap D = -1 then 0 else dHeap D) ∧ s 174 13 = (if dWalk D = -1 then 5 else dWalk D) ∧ (s 192 1 < s 193 1 ↔ dPr D ≠ 0) ∧ 1000 ≤ s 172 31 ∧ s 172 31 ≤ 1000 + (p : Int)
def mP (s : Zs) (T : Nat → Int) (n p : Nat) (D : ZD) : Prop := mst s T n p ∧ mD s D ∧ wD D ∧ wF D ∧ mDh s D p
theorem mnc_b (k : Nat) : 175 ≤ mnc k ∧ mnc k ≤ 178 := by unfold mnc; split <;> (try split) <;> (try split) <;> omega
theorem mcc_b {k j : Nat} (hk : k < 5) (hj : j < wd2 k) : 179 ≤ mcc k + j ∧ mcc k + j ≤ 191 := by
  have : k = 0 ∨ k = 1 ∨ k = 2 ∨ k = 3 ∨ k = 4 := by omega
  rcases this with rfl | rfl | rfl | rfl | rfl <;> (simp [wd2, wdt, mcc] at hj ⊢; omega)
theorem mD_N {s' : Zs} (f : frN s s') (h : mD s D) : mD s' D := by
  obtain ⟨h1, h2, h3⟩ := h
  refine ⟨fun k hk => by rw [f _ _ (by omega)]; exact h1 k hk, fun k i w hk hk1 hw => ?_, fun k j i v hk hj hv => ?_⟩
  · have := mnc_b k
    rw [f _ _ (by omega)]
    exact h2 k i w hk hk1 hw
  · have := mcc_b hk hj
    rw [f _ _ (by omega)]
    exact h3 k j i v hk hj hv
theorem mP_N {s' : Zs} {p' : Nat} (f : frN s s') (h : mP s T n p D) (hst : mst s' T n p') (hp : p ≤ p') : mP s' T n p' D := by
  obtain ⟨-, h1, h2, h3, d1, d2, d3, d4, d5, d6⟩ := h
  refine ⟨hst, mD_N f h1, h2, h3, by rw [f _ _ (by omega)]; exact d1, by rw [f _ _ (by omega)]; exact d2, by rw [f _ _ (by omega)]; exact d3, by rw [f _ _ (by omega), f _ _ (by omega)]; exact d4, by rw [f _ _ (by omega)]; exact d5, by rw [f _ _ (by omega)]; omega⟩
theorem lNk (h : mP s T n p D) {k : Nat} (hk : k < 5) (hk1 : k ≠ 1) : (dN D k).length = cnt D k := by unfold cnt; rw [if_neg hk1]
theorem houseNamed_ok (h : mP s T n p D) (hn : eQ T n (kB T n p) = 2) : zC N 1443 [(((172 : Nat) : Int), 0), (1, 0)] s (fun r => r = ([(ixW (eW T n (kB T n p)) (dN D 0), 0)], s)) := by
  have hc : s 174 7 = ((cnt D 0 : Nat) : Int) := h.2.1.1 0 (by omega)
  have hm : cnt D 0 ≤ 5 := h.2.2.1.1 0 (by omega)
  refine c_X11_houseNamed (b_X11_houseNamed_0 1 s (fun m _ => ?_))
  show zC m 1475 [(((175 : Nat) : Int), 0), (5, 0), (s 174 7, 0), (s 172 7, 1)] s _
  rw [hc, h.1.2.2.2.2.2.1 hn]
  refine zC_q (named_ok (c := 175) (f := 5) (eW_ok (kB_bd h.1.2.1)) (lNk h (by omega) (by omega)) (by omega) (by omega) (fun w hw => (h.2.2.1.2.1 0 w hw).1) (fun i w hw => h.2.1.2.1 0 i w (by omega) (by omega) hw)) (fun r hr => ?_)
  subst hr
  exact b_X11_houseNamed_25 _ _ s rfl
theorem thingNamed_ok (h : mP s T n p D) (hn : eQ T n (kB T n p) = 2) : zC N 1520 [(((172 : Nat) : Int), 0), (1, 0)] s (fun r => r = ([(ixW (eW T n (kB T n p)) (dN D 2), 0)], s)) := by
  have hc : s 174 9 = ((cnt D 2 : Nat) : Int) := h.2.1.1 2 (by omega)
  have hm : cnt D 2 ≤ 4 := h.2.2.1.1 2 (by omega)
  refine c_X11_thingNamed (b_X11_thingNamed_0 1 s (fun m _ => ?_))
  show zC m 1475 [(((176 : Nat) : Int), 0), (4, 0), (s 174 9, 0), (s 172 7, 1)] s _
  rw [hc, h.1.2.2.2.2.2.1 hn]
  refine zC_q (named_ok (c := 176) (f := 4) (eW_ok (kB_bd h.1.2.1)) (lNk h (by omega) (by omega)) (by omega) (by omega) (fun w hw => (h.2.2.1.2.1 2 w hw).1) (fun i w hw => h.2.1.2.1 2 i w (by omega) (by omega) hw)) (fun r hr => ?_)
  subst hr
  exact b_X11_thingNamed_25 _ _ s rfl
theorem personNamed_ok (h : mP s T n p D) (hn : eQ T n (kB T n p) = 2) : zC N 1489 [(((172 : Nat) : Int), 0), (1, 0)] s (fun r => r = ([(ixW (eW T n (kB T n p)) (dN D 3), 0)], s)) := by
  have hc : s 174 10 = ((cnt D 3 : Nat) : Int) := h.2.1.1 3 (by omega)
  have hm : cnt D 3 ≤ 5 := h.2.2.1.1 3 (by omega)
  refine c_X11_personNamed (b_X11_personNamed_0 1 s (fun m _ => ?_))
  show zC m 1475 [(((177 : Nat) : Int), 0), (5, 0), (s 174 10, 0), (s 172 7, 1)] s _
  rw [hc, h.1.2.2.2.2.2.1 hn]
  refine zC_q (named_ok (c := 177) (f := 5) (eW_ok (kB_bd h.1.2.1)) (lNk h (by omega) (by omega)) (by omega) (by omega) (fun w hw => (h.2.2.1.2.1 3 w hw).1) (fun i w hw => h.2.1.2.1 3 i w (by omega) (by omega) hw)) (fun r hr => ?_)
  subst hr
  exact b_X11_personNamed_25 _ _ s rfl
theorem contains_ix {W : List Int} {ws : List (List Int)} : ws.contains W = true ↔ 0 ≤ ixW W ws := by
  have hb := ixW_bd (w := W) ws
  rw [List.contains_iff_mem, ← ixW_mem]
  omega
theorem told_ix {W : List Int} : told D W = true ↔ (0 ≤ ixW W (dN D 0) ∨ 0 ≤ ixW W (dN D 2) ∨ 0 ≤ ixW W (dN D 3) ∨ 0 ≤ ixW W (dN D 4)) := by
  unfold told
  rw [Bool.or_eq_true, Bool.or_eq_true, Bool.or_eq_true, contains_ix, contains_ix, contains_ix, contains_ix]
/-- a step of a line, the model's side: bad with its fault, or good and on -/
def mQq (T : Nat → Int) (n : Nat) (x : PS) (D : ZD) (s : Zs) (Q : Zr → Prop) : Prop := (∀ s', x.1 ≠ 0 → frN s s' → s' 172 9 = x.1 → Q ([(0, 0)], s')) ∧ (∀ s', x.1 = 0 → frN s s' → mP s' T n x.2 D → Q ([(1, 0)], s'))
theorem mre_q {x : PS} {r : Zr} {Q : Zr → Prop} (h : mP s T n p D) (hp : p ≤ x.2) (hr : mre T n x s r) (k : mQq T n x D s Q) : Q r := by
  obtain ⟨r1, s'⟩ := r
  obtain ⟨e, f, a, b⟩ := hr
  have e : r1 = [(if x.1 = 0 then 1 else 0, 0)] := e
  subst e
  by_cases c : x.1 = 0
  · rw [if_pos c]
    exact k.2 s' c f (mP_N f h (a c) hp)
  · rw [if_neg c]
    exact k.1 s' c f (b c)
theorem mfail_q {x : PS} {k' : Int} {Q : Zr → Prop} (hk : 1 ≤ k' ∧ k' ≤ 5) (h : mst s T n p) (hx : x = gF T n k' (0, p)) (k : ∀ s', x.1 ≠ 0 → frN s s' → s' 172 9 = x.1 → Q ([(0, 0)], s')) : Q ([(0, 0)], zu s 172 9 (w32 (k' + w32 (16 * s 172 5)))) := by
  obtain ⟨e, f, a, b⟩ := mst_fail hk h hx
  have hne : x.1 ≠ 0 := by rw [hx]; exact gF_ne hk.1 rfl
  exact k _ hne f (b hne)
theorem isNew_q {Q : Zr → Prop} (h : mP s T n p D) (k0 : ∀ s', (gNew T n D (0, p)).1 ≠ 0 → frN s s' → s' 172 9 = (gNew T n D (0, p)).1 → Q ([(0, 0)], s')) (k1 : gNew T n D (0, p) = (0, kE T n p) → isNm T n (kB T n p) = true → Q ([(1, 0)], s)) : zC N 1451 [(((172 : Nat) : Int), 0)] s Q := by
  refine c_X11_isNew (b_X11_isNew_0 s (fun m hm => ?_))
  refine zC_q (isKept_ok h.1) (fun r hr => ?_)
  subst hr
  refine b_X11_isNew_4 _ s (fun g m1 hm1 => ?_) (fun g => ?_)
  · have hn : isNm T n (kB T n p) = true := Decidable.byContradiction fun c => by rw [if_neg c] at g; omega
    have hq := (isNm_iff.mp hn).1
    have e0 : gNm T n (0, p) = (0, p) := if_pos hn
    have bad : told D (eW T n (kB T n p)) = true → Q ([(0, 0)], zu s 172 9 (w32 (3 + w32 (16 * s 172 5)))) := fun ht => by
      refine mfail_q (k' := 3) (by decide) h.1 ?_ k0
      unfold gNew
      rw [e0, if_pos ⟨rfl, ht⟩]
    refine zC_q (houseNamed_ok h hq) (fun r hr => ?_)
    subst hr
    refine b_X11_isNew_18 _ s (fun g1 => bad (told_ix.mpr (Or.inl g1))) (fun g1 m2 hm2 => ?_)
    refine zC_q (thingNamed_ok h hq) (fun r hr => ?_)
    subst hr
    refine b_X11_isNew_26 _ s (fun g2 => bad (told_ix.mpr (Or.inr (Or.inl g2)))) (fun g2 m3 hm3 => ?_)
    refine zC_q (personNamed_ok h hq) (fun r hr => ?_)
    subst hr
    refine b_X11_isNew_34 _ s (fun g3 => bad (told_ix.mpr (Or.inr (Or.inr (Or.inl g3))))) (fun g3 m4 hm4 => ?_)
    have hc : s 174 11 = ((cnt D 4 : Nat) : Int) := h.2.1.1 4 (by omega)
    have hm : cnt D 4 ≤ 4 := h.2.2.1.1 4 (by omega)
    rw [hc, h.1.2.2.2.2.2.1 hq]
    refine zC_q (named_ok (c := 178) (f := 4) (eW_ok (kB_bd h.1.2.1)) (lNk h (by omega) (by omega)) (by omega) (by omega) (fun w hw => (h.2.2.1.2.1 4 w hw).1) (fun i w hw => h.2.1.2.1 4 i w (by omega) (by omega) hw)) (fun r hr => ?_)
    subst hr
    refine b_X11_isNew_56 _ s (fun g4 => k1 ?_ hn) (fun g4 => bad (told_ix.mpr (Or.inr (Or.inr (Or.inr g4)))))
    unfold gNew
    rw [e0, if_neg (fun q => by
      have q2 : told D (eW T n (kB T n p)) = true := q.2
      have := told_ix.mp q2
      omega)]
    rfl
  · have hn : isNm T n (kB T n p) ≠ true := fun c => by rw [if_pos c] at g; omega
    have e0 : gNm T n (0, p) = gF T n 1 (0, p) := if_neg hn
    refine mfail_q (k' := 1) (by decide) h.1 ?_ k0
    have hne := gF_ne (T := T) (n := n) (k := 1) (by decide) (x := (0, p)) rfl
    unfold gNew
    rw [e0, if_neg (fun q => hne q.1), gNx_nz hne]
theorem gTo_nz {ws : List (List Int)} {x : PS} (h : x.1 ≠ 0) : gTo T n ws x = x := by unfold gTo; rw [gNm_nz h, gNx_nz h, gF_nz h]; split <;> rfl
theorem needsTold_q {Q : Zr → Prop} (h : mP s T n p D) (k0 : ∀ s', (gTo T n (dN D 0) (0, p)).1 ≠ 0 → frN s s' → s' 172 9 = (gTo T n (dN D 0) (0, p)).1 → Q ([(0, 0)], s')) (k1 : ∀ s', gTo T n (dN D 0) (0, p) = (0, kE T n p) → frN s s' → mP s' T n (kE T n p) D → s' 172 45 = vTo T n (dN D 0) (0, p) → 0 ≤ vTo T n (dN D 0) (0, p) → vTo T n (dN D 0) (0, p) < (dN D 0).length → Q ([(1, 0)], s')) : zC N 1480 [(((172 : Nat) : Int), 0), (1, 0), (0, 0)] s Q := by
  refine c_X11_needsTold (b_X11_needsTold_0 _ _ s (fun m hm => ?_))
  refine zC_q (isKept_ok h.1) (fun r hr => ?_)
  subst hr
  have hb := ixW_bd (w := eW T n (kB T n p)) (dN D 0)
  refine b_X11_needsTold_4 _ _ _ s (fun g g2 => absurd rfl g2) (fun g g2 => absurd rfl g2) (fun g g2 m1 hm1 => ?_) (fun g => ?_)
  · have hn : isNm T n (kB T n p) = true := Decidable.byContradiction fun c => by rw [if_neg c] at g; omega
    have hq := (isNm_iff.mp hn).1
    have e0 : gNm T n (0, p) = (0, p) := if_pos hn
    have ev : vTo T n (dN D 0) (0, p) = ixW (eW T n (kB T n p)) (dN D 0) := if_pos (by rw [e0])
    refine zC_q (houseNamed_ok h hq) (fun r hr => ?_)
    subst hr
    refine b_X11_needsTold_23 _ _ _ s (fun g1 m2 hm2 => ?_) (fun g1 => ?_)
    · have e1 : gTo T n (dN D 0) (0, p) = (0, kE T n p) := by
        unfold gTo
        rw [e0, if_neg (fun q => by have q2 : ixW (eW T n (kB T n p)) (dN D 0) = -1 := q.2; omega)]
        rfl
      refine mst_next (mst_45 h.1) (fun s' f p' => ?_)
      have ff : frN s s' := frN_tr (frN_u (frN_rf s) (by omega)) (frN_M f)
      have hkb := kE_bd (T := T) h.1.2.1
      refine b_X11_needsTold_64 _ _ s' (k1 s' e1 ff (mP_N ff h p' (by omega)) ?_ (by omega) (by omega))
      rw [f 172 45 (by omega), zu_eq, ev]
    · have e1 : gTo T n (dN D 0) (0, p) = gF T n 2 (0, p) := by
        unfold gTo
        rw [e0, if_pos ⟨rfl, by show ixW (eW T n (kB T n p)) (dN D 0) = -1; omega⟩]
      exact mfail_q (s := zu s 172 45 (ixW (eW T n (kB T n p)) (dN D 0))) (k' := 2) (by decide) (mst_45 h.1) e1 (fun s' a f b => k0 s' a (frN_tr (frN_u (frN_rf s) (by omega)) f) b)
  · have hn : isNm T n (kB T n p) ≠ true := fun c => by rw [if_pos c] at g; omega
    have e0 : gNm T n (0, p) = gF T n 1 (0, p) := if_neg hn
    refine mfail_q (k' := 1) (by decide) h.1 ?_ k0
    have hne := gF_ne (T := T) (n := n) (k := 1) (by decide) (x := (0, p)) rfl
    unfold gTo
    rw [e0, if_neg (fun q => hne q.1), gNx_nz hne]
theorem flr_m (h : mP s T n p D) {v : Int} (h0 : 0 ≤ v) (h1 : v < (dN D 0).length) : s 179 (w32 (5 + v)).toNat = flr D v ∧ 1 ≤ flr D v ∧ flr D v ≤ 5 := by
  have hl : (dN D 0).length = cnt D 0 := lNk h (by omega) (by omega)
  have hm : cnt D 0 ≤ 5 := h.2.2.1.1 0 (by omega)
  have hc := h.2.2.1.2.2.2.1
  have hlt : v.toNat < (dC D 0).length := by omega
  have e : flr D v = (dC D 0)[v.toNat] := by
    unfold flr
    rw [if_pos ⟨h0, h1⟩, List.getElem?_eq_getElem hlt]
    rfl
  have e2 := h.2.1.2.2 0 0 v.toNat _ (by omega) (by decide) (List.getElem?_eq_getElem hlt)
  rw [w32_id (by omega) (by omega), show (5 + v).toNat = 5 + v.toNat from by omega, e]
  exact ⟨e2, h.2.2.1.2.2.2.2.2.1 _ (List.getElem_mem hlt)⟩
theorem needsNumber_q {lo hi : Int} {Q : Zr → Prop} (h : mP s T n p D) (k0 : ∀ s', (gN T n lo hi (0, p)).1 ≠ 0 → frN s s' → s' 172 9 = (gN T n lo hi (0, p)).1 → Q ([(0, 0)], s')) (k1 : ∀ s', gN T n lo hi (0, p) = (0, kE T n p) → frN s s' → mP s' T n (kE T n p) D → s' 172 45 = eM T n (kB T n p) → lo ≤ eM T n (kB T n p) → eM T n (kB T n p) ≤ hi → Q ([(1, 0)], s')) : zC N 1478 [(((172 : Nat) : Int), 0), (lo, 0), (hi, 0)] s Q := by
  refine zC_q (needsNumber_ok h.1) (fun r hr => ?_)
  obtain ⟨r1, s'⟩ := r
  obtain ⟨⟨e, f, a, b⟩, v⟩ := hr
  have e : r1 = [(if (gN T n lo hi (0, p)).1 = 0 then 1 else 0, 0)] := e
  subst e
  by_cases c : (gN T n lo hi (0, p)).1 = 0
  · rw [if_pos c]
    have e1 : gN T n lo hi (0, p) = (0, kE T n p) ∧ lo ≤ eM T n (kB T n p) ∧ eM T n (kB T n p) ≤ hi := by
      unfold gN at c ⊢
      dsimp only at c ⊢
      split at c
      · split at c
        · rename_i c1 c2
          rw [if_pos c1, if_pos c2]
          exact ⟨rfl, c2⟩
        · exact absurd c (gF_ne (by decide) rfl)
      · exact absurd c (gF_ne (by decide) rfl)
    have a := a c
    rw [e1.1] at a
    have hkb := kE_bd (T := T) h.1.2.1
    exact k1 s' e1.1 f (mP_N f h a (by omega)) (v c) e1.2.1 e1.2.2
  · rw [if_neg c]
    exact k0 s' c f (b c)
theorem needsWord_q {i : Nat} {C : Int} {Q : Zr → Prop} (hi : i < 28) (hC : C = enc 27 (KW i)) (h : mP s T n p D) (k0 : ∀ s', (gW T n i (0, p)).1 ≠ 0 → frN s s' → s' 172 9 = (gW T n i (0, p)).1 → Q ([(0, 0)], s')) (k1 : ∀ s', gW T n i (0, p) = (0, kE T n p) → frN s s' → mP s' T n (kE T n p) D → Q ([(1, 0)], s')) : zC N 1481 [(((172 : Nat) : Int), 0), (C, 1)] s Q := by
  refine zC_q (needsWord_ok hi hC h.1) (fun r hr => ?_)
  obtain ⟨r1, s'⟩ := r
  obtain ⟨e, f, a, b⟩ := hr
  have e : r1 = [(if (gW T n i (0, p)).1 = 0 then 1 else 0, 0)] := e
  subst e
  by_cases c : (gW T n i (0, p)).1 = 0
  · rw [if_pos c]
    have e1 : gW T n i (0, p) = (0, kE T n p) := by
      unfold gW at c ⊢
      split at c
      · rename_i c1
        rw [if_pos c1]
        rfl
      · exact absurd c (gF_ne (by decide) rfl)
    have a := a c
    rw [e1] at a
    have hkb := kE_bd (T := T) h.1.2.1
    exact k1 s' e1 f (mP_N f h a (by omega))
  · rw [if_neg c]
    exact k0 s' c f (b c)
theorem needsBoth_q {i : Nat} {C lo hi : Int} {Q : Zr → Prop} (hi' : i < 28) (hC : C = enc 27 (KW i)) (h : mP s T n p D) (k0 : ∀ s', (gN T n lo hi (gW T n i (0, p))).1 ≠ 0 → frN s s' → s' 172 9 = (gN T n lo hi (gW T n i (0, p))).1 → Q ([(0, 0)], s')) (k1 : ∀ s', gW T n i (0, p) = (0, kE T n p) → gN T n lo hi (0, kE T n p) = (0, kE T n (kE T n p)) → frN s s' → mP s' T n (kE T n (kE T n p)) D → s' 172 45 = eM T n (kB T n (kE T n p)) → lo ≤ eM T n (kB T n (kE T n p)) → eM T n (kB T n (kE T n p)) ≤ hi → Q ([(1, 0)], s')) : zC N 1476 [(((172 : Nat) : Int), 0), (C, 1), (lo, 0), (hi, 0)] s Q := by
  refine c_X11_needsBoth (b_X11_needsBoth_0 C 0 lo hi s (fun m hm => needsWord_q hi' hC h (fun s' a f b => ?_) (fun s' e f h' => ?_)))
  · refine b_X11_needsBoth_5 C 0 lo hi 0 s' (fun _ => k0 s' ?_ f ?_) (fun q => absurd rfl q)
    · rw [gN_nz a]; exact a
    · rw [gN_nz a]; exact b
  · refine b_X11_needsBoth_5 C 0 lo hi 1 s' (fun q => absurd q (by decide)) (fun _ m' hm' => needsNumber_q h' (fun s2 a f2 b => ?_) (fun s2 e2 f2 h2 v l1 l2 => ?_))
    · refine b_X11_needsBoth_15 C 0 lo hi 0 s2 (fun _ => k0 s2 ?_ (frN_tr f f2) ?_) (fun q => absurd rfl q)
      · rw [e]; exact a
      · rw [e]; exact b
    · exact b_X11_needsBoth_15 C 0 lo hi 1 s2 (fun q => absurd q (by decide)) (fun _ => k1 s2 e e2 (frN_tr f f2) h2 v l1 l2)
theorem closes_q {Q : Zr → Prop} (h : mP s T n p D) (k0 : ∀ s', (gS T n 59 (0, p)).1 ≠ 0 → frN s s' → s' 172 9 = (gS T n 59 (0, p)).1 → Q ([(0, 0)], s')) (k1 : ∀ s', gS T n 59 (0, p) = (0, kE T n p) → frN s s' → mP s' T n (kE T n p) D → Q ([(1, 0)], s')) : zC N 1425 [(((172 : Nat) : Int), 0)] s Q := by
  refine zC_q (closes_ok h.1) (fun r hr => ?_)
  obtain ⟨r1, s'⟩ := r
  obtain ⟨e, f, a, b⟩ := hr
  have e : r1 = [(if (gS T n 59 (0, p)).1 = 0 then 1 else 0, 0)] := e
  subst e
  by_cases c : (gS T n 59 (0, p)).1 = 0
  · rw [if_pos c]
    have e1 : gS T n 59 (0, p) = (0, kE T n p) := by
      unfold gS at c ⊢
      split at c
      · rename_i c1
        rw [if_pos c1]
        rfl
      · exact absurd c (gF_ne (by decide) rfl)
    have a := a c
    rw [e1] at a
    have hkb := kE_bd (T := T) h.1.2.1
    exact k1 s' e1 f (mP_N f h a (by omega))
  · rw [if_neg c]
    exact k0 s' c f (b c)
theorem needsPlace_q {Q : Zr → Prop} (h : mP s T n p D) (k0 : ∀ s', (gPl T n D (0, p)).1 ≠ 0 → frN s s' → s' 172 9 = (gPl T n D (0, p)).1 → Q ([(0, 0)], s')) (k1 : ∀ s', gPl T n D (0, p) = (0, kE T n (kE T n p)) → frN s s' → mP s' T n (kE T n (kE T n p)) D → s' 172 45 = vPl T n D (0, p) → Q ([(1, 0)], s')) : zC N 1479 [(((172 : Nat) : Int), 0), (1, 0)] s Q := by
  refine c_X11_needsPlace (b_X11_needsPlace_0 _ 0 s (fun m hm => needsTold_q h (fun s' a f b => ?_) (fun s' e f h' v l1 l2 => ?_)))
  · refine b_X11_needsPlace_6 _ _ _ s' (fun q => absurd rfl q) (fun _ => k0 s' ?_ f ?_)
    · unfold gPl; rw [gN_nz a]; exact a
    · unfold gPl; rw [gN_nz a]; exact b
  · have ef := flr_m h' l1 l2
    have eg : gPl T n D (0, p) = gN T n 0 (flr D (vTo T n (dN D 0) (0, p))) (0, kE T n p) := by unfold gPl; rw [e]
    refine b_X11_needsPlace_6 _ _ _ s' (fun _ m' hm' => ?_) (fun q => absurd q (by decide))
    rw [v]
    rw [show w32 (w32 (5 * 1) + vTo T n (dN D 0) (0, p)) = w32 (5 + vTo T n (dN D 0) (0, p)) from rfl, ef.1]
    refine needsNumber_q h' (fun s2 a f2 b => ?_) (fun s2 e2 f2 h2 v2 l3 l4 => ?_)
    · refine b_X11_needsPlace_31 _ _ _ s2 (fun q => absurd rfl q) (fun _ => k0 s2 ?_ (frN_tr f f2) ?_)
      · rw [eg]; exact a
      · rw [eg]; exact b
    · have hl : (dN D 0).length = cnt D 0 := lNk h (by omega) (by omega)
      have hm : cnt D 0 ≤ 5 := h.2.2.1.1 0 (by omega)
      have e3 : gPl T n D (0, p) = (0, kE T n (kE T n p)) := eg.trans e2
      have ev : w32 (s2 172 45 + w32 (6 * vTo T n (dN D 0) (0, p))) = vPl T n D (0, p) := by
        unfold vPl
        rw [if_pos (by rw [e3]), e, v2, w32_id (z := 6 * vTo T n (dN D 0) (0, p)) (by omega) (by omega), w32_id (by omega) (by omega)]
        show _ = vTo T n (dN D 0) (0, p) * 6 + eM T n (kB T n (kE T n p))
        omega
      refine b_X11_needsPlace_31 _ _ _ s2 (fun _ => ?_) (fun q => absurd q (by decide))
      refine k1 _ e3 (frN_tr f (frN_u f2 (by omega))) (mP_N (frN_u (frN_rf s2) (by omega)) h2 (mst_45 h2.1) (Nat.le_refl _)) ?_
      rw [zu_eq, ev]
theorem fxl_yes {h f : Int} : ∀ (k : Nat) (as bs : List Int), as[k]? = some h → bs[k]? = some f → (∀ (i : Nat) (a b : Int), i < k → as[i]? = some a → bs[i]? = some b → ¬ (a = h ∧ b = f)) → fxI.fxl h f as bs = (k : Int)
  | _, [], _, ha, _, _ => by simp at ha
  | _, _ :: _, [], _, hb, _ => by simp at hb
  | 0, a :: as, b :: bs, ha, hb, _ => by
    have ha : a = h := by simpa using ha
    have hb : b = f := by simpa using hb
    unfold fxI.fxl
    rw [if_pos ⟨ha, hb⟩]
    rfl
  | k + 1, a :: as, b :: bs, ha, hb, hn => by
    have ih := fxl_yes k as bs (by simpa using ha) (by simpa using hb) (fun i a' b' hi h1 h2 => hn (i + 1) a' b' (by omega) (by simpa using h1) (by simpa using h2))
    unfold fxI.fxl
    rw [if_neg (hn 0 a b (by omega) rfl rfl), ih, if_neg (by omega)]
    omega
theorem flightOf_ok (h : mP s T n p D) {hh f : Int} : zC N 1438 [(((172 : Nat) : Int), 0), (1, 0), (hh, 0), (f, 0)] s (fun r => r = ([(fxI D hh f, 0)], s)) := by
  have hc : s 174 (w32 (w32 (7 * 1) + 1)).toNat = ((cnt D 1 : Nat) : Int) := h.2.1.1 1 (by omega)
  have hm : cnt D 1 ≤ 10 := h.2.2.1.1 1 (by omega)
  have la : (dC D 10).length = cnt D 1 := h.2.2.1.2.2.2.2.1 1 0 (by omega) (by omega) (by decide)
  have lb : (dC D 11).length = cnt D 1 := h.2.2.1.2.2.2.2.1 1 1 (by omega) (by omega) (by decide)
  have loop : ∀ (M i : Nat), i ≤ cnt D 1 → (∀ (j : Nat) (a b : Int), j < i → (dC D 10)[j]? = some a → (dC D 11)[j]? = some b → ¬ (a = hh ∧ b = f)) → zT (zE 1438) (Pt PX11_flightOf) M (3, [((172 : Nat) : Int), 1, hh, f, (i : Int)], [], s) (fun r => r = ([(fxI D hh f, 0)], s)) := by
    intro M
    induction M using Nat.strongRecOn with
    | ind M ih =>
      intro i hi hno
      have ia : ∀ (hi : i < cnt D 1), s 180 (w32 (w32 (10 * 1) + (i : Int))).toNat = (dC D 10)[i]'(by omega) := fun hi => by
        rw [show w32 (w32 (10 * 1) + (i : Int)) = ((10 + i : Nat) : Int) from by rw [show w32 (10 * 1) = 10 from rfl, w32_id (by omega) (by omega)]; omega, Int.toNat_natCast]
        exact h.2.1.2.2 1 0 i _ (by omega) (by decide) (List.getElem?_eq_getElem (show i < (dC D 10).length by omega))
      have ib : ∀ (hi : i < cnt D 1), s 181 (w32 (w32 (10 * 1) + (i : Int))).toNat = (dC D 11)[i]'(by omega) := fun hi => by
        rw [show w32 (w32 (10 * 1) + (i : Int)) = ((10 + i : Nat) : Int) from by rw [show w32 (10 * 1) = 10 from rfl, w32_id (by omega) (by omega)]; omega, Int.toNat_natCast]
        exact h.2.1.2.2 1 1 i _ (by omega) (by decide) (List.getElem?_eq_getElem (show i < (dC D 11).length by omega))
      have on : i < cnt D 1 → (∀ (hi : i < cnt D 1), ¬ ((dC D 10)[i]'(by omega) = hh ∧ (dC D 11)[i]'(by omega) = f)) → ∀ k, k < M → zT (zE 1438) (Pt PX11_flightOf) k (3, [((172 : Nat) : Int), 1, hh, f, w32 ((i : Int) + 1)], [], s) (fun r => r = ([(fxI D hh f, 0)], s)) := fun hi' hne k hk => by
        rw [w32_id (by omega) (by omega), show (i : Int) + 1 = ((i + 1 : Nat) : Int) from by omega]
        refine ih k hk (i + 1) (by omega) (fun j a b hj ha hb => ?_)
        by_cases e : j = i
        · subst e
          rw [List.getElem?_eq_getElem (by omega)] at ha hb
          cases ha
          cases hb
          exact hne hi'
        · exact hno j a b (by omega) ha hb
      refine b_X11_flightOf_3 _ _ _ _ s (fun g => ?_) (fun g g2 k hk => ?_) (fun g g2 g3 k hk => ?_) (fun g g2 g3 => ?_)
      · rw [hc] at g
        have : fxI D hh f = -1 := fxl_no _ _ (fun j a b ha hb => hno j a b (by have := (List.getElem?_eq_some_iff.mp ha).1; omega) ha hb)
        rw [this]
      · rw [hc] at g
        exact on (by omega) (fun hi e => g2 ((ia hi).trans e.1)) k hk
      · rw [hc] at g
        exact on (by omega) (fun hi e => g3 ((ib hi).trans e.2)) k hk
      · rw [hc] at g
        have hi' : i < cnt D 1 := by omega
        have : fxI D hh f = (i : Int) := fxl_yes i _ _ (by rw [List.getElem?_eq_getElem (by omega), ← ia hi', g2]) (by rw [List.getElem?_eq_getElem (by omega), ← ib hi', g3]) hno
        rw [this]
  exact c_X11_flightOf (b_X11_flightOf_0 _ _ _ _ s (loop N 0 (by omega) (fun j _ _ hj => by omega)))
end Zml
