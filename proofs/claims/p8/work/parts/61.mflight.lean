/-! a flight, the heap and the walk told: the model -/
section Zmf
variable {N : Nat} {s : Zs} {T : Nat → Int} {n p : Nat} {D : ZD}
theorem mst_out {s' : Zs} (h : mst s T n p) (z : ∀ c i, c = 172 ∧ i ≤ 8 ∨ c = 173 → s' c i = s c i) : mst s' T n p := by
  obtain ⟨⟨a1, a2, a3⟩, b1, c1, c2, c3, c4, c5⟩ := h
  exact ⟨⟨by rw [z _ _ (by omega)]; exact a1, a2, fun i hi => by rw [z _ _ (by omega)]; exact a3 i hi⟩, b1, by rw [z _ _ (by omega)]; exact c1, by rw [z _ _ (by omega)]; exact c2, by rw [z _ _ (by omega)]; exact c3, fun q => by rw [z _ _ (by omega)]; exact c4 q, fun q => by rw [z _ _ (by omega)]; exact c5 q⟩
theorem flr_fl {a b r o v : Int} : flr (addR D 1 [a, b, r, o]) v = flr D v := rfl
theorem mP_fl {s' : Zs} (h : mP s T n p D) {a b r o : Int} (hc : cnt D 1 < 10) (ha : 0 ≤ a ∧ a < cnt D 0) (hb : 0 ≤ b ∧ b < flr D a)
    (e1 : s' 174 8 = ((cnt D 1 + 1 : Nat) : Int)) (e3 : ∀ j v, [a, b, r, o][j]? = some v → s' (180 + j) (10 + cnt D 1) = v)
    (f : ∀ c j, ¬ (c = 174 ∧ j = 8) → ¬ (180 ≤ c ∧ c < 184 ∧ j = 10 + cnt D 1) → s' c j = s c j) (hfl : flr D a ≤ 5) : mP s' T n p (addR D 1 [a, b, r, o]) := by
  obtain ⟨hst, ⟨h1, h2, h3⟩, hwd, hF, d1, d2, d3, d4, d5, d6⟩ := h
  refine ⟨mst_out hst (fun c i hc => f c i (by omega) (by omega)), ⟨fun k' hk' => ?_, fun k' i u a' b' c => ?_, fun k' j' i u a' b' c => ?_⟩, wD_fl hwd hc ha (by omega), fun i a' b' ha' hb' => ?_, by rw [f _ _ (by omega) (by omega)]; exact d1, by rw [f _ _ (by omega) (by omega)]; exact d2, by rw [f _ _ (by omega) (by omega)]; exact d3, by rw [f _ _ (by omega) (by omega), f _ _ (by omega) (by omega)]; exact d4, by rw [f _ _ (by omega) (by omega)]; exact d5, by rw [f _ _ (by omega) (by omega)]; exact d6⟩
  · rw [cnt_fl]
    by_cases e : k' = 1
    · rw [if_pos e, e]; exact e1
    · rw [if_neg e, f 174 (7 + k') (by omega) (by omega)]
      exact h1 k' hk'
  · have hn' := mnc_b k'
    rw [f _ _ (by omega) (by omega)]
    exact h2 k' i u a' b' c
  · have hc' := mcc_b a' b'
    rw [dC_addR] at c
    by_cases e : k' = 1
    · subst e
      have b4 : j' < 4 := b'
      rw [if_pos (by omega), show (10 * 1 + j') % 10 = j' from by omega] at c
      show s' (180 + j') (10 + i) = u
      split at c
      · rename_i v hv
        rcases app_get c with ⟨l1, l2⟩ | ⟨l1, l2⟩
        · rw [dC_len hwd a' b'] at l1
          rw [f _ _ (by omega) (by omega)]
          exact h3 1 j' i u a' b' l2
        · rw [l1, dC_len hwd a' b', l2]
          exact e3 j' v hv
      · rename_i hv
        exfalso
        have : 4 ≤ j' := List.getElem?_eq_none_iff.mp hv
        omega
    · have w10 : wd2 k' ≤ 4 := by unfold wd2; split; omega; exact wdt_le k'
      rw [if_neg (by omega)] at c
      rw [f _ _ (by omega) (fun q => by
        obtain ⟨j2, hj2⟩ : ∃ j2, mcc k' + j' = mcc 1 + j2 := ⟨mcc k' + j' - 180, by show _ = 180 + _; omega⟩
        have hj2' : mcc k' + j' = 180 + j2 := hj2
        obtain ⟨q3, q4⟩ := mcc_inj a' (by omega) b' (show j2 < 4 by omega) hj2
        exact e q3)]
      exact h3 k' j' i u a' b' c
  · rw [flr_fl]
    have e10 : dC (addR D 1 [a, b, r, o]) 10 = dC D 10 ++ [a] := rfl
    have e11 : dC (addR D 1 [a, b, r, o]) 11 = dC D 11 ++ [b] := rfl
    rw [e10] at ha'
    rw [e11] at hb'
    have l10 := dC_len hwd (k := 1) (j := 0) (by omega) (by decide)
    have l11 := dC_len hwd (k := 1) (j := 1) (by omega) (by decide)
    have l10 : (dC D 10).length = cnt D 1 := l10
    have l11 : (dC D 11).length = cnt D 1 := l11
    rcases app_get ha' with ⟨l1, l2⟩ | ⟨l1, l2⟩
    · rcases app_get hb' with ⟨m1, m2⟩ | ⟨m1, m2⟩
      · exact hF i a' b' l2 m2
      · omega
    · rcases app_get hb' with ⟨m1, m2⟩ | ⟨m1, m2⟩
      · omega
      · rw [l2, m2]; exact hb.2
theorem fx_out (hF : wF D) {h f : Int} (hf : flr D h ≤ f) : fxI D h f = -1 := fxl_no _ _ (fun i a b ha hb e => by
  have := hF i a b ha hb
  rw [e.1, e.2] at this
  omega)
theorem mFlight_ok (h : mP s T n p D) : zC N 1498 [(((172 : Nat) : Int), 0)] s (qLn s T n (pFlight T n (0, p) D)) := by
  have hc : s 174 8 = ((cnt D 1 : Nat) : Int) := h.2.1.1 1 (by omega)
  have hm : cnt D 1 ≤ 10 := h.2.2.1.1 1 (by omega)
  have hx : w32 (10 + s 174 8) = ((10 + cnt D 1 : Nat) : Int) := by rw [hc, w32_id (by omega) (by omega)]; omega
  have hp := h.1.2.1
  refine c_X11_readsFlight (b_X11_readsFlight_0 _ _ s (fun g m0 hm0 => ?_) (fun g => ?_))
  rotate_left
  · rw [hx] at g
    have e1 : gFi T n D 1 (0, p) = gF T n 5 (0, p) := if_pos (by show most 1 ≤ cnt D 1; unfold most; simp; omega)
    refine mfail_q (k' := 5) (by decide) h.1 rfl (fun s' a f b => qLn_bad (Y := gF T n 5 (0, p)) ?_ a (by first | exact frH_N f | exact frH_N (frN_M f) : frH _ _) b)
    unfold pFlight; dsimp only; rw [e1, gTo_nz a, gNh_nz a, if_neg (fun q => a q.1), gN_nz a, gW_nz a, gN_nz a, gW_nz a, gN_nz a, gS_nz a]
  rw [hx] at g ⊢
  have hlt : cnt D 1 < 10 := by omega
  have e0 : gFi T n D 1 (0, p) = (0, kE T n p) := if_neg (by show ¬ most 1 ≤ cnt D 1; unfold most; simp; omega)
  refine mst_next h.1 (fun s1 f1 p1 => ?_)
  have h1 := mP_N (frN_M f1) h p1 (by have := kE_bd (T := T) hp; omega)
  have t1 : frH s s1 := (by first | exact frH_N f1 | exact frH_N (frN_M f1))
  refine b_X11_readsFlight_27 _ _ s1 (fun m1 hm1 => needsTold_q h1 (fun s2 a f b => ?_) (fun s2 e1 f2 h2 v2 l1 l2 => ?_))
  · refine b_X11_readsFlight_33 _ _ _ s2 (fun q => absurd rfl q) (fun q => absurd rfl q) (fun q => absurd rfl q) (fun q => absurd rfl q) (fun _ => qLn_bad (Y := gTo T n (dN D 0) (0, kE T n p)) ?_ a ((by first | exact frH_N f | exact frH_N (frN_M f) : frH _ _).trans t1) b)
    unfold pFlight; dsimp only; rw [e0, gNh_nz a, if_neg (fun q => a q.1), gN_nz a, gW_nz a, gN_nz a, gW_nz a, gN_nz a, gS_nz a]
  have t2 : frH s s2 := (by first | exact frH_N f2 | exact frH_N (frN_M f2) : frH _ _).trans t1
  have hfl := flr_m h2 l1 l2
  have hl0 : (dN D 0).length = cnt D 0 := lNk h (by omega) (by omega)
  generalize hv : vTo T n (dN D 0) (0, kE T n p) = hh at v2 l1 l2 hfl
  generalize hP : kE T n (kE T n p) = P at e1 h2
  have h6 : s2 172 6 = mQ (eQ T n (kB T n P)) := h2.1.2.2.2.2.1
  -- the number of the floor taken
  have go : ∀ (m : Nat), (eQ T n (kB T n P) = 3 → fxI D hh (eM T n (kB T n P)) = -1) → zC m 1478 [(((172 : Nat) : Int), 0), (0, 0), (w32 (flr D hh - 1), 0)] s2 (fun p' => zT (zE 1498) (Pt PX11_readsFlight) m (106, [((172 : Nat) : Int), ((10 + cnt D 1 : Nat) : Int), hh], p'.1 ++ [], p'.2) (qLn s T n (pFlight T n (0, p) D))) := fun m hfx => by
    rw [w32_id (by omega) (by omega)]
    -- what the class's order of tests comes to
    have e45 : gN T n 0 (flr D hh - 1) (if (gNh T n (0, P)).1 = 0 ∧ fxI D hh (vE T n (0, P)) ≠ -1 then gF T n 3 (gNh T n (0, P)) else gNh T n (0, P)) = gN T n 0 (flr D hh - 1) (0, P) := by
      by_cases c : eQ T n (kB T n P) = 3
      · have eh : gNh T n (0, P) = (0, P) := if_pos c
        rw [eh, if_neg (fun q => q.2 (hfx c))]
      · have eh : gNh T n (0, P) = gF T n 1 (0, P) := if_neg c
        have hne := gF_ne (T := T) (n := n) (k := 1) (by decide) (x := (0, P)) rfl
        rw [eh, if_neg (fun q => hne q.1), gN_nz hne]
        unfold gN
        rw [if_neg c]
    refine needsNumber_q h2 (fun s3 a f b => ?_) (fun s3 e5 f3 h3 v3 l3 l4 => ?_)
    · refine b_X11_readsFlight_106 _ _ _ s3 (fun q => absurd rfl q) (fun _ => qLn_bad (Y := gN T n 0 (flr D hh - 1) (0, P)) ?_ a ((by first | exact frH_N f | exact frH_N (frN_M f) : frH _ _).trans t2) b)
      unfold pFlight; dsimp only; rw [e0, hv, e1, e45, gW_nz a, gN_nz a, gW_nz a, gN_nz a, gS_nz a]
    have t3 : frH s s3 := (by first | exact frH_N f3 | exact frH_N (frN_M f3) : frH _ _).trans t2
    rw [e5] at e45
    refine b_X11_readsFlight_106 _ _ _ s3 (fun _ m3 hm3 => ?_) (fun q => absurd q (by decide))
    rw [Int.toNat_natCast]
    have w3 : mP (zu (zu s3 180 (10 + cnt D 1) hh) 181 (10 + cnt D 1) (s3 172 45)) T n (kE T n P) D := mP_w (k := 1) (j := 1) (mP_w (k := 1) (j := 0) h3 (by omega) (by decide)) (by omega) (by decide)
    have c0 : zu (zu s3 180 (10 + cnt D 1) hh) 181 (10 + cnt D 1) (s3 172 45) 180 (10 + cnt D 1) = hh := by rw [zu_n (by omega), zu_eq]
    have c1 : zu (zu s3 180 (10 + cnt D 1) hh) 181 (10 + cnt D 1) (s3 172 45) 181 (10 + cnt D 1) = eM T n (kB T n P) := by rw [zu_eq, v3]
    have tt3 : frH s (zu (zu s3 180 (10 + cnt D 1) hh) 181 (10 + cnt D 1) (s3 172 45)) := (frH_u (by have h9 : hbf 181 = 10 := rfl; omega) (by omega)).trans ((frH_u (by have h9 : hbf 180 = 10 := rfl; omega) (by omega)).trans t3)
    generalize zu (zu s3 180 (10 + cnt D 1) hh) 181 (10 + cnt D 1) (s3 172 45) = u3 at w3 c0 c1 tt3 ⊢
    refine needsBoth_q (i := 3) (by omega) (by decide) w3 (fun s4 a f b => ?_) (fun s4 e6 e7 f4 h4 v4 l5 l6 => ?_)
    · refine b_X11_readsFlight_138 _ _ _ s4 (fun q => absurd rfl q) (fun _ => qLn_bad (Y := gN T n 1 40 (gW T n 3 (0, kE T n P))) ?_ a ((by first | exact frH_N f | exact frH_N (frN_M f) : frH _ _).trans tt3) b)
      unfold pFlight; dsimp only; rw [e0, hv, e1, e45, gW_nz a, gN_nz a, gS_nz a]
    have t4 : frH s s4 := (by first | exact frH_N f4 | exact frH_N (frN_M f4) : frH _ _).trans tt3
    refine b_X11_readsFlight_138 _ _ _ s4 (fun _ m4 hm4 => ?_) (fun q => absurd q (by decide))
    rw [Int.toNat_natCast]
    have w4 : mP (zu s4 182 (10 + cnt D 1) (s4 172 45)) T n (kE T n (kE T n (kE T n P))) D := mP_w (k := 1) (j := 2) h4 (by omega) (by decide)
    have d0 : zu s4 182 (10 + cnt D 1) (s4 172 45) 180 (10 + cnt D 1) = hh := by rw [zu_n (by omega), f4 180 _ (by omega)]; exact c0
    have d1 : zu s4 182 (10 + cnt D 1) (s4 172 45) 181 (10 + cnt D 1) = eM T n (kB T n P) := by rw [zu_n (by omega), f4 181 _ (by omega)]; exact c1
    have d2 : zu s4 182 (10 + cnt D 1) (s4 172 45) 182 (10 + cnt D 1) = eM T n (kB T n (kE T n (kE T n P))) := by rw [zu_eq, v4]
    have tt4 : frH s (zu s4 182 (10 + cnt D 1) (s4 172 45)) := (frH_u (by have h9 : hbf 182 = 10 := rfl; omega) (by omega)).trans t4
    generalize zu s4 182 (10 + cnt D 1) (s4 172 45) = u4 at w4 d0 d1 d2 tt4 ⊢
    refine needsBoth_q (i := 4) (by omega) (by decide) w4 (fun s5 a f b => ?_) (fun s5 e8 e9 f5 h5 v5 l7 l8 => ?_)
    · refine b_X11_readsFlight_163 _ _ _ s5 (fun q => absurd rfl q) (fun _ => qLn_bad (Y := gN T n 0 10 (gW T n 4 (0, kE T n (kE T n (kE T n P))))) ?_ a ((by first | exact frH_N f | exact frH_N (frN_M f) : frH _ _).trans tt4) b)
      unfold pFlight; dsimp only; rw [e0, hv, e1, e45, e6, e7, gS_nz a]
    have t5 : frH s s5 := (by first | exact frH_N f5 | exact frH_N (frN_M f5) : frH _ _).trans tt4
    refine b_X11_readsFlight_163 _ _ _ s5 (fun _ m5 hm5 => ?_) (fun q => absurd q (by decide))
    rw [Int.toNat_natCast]
    have g0 : s5 180 (10 + cnt D 1) = hh := by rw [f5 180 _ (by omega)]; exact d0
    have g1 : s5 181 (10 + cnt D 1) = eM T n (kB T n P) := by rw [f5 181 _ (by omega)]; exact d1
    have g2 : s5 182 (10 + cnt D 1) = eM T n (kB T n (kE T n (kE T n P))) := by rw [f5 182 _ (by omega)]; exact d2
    have hcc : s5 174 8 = ((cnt D 1 : Nat) : Int) := h5.2.1.1 1 (by omega)
    have hr : mP (zu (zu s5 183 (10 + cnt D 1) (s5 172 45)) 174 8 (w32 (s5 174 8 + 1))) T n (kE T n (kE T n (kE T n (kE T n (kE T n P))))) (addR D 1 [hh, eM T n (kB T n P), eM T n (kB T n (kE T n (kE T n P))), eM T n (kB T n (kE T n (kE T n (kE T n (kE T n P)))))]) := by
      refine mP_fl h5 hlt ⟨l1, by omega⟩ ⟨l3, by omega⟩ ?_ (fun j v hv => ?_) (fun c j a b => ?_) hfl.2.2
      · show zu _ 174 8 _ 174 8 = _; rw [zu_eq, hcc, w32_id (by omega) (by omega)]; omega
      · match j, hv with
        | 0, hv => cases hv; show zu (zu s5 183 (10 + cnt D 1) _) 174 8 _ 180 (10 + cnt D 1) = _; rw [zu_n (by omega), zu_n (by omega), g0]
        | 1, hv => cases hv; show zu (zu s5 183 (10 + cnt D 1) _) 174 8 _ 181 (10 + cnt D 1) = _; rw [zu_n (by omega), zu_n (by omega), g1]
        | 2, hv => cases hv; show zu (zu s5 183 (10 + cnt D 1) _) 174 8 _ 182 (10 + cnt D 1) = _; rw [zu_n (by omega), zu_n (by omega), g2]
        | 3, hv => cases hv; show zu (zu s5 183 (10 + cnt D 1) _) 174 8 _ 183 (10 + cnt D 1) = _; rw [zu_n (by omega), zu_eq, v5]
        | _ + 4, hv => simp at hv
      · rw [zu_n (by omega), zu_n (by omega)]
    have tr : frH s (zu (zu s5 183 (10 + cnt D 1) (s5 172 45)) 174 8 (w32 (s5 174 8 + 1))) := (frH_u (by have h9 : hbf 174 = 7 := rfl; omega) (by omega)).trans ((frH_u (by have h9 : hbf 183 = 10 := rfl; omega) (by omega)).trans t5)
    generalize zu (zu s5 183 (10 + cnt D 1) (s5 172 45)) 174 8 (w32 (s5 174 8 + 1)) = sr at hr tr ⊢
    have e4 : (if (gNh T n (0, P)).1 = 0 ∧ fxI D hh (vE T n (0, P)) ≠ -1 then gF T n 3 (gNh T n (0, P)) else gNh T n (0, P)) = (0, P) := by
      have c : eQ T n (kB T n P) = 3 := Decidable.byContradiction fun c => by
        have : gN T n 0 (flr D hh - 1) (0, P) = gF T n 1 (0, P) := by unfold gN; rw [if_neg c]
        rw [this] at e5
        have hne := gF_ne (T := T) (n := n) (k := 1) (by decide) (x := (0, P)) rfl
        rw [e5] at hne
        exact hne rfl
      have eh : gNh T n (0, P) = (0, P) := if_pos c
      rw [eh, if_neg (fun q => q.2 (hfx c))]
    refine closes_q hr (fun s' a f b => ?_) (fun s' ez f h' => ?_)
    · refine b_X11_readsFlight_193 _ _ _ s' (qLn_bad (Y := gS T n 59 (0, kE T n (kE T n (kE T n (kE T n (kE T n P)))))) ?_ a ((by first | exact frH_N f | exact frH_N (frN_M f) : frH _ _).trans tr) b)
      unfold pFlight; dsimp only; rw [e0, hv, e1, e45, e6, e7, e8, e9]
    · refine b_X11_readsFlight_193 _ _ _ s' (qLn_good ?_ ((by first | exact frH_N f | exact frH_N (frN_M f) : frH _ _).trans tr) h')
      unfold pFlight; dsimp only; rw [e0, hv, e1, e4, e5, e6, e7, e8, e9, ez]; rfl
  have ex : s2 179 (w32 (5 + s2 172 45)).toNat = flr D hh := by rw [v2]; exact hfl.1
  refine b_X11_readsFlight_33 _ _ _ s2 (fun _ g2 m2 hm2 => ?_) (fun _ g2 g5 m2 hm2 => ?_) (fun _ g2 g7 g8 m2 hm2 => ?_) (fun _ g2 g10 g11 m2 hm2 => ?_) (fun q => absurd q (by decide))
  · rw [ex, v2]
    exact go m2 (fun q => absurd (h6.trans (mQ_2.mpr q)) g2)
  · have hq := mQ_2.mp (h6.symm.trans g2)
    have hm8 := h2.1.2.2.2.2.2.2 hq
    have := (eM_bd hq).1
    omega
  · have hq := mQ_2.mp (h6.symm.trans g2)
    have hm8 : s2 172 8 = eM T n (kB T n P) := h2.1.2.2.2.2.2.2 hq
    rw [ex, w32_id (by omega) (by omega), hm8] at g8
    rw [ex, v2]
    exact go m2 (fun _ => fx_out h2.2.2.2.1 (by omega))
  · have hq := mQ_2.mp (h6.symm.trans g2)
    have hm8 : s2 172 8 = eM T n (kB T n P) := h2.1.2.2.2.2.2.2 hq
    rw [v2, hm8]
    refine zC_q (flightOf_ok h2) (fun r hr => ?_)
    subst hr
    have hb := fxl_bd (h := hh) (f := eM T n (kB T n P)) (dC D 10) (dC D 11)
    have hb : -1 ≤ fxI D hh (eM T n (kB T n P)) := hb.1
    refine b_X11_readsFlight_82 _ _ _ s2 (fun g m3 hm3 => ?_) (fun g => ?_)
    · rw [show s2 179 (w32 (5 + hh)).toNat = flr D hh from hfl.1]
      exact go m3 (fun _ => by omega)
    · refine mfail_q (k' := 3) (by decide) h2.1 rfl (fun s' a f b => qLn_bad (Y := gF T n 3 (0, P)) ?_ a ((by first | exact frH_N f | exact frH_N (frN_M f) : frH _ _).trans t2) b)
      have eh : gNh T n (0, P) = (0, P) := if_pos hq
      unfold pFlight; dsimp only
      rw [e0, hv, e1, eh, if_pos ⟨rfl, by show fxI D hh (eM T n (kB T n P)) ≠ -1; omega⟩, gN_nz a, gW_nz a, gN_nz a, gW_nz a, gN_nz a, gS_nz a]
end Zmf
