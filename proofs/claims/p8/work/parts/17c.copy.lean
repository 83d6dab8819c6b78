/-! the copy of ints as a step: sound -/
section Cpy
variable {p : Program} {l : Launch} {e : Env} {s : State} {m : MethodId} {args : Array Value} {below : List Frame} {meth : Method} {c : Code} {Q : State → Prop} {g : va_G} {aC : Nat → ClassId} {aM : Nat → Nat} {A : Nat → Prop} {ad : Nat → Nat} {n d : Nat} {me : Me} {a b : Cf}
theorem px_cpy_ok (F : Fx p s m args c me.2.1 me.2.2.1 me.1.cls g aC aM A) (k1 : Cond.native yCpy ∈ gw) (k2 : Cond.static yCpy ∈ gw) (k3 : Cond.initialized "java/lang/System" ∈ gw) (h : px_cpy n me a b) (k : pm_W p l e (rmL (d + 1) 0 0) s m args below meth c Q g aC A ad n me.2.2.1 b) : pm_W p l e (rmL (d + 1) 0 0) s m args below meth c Q g aC A ad n me.2.2.1 a := by
  obtain ⟨idx, s0, d0, kk, N1, N2, f, f2, st, hd, hlk, he, hw, h1, h2, h3, h4, h5, h6, h7, h8, rfl⟩ := h
  intro H locs ls hP hD hS hl
  rw [he]
  have hs := px_sum (ad := ad) hw
  have at1 := pm_at (aC := aC) (ad := ad) (h := a.2.2.2) h1
  rw [h4] at at1
  have at2 := pm_at (aC := aC) (ad := ad) (h := a.2.2.2) h2
  rw [h5] at at2
  have ek : (Int32.ofNat kk).toInt = (kk : Int) := Int32.toInt_ofNat_of_lt (by omega)
  have ec : (Int32.ofNat kk).toNatClampNeg = kk := by
    show (Int32.ofNat kk).toInt.toNat = kk
    rw [ek]
    rfl
  have z0 : (0 : Int32).toNatClampNeg = 0 := rfl
  refine va_copyi (n := Int32.ofNat kk) F.1 F.2.1 (F.2.2.1.trans hl.1.symm) F.2.2.2.1 (F.2.2.2.2.1 _ hlk) (F.2.2.2.2.1 _ k1) (F.2.2.2.2.1 _ k2) (F.2.2.2.2.1 _ k3) F.2.2.2.2.2.1 hP hD hS s0 d0 0 0 at1 at2 rfl rfl rfl (by decide) (by decide) ?_ (by rw [ec, z0]; omega) (by rw [ec, z0]; omega) (fun _ _ => rfl) (by show 1 ≤ d + 1; omega) ?_ hd (fun H1 locs1 hP1 hD1 hS1 => ?_)
  · rw [Int32.lt_iff_toInt_lt, ek, Int32.toInt_zero]
    omega
  · refine Nat.le_trans (Nat.add_le_add_right hs _) ?_
    show 8 + (nativeFrameWords "java/lang/System" "arraycopy" 5 + 11) ≤ 60 * (d + 1)
    have : 8 + (nativeFrameWords "java/lang/System" "arraycopy" 5 + 11) ≤ 60 := by decide +kernel
    omega
  · have e1 : va_cpy f f2 (0 : Int32).toNatClampNeg (0 : Int32).toNatClampNeg (Int32.ofNat kk).toNatClampNeg = fun i => if i < kk then f i else f2 i := by
      funext i
      unfold va_cpy
      rw [ec, z0]
      by_cases hi : i < kk
      · rw [if_pos ⟨Nat.zero_le i, by omega⟩, if_pos hi]
        congr 1
        omega
      · rw [if_neg (fun q => hi (by omega)), if_neg hi]
    rw [e1] at hP1 hD1
    have e2 : (pm_w aC ad n a.2.2.2).set d0 (ad d0, .inl (aC 0, N2, .inl (fun i => if i < kk then f i else f2 i))) = pm_w aC ad n (pm_u a.2.2.2 d0 (.inl (0, N2, .inl (fun i => if i < kk then f i else f2 i)))) := by
      rw [← pm_set]
      rfl
    have hP1 : va_P g vwCl ((pm_w aC ad n a.2.2.2).set d0 (ad d0, .inl (aC 0, N2, .inl (fun i => if i < kk then f i else f2 i)))) H1 := hP1
    have hD1 : va_D A ((pm_w aC ad n a.2.2.2).set d0 (ad d0, .inl (aC 0, N2, .inl (fun i => if i < kk then f i else f2 i)))) := hD1
    rw [e2] at hP1 hD1
    exact k H1 locs1 ls hP1 hD1 hS1 hl
end Cpy
