theorem xy_of {h h' : Ph} (e : ∀ c j, (c = 192 ∨ c = 193 ∨ c = 194 ∨ c = 172) → pm_slot (h' c) j = pm_slot (h c) j) (g : xp h ∧ yp h) : xp h' ∧ yp h' := by
  have i : ∀ c j, (c = 192 ∨ c = 193 ∨ c = 194 ∨ c = 172) → ivl h' c j = ivl h c j := fun c j hc => by unfold ivl; rw [e c j hc]
  have f : ivl h' cCO = ivl h cCO := funext fun j => i cCO j (by decide)
  unfold xp yp nst at *
  rw [f, i cLT 0 (by decide), i cLF 0 (by decide), i cM kCd (by decide), i cLT 1 (by decide)]
  exact g
theorem hW_I (fk : Nat → Int64) (f1 e1 f2 e2 : Nat → Int32) (he1 : ∀ q, q < 30 → e1 q = (-1 : Int32)) (he2 : ∀ q, q < 30 → e2 q = (-1 : Int32)) : hI HTw RGw 229 (hW fk f1 e1 f2 e2) := ⟨hW_0 fk f1 e1 f2 e2 he1 he2, fun _ => xy_of (fun c j hc => hW_s fk f1 e1 f2 e2 c j hc) hZ_X⟩
