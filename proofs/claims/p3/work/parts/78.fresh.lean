/-! one call on two new objects -/
theorem kc_fresh {d : Nat} {st : BSt} {ms : MSt} (h : Rel d st ms) (hf : ∀ i, i < 8 → bs_roots st (20 * i) = 0) (y : Int32) : KC st y := by
  by_cases c : 0 ≤ y
  · exact Or.inl c
  · right
    obtain ⟨r, hr, hx, -⟩ := fb_root 200 y
    rw [fb_kpt (n := 200) (st := st) hr hx h.p64 (by omega), kpt, hf r hr]
    have hne : ¬ (0 : Int64) = y.toInt64 := by
      intro e
      have e2 : y.toInt64.toInt = 0 := by rw [← e]; rfl
      rw [Int32.toInt_toInt64] at e2
      exact c (by rw [Int32.le_iff_toInt_le, Int32.toInt_zero, e2]; omega)
    rw [decide_eq_false hne, Bool.false_and, Bool.and_false]; rfl
/-- the relation of the first call and of what follows it -/
def Rel1 (d : Nat) (st : BSt) (ms : MSt) : Prop := Rel d st ms ∧ d ≤ 1 ∧ (d = 1 → ∀ i, i < 8 → bs_roots st (20 * i) = 0)
theorem Rel1.of {d : Nat} {st : BSt} {ms : MSt} {st' : BSt} {ms' : MSt} (h : Rel1 (d + 1) st ms) (k : Rel d st' ms') : Rel1 d st' ms' := ⟨k, by have := h.2.1; omega, fun e => by have := h.2.1; omega⟩
theorem Rel1.kc {d : Nat} {st : BSt} {ms : MSt} (h : Rel1 (d + 1) st ms) (y : Int32) : KC st y := kc_fresh h.1 (h.2.2 (by have := h.2.1; omega)) y
