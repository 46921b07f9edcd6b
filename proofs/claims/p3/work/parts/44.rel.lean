/-! the words of the two sides are the same; what follows of roots and versions -/
/-- the pages' and the roots' words are the same on both sides -/
def SameW (P : Nat) (g q w : Nat → Int64) : Prop := (∀ i, i < 16 * P → g i = w i) ∧ ∀ i, i < 160 → q i = rtw w i
theorem sndGo_congr {P : Nat} {q q' : Nat → Int64} {a : Nat} (m : Nat) : ∀ j, (∀ i, j ≤ i → i < j + m → q (a + 2 + i) = q' (a + 2 + i)) → sndGo P q a m j = sndGo P q' a m j := by
  induction m with
  | zero => intro j _; rfl
  | succ m ih =>
    intro j h
    have h0 := h j (by omega) (by omega)
    simp only [sndGo, h0]
    rw [ih (j + 1) (fun i h1 h2 => h i (by omega) (by omega))]
theorem snd_congr {P : Nat} {q q' : Nat → Int64} {r : Nat} (h : ∀ i, i < 20 → q (20 * r + i) = q' (20 * r + i)) : snd P q r = snd P q' r := by
  have h1 := h 1 (by omega)
  unfold snd
  rw [h1]
  by_cases c0 : 0 ≤ q' (20 * r + 1)
  · by_cases c7 : q' (20 * r + 1) ≤ 16
    · obtain ⟨c, hc, he⟩ := l_cnt (M := 16) (Int64.not_lt.mpr c0) c7 (by omega)
      have ha : sndGo P q (20 * r) c 0 = sndGo P q' (20 * r) c 0 := sndGo_congr c 0 (fun i _ hi => by have := h (2 + i) (by omega); rw [show 20 * r + 2 + i = 20 * r + (2 + i) by omega]; exact this)
      rw [he, cN_lN (by omega), ha]
    · simp [c7]
  · simp [c0]
theorem rlv_congr {P : Nat} {g q g' q' : Nat → Int64} {a L : Nat} (hP : P ≤ 64) (hg : ∀ i, i < 16 * P → g i = g' i) (hq : ∀ i, i < 20 → q (a + i) = q' (a + i)) (hL : L ≤ 16) (hs : ∀ i, i < L → ∃ p, p < P ∧ q' (a + 2 + i) = lN p) (m : Nat) : ∀ (j e : Nat) (prev : Int64), j + m = L → rlv g q a m j prev e = rlv g' q' a m j prev e := by
  induction m with
  | zero => intro j e prev _; simp only [rlv]; rw [hq 18 (by omega)]
  | succ m ih =>
    intro j e prev h
    obtain ⟨p, hp, he⟩ := hs j (by omega)
    have h0 : q (a + 2 + j) = lN p := by rw [← he, show a + 2 + j = a + (2 + j) by omega]; exact hq _ (by omega)
    have hr : rpg g p = rpg g' p := rpg_congr (fun i hi => hg _ (by omega))
    have h16 : g (16 * p) = g' (16 * p) := hg _ (by omega)
    have h17 : g (16 * p + 1) = g' (16 * p + 1) := hg _ (by omega)
    simp only [rlv, h0, he, cN_lN (show p < 2 ^ 31 by omega), hr, h16, h17]
    cases cr : rpg g' p with
    | false => rfl
    | true =>
      have hcr := cr
      simp only [rpg, Bool.and_eq_true, decide_eq_true_eq] at hcr
      obtain ⟨c, hc, hce⟩ := l_cnt (M := 7) (Int64.not_lt.mpr hcr.1) hcr.2.1 (by omega)
      rw [hce, cN_lN (by omega), hg (16 * p + 2 * c - 1) (by omega), ih (j + 1) _ _ (by omega)]
theorem rrt_congr {P : Nat} {g q w : Nat → Int64} (hP : P ≤ 64) (h : SameW P g q w) {r : Nat} (hr : r < 8) : rrt P g q r = rrt P w (rtw w) r := by
  have hq : ∀ i, i < 20 → q (20 * r + i) = rtw w (20 * r + i) := fun i hi => h.2 _ (by omega)
  unfold rrt
  rw [snd_congr hq, show rsum q r = rsum (rtw w) r by unfold rsum; rw [hq 19 (by omega), sumN_congr (fun i hi => hq i (by omega))], hq 1 (by omega)]
  cases c2 : snd P (rtw w) r with
  | false => simp
  | true =>
    obtain ⟨L, hL, he, hs⟩ := snd_spec hP c2
    rw [he, cN_lN (by omega), rlv_congr hP h.1 hq hL hs L 0 0 (-1) (by omega)]
/-- what RIGHT gives of a root: so many leaves, each a right page with entries -/
theorem rlv_pages {P : Nat} {g q : Nat → Int64} {a L : Nat} (hs : ∀ i, i < L → ∃ p, p < P ∧ q (a + 2 + i) = lN p) (hP : P ≤ 64) (m : Nat) : ∀ (j e : Nat) (prev : Int64), j + m = L → rlv g q a m j prev e = true → ∀ i, j ≤ i → i < L → ∃ p c, p < P ∧ q (a + 2 + i) = lN p ∧ 1 ≤ c ∧ c ≤ 7 ∧ g (16 * p) = lN c ∧ rpg g p = true := by
  induction m with
  | zero => intro j e prev h1 _ i h2 h3; omega
  | succ m ih =>
    intro j e prev h1 h i h2 h3
    obtain ⟨p, hp, he⟩ := hs j (by omega)
    simp only [rlv, he, cN_lN (show p < 2 ^ 31 by omega), Bool.and_eq_true, decide_eq_true_eq] at h
    by_cases hij : i = j
    · subst hij
      have hcr := h.1
      simp only [rpg, Bool.and_eq_true, decide_eq_true_eq] at hcr
      obtain ⟨c, hc, hce⟩ := l_cnt (M := 7) (Int64.not_lt.mpr hcr.1) hcr.2.1 (by omega)
      refine ⟨p, c, hp, he, ?_, hc, hce, h.1⟩
      have h4 := h.2.1
      rw [hce] at h4
      have := (lN_lt (a := 0) (b := c) (by omega) (by omega)).mp h4
      omega
    · exact ih (j + 1) _ _ (by omega) h.2.2.2 i (by omega) h3
/-- Math.floorMod by 8, of any int: a root -/
theorem xor8_sign (x : Int32) : (0 ≤ x ^^^ 8) ↔ 0 ≤ x := by
  have key : ∀ z : Int32, (0 ≤ z) ↔ z.toBitVec.msb = false := by
    intro z
    rw [Int32.le_iff_toInt_le, Int32.toInt_zero, BitVec.msb_eq_toInt]
    show 0 ≤ z.toBitVec.toInt ↔ _
    simp
  have h8 : (8 : Int32).toBitVec.msb = false := by decide
  rw [key, key, Int32.toBitVec_xor, BitVec.msb_xor, h8, Bool.xor_false]
theorem fb_root (n : Nat) (x : Int32) : ∃ r, r < 8 ∧ fb_rootOf n x = some (nI r) ∧ (∀ v, v < 2 ^ 31 → x = nI v → r = v % 8) := by
  have h8 : (8 : Int32).toInt = 8 := by decide
  have hrem : (x - x / 8 * 8).toInt = x.toInt.tmod 8 := by rw [rem_toInt, h8]
  have hb := tmod_bounds (a := x.toInt) (M := 8) (by omega)
  have of : ∀ (z : Int32) (k : Nat), k < 8 → z.toInt = (k : Int) → z = nI k := by
    intro z k hk hz
    apply Int32.toInt_inj.mp
    rw [hz, nI_toInt (by omega)]
  have tl : ∀ z : Int32, fb_rootOf n x = some z ↔ fj_floorMod n x 8 = some z := by
    intro z
    rw [fb_rootOf]
    cases fj_floorMod n x 8 <;> simp
  by_cases c : 0 ≤ x
  · obtain ⟨v, hv, rfl⟩ := nI_of (Int32.not_lt.mpr c)
    refine ⟨v % 8, by omega, ?_, ?_⟩
    · rw [tl, fj_floorMod, if_neg (by decide), if_pos ((xor8_sign _).mpr c)]
      rw [show (8 : Int32) = nI 8 from rfl, pk_rem hv (by omega) (by omega)]
    · intro v' hv' he
      rw [(nI_eq hv hv').mp he]
  · have hx : x.toInt < 0 := by
      rw [Int32.le_iff_toInt_le, Int32.toInt_zero] at c
      omega
    have hneg : ∀ v, v < 2 ^ 31 → x = nI v → False := by
      intro v hv he
      rw [he] at c
      exact c (nI_pos' hv)
    have ht : x.toInt.tmod 8 ≤ 0 := by
      have e : x.toInt.tmod 8 = -((-x.toInt).tmod 8) := by rw [Int.neg_tmod, Int.neg_neg]
      have h0 : 0 ≤ (-x.toInt).tmod 8 := Int.tmod_nonneg 8 (by omega)
      omega
    by_cases c0 : x - x / 8 * 8 = 0
    · refine ⟨0, by omega, ?_, fun v hv he => (hneg v hv he).elim⟩
      rw [tl, fj_floorMod, if_neg (by decide), if_neg (fun h => c ((xor8_sign _).mp h)), if_pos c0, c0]
      rfl
    · have hne : (x - x / 8 * 8).toInt ≠ 0 := fun h => c0 (Int32.toInt_inj.mp (by rw [h, Int32.toInt_zero]))
      rw [hrem] at hne
      obtain ⟨k, hk⟩ : ∃ k : Nat, (k : Int) = x.toInt.tmod 8 + 8 := ⟨(x.toInt.tmod 8 + 8).toNat, by omega⟩
      refine ⟨k, by omega, ?_, fun v hv he => (hneg v hv he).elim⟩
      rw [tl, fj_floorMod, if_neg (by decide), if_neg (fun h => c ((xor8_sign _).mp h)), if_neg c0]
      congr 1
      apply of _ _ (by omega)
      rw [Int32.toInt_add, hrem, h8, ← hk]
      exact Int.bmod_eq_of_le (by omega) (by omega)
