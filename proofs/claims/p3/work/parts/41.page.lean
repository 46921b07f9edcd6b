/-! a page is RIGHT: one Bool for both sides -/
def b2i (b : Bool) : Int32 := if b = true then 1 else 0
def cN (x : Int64) : Nat := x.toInt.toNat
theorem cN_lN {c : Nat} (h : c < 2 ^ 31) : cN (lN c) = c := by unfold cN; rw [lN_toInt h]; rfl
theorem l_cnt {x : Int64} {M : Nat} (h0 : ¬ x < 0) (h1 : x ≤ lN M) (hM : M < 2 ^ 31) : ∃ c, c ≤ M ∧ x = lN c := by
  obtain ⟨k, hk, rfl⟩ := pk_lOf h0
  exact ⟨k, (pk_lLE hk (by omega)).mp h1, rfl⟩
def asc (g : Nat → Int64) (a : Nat) : Nat → Nat → Int64 → Bool
  | 0, _, _ => true
  | m + 1, j, prev => decide (prev < g (a + 1 + 2 * j)) && (decide (g (a + 1 + 2 * j) ≤ 1000000) && asc g a m (j + 1) (g (a + 1 + 2 * j)))
def rpg (g : Nat → Int64) (p : Nat) : Bool := decide (0 ≤ g (16 * p)) && (decide (g (16 * p) ≤ 7) && (asc g (16 * p) (cN (g (16 * p))) 0 (-1) && decide (g (16 * p + 15) = sumN g (16 * p) 15)))
theorem asc_congr {f g : Nat → Int64} {a : Nat} (m : Nat) : ∀ (j : Nat) (prev : Int64), (∀ i, j ≤ i → i < j + m → f (a + 1 + 2 * i) = g (a + 1 + 2 * i)) → asc f a m j prev = asc g a m j prev := by
  induction m with
  | zero => intro j prev _; rfl
  | succ m ih =>
    intro j prev h
    have h0 := h j (by omega) (by omega)
    simp only [asc, h0]
    rw [ih (j + 1) _ (fun i h1 h2 => h i (by omega) (by omega))]
theorem rpg_congr {f g : Nat → Int64} {p : Nat} (h : ∀ i, i < 16 → f (16 * p + i) = g (16 * p + i)) : rpg f p = rpg g p := by
  have h0 : f (16 * p) = g (16 * p) := h 0 (by omega)
  have h15 := h 15 (by omega)
  have hs : sumN f (16 * p) 15 = sumN g (16 * p) 15 := sumN_congr (fun i hi => h i (by omega))
  unfold rpg
  rw [h0, h15, hs]
  by_cases c0 : 0 ≤ g (16 * p)
  · by_cases c7 : g (16 * p) ≤ 7
    · obtain ⟨c, hc, he⟩ := l_cnt (M := 7) (Int64.not_lt.mpr c0) c7 (by omega)
      have ha : asc f (16 * p) c 0 (-1) = asc g (16 * p) c 0 (-1) := asc_congr c 0 (-1) (fun i _ hi => by have := h (1 + 2 * i) (by omega); rw [show 16 * p + 1 + 2 * i = 16 * p + (1 + 2 * i) by omega]; exact this)
      rw [he, cN_lN (by omega), ha]
    · simp [c7]
  · simp [c0]
/-- the class's loop over a page's keys -/
theorem fb_rp_go (n : Nat) (st : BSt) {p : Nat} (hp : p < bs_P st) (hP : bs_P st ≤ 64) (hn : 20 < n) (m : Nat) : ∀ (k j c : Nat) (prev : Int64), j + m = c → c ≤ 7 → m < k →
    fb_isRightPage_36 n k st (nI (16 * p)) (lN c) prev (nI j) = some (b2i (asc (bs_pages st) (16 * p) m j prev && decide (bs_pages st (16 * p + 15) = sumN (bs_pages st) (16 * p) 15))) := by
  induction m with
  | zero =>
    intro k j c prev h1 h2 h3
    obtain ⟨k, rfl⟩ : ∃ i, k = i + 1 := ⟨k - 1, by omega⟩
    rw [fb_isRightPage_36, nI_l (by omega), if_pos (lgc_ge.mpr ((lN_le (by omega) (by omega)).mpr (by omega))), lt32 15, nI_add, rdL_n (by omega) (by omega), bind_s, fb_sum (by omega) (by omega) (by omega), bind_s]
    simp only [lgc_eq, asc, Bool.true_and, b2i, decide_eq_true_eq]
    split <;> rfl
  | succ m ih =>
    intro k j c prev h1 h2 h3
    obtain ⟨k, rfl⟩ : ∃ i, k = i + 1 := ⟨k - 1, by omega⟩
    rw [fb_isRightPage_36, nI_l (by omega), if_neg (fun h => absurd ((lN_le (by omega) (by omega)).mp (lgc_ge.mp h)) (by omega)), lt32 1, lt32 2, pk_mul, nI_add, nI_add, rdL_n (by omega) (by omega), bind_s, nI_add, asc]
    by_cases c1 : prev < bs_pages st (16 * p + 1 + 2 * j)
    · rw [if_neg (fun h => absurd (lgc_le.mp h) (Int64.not_le.mpr c1))]
      by_cases c2 : bs_pages st (16 * p + 1 + 2 * j) ≤ 1000000
      · rw [if_pos (lgc_le.mpr c2), ih k (j + 1) c _ (by omega) h2 (by omega)]
        simp [c1, c2]
      · rw [if_neg (fun h => c2 (lgc_le.mp h))]
        simp [c2, b2i]
    · rw [if_pos (lgc_le.mpr (Int64.not_lt.mp c1))]
      simp [c1, b2i]
theorem fb_rp {n : Nat} {st : BSt} {p : Nat} (hp : p < bs_P st) (hP : bs_P st ≤ 64) (hn : 20 < n) : fb_isRightPage n st (nI p) = some (b2i (rpg (bs_pages st) p)) := by
  rw [fb_isRightPage, lt32 16, pk_mul, Nat.mul_comm p 16, rdL_n (by omega) (by omega), bind_s, rpg]
  by_cases c0 : 0 ≤ bs_pages st (16 * p)
  · rw [if_neg (fun h => absurd (lgc_lt.mp h) (Int64.not_lt.mpr c0))]
    by_cases c7 : bs_pages st (16 * p) ≤ 7
    · obtain ⟨c, hc, he⟩ := l_cnt (M := 7) (Int64.not_lt.mpr c0) c7 (by omega)
      rw [if_pos (lgc_le.mpr c7)]
      simp only [c0, c7, decide_true, Bool.true_and]
      rw [he, cN_lN (by omega)]
      exact fb_rp_go n st hp hP hn c n 0 c (-1) (by omega) hc (by omega)
    · rw [if_neg (fun h => c7 (lgc_le.mp h))]
      simp [c7, b2i]
  · rw [if_pos (lgc_lt.mpr (Int64.not_le.mp c0))]
    simp [c0, b2i]
/-- the model's loop -/
theorem fm_rp_0 (n k : Nat) (st : MSt) (x2 : Int32) (x4 : Int64) (x6 : Int32) : fm_isRight_55 n (k + 1) st x2 0 x4 x6 = some 0 := rfl
theorem fm_rp_go (n : Nat) (st : MSt) {p : Nat} (hp : p < 64) {c : Nat} (hc : c ≤ 7) (hw : qbs_words st (16 * p) = lN c) (m : Nat) : ∀ (k j : Nat) (prev : Int64), j + m = c → m + 1 < k →
    fm_isRight_55 n k st (nI (16 * p)) 1 prev (nI j) = some (b2i (asc (qbs_words st) (16 * p) m j prev)) := by
  induction m with
  | zero =>
    intro k j prev h1 h3
    obtain ⟨k, rfl⟩ : ∃ i, k = i + 1 := ⟨k - 1, by omega⟩
    rw [fm_isRight_55, if_neg (by decide), rdL_n (by omega) (by omega), bind_s, hw, nI_l (by omega), if_pos (lgc_ge.mpr ((lN_le (by omega) (by omega)).mpr (by omega)))]
    rfl
  | succ m ih =>
    intro k j prev h1 h3
    obtain ⟨k, rfl⟩ : ∃ i, k = i + 1 + 1 := ⟨k - 2, by omega⟩
    rw [fm_isRight_55, if_neg (by decide), rdL_n (by omega) (by omega), bind_s, hw, nI_l (by omega), if_neg (fun h => absurd ((lN_le (by omega) (by omega)).mp (lgc_ge.mp h)) (by omega)), lt32 2, pk_mul, nI_1, nI_1, nI_add, rdL_n (by omega) (by omega), bind_s, asc]
    by_cases c1 : prev < qbs_words st (16 * p + 1 + 2 * j)
    · rw [if_neg (fun h => absurd (lgc_le.mp h) (Int64.not_le.mpr c1))]
      by_cases c2 : qbs_words st (16 * p + 1 + 2 * j) ≤ 1000000
      · rw [if_neg (fun h => absurd (lgc_gt.mp h) (Int64.not_lt.mpr c2)), ih (k + 1) (j + 1) _ (by omega) (by omega)]
        simp [c1, c2]
      · rw [if_pos (lgc_gt.mpr (Int64.not_le.mp c2)), fm_rp_0]
        simp [c2, b2i]
    · rw [if_pos (lgc_le.mpr (Int64.not_lt.mp c1)), fm_rp_0]
      simp [c1, b2i]
theorem fm_isInE (n : Nat) (x a b : Int64) : fm_isIn n x a b = some (b2i (decide (a ≤ x) && decide (x ≤ b))) := by
  rw [fm_isIn]
  by_cases c1 : x < a
  · rw [if_pos (lgc_lt.mpr c1)]
    simp [b2i, Int64.not_le.mpr c1]
  · rw [if_neg (fun h => c1 (lgc_lt.mp h))]
    by_cases c2 : b < x
    · rw [if_pos (lgc_gt.mpr c2)]
      simp [b2i, Int64.not_le.mpr c2]
    · rw [if_neg (fun h => c2 (lgc_gt.mp h))]
      simp [b2i, Int64.not_lt.mp c1, Int64.not_lt.mp c2]
theorem b2i_t : b2i true = 1 := rfl
theorem b2i_f : b2i false = 0 := rfl
theorem b2i_0 {b : Bool} : (b2i b = 0) ↔ b = false := by cases b <;> simp [b2i]
theorem fm_rp {n : Nat} {st : MSt} {p : Nat} (hp : p < 64) (hn : 20 < n) : fm_isRight n st (nI p) = some (b2i (rpg (qbs_words st) p)) := by
  obtain ⟨n', rfl⟩ : ∃ i, n = i + 1 := ⟨n - 1, by omega⟩
  rw [fm_isRight, lt32 16, lt32 15, pk_mul, nI_add, rdL_n (by omega) (by omega), bind_s, fm_sumE (by omega) (by omega), bind_s, rpg]
  by_cases cs : qbs_words st (16 * p + 15) = sumN (qbs_words st) (16 * p) 15
  · rw [if_pos (lgc_eq.mpr cs), rdL_n (by omega) (by omega), bind_s, fm_isInE, bind_s]
    by_cases c0 : 0 ≤ qbs_words st (16 * p)
    · by_cases c7 : qbs_words st (16 * p) ≤ 7
      · obtain ⟨c, hc, he⟩ := l_cnt (M := 7) (Int64.not_lt.mpr c0) c7 (by omega)
        simp only [c0, c7, cs, decide_true, Bool.true_and, Bool.and_true, b2i_t]
        rw [if_neg (by decide), he, cN_lN (by omega)]
        exact fm_rp_go (n' + 1) st hp hc he c (n' + 1) 0 (-1) (by omega) (by omega)
      · simp [c7, b2i_f, fm_rp_0]
    · simp [c0, b2i_f, fm_rp_0]
  · rw [if_neg (fun h => cs (lgc_eq.mp h)), fm_rp_0]
    simp [cs, b2i_f]
