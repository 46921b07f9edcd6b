/-! the model's roots, by the same Bools -/
def rtw (w : Nat → Int64) : Nat → Int64 := fun i => w (1024 + i)
theorem l_le_pred {x : Int64} {P : Nat} (h0 : 0 < P) (hP : P < 2 ^ 31) : x ≤ lN (P - 1) ↔ x < lN P := by
  rw [Int64.le_iff_toInt_le, Int64.lt_iff_toInt_lt, lN_toInt (by omega), lN_toInt hP]
  omega
theorem fm_snd_0 (n k : Nat) (st : MSt) (x2 x4 : Int32) : fm_isSound_28 n (k + 1) st x2 0 x4 = some 0 := rfl
theorem fm_snd_go (n : Nat) (st : MSt) {r P : Nat} (hr : r < 8) (h0 : 0 < P) (hP : P ≤ 64) (hp : qbs_pages st = nI P) {L : Nat} (hL : L ≤ 16) (hw : qbs_words st (1024 + 20 * r + 1) = lN L) (m : Nat) : ∀ (k j : Nat), j + m = L → m + 1 < k →
    fm_isSound_28 n k st (nI (1024 + 20 * r)) 1 (nI j) = some (b2i (sndGo P (rtw (qbs_words st)) (20 * r) m j)) := by
  induction m with
  | zero =>
    intro k j h1 h3
    obtain ⟨k, rfl⟩ : ∃ i, k = i + 1 := ⟨k - 1, by omega⟩
    rw [fm_isSound_28, if_neg (by decide), nI_1, rdL_n (by omega) (by omega), bind_s, hw, nI_l (by omega), if_pos (lgc_ge.mpr ((lN_le (by omega) (by omega)).mpr (by omega)))]
    rfl
  | succ m ih =>
    intro k j h1 h3
    obtain ⟨k, rfl⟩ : ∃ i, k = i + 1 + 1 := ⟨k - 2, by omega⟩
    rw [fm_isSound_28, if_neg (by decide), nI_1, rdL_n (by omega) (by omega), bind_s, hw, nI_l (by omega), if_neg (fun h => absurd ((lN_le (by omega) (by omega)).mp (lgc_ge.mp h)) (by omega)), lt32 2, nI_add, nI_add, rdL_n (by omega) (by omega), bind_s, fm_isInE, bind_s, hp, nI_l (by omega), nI_1, sndGo]
    have hx : rtw (qbs_words st) (20 * r + 2 + j) = qbs_words st (1024 + 20 * r + 2 + j) := by unfold rtw; rw [show 1024 + (20 * r + 2 + j) = 1024 + 20 * r + 2 + j by omega]
    rw [hx, show lN P - 1 = lN (P - 1) from lN_sub (b := 1) h0]
    simp only [l_le_pred h0 (show P < 2 ^ 31 by omega)]
    by_cases c1 : 0 ≤ qbs_words st (1024 + 20 * r + 2 + j)
    · by_cases c2 : qbs_words st (1024 + 20 * r + 2 + j) < lN P
      · simp only [c1, c2, decide_true, Bool.true_and, b2i_t]
        exact ih (k + 1) (j + 1) (by omega) (by omega)
      · simp [c1, c2, b2i_f, fm_snd_0]
    · simp [c1, b2i_f, fm_snd_0]
theorem fm_snd {n : Nat} {st : MSt} {r P : Nat} (hr : r < 8) (h0 : 0 < P) (hP : P ≤ 64) (hp : qbs_pages st = nI P) (hn : 20 < n) : fm_isSound n st (nI r) = some (b2i (snd P (rtw (qbs_words st)) r)) := by
  obtain ⟨n', rfl⟩ : ∃ i, n = i + 1 := ⟨n - 1, by omega⟩
  have hx : rtw (qbs_words st) (20 * r + 1) = qbs_words st (1024 + 20 * r + 1) := by unfold rtw; rw [show 1024 + (20 * r + 1) = 1024 + 20 * r + 1 by omega]
  rw [fm_isSound, lt32 20, lt32 1024, pk_mul, nI_add, nI_1, rdL_n (by omega) (by omega), bind_s, fm_isInE, bind_s, snd, hx]
  by_cases c0 : 0 ≤ qbs_words st (1024 + 20 * r + 1)
  · by_cases c7 : qbs_words st (1024 + 20 * r + 1) ≤ 16
    · obtain ⟨c, hc, he⟩ := l_cnt (M := 16) (Int64.not_lt.mpr c0) c7 (by omega)
      simp only [c0, c7, decide_true, Bool.true_and, b2i_t]
      rw [he, cN_lN (by omega)]
      exact fm_snd_go (n' + 1) st hr h0 hP hp hc he c (n' + 1) 0 (by omega) (by omega)
    · simp [c0, c7, b2i_f, fm_snd_0]
  · simp [c0, b2i_f, fm_snd_0]
theorem fm_rrt_0 (n k : Nat) (st : MSt) (x2 : Int32) (x4 x6 : Int64) (x8 : Int32) : fm_isRightRoot_54 n (k + 1) st x2 0 x4 x6 x8 = some 0 := rfl
theorem fm_rlv_go (n : Nat) (st : MSt) {r P L : Nat} (hr : r < 8) (hP : P ≤ 64) (hL : L ≤ 16) (hw : qbs_words st (1024 + 20 * r + 1) = lN L) (hs : ∀ i, i < L → ∃ p, p < P ∧ rtw (qbs_words st) (20 * r + 2 + i) = lN p) (hn : 20 < n) (m : Nat) : ∀ (k j e : Nat) (prev : Int64), j + m = L → m + 1 < k → e ≤ 7 * j →
    fm_isRightRoot_54 n k st (nI (1024 + 20 * r)) 1 prev (lN e) (nI j) = some (b2i (rlv (qbs_words st) (rtw (qbs_words st)) (20 * r) m j prev e)) := by
  induction m with
  | zero =>
    intro k j e prev h1 h3 h4
    obtain ⟨k, rfl⟩ : ∃ i, k = i + 1 := ⟨k - 1, by omega⟩
    have hx : rtw (qbs_words st) (20 * r + 18) = qbs_words st (1024 + 20 * r + 18) := by unfold rtw; rw [show 1024 + (20 * r + 18) = 1024 + 20 * r + 18 by omega]
    rw [fm_isRightRoot_54, if_neg (by decide), nI_1, rdL_n (by omega) (by omega), bind_s, hw, nI_l (by omega), if_pos (lgc_ge.mpr ((lN_le (by omega) (by omega)).mpr (by omega))), fm_isRightRoot_194, if_neg (by decide), lt32 18, nI_add, rdL_n (by omega) (by omega), bind_s]
    simp only [lgc_eq, rlv, b2i, decide_eq_true_eq, hx]
    split <;> rfl
  | succ m ih =>
    intro k j e prev h1 h3 h4
    obtain ⟨k, rfl⟩ : ∃ i, k = i + 1 + 1 := ⟨k - 2, by omega⟩
    obtain ⟨p, hp, he⟩ := hs j (by omega)
    have hx : qbs_words st (1024 + 20 * r + 2 + j) = lN p := by rw [← he]; unfold rtw; rw [show 1024 + (20 * r + 2 + j) = 1024 + 20 * r + 2 + j by omega]
    rw [fm_isRightRoot_54, if_neg (by decide), nI_1, rdL_n (by omega) (by omega), bind_s, hw, nI_l (by omega), if_neg (fun h => absurd ((lN_le (by omega) (by omega)).mp (lgc_ge.mp h)) (by omega)), lt32 2, nI_add, nI_add, rdL_n (by omega) (by omega), bind_s, hx, lN_i, fm_rp (by omega) hn, bind_s, nI_1, rlv, he, cN_lN (by omega)]
    by_cases cr : rpg (qbs_words st) p = true
    · have hcr := cr
      simp only [rpg, Bool.and_eq_true, decide_eq_true_eq] at hcr
      obtain ⟨c, hc, hce⟩ := l_cnt (M := 7) (Int64.not_lt.mpr hcr.1) hcr.2.1 (by omega)
      rw [if_neg (by rw [cr]; decide), lt32 16, pk_mul, rdL_n (by omega) (by omega), bind_s, hce, cN_lN (by omega)]
      by_cases c0 : c = 0
      · subst c0
        rw [if_pos (lgc_le.mpr (by decide)), fm_rrt_0]
        simp [show ¬ (0 : Int64) < lN 0 from by decide, b2i_f]
      · have hpos : (0 : Int64) < lN c := (lN_lt (a := 0) (by omega) (by omega)).mpr (by omega)
        rw [if_neg (fun h => absurd (lgc_le.mp h) (Int64.not_le.mpr hpos)), nI_1, rdL_n (by omega) (by omega), bind_s]
        by_cases c1 : prev < qbs_words st (16 * p + 1)
        · rw [if_neg (fun h => absurd (lgc_le.mp h) (Int64.not_le.mpr c1)), bind_s, bind_s, lN_i, pk_mul, nI_add, lt32 1, pk_sub (by omega), rdL_n (by omega) (by omega), bind_s, lN_add, ← lt32 1]
          rw [ih (k + 1) (j + 1) (e + c) _ (by omega) (by omega) (by omega)]
          simp [cr, c1, hpos]
        · rw [if_pos (lgc_le.mpr (Int64.not_lt.mp c1)), fm_rrt_0]
          simp [c1, b2i_f]
    · have cr' : rpg (qbs_words st) p = false := by simpa using cr
      rw [cr', if_pos (show b2i false = 0 from rfl), fm_rrt_0]
      simp [b2i_f]
theorem fm_rrt {n : Nat} {st : MSt} {r P : Nat} (hr : r < 8) (h0 : 0 < P) (hP : P ≤ 64) (hp : qbs_pages st = nI P) (hn : 20 < n) : fm_isRightRoot n st (nI r) = some (b2i (rrt P (qbs_words st) (rtw (qbs_words st)) r)) := by
  obtain ⟨n', rfl⟩ : ∃ i, n = i + 1 := ⟨n - 1, by omega⟩
  have hx : rtw (qbs_words st) (20 * r + 19) = qbs_words st (1024 + 20 * r + 19) := by unfold rtw; rw [show 1024 + (20 * r + 19) = 1024 + 20 * r + 19 by omega]
  have hs : sumN (qbs_words st) (1024 + 20 * r) 19 = sumN (rtw (qbs_words st)) (20 * r) 19 := sumN_congr (fun i _ => by unfold rtw; rw [show 1024 + (20 * r + i) = 1024 + 20 * r + i by omega])
  rw [fm_isRightRoot, lt32 20, lt32 19, lt32 1024, pk_mul, nI_add, nI_add, rdL_n (by omega) (by omega), bind_s, fm_sumE (by omega) (by omega), bind_s, rrt, rsum, hx, hs]
  by_cases cs : qbs_words st (1024 + 20 * r + 19) = sumN (rtw (qbs_words st)) (20 * r) 19
  · rw [if_pos (lgc_eq.mpr cs), fm_snd hr h0 hP hp hn, bind_s]
    cases c2 : snd P (rtw (qbs_words st)) r with
    | false => rw [if_pos (show b2i false = 0 from rfl), fm_rrt_0]; simp [b2i_f]
    | true =>
      obtain ⟨L, hL, he, hs2⟩ := snd_spec hP c2
      have hw : qbs_words st (1024 + 20 * r + 1) = lN L := by rw [← he]; unfold rtw; rw [show 1024 + (20 * r + 1) = 1024 + 20 * r + 1 by omega]
      rw [if_neg (by decide), he, cN_lN (by omega)]
      simp only [cs, decide_true, Bool.true_and]
      exact fm_rlv_go (n' + 1) st hr hP hL hw hs2 hn L (n' + 1) 0 0 (-1) (by omega) (by omega) (by omega)
  · rw [if_neg (fun h => cs (lgc_eq.mp h)), fm_rrt_0]
    simp [cs, b2i_f]
