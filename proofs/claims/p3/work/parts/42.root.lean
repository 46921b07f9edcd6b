/-! roots: SOUND, RIGHT -/
def sndGo (P : Nat) (q : Nat → Int64) (a : Nat) : Nat → Nat → Bool
  | 0, _ => true
  | m + 1, j => decide (0 ≤ q (a + 2 + j)) && (decide (q (a + 2 + j) < lN P) && sndGo P q a m (j + 1))
def snd (P : Nat) (q : Nat → Int64) (r : Nat) : Bool := decide (0 ≤ q (20 * r + 1)) && (decide (q (20 * r + 1) ≤ 16) && sndGo P q (20 * r) (cN (q (20 * r + 1))) 0)
def rsum (q : Nat → Int64) (r : Nat) : Bool := decide (q (20 * r + 19) = sumN q (20 * r) 19)
def rlv (g q : Nat → Int64) (a : Nat) : Nat → Nat → Int64 → Nat → Bool
  | 0, _, _, e => decide (q (a + 18) = lN e)
  | m + 1, j, prev, e => rpg g (cN (q (a + 2 + j))) && (decide (0 < g (16 * cN (q (a + 2 + j)))) && (decide (prev < g (16 * cN (q (a + 2 + j)) + 1)) && rlv g q a m (j + 1) (g (16 * cN (q (a + 2 + j)) + 2 * cN (g (16 * cN (q (a + 2 + j)))) - 1)) (e + cN (g (16 * cN (q (a + 2 + j)))))))
def rrt (P : Nat) (g q : Nat → Int64) (r : Nat) : Bool := rsum q r && (snd P q r && rlv g q (20 * r) (cN (q (20 * r + 1))) 0 (-1) 0)
/-- what SOUND gives: so many leaves, each a page -/
theorem sndGo_spec {P : Nat} {q : Nat → Int64} {a : Nat} (hP : P ≤ 64) (m : Nat) : ∀ j, sndGo P q a m j = true → ∀ i, j ≤ i → i < j + m → ∃ p, p < P ∧ q (a + 2 + i) = lN p := by
  induction m with
  | zero => intro j _ i h1 h2; omega
  | succ m ih =>
    intro j h i h1 h2
    simp only [sndGo, Bool.and_eq_true, decide_eq_true_eq] at h
    by_cases hij : i = j
    · subst hij
      obtain ⟨c, hc, he⟩ := pk_lOf (Int64.not_lt.mpr h.1)
      exact ⟨c, by have := h.2.1; rw [he, pk_lLT hc (by omega)] at this; exact this, he⟩
    · exact ih (j + 1) h.2.2 i (by omega) (by omega)
theorem snd_spec {P : Nat} {q : Nat → Int64} {r : Nat} (hP : P ≤ 64) (h : snd P q r = true) : ∃ L, L ≤ 16 ∧ q (20 * r + 1) = lN L ∧ ∀ i, i < L → ∃ p, p < P ∧ q (20 * r + 2 + i) = lN p := by
  simp only [snd, Bool.and_eq_true, decide_eq_true_eq] at h
  obtain ⟨L, hL, he⟩ := l_cnt (M := 16) (Int64.not_lt.mpr h.1) h.2.1 (by omega)
  rw [he, cN_lN (by omega)] at h
  exact ⟨L, hL, he, fun i hi => sndGo_spec hP L 0 h.2.2 i (by omega) (by omega)⟩
theorem fb_snd_go (n : Nat) (st : BSt) {r : Nat} (hr : r < 8) (hP : bs_P st ≤ 64) (m : Nat) : ∀ (k j L : Nat), j + m = L → L ≤ 16 → m < k →
    fb_isSound_33 n k st (nI (20 * r)) (lN L) (nI j) = some (b2i (sndGo (bs_P st) (bs_roots st) (20 * r) m j)) := by
  induction m with
  | zero =>
    intro k j L h1 h2 h3
    obtain ⟨k, rfl⟩ : ∃ i, k = i + 1 := ⟨k - 1, by omega⟩
    rw [fb_isSound_33, nI_l (by omega), if_pos (lgc_ge.mpr ((lN_le (by omega) (by omega)).mpr (by omega)))]
    rfl
  | succ m ih =>
    intro k j L h1 h2 h3
    obtain ⟨k, rfl⟩ : ∃ i, k = i + 1 := ⟨k - 1, by omega⟩
    rw [fb_isSound_33, nI_l (by omega), if_neg (fun h => absurd ((lN_le (by omega) (by omega)).mp (lgc_ge.mp h)) (by omega)), lt32 2, nI_add, nI_add, rdL_n (by omega) (by omega), bind_s, nI_1, nI_l (by omega), sndGo]
    by_cases c1 : 0 ≤ bs_roots st (20 * r + 2 + j)
    · rw [if_neg (fun h => absurd (lgc_lt.mp h) (Int64.not_lt.mpr c1))]
      by_cases c2 : bs_roots st (20 * r + 2 + j) < lN (bs_P st)
      · rw [if_pos (lgc_lt.mpr c2), ih k (j + 1) L (by omega) h2 (by omega)]
        simp [c1, c2]
      · rw [if_neg (fun h => c2 (lgc_lt.mp h))]
        simp [c2, b2i_f]
    · rw [if_pos (lgc_lt.mpr (Int64.not_le.mp c1))]
      simp [c1, b2i_f]
theorem fb_snd {n : Nat} {st : BSt} {r : Nat} (hr : r < 8) (hP : bs_P st ≤ 64) (hn : 20 < n) : fb_isSound n st (nI r) = some (b2i (snd (bs_P st) (bs_roots st) r)) := by
  rw [fb_isSound, lt32 20, pk_mul, Nat.mul_comm r 20, nI_1, rdL_n (by omega) (by omega), bind_s, snd]
  by_cases c0 : 0 ≤ bs_roots st (20 * r + 1)
  · rw [if_neg (fun h => absurd (lgc_lt.mp h) (Int64.not_lt.mpr c0))]
    by_cases c7 : bs_roots st (20 * r + 1) ≤ 16
    · obtain ⟨c, hc, he⟩ := l_cnt (M := 16) (Int64.not_lt.mpr c0) c7 (by omega)
      rw [if_pos (lgc_le.mpr c7)]
      simp only [c0, c7, decide_true, Bool.true_and]
      rw [he, cN_lN (by omega)]
      exact fb_snd_go n st hr hP c n 0 c (by omega) hc (by omega)
    · rw [if_neg (fun h => c7 (lgc_le.mp h))]
      simp [c7, b2i_f]
  · rw [if_pos (lgc_lt.mpr (Int64.not_le.mp c0))]
    simp [c0, b2i_f]
theorem fb_rsum {n : Nat} {st : BSt} {r : Nat} (hr : r < 8) (hn : 20 < n) : fb_hasRootSum n st (nI r) = some (b2i (rsum (bs_roots st) r)) := by
  rw [fb_hasRootSum, lt32 20, lt32 19, pk_mul, Nat.mul_comm r 20, nI_add, rdL_n (by omega) (by omega), bind_s, fb_sum (by omega) (by omega) (by omega), bind_s]
  simp only [lgc_eq, rsum, b2i, decide_eq_true_eq]
  split <;> rfl
theorem fb_leavesOfE {n : Nat} {st : BSt} {r : Nat} (hr : r < 8) : fb_leavesOf n st (nI r) = some (bs_roots st (20 * r + 1)).toInt32 := by
  rw [fb_leavesOf, lt32 20, pk_mul, Nat.mul_comm r 20, nI_1, rdL_n (by omega) (by omega), bind_s]
theorem fb_entriesRE {n : Nat} {st : BSt} {r : Nat} (hr : r < 8) : fb_entriesOfRoot n st (nI r) = some (bs_roots st (20 * r + 18)).toInt32 := by
  rw [fb_entriesOfRoot, lt32 20, lt32 18, pk_mul, Nat.mul_comm r 20, nI_add, rdL_n (by omega) (by omega), bind_s]
theorem fb_pageOfE {n : Nat} {st : BSt} {r j : Nat} (hr : r < 8) (hj : j < 18) : fb_pageOf n st (nI r) (nI j) = some (bs_roots st (20 * r + 2 + j)).toInt32 := by
  rw [fb_pageOf, lt32 20, lt32 2, pk_mul, Nat.mul_comm r 20, nI_add, nI_add, rdL_n (by omega) (by omega), bind_s]
theorem fb_entriesE {n : Nat} {st : BSt} {p : Nat} (hp : p < bs_P st) (hP : bs_P st ≤ 64) : fb_entriesOf n st (nI p) = some (bs_pages st (16 * p)).toInt32 := by
  rw [fb_entriesOf, lt32 16, pk_mul, Nat.mul_comm p 16, rdL_n (by omega) (by omega), bind_s]
theorem fb_entryAtE {n p k : Nat} : fb_entryAt n (nI p) (nI k) = some (nI (16 * p + 1 + 2 * k)) := by
  rw [fb_entryAt, lt32 16, lt32 2, pk_mul, pk_mul, Nat.mul_comm p 16, nI_1, nI_add]
theorem fb_firstE {n : Nat} {st : BSt} {p : Nat} (hp : p < bs_P st) (hP : bs_P st ≤ 64) : fb_firstKey n st (nI p) = some (bs_pages st (16 * p + 1)) := by
  rw [fb_firstKey, lt32 0, fb_entryAtE, bind_s, rdL_n (by omega) (by omega), bind_s]
theorem fb_lastE {n : Nat} {st : BSt} {p c : Nat} (hp : p < bs_P st) (hP : bs_P st ≤ 64) (hc : 1 ≤ c) (hc7 : c ≤ 7) (he : bs_pages st (16 * p) = lN c) : fb_lastKey n st (nI p) = some (bs_pages st (16 * p + 2 * c - 1)) := by
  rw [fb_lastKey, fb_entriesE hp hP, bind_s, he, lN_i, lt32 1, pk_sub hc, fb_entryAtE, bind_s, rdL_n (by omega) (by omega), bind_s, show 16 * p + 1 + 2 * (c - 1) = 16 * p + 2 * c - 1 by omega]
theorem fb_rlv_go (n : Nat) (st : BSt) {r L : Nat} (hr : r < 8) (hP : bs_P st ≤ 64) (hL : L ≤ 16) (hs : ∀ i, i < L → ∃ p, p < bs_P st ∧ bs_roots st (20 * r + 2 + i) = lN p) (hn : 20 < n) (m : Nat) : ∀ (k j e : Nat) (prev : Int64), j + m = L → m < k → e ≤ 7 * j →
    fb_hasRightLeaves_17 n k st (nI r) prev (lN e) (nI L) (nI j) = some (b2i (rlv (bs_pages st) (bs_roots st) (20 * r) m j prev e)) := by
  induction m with
  | zero =>
    intro k j e prev h1 h3 h4
    obtain ⟨k, rfl⟩ : ∃ i, k = i + 1 := ⟨k - 1, by omega⟩
    rw [fb_hasRightLeaves_17, if_pos (nI_le (by omega) (by omega)), lt32 20, lt32 18, pk_mul, Nat.mul_comm r 20, nI_add, rdL_n (by omega) (by omega), bind_s]
    simp only [lgc_eq, rlv, b2i, decide_eq_true_eq]
    split <;> rfl
  | succ m ih =>
    intro k j e prev h1 h3 h4
    obtain ⟨k, rfl⟩ : ∃ i, k = i + 1 := ⟨k - 1, by omega⟩
    obtain ⟨p, hp, he⟩ := hs j (by omega)
    rw [fb_hasRightLeaves_17, if_neg (nI_ge (by omega) (by omega)), fb_pageOfE hr (by omega), bind_s, he, lN_i, fb_rp hp hP hn, bind_s, rlv, he, cN_lN (by omega)]
    by_cases cr : rpg (bs_pages st) p = true
    · have hcr := cr
      simp only [rpg, Bool.and_eq_true, decide_eq_true_eq] at hcr
      obtain ⟨c, hc, hce⟩ := l_cnt (M := 7) (Int64.not_lt.mpr hcr.1) hcr.2.1 (by omega)
      rw [if_neg (by rw [cr]; decide), fb_entriesE hp hP, bind_s, hce, lN_i, cN_lN (by omega)]
      by_cases c0 : c = 0
      · subst c0
        rw [if_pos (show nI 0 = 0 from rfl)]
        simp [show ¬ (0 : Int64) < lN 0 from by decide, b2i_f]
      · have hpos : (0 : Int64) < lN c := (lN_lt (a := 0) (by omega) (by omega)).mpr (by omega)
        rw [if_neg (nI_ne0 (by omega) (by omega)), fb_firstE hp hP, bind_s]
        by_cases c1 : prev < bs_pages st (16 * p + 1)
        · rw [if_pos (lgc_gt.mpr c1), fb_lastE hp hP (by omega) hc hce, bind_s, bind_s, nI_l (by omega), lN_add, nI_1, ih k (j + 1) (e + c) _ (by omega) (by omega) (by omega)]
          simp [cr, c1, hpos]
        · rw [if_neg (fun h => c1 (lgc_gt.mp h))]
          simp [c1, b2i_f]
    · have cr' : rpg (bs_pages st) p = false := by simpa using cr
      rw [cr', if_pos (show b2i false = 0 from rfl)]
      simp [b2i_f]
theorem fb_rrt {n : Nat} {st : BSt} {r : Nat} (hr : r < 8) (hP : bs_P st ≤ 64) (hn : 20 < n) : fb_isRightRoot n st (nI r) = some (b2i (rrt (bs_P st) (bs_pages st) (bs_roots st) r)) := by
  rw [fb_isRightRoot, fb_rsum hr hn, bind_s, rrt]
  cases c1 : rsum (bs_roots st) r with
  | false => rw [if_pos (show b2i false = 0 from rfl)]; rfl
  | true =>
    rw [if_neg (by decide), fb_snd hr hP hn, bind_s]
    cases c2 : snd (bs_P st) (bs_roots st) r with
    | false => rw [if_pos (show b2i false = 0 from rfl)]; rfl
    | true =>
      obtain ⟨L, hL, he, hs⟩ := snd_spec hP c2
      rw [if_neg (by decide), fb_hasRightLeaves, fb_leavesOfE hr, bind_s, he, lN_i, cN_lN (by omega)]
      have h := fb_rlv_go n st hr hP hL hs hn L n 0 0 (-1) (by omega) (by omega) (by omega)
      rw [show fb_hasRightLeaves_17 n n st (nI r) (-1) 0 (nI L) 0 = _ from h, bind_s]
      cases rlv (bs_pages st) (bs_roots st) (20 * r) L 0 (-1) 0 <;> rfl
