/-! badAt -/
def blkGo (q : Nat → Int64) (a : Nat) : Nat → Nat → Bool
  | 0, _ => true
  | m + 1, j => decide (q (a + j) = 0) && blkGo q a m (j + 1)
def blk (q : Nat → Int64) (r : Nat) : Bool := blkGo q (20 * r) 19 0
theorem blkGo_congr {q q' : Nat → Int64} {a : Nat} (m : Nat) : ∀ j, (∀ i, j ≤ i → i < j + m → q (a + i) = q' (a + i)) → blkGo q a m j = blkGo q' a m j := by
  induction m with
  | zero => intro j _; rfl
  | succ m ih => intro j h; rw [blkGo, blkGo, h j (by omega) (by omega), ih (j + 1) (fun i h1 h2 => h i (by omega) (by omega))]
theorem fb_blk_go (n : Nat) (st : BSt) {r : Nat} (hr : r < 8) (m : Nat) : ∀ (k j : Nat), j + m = 19 → m < k → fb_isBlankRoot_7 n k st (nI (20 * r)) (nI j) = some (b2i (blkGo (bs_roots st) (20 * r) m j)) := by
  induction m with
  | zero =>
    intro k j h1 h3
    obtain ⟨k, rfl⟩ : ∃ i, k = i + 1 := ⟨k - 1, by omega⟩
    obtain rfl : j = 19 := by omega
    rw [fb_isBlankRoot_7, if_pos (by decide)]; rfl
  | succ m ih =>
    intro k j h1 h3
    obtain ⟨k, rfl⟩ : ∃ i, k = i + 1 := ⟨k - 1, by omega⟩
    rw [fb_isBlankRoot_7, if_neg (by rw [lt32 19, nI_leI (by omega) (by omega)]; omega), nI_add, rdL_n (by omega) (by omega), bind_s, blkGo]
    by_cases c : bs_roots st (20 * r + j) = 0
    · rw [if_pos (lgc_eq.mpr c), nI_1, ih k (j + 1) (by omega) (by omega)]; simp [c]
    · rw [if_neg (fun h => c (lgc_eq.mp h))]; simp [c, b2i]
theorem fb_blkE {n r : Nat} {st : BSt} (hr : r < 8) (hn : 20 < n) : fb_isBlankRoot n st (nI r) = some (b2i (blk (bs_roots st) r)) := by
  rw [fb_isBlankRoot, lt32 20, pk_mul, Nat.mul_comm r 20]
  exact fb_blk_go n st hr 19 n 0 (by omega) (by omega)
def badR (o : Option Nat) : Int32 := match o with | none => -1 | some r => 100 + nI r
def badP (o : Option Nat) (e : Int32) : Int32 := match o with | none => e | some p => nI p
theorem fb_badR_go (n : Nat) (st : BSt) (hn : 20 < n) (m : Nat) : ∀ (k r : Nat), r + m = 8 → m < k → fb_badAt_41 n k st (nI r) = some (badR (fstN (fun r => blk (bs_roots st) r || rsum (bs_roots st) r) m r)) := by
  induction m with
  | zero =>
    intro k r h1 h3
    obtain ⟨k, rfl⟩ : ∃ i, k = i + 1 := ⟨k - 1, by omega⟩
    obtain rfl : r = 8 := by omega
    rw [fb_badAt_41, if_pos (by decide)]; rfl
  | succ m ih =>
    intro k r h1 h3
    obtain ⟨k, rfl⟩ : ∃ i, k = i + 1 := ⟨k - 1, by omega⟩
    rw [fb_badAt_41, if_neg (by rw [lt32 8, nI_leI (by omega) (by omega)]; omega), fb_blkE (by omega) hn, bind_s, fb_rsum (by omega) hn, fstN]
    cases c : blk (bs_roots st) r with
    | true => rw [if_neg (by decide), nI_1, ih k (r + 1) (by omega) (by omega)]; simp
    | false =>
      rw [if_pos (show b2i false = 0 from rfl), bind_s]
      cases c2 : rsum (bs_roots st) r with
      | true => rw [if_neg (by decide), nI_1, ih k (r + 1) (by omega) (by omega)]; simp
      | false => rw [if_pos (show b2i false = 0 from rfl)]; simp [badR]
theorem fb_badP_go (n : Nat) (st : BSt) {H : Int64} {f : Nat → Bool} (hP : bs_P st ≤ 64) (hn : 20 < n) (hH : ∀ p, p < 64 → bit H p = f p) (m : Nat) : ∀ (k j : Nat), j + m = bs_P st → m < k → fb_badAt_7 n k st H (nI j) = some (badP (fstN (fun p => !f p || rpg (bs_pages st) p) m j) (badR (fstN (fun r => blk (bs_roots st) r || rsum (bs_roots st) r) 8 0))) := by
  induction m with
  | zero =>
    intro k j h1 h3
    obtain ⟨k, rfl⟩ : ∃ i, k = i + 1 := ⟨k - 1, by omega⟩
    rw [fb_badAt_7, if_pos (nI_le (by omega) (by omega))]
    exact fb_badR_go n st hn 8 n 0 (by omega) (by omega)
  | succ m ih =>
    intro k j h1 h3
    obtain ⟨k, rfl⟩ : ∃ i, k = i + 1 := ⟨k - 1, by omega⟩
    rw [fb_badAt_7, if_neg (nI_ge (by omega) (by omega)), fb_isInE (by omega), bind_s, hH j (by omega), fb_rp (by omega) hP hn, fstN]
    cases c : f j with
    | false => rw [if_pos (show b2i false = 0 from rfl), nI_1, ih k (j + 1) (by omega) (by omega)]; simp
    | true =>
      rw [if_neg (by decide), bind_s]
      cases c2 : rpg (bs_pages st) j with
      | true => rw [if_neg (by decide), nI_1, ih k (j + 1) (by omega) (by omega)]; simp
      | false => rw [if_pos (show b2i false = 0 from rfl)]; simp [badP]
theorem fb_badE {n : Nat} {st : BSt} (hP : bs_P st ≤ 64) (hn : 70 < n) : fb_badAt n st = some (badP (fstN (fun p => !hld (bs_P st) (bs_roots st) (bs_newest st).toInt64 p || rpg (bs_pages st) p) (bs_P st) 0) (badR (fstN (fun r => blk (bs_roots st) r || rsum (bs_roots st) r) 8 0))) := by
  obtain ⟨H, hH, hb⟩ := fb_heldE (st := st) hP (show 20 < n by omega)
  rw [fb_badAt, hH, bind_s]
  exact fb_badP_go n st hP (by omega) hb (bs_P st) n 0 (by omega) (by omega)
/-- the model's -/
theorem fm_bad61 (n : Nat) (kb : MSt → Int32 → Option (Int32 × MSt)) (st : MSt) {r : Nat} (hr : r < 8) (hn : 20 < n) (m : Nat) : ∀ (k j : Nat) (s : Bool), j + m = 19 → m < k →
    fm_badAt_61 n kb k st (nI r) (nI (1024 + 20 * r)) (b2i s) (nI j) = if ((!s && blkGo (rtw (qbs_words st)) (20 * r) m j) || rsum (rtw (qbs_words st)) r) = true then kb st (nI r + 1) else some (100 + nI r, st) := by
  have hs : sumN (qbs_words st) (1024 + 20 * r) 19 = sumN (rtw (qbs_words st)) (20 * r) 19 := sumN_congr (fun i _ => by unfold rtw; rw [show 1024 + (20 * r + i) = 1024 + 20 * r + i by omega])
  have hx : rtw (qbs_words st) (20 * r + 19) = qbs_words st (1024 + 20 * r + 19) := by unfold rtw; rw [show 1024 + (20 * r + 19) = 1024 + 20 * r + 19 by omega]
  induction m with
  | zero =>
    intro k j s h1 h3
    obtain ⟨k, rfl⟩ : ∃ i, k = i + 1 := ⟨k - 1, by omega⟩
    obtain rfl : j = 19 := by omega
    rw [fm_badAt_61, if_pos (by decide), lt32 19, nI_add, rdL_n (by omega) (by omega), bind_s, fm_sumE (by omega) (by omega), bind_s, hs, ← hx]
    cases s with
    | false => rw [if_pos (show b2i false = 0 from rfl)]; simp [blkGo]
    | true =>
      rw [if_neg (by decide), rsum]
      by_cases c : rtw (qbs_words st) (20 * r + 19) = sumN (rtw (qbs_words st)) (20 * r) 19
      · rw [if_pos (lgc_eq.mpr c)]; simp [c]
      · rw [if_neg (fun h => c (lgc_eq.mp h))]; simp [c]
  | succ m ih =>
    intro k j s h1 h3
    obtain ⟨k, rfl⟩ : ∃ i, k = i + 1 := ⟨k - 1, by omega⟩
    have hj : rtw (qbs_words st) (20 * r + j) = qbs_words st (1024 + 20 * r + j) := by unfold rtw; rw [show 1024 + (20 * r + j) = 1024 + 20 * r + j by omega]
    rw [fm_badAt_61, if_neg (by rw [lt32 19, nI_leI (by omega) (by omega)]; omega), nI_add, rdL_n (by omega) (by omega), bind_s, nI_1, ← hj, blkGo]
    cases s with
    | true =>
      rw [if_neg (by decide)]
      have := ih k (j + 1) true (by omega) (by omega)
      rw [show (b2i true : Int32) = 1 from rfl] at this
      rw [this]; simp
    | false =>
      rw [if_pos (show b2i false = 0 from rfl)]
      by_cases c : rtw (qbs_words st) (20 * r + j) = 0
      · rw [if_pos (lgc_eq.mpr c)]
        have := ih k (j + 1) false (by omega) (by omega)
        rw [show (b2i false : Int32) = 0 from rfl] at this
        rw [this]; simp [c]
      · rw [if_neg (fun h => c (lgc_eq.mp h))]
        have := ih k (j + 1) true (by omega) (by omega)
        rw [show (b2i true : Int32) = 1 from rfl] at this
        rw [this]; simp [c]
theorem fm_badR_go (n : Nat) (st : MSt) (hn : 20 < n) (m : Nat) : ∀ (k r : Nat), r + m = 8 → m < k → fm_badAt_41 n k st (nI r) = some (badR (fstN (fun r => blk (rtw (qbs_words st)) r || rsum (rtw (qbs_words st)) r) m r), st) := by
  induction m with
  | zero =>
    intro k r h1 h3
    obtain ⟨k, rfl⟩ : ∃ i, k = i + 1 := ⟨k - 1, by omega⟩
    obtain rfl : r = 8 := by omega
    rw [fm_badAt_41, if_pos (by decide)]; rfl
  | succ m ih =>
    intro k r h1 h3
    obtain ⟨k, rfl⟩ : ∃ i, k = i + 1 := ⟨k - 1, by omega⟩
    have := fm_bad61 n (fm_badAt_41 n k) st (show r < 8 by omega) hn 19 n 0 false (by omega) (by omega)
    rw [fm_badAt_41, if_neg (by rw [lt32 8, nI_leI (by omega) (by omega)]; omega), lt32 20, lt32 1024, pk_mul, nI_add, fstN]
    rw [show fm_badAt_61 n (fm_badAt_41 n k) n st (nI r) (nI (1024 + 20 * r)) 0 0 = _ from this, nI_1, ih k (r + 1) (by omega) (by omega)]
    rw [show blkGo (rtw (qbs_words st)) (20 * r) 19 0 = blk (rtw (qbs_words st)) r from rfl, Bool.not_false, Bool.true_and]
    cases blk (rtw (qbs_words st)) r || rsum (rtw (qbs_words st)) r <;> simp [badR]
theorem fm_badP_go (n : Nat) (st : MSt) {P : Nat} (h0 : 0 < P) (hP : P ≤ 64) (hp : qbs_pages st = nI P) (hn : 20 < n) (m : Nat) : ∀ (k j : Nat), j + m = P → m < k → fm_badAt_7 n k st (nI j) = some (badP (fstN (fun p => !hld P (rtw (qbs_words st)) (qbs_newest st).toInt64 p || rpg (qbs_words st) p) m j) (badR (fstN (fun r => blk (rtw (qbs_words st)) r || rsum (rtw (qbs_words st)) r) 8 0)), st) := by
  induction m with
  | zero =>
    intro k j h1 h3
    obtain ⟨k, rfl⟩ : ∃ i, k = i + 1 := ⟨k - 1, by omega⟩
    rw [fm_badAt_7, hp, if_pos (nI_le (by omega) (by omega))]
    exact fm_badR_go n st hn 8 n 0 (by omega) (by omega)
  | succ m ih =>
    intro k j h1 h3
    obtain ⟨k, rfl⟩ : ∃ i, k = i + 1 := ⟨k - 1, by omega⟩
    rw [fm_badAt_7, hp, if_neg (nI_ge (by omega) (by omega)), fm_fr (by omega) h0 hP hp hn, bind_s, fm_rp (by omega) hn, fstN]
    cases c : hld P (rtw (qbs_words st)) (qbs_newest st).toInt64 j with
    | false => rw [if_neg (by decide), nI_1, ih k (j + 1) (by omega) (by omega)]; simp
    | true =>
      rw [if_pos (show b2i (!true) = 0 from rfl), bind_s]
      cases c2 : rpg (qbs_words st) j with
      | true => rw [if_neg (by decide), nI_1, ih k (j + 1) (by omega) (by omega)]; simp
      | false => rw [if_pos (show b2i false = 0 from rfl)]; simp [badP]
theorem pr_15 : ps_15 Rel := by
  intro d st ms h
  obtain ⟨v, hv, h1, h2⟩ := h.nw
  have hp8 := h.p8
  have hp64 := h.p64
  refine ⟨100, 100, qbs_put_thrown 0 ms, _, fb_badE h.p64 (by omega), ?_, h.thr 0⟩
  rw [fm_badAt, show fm_badAt_7 100 100 (qbs_put_thrown 0 ms) 0 = _ from fm_badP_go 100 (qbs_put_thrown 0 ms) (show 0 < bs_P st by omega) h.p64 h.pg (by omega) (bs_P st) 100 0 (by omega) (by omega)]
  congr 2
  show badP (fstN (fun p => !hld (bs_P st) (rtw (qbs_words ms)) (qbs_newest ms).toInt64 p || rpg (qbs_words ms) p) (bs_P st) 0) _ = _
  have e1 : fstN (fun p => !hld (bs_P st) (rtw (qbs_words ms)) (qbs_newest ms).toInt64 p || rpg (qbs_words ms) p) (bs_P st) 0 = fstN (fun p => !hld (bs_P st) (bs_roots st) (bs_newest st).toInt64 p || rpg (bs_pages st) p) (bs_P st) 0 := by
    apply fstN_congr
    intro i _ hi
    show (!_ || _) = (!_ || _)
    rw [h1, h2, hld_congr h.p64 h.sw, rpg_congr (fun j hj => h.sw.1 (16 * i + j) (by omega))]
  have e2 : fstN (fun r => blk (rtw (qbs_words ms)) r || rsum (rtw (qbs_words ms)) r) 8 0 = fstN (fun r => blk (bs_roots st) r || rsum (bs_roots st) r) 8 0 := by
    apply fstN_congr
    intro i _ hi
    show (blk _ _ || _) = (blk _ _ || _)
    have hq : ∀ j, j < 20 → bs_roots st (20 * i + j) = rtw (qbs_words ms) (20 * i + j) := fun j hj => h.sw.2 _ (by omega)
    rw [blk, blk, blkGo_congr 19 0 (fun j _ hj => (hq j (by omega)).symm), rsum, rsum, hq 19 (by omega), sumN_congr (fun j hj => (hq j (by omega)).symm)]
  rw [e1]
  show badP _ (badR (fstN (fun r => blk (rtw (qbs_words ms)) r || rsum (rtw (qbs_words ms)) r) 8 0)) = _
  rw [e2]
