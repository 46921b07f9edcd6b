/-! the class's set of held pages, a bit each -/
def bit (x : Int64) (j : Nat) : Bool := x.toBitVec.getLsbD j
theorem bit_or (x y : Int64) (j : Nat) : bit (x ||| y) j = (bit x j || bit y j) := by
  unfold bit; rw [Int64.toBitVec_or, BitVec.getLsbD_or]
theorem bit_0 (j : Nat) : bit 0 j = false := by
  unfold bit; show (0#64).getLsbD j = false; simp
theorem bit_pw {p j : Nat} (hp : p < 64) : bit ((1 : Int64) <<< ((nI p).toInt64 &&& 63)) j = decide (p = j) := by
  have h := wb_shl 1 hp
  rw [show (1 : Int64) = lN 1 from rfl, h, Nat.one_mul]
  unfold bit
  rw [wb_tb, BitVec.getLsbD_ofNat, Nat.testBit_two_pow]
  by_cases c : p = j
  · subst c; simp [hp]
  · simp [c]
theorem fb_isInE {n p : Nat} {H : Int64} (hp : p < 64) : fb_isIn n H (nI p) = some (b2i (bit H p)) := by
  have hs : ((nI p).toInt64.toUInt64 &&& Int64.toUInt64 63).toNat = p := by
    rw [wb_cu p hp]
    show (BitVec.ofNat 64 p).toNat = p
    rw [BitVec.toNat_ofNat, Nat.mod_eq_of_lt (by omega)]
  rw [fb_isIn]
  cases c : bit H p with
  | false =>
    rw [if_pos (lgc_eq.mpr ((ts_bit hp hs).mpr c))]; rfl
  | true =>
    rw [if_neg (fun h => by have := (ts_bit hp hs).mp (lgc_eq.mp h); unfold bit at c; rw [this] at c; cases c)]; rfl
theorem fb_pagesOf_go (n : Nat) (st : BSt) {r L : Nat} (hr : r < 8) (hP : bs_P st ≤ 64) (hL : L ≤ 16) (hs : ∀ i, i < L → ∃ p, p < bs_P st ∧ bs_roots st (20 * r + 2 + i) = lN p) (m : Nat) : ∀ (k j : Nat) (x : Int64), j + m = L → m < k →
    ∃ y, fb_pagesOf_12 n k st (nI r) x (nI L) (nI j) = some y ∧ ∀ p, p < 64 → bit y p = (bit x p || hldR (bs_roots st) (20 * r) p m j) := by
  induction m with
  | zero =>
    intro k j x h1 h3
    obtain ⟨k, rfl⟩ : ∃ i, k = i + 1 := ⟨k - 1, by omega⟩
    refine ⟨x, ?_, fun p _ => by simp [hldR]⟩
    rw [fb_pagesOf_12, if_pos (nI_le (by omega) (by omega))]
  | succ m ih =>
    intro k j x h1 h3
    obtain ⟨k, rfl⟩ : ∃ i, k = i + 1 := ⟨k - 1, by omega⟩
    obtain ⟨pj, hpj, he⟩ := hs j (by omega)
    obtain ⟨y, hy, hb⟩ := ih k (j + 1) (x ||| ((1 : Int64) <<< ((nI pj).toInt64 &&& 63))) (by omega) (by omega)
    refine ⟨y, ?_, fun p hp => ?_⟩
    · rw [fb_pagesOf_12, if_neg (nI_ge (by omega) (by omega)), fb_pageOfE hr (by omega), bind_s, he, lN_i, nI_1, hy]
    · rw [hb p hp, bit_or, bit_pw (by omega), hldR, he, Bool.or_assoc]
      congr 2
      exact decide_eq_decide.mpr (lN_eq (by omega) (by omega)).symm
theorem fb_pagesOfE {n : Nat} {st : BSt} {r : Nat} (hr : r < 8) (hP : bs_P st ≤ 64) (hn : 20 < n) (hs : snd (bs_P st) (bs_roots st) r = true) :
    ∃ y, fb_pagesOf n st (nI r) = some y ∧ ∀ p, p < 64 → bit y p = hldR (bs_roots st) (20 * r) p (cN (bs_roots st (20 * r + 1))) 0 := by
  obtain ⟨L, hL, he, hsp⟩ := snd_spec hP hs
  obtain ⟨y, hy, hb⟩ := fb_pagesOf_go n st hr hP hL hsp L n 0 0 (by omega) (by omega)
  refine ⟨y, ?_, fun p hp => ?_⟩
  · rw [fb_pagesOf, fb_leavesOfE hr, bind_s, he, lN_i]; exact hy
  · rw [hb p hp, bit_0, he, cN_lN (by omega), Bool.false_or]
theorem fb_held_go (n : Nat) (st : BSt) (hP : bs_P st ≤ 64) (hn : 20 < n) (m : Nat) : ∀ (k r : Nat) (x : Int64), r + m = 8 → m < k →
    ∃ y, fb_heldPages_4 n k st x (nI r) = some y ∧ ∀ p, p < 64 → bit y p = (bit x p || hldG (bs_P st) (bs_roots st) (bs_newest st).toInt64 p m r) := by
  induction m with
  | zero =>
    intro k r x h1 h3
    obtain ⟨k, rfl⟩ : ∃ i, k = i + 1 := ⟨k - 1, by omega⟩
    obtain rfl : r = 8 := by omega
    exact ⟨x, by rw [fb_heldPages_4, if_pos (by decide)], fun p _ => by simp [hldG]⟩
  | succ m ih =>
    intro k r x h1 h3
    obtain ⟨k, rfl⟩ : ∃ i, k = i + 1 := ⟨k - 1, by omega⟩
    have hr : r < 8 := by omega
    have go : ∀ (c : Bool) (x' : Int64), (∀ p, p < 64 → hld1 (bs_P st) (bs_roots st) (bs_newest st).toInt64 r p = (c && hldR (bs_roots st) (20 * r) p (cN (bs_roots st (20 * r + 1))) 0)) →
        (∀ p, p < 64 → bit x' p = (bit x p || (c && hldR (bs_roots st) (20 * r) p (cN (bs_roots st (20 * r + 1))) 0))) →
        ∃ y, fb_heldPages_4 n k st x' (nI r + 1) = some y ∧ ∀ p, p < 64 → bit y p = (bit x p || hldG (bs_P st) (bs_roots st) (bs_newest st).toInt64 p (m + 1) r) := by
      intro c x' h1' h2'
      obtain ⟨y, hy, hb⟩ := ih k (r + 1) x' (by omega) (by omega)
      refine ⟨y, by rw [nI_1]; exact hy, fun p hp => ?_⟩
      rw [hb p hp, h2' p hp, hldG, h1' p hp, Bool.or_assoc]
    rw [fb_heldPages_4, if_neg (by rw [lt32 8, nI_leI (by omega) (by omega)]; omega), lt32 20, pk_mul, Nat.mul_comm r 20, rdL_n (by omega) (by omega), bind_s]
    by_cases c1 : bs_roots st (20 * r) ≤ (bs_newest st).toInt64
    · rw [if_neg (fun h => absurd (lgc_gt.mp h) (Int64.not_lt.mpr c1)), fb_snd hr hP hn, bind_s]
      cases c2 : snd (bs_P st) (bs_roots st) r with
      | false =>
        rw [if_pos (show b2i false = 0 from rfl)]
        exact go false x (fun p _ => by simp [hld1, c1, c2]) (fun p _ => by simp)
      | true =>
        rw [if_neg (by decide)]
        obtain ⟨y, hy, hb⟩ := fb_pagesOfE hr hP hn c2
        rw [hy, bind_s]
        exact go true (x ||| y) (fun p _ => by simp [hld1, c1, c2]) (fun p hp => by rw [bit_or, hb p hp, Bool.true_and])
    · rw [if_pos (lgc_gt.mpr (Int64.not_le.mp c1))]
      exact go false x (fun p _ => by simp [hld1, c1]) (fun p _ => by simp)
theorem fb_heldE {n : Nat} {st : BSt} (hP : bs_P st ≤ 64) (hn : 20 < n) :
    ∃ H, fb_heldPages n st = some H ∧ ∀ p, p < 64 → bit H p = hld (bs_P st) (bs_roots st) (bs_newest st).toInt64 p := by
  obtain ⟨y, hy, hb⟩ := fb_held_go n st hP hn 8 n 0 0 (by omega) (by omega)
  exact ⟨y, hy, fun p hp => by rw [hb p hp, bit_0, Bool.false_or]; rfl⟩
/-! the first page from j on, of m, that f doesn't have -/
def fstN (f : Nat → Bool) : Nat → Nat → Option Nat
  | 0, _ => none
  | m + 1, j => if f j = true then fstN f m (j + 1) else some j
def o2i (o : Option Nat) : Int32 := match o with | none => -1 | some p => nI p
theorem fstN_some {f : Nat → Bool} (m : Nat) : ∀ j p, fstN f m j = some p → j ≤ p ∧ p < j + m ∧ f p = false ∧ ∀ i, j ≤ i → i < p → f i = true := by
  induction m with
  | zero => intro j p h; cases h
  | succ m ih =>
    intro j p h
    rw [fstN] at h
    split at h
    · rename_i c
      obtain ⟨h1, h2, h3, h4⟩ := ih (j + 1) p h
      exact ⟨by omega, by omega, h3, fun i hi hip => (Nat.eq_or_lt_of_le hi).elim (fun e => e ▸ c) (fun e => h4 i (by omega) hip)⟩
    · rename_i c
      cases h
      exact ⟨Nat.le_refl _, by omega, by simpa using c, fun i hi hip => by omega⟩
theorem fstN_congr {f g : Nat → Bool} (m : Nat) : ∀ j, (∀ i, j ≤ i → i < j + m → f i = g i) → fstN f m j = fstN g m j := by
  induction m with
  | zero => intro j _; rfl
  | succ m ih =>
    intro j h
    rw [fstN, fstN, h j (by omega) (by omega), ih (j + 1) (fun i h1 h2 => h i (by omega) (by omega))]
theorem fb_pni_go (n : Nat) (st : BSt) {H : Int64} {f : Nat → Bool} (hP : bs_P st ≤ 64) (hH : ∀ p, p < 64 → bit H p = f p) (m : Nat) : ∀ (k j : Nat), j + m = bs_P st → m < k →
    fb_pageNotIn_3 n k st H (nI j) = some (o2i (fstN f m j)) := by
  induction m with
  | zero =>
    intro k j h1 h3
    obtain ⟨k, rfl⟩ : ∃ i, k = i + 1 := ⟨k - 1, by omega⟩
    rw [fb_pageNotIn_3, if_pos (nI_le (by omega) (by omega))]; rfl
  | succ m ih =>
    intro k j h1 h3
    obtain ⟨k, rfl⟩ : ∃ i, k = i + 1 := ⟨k - 1, by omega⟩
    rw [fb_pageNotIn_3, if_neg (nI_ge (by omega) (by omega)), fb_isInE (by omega), bind_s, hH j (by omega), fstN]
    cases c : f j with
    | false => rw [if_pos (show b2i false = 0 from rfl), if_neg (by decide)]; rfl
    | true => rw [if_neg (by decide), if_pos rfl, nI_1]; exact ih k (j + 1) (by omega) (by omega)
theorem fb_pni {n s : Nat} {st : BSt} {H : Int64} {f : Nat → Bool} (hP : bs_P st ≤ 64) (hH : ∀ p, p < 64 → bit H p = f p) (hs : s ≤ bs_P st) (hn : 70 < n) : fb_pageNotIn n st H (nI s) = some (o2i (fstN f (bs_P st - s) s)) := by
  rw [fb_pageNotIn]
  exact fb_pni_go n st hP hH (bs_P st - s) n s (by omega) (by omega)
/-- the model looks from above -/
theorem fm_nf_go (n : Nat) (st : MSt) {P : Nat} {f : Nat → Bool} (h0 : 0 < P) (hP : P ≤ 64) (hp : qbs_pages st = nI P) (hn : 20 < n) (hf : ∀ p, p < P → f p = (hld P (rtw (qbs_words st)) (qbs_newest st).toInt64 p || !decide (qbs_taken st p = 0))) (j : Nat) : ∀ k, j < k → j ≤ P →
    fm_nextFree_9 n k st (o2i (fstN f (P - j) j)) (nI j + (-1)) = some (o2i (fstN f P 0)) := by
  induction j with
  | zero =>
    intro k h1 h2
    obtain ⟨k, rfl⟩ : ∃ i, k = i + 1 := ⟨k - 1, by omega⟩
    rw [fm_nextFree_9, if_pos (by decide)]; rfl
  | succ j ih =>
    intro k h1 h2
    obtain ⟨k, rfl⟩ : ∃ i, k = i + 1 := ⟨k - 1, by omega⟩
    rw [pk_m1, fm_nextFree_9, if_neg (nI_pos (by omega)), fm_fr (by omega) h0 hP hp hn, bind_s, rdI_n (by omega) (by omega)]
    have e : fstN f (P - j) j = if f j = true then fstN f (P - (j + 1)) (j + 1) else some j := by
      rw [show P - j = (P - (j + 1)) + 1 by omega, fstN]
    have hj := hf j (by omega)
    cases c : hld P (rtw (qbs_words st)) (qbs_newest st).toInt64 j with
    | true =>
      rw [if_pos (show b2i (!true) = 0 from rfl), ← ih k (by omega) (by omega), e, if_pos (by rw [hj, c]; rfl)]
    | false =>
      rw [if_neg (by decide), bind_s]
      by_cases ct : qbs_taken st j = 0
      · rw [if_pos ct, ← ih k (by omega) (by omega), e, if_neg (by rw [hj, c]; simp [ct])]; rfl
      · rw [if_neg ct, ← ih k (by omega) (by omega), e, if_pos (by rw [hj, c]; simp [ct])]
theorem fm_nf {n : Nat} {st : MSt} {P : Nat} {f : Nat → Bool} (h0 : 0 < P) (hP : P ≤ 64) (hp : qbs_pages st = nI P) (hn : 70 < n) (hf : ∀ p, p < P → f p = (hld P (rtw (qbs_words st)) (qbs_newest st).toInt64 p || !decide (qbs_taken st p = 0))) :
    fm_nextFree n st = some (o2i (fstN f P 0)) := by
  have := fm_nf_go n st h0 hP hp (by omega) hf P n (by omega) (Nat.le_refl _)
  rw [fm_nextFree, hp, Int32.sub_eq_add_neg]
  rw [Nat.sub_self] at this
  exact this
