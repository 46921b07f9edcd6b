/-! KEPT -/
def kpt (P : Nat) (g q : Nat → Int64) (nw x : Int32) (r : Nat) : Bool := decide (x ≤ nw) && (decide (q (20 * r) = x.toInt64) && rrt P g q r)
theorem fb_kpt {n : Nat} {st : BSt} {x : Int32} {r : Nat} (hr : r < 8) (hx : fb_rootOf n x = some (nI r)) (hP : bs_P st ≤ 64) (hn : 20 < n) : fb_isKept n st x = some (b2i (kpt (bs_P st) (bs_pages st) (bs_roots st) (bs_newest st) x r)) := by
  rw [fb_isKept, hx, bind_s, kpt]
  by_cases c1 : x ≤ bs_newest st
  · rw [if_neg (Int32.not_lt.mpr c1), lt32 20, pk_mul, Nat.mul_comm r 20, rdL_n (by omega) (by omega), bind_s]
    by_cases c2 : bs_roots st (20 * r) = x.toInt64
    · rw [if_pos (lgc_eq.mpr c2), fb_rrt hr hP hn, bind_s]
      cases rrt (bs_P st) (bs_pages st) (bs_roots st) r <;> simp [c1, c2, b2i]
    · rw [if_neg (fun h => c2 (lgc_eq.mp h))]
      simp [c2, b2i]
  · rw [if_pos (Int32.not_le.mp c1)]
    simp [c1, b2i]
theorem fm_kpt_neg {n : Nat} {st : MSt} {x : Int32} (h : x < 0) : fm_isKept n st x = some 0 := by
  rw [fm_isKept, if_pos h]
theorem fm_rem {v : Nat} (hv : v < 2 ^ 31) : nI v - nI v / 8 * 8 = nI (v % 8) := pk_rem (d := 8) hv (by omega) (by omega)
theorem fm_kpt {n : Nat} {st : MSt} {v P : Nat} (hv : v < 2 ^ 31) (h0 : 0 < P) (hP : P ≤ 64) (hp : qbs_pages st = nI P) (hn : 20 < n) : fm_isKept n st (nI v) = some (b2i (kpt P (qbs_words st) (rtw (qbs_words st)) (qbs_newest st) (nI v) (v % 8))) := by
  have hr : v % 8 < 8 := by omega
  rw [fm_isKept, if_neg (nI_pos hv), kpt]
  by_cases c1 : nI v ≤ qbs_newest st
  · rw [if_neg (Int32.not_lt.mpr c1), fm_rem hv, lt32 20, lt32 1024, pk_mul, nI_add, rdL_n (by omega) (by omega), bind_s]
    have hx : rtw (qbs_words st) (20 * (v % 8)) = qbs_words st (1024 + 20 * (v % 8)) := rfl
    rw [hx]
    by_cases c2 : qbs_words st (1024 + 20 * (v % 8)) = (nI v).toInt64
    · rw [if_pos (lgc_eq.mpr c2), fm_rrt hr h0 hP hp hn, bind_s]
      cases rrt P (qbs_words st) (rtw (qbs_words st)) (v % 8) <;> simp [c1, c2, b2i]
    · rw [if_neg (fun h => c2 (lgc_eq.mp h))]
      simp [c2, b2i]
  · rw [if_pos (Int32.not_le.mp c1)]
    simp [c1, b2i]
theorem kpt_congr {P : Nat} {g q w : Nat → Int64} (hP : P ≤ 64) (h : SameW P g q w) {r : Nat} (hr : r < 8) (nw x : Int32) : kpt P g q nw x r = kpt P w (rtw w) nw x r := by
  unfold kpt
  rw [rrt_congr hP h hr, h.2 (20 * r) (by omega)]
/-! which pages the roots hold: a Bool for each page -/
def hldR (q : Nat → Int64) (a : Nat) (p : Nat) : Nat → Nat → Bool
  | 0, _ => false
  | m + 1, j => decide (q (a + 2 + j) = lN p) || hldR q a p m (j + 1)
def hld1 (P : Nat) (q : Nat → Int64) (nw : Int64) (r p : Nat) : Bool := decide (q (20 * r) ≤ nw) && (snd P q r && hldR q (20 * r) p (cN (q (20 * r + 1))) 0)
def hldG (P : Nat) (q : Nat → Int64) (nw : Int64) (p : Nat) : Nat → Nat → Bool
  | 0, _ => false
  | m + 1, r => hld1 P q nw r p || hldG P q nw p m (r + 1)
def hld (P : Nat) (q : Nat → Int64) (nw : Int64) (p : Nat) : Bool := hldG P q nw p 8 0
theorem hldR_congr {q q' : Nat → Int64} {a p : Nat} (m : Nat) : ∀ j, (∀ i, j ≤ i → i < j + m → q (a + 2 + i) = q' (a + 2 + i)) → hldR q a p m j = hldR q' a p m j := by
  induction m with
  | zero => intro j _; rfl
  | succ m ih =>
    intro j h
    simp only [hldR, h j (by omega) (by omega)]
    rw [ih (j + 1) (fun i h1 h2 => h i (by omega) (by omega))]
theorem hld1_congr {P : Nat} {q q' : Nat → Int64} {nw : Int64} {r p : Nat} (hP : P ≤ 64) (h : ∀ i, i < 20 → q (20 * r + i) = q' (20 * r + i)) : hld1 P q nw r p = hld1 P q' nw r p := by
  unfold hld1
  rw [snd_congr h, show q (20 * r) = q' (20 * r) from h 0 (by omega), h 1 (by omega)]
  cases c : snd P q' r with
  | false => simp
  | true =>
    obtain ⟨L, hL, he, hs⟩ := snd_spec hP c
    have ha : hldR q (20 * r) p L 0 = hldR q' (20 * r) p L 0 := hldR_congr L 0 (fun i _ hi => by have := h (2 + i) (by omega); rw [show 20 * r + 2 + i = 20 * r + (2 + i) by omega]; exact this)
    rw [he, cN_lN (by omega), ha]
theorem hldG_congr {P : Nat} {q q' : Nat → Int64} {nw : Int64} {p : Nat} (hP : P ≤ 64) (h : ∀ i, i < 160 → q i = q' i) (m : Nat) : ∀ r, r + m ≤ 8 → hldG P q nw p m r = hldG P q' nw p m r := by
  induction m with
  | zero => intro r _; rfl
  | succ m ih =>
    intro r hr
    simp only [hldG]
    rw [hld1_congr hP (fun i hi => h _ (by omega)), ih (r + 1) (by omega)]
theorem hld_congr {P : Nat} {g q w : Nat → Int64} {nw : Int64} {p : Nat} (hP : P ≤ 64) (h : SameW P g q w) : hld P q nw p = hld P (rtw w) nw p := hldG_congr hP h.2 8 0 (by omega)
/-- the model's isFree -/
theorem fm_fr_0 (n k : Nat) (kb : MSt → Int32 → Int32 → Int32 → Option Int32) (st : MSt) (x1 x2 x3 x4 x6 : Int32) : fm_isFree_54 n kb (k + 1) st x1 x2 x3 x4 0 x6 = kb st x1 x2 (x3 + 1) := rfl
theorem fm_fr_in (n : Nat) (kb : MSt → Int32 → Int32 → Int32 → Option Int32) (st : MSt) {r p L : Nat} (hr : r < 8) (hp : p < 64) (hL : L ≤ 16) (hw : qbs_words st (1024 + 20 * r + 1) = lN L) (x3 : Int32) (m : Nat) : ∀ (k j : Nat) (f : Bool), j + m = L → m < k →
    fm_isFree_54 n kb k st (nI p) (b2i f) x3 (nI (1024 + 20 * r)) 1 (nI j) = kb st (nI p) (b2i (f && !hldR (rtw (qbs_words st)) (20 * r) p m j)) (x3 + 1) := by
  induction m with
  | zero =>
    intro k j f h1 h3
    obtain ⟨k, rfl⟩ : ∃ i, k = i + 1 := ⟨k - 1, by omega⟩
    rw [fm_isFree_54, if_neg (by decide), nI_1, rdL_n (by omega) (by omega), bind_s, hw, nI_l (by omega), if_pos (lgc_ge.mpr ((lN_le (by omega) (by omega)).mpr (by omega)))]
    simp [hldR]
  | succ m ih =>
    intro k j f h1 h3
    obtain ⟨k, rfl⟩ : ∃ i, k = i + 1 := ⟨k - 1, by omega⟩
    have hx : rtw (qbs_words st) (20 * r + 2 + j) = qbs_words st (1024 + 20 * r + 2 + j) := by unfold rtw; rw [show 1024 + (20 * r + 2 + j) = 1024 + 20 * r + 2 + j by omega]
    rw [fm_isFree_54, if_neg (by decide), nI_1, rdL_n (by omega) (by omega), bind_s, hw, nI_l (by omega), if_neg (fun h => absurd ((lN_le (by omega) (by omega)).mp (lgc_ge.mp h)) (by omega)), hldR, hx, nI_1]
    cases f with
    | false =>
      rw [if_pos (show b2i false = 0 from rfl)]
      have := ih k (j + 1) false (by omega) (by omega)
      rw [show (0 : Int32) = b2i false from rfl, this]
      simp
    | true =>
      rw [if_neg (by decide), lt32 2, nI_add, nI_add, rdL_n (by omega) (by omega), bind_s, nI_l (by omega)]
      by_cases c : qbs_words st (1024 + 20 * r + 2 + j) = lN p
      · rw [if_pos (lgc_eq.mpr c), show (0 : Int32) = b2i false from rfl, ih k (j + 1) false (by omega) (by omega)]
        simp [c]
      · rw [if_neg (fun h => c (lgc_eq.mp h))]
        have := ih k (j + 1) true (by omega) (by omega)
        rw [show fm_isFree_54 n kb k st (nI p) 1 x3 (nI (1024 + 20 * r)) 1 (nI (j + 1)) = _ from this]
        simp [c]
theorem fm_fr_go (n : Nat) (st : MSt) {p P : Nat} (hp : p < 64) (h0 : 0 < P) (hP : P ≤ 64) (hpg : qbs_pages st = nI P) (hn : 20 < n) (m : Nat) : ∀ (k r : Nat) (f : Bool), r + m = 8 → m < k →
    fm_isFree_4 n k st (nI p) (b2i f) (nI r) = some (b2i (f && !hldG P (rtw (qbs_words st)) (qbs_newest st).toInt64 p m r)) := by
  induction m with
  | zero =>
    intro k r f h1 h3
    obtain ⟨k, rfl⟩ : ∃ i, k = i + 1 := ⟨k - 1, by omega⟩
    obtain rfl : r = 8 := by omega
    rw [fm_isFree_4, if_pos (by decide)]
    cases f <;> rfl
  | succ m ih =>
    intro k r f h1 h3
    obtain ⟨k, rfl⟩ : ∃ i, k = i + 1 := ⟨k - 1, by omega⟩
    obtain ⟨n', rfl⟩ : ∃ i, n = i + 1 := ⟨n - 1, by omega⟩
    have hx : rtw (qbs_words st) (20 * r) = qbs_words st (1024 + 20 * r) := rfl
    rw [fm_isFree_4, if_neg (by rw [lt32 8, nI_leI (by omega) (by omega)]; omega), lt32 20, lt32 1024, pk_mul, nI_add, rdL_n (by omega) (by omega), bind_s, hldG, hld1, hx]
    by_cases c1 : qbs_words st (1024 + 20 * r) ≤ (qbs_newest st).toInt64
    · rw [if_neg (fun h => absurd (lgc_gt.mp h) (Int64.not_lt.mpr c1)), fm_snd (by omega) h0 hP hpg hn, bind_s]
      cases c2 : snd P (rtw (qbs_words st)) r with
      | false =>
        rw [if_pos (show b2i false = 0 from rfl), fm_fr_0, nI_1, ih k (r + 1) f (by omega) (by omega)]
        simp
      | true =>
        obtain ⟨L, hL, he, hs⟩ := snd_spec hP c2
        have hw : qbs_words st (1024 + 20 * r + 1) = lN L := by rw [← he]; unfold rtw; rw [show 1024 + (20 * r + 1) = 1024 + 20 * r + 1 by omega]
        rw [if_neg (by decide), show (0 : Int32) = nI 0 from rfl, fm_fr_in (n' + 1) _ st (by omega) hp hL hw (nI r) L (n' + 1) 0 f (by omega) (by omega), nI_1, ih k (r + 1) _ (by omega) (by omega), he, cN_lN (by omega)]
        cases f <;> simp [c1]
    · rw [if_pos (lgc_gt.mpr (Int64.not_le.mp c1)), fm_fr_0, nI_1, ih k (r + 1) f (by omega) (by omega)]
      simp [c1]
theorem fm_fr {n : Nat} {st : MSt} {p P : Nat} (hp : p < 64) (h0 : 0 < P) (hP : P ≤ 64) (hpg : qbs_pages st = nI P) (hn : 20 < n) : fm_isFree n st (nI p) = some (b2i (!hld P (rtw (qbs_words st)) (qbs_newest st).toInt64 p)) := by
  rw [fm_isFree]
  have := fm_fr_go n st hp h0 hP hpg hn 8 n 0 true (by omega) (by omega)
  rw [show fm_isFree_4 n n st (nI p) 1 0 = _ from this]
  rfl
