/-! what a RIGHT root gives -/
def csum (c : Nat → Nat) : Nat → Nat → Nat
  | 0, _ => 0
  | m + 1, j => c j + csum c m (j + 1)
abbrev RR (P : Nat) (g q : Nat → Int64) (r L : Nat) (pl c : Nat → Nat) : Prop := (L ≤ 16) ∧ (q (20 * r + 1) = lN L) ∧ (∀ i, i < L → pl i < P) ∧ (∀ i, i < L → q (20 * r + 2 + i) = lN (pl i)) ∧ (∀ i, i < L → 1 ≤ c i) ∧ (∀ i, i < L → c i ≤ 7) ∧ (∀ i, i < L → g (16 * pl i) = lN (c i)) ∧ (∀ i, i < L → ∀ j k, j < k → k < c i → g (16 * pl i + 1 + 2 * j) < g (16 * pl i + 1 + 2 * k)) ∧ (∀ i, i + 1 < L → g (16 * pl i + 2 * c i - 1) < g (16 * pl (i + 1) + 1)) ∧ (q (20 * r + 18) = lN (csum c L 0))
theorem RR.l16 {P : Nat} {g q : Nat → Int64} {r L : Nat} {pl c : Nat → Nat} (h : RR P g q r L pl c) : L ≤ 16 := h.1
theorem RR.lv {P : Nat} {g q : Nat → Int64} {r L : Nat} {pl c : Nat → Nat} (h : RR P g q r L pl c) : q (20 * r + 1) = lN L := h.2.1
theorem RR.pp {P : Nat} {g q : Nat → Int64} {r L : Nat} {pl c : Nat → Nat} (h : RR P g q r L pl c) : ∀ i, i < L → pl i < P := h.2.2.1
theorem RR.pq {P : Nat} {g q : Nat → Int64} {r L : Nat} {pl c : Nat → Nat} (h : RR P g q r L pl c) : ∀ i, i < L → q (20 * r + 2 + i) = lN (pl i) := h.2.2.2.1
theorem RR.c1 {P : Nat} {g q : Nat → Int64} {r L : Nat} {pl c : Nat → Nat} (h : RR P g q r L pl c) : ∀ i, i < L → 1 ≤ c i := h.2.2.2.2.1
theorem RR.c7 {P : Nat} {g q : Nat → Int64} {r L : Nat} {pl c : Nat → Nat} (h : RR P g q r L pl c) : ∀ i, i < L → c i ≤ 7 := h.2.2.2.2.2.1
theorem RR.cg {P : Nat} {g q : Nat → Int64} {r L : Nat} {pl c : Nat → Nat} (h : RR P g q r L pl c) : ∀ i, i < L → g (16 * pl i) = lN (c i) := h.2.2.2.2.2.2.1
theorem RR.up {P : Nat} {g q : Nat → Int64} {r L : Nat} {pl c : Nat → Nat} (h : RR P g q r L pl c) : ∀ i, i < L → ∀ j k, j < k → k < c i → g (16 * pl i + 1 + 2 * j) < g (16 * pl i + 1 + 2 * k) := h.2.2.2.2.2.2.2.1
theorem RR.ac {P : Nat} {g q : Nat → Int64} {r L : Nat} {pl c : Nat → Nat} (h : RR P g q r L pl c) : ∀ i, i + 1 < L → g (16 * pl i + 2 * c i - 1) < g (16 * pl (i + 1) + 1) := h.2.2.2.2.2.2.2.2.1
theorem RR.en {P : Nat} {g q : Nat → Int64} {r L : Nat} {pl c : Nat → Nat} (h : RR P g q r L pl c) : q (20 * r + 18) = lN (csum c L 0) := h.2.2.2.2.2.2.2.2.2
theorem asc_up {g : Nat → Int64} {a : Nat} (m : Nat) : ∀ (j : Nat) (prev : Int64), asc g a m j prev = true → (∀ k, j ≤ k → k < j + m → prev < g (a + 1 + 2 * k)) ∧ ∀ i k, j ≤ i → i < k → k < j + m → g (a + 1 + 2 * i) < g (a + 1 + 2 * k) := by
  induction m with
  | zero => intro j prev _; exact ⟨fun k h1 h2 => by omega, fun i k h1 h2 h3 => by omega⟩
  | succ m ih =>
    intro j prev h
    simp only [asc, Bool.and_eq_true, decide_eq_true_eq] at h
    obtain ⟨h1, h2, h3⟩ := h
    obtain ⟨i1, i2⟩ := ih (j + 1) _ h3
    refine ⟨fun k q1 q2 => ?_, fun i k q1 q2 q3 => ?_⟩
    · by_cases e : k = j
      · rw [e]; exact h1
      · exact Int64.lt_trans h1 (i1 k (by omega) (by omega))
    · by_cases e : i = j
      · rw [e]; exact i1 k (by omega) (by omega)
      · exact i2 i k (by omega) q2 (by omega)
theorem rlv_facts {P : Nat} {g q : Nat → Int64} {a L : Nat} (hP : P ≤ 64) (hs : ∀ i, i < L → ∃ p, p < P ∧ q (a + 2 + i) = lN p) (m : Nat) : ∀ (j e : Nat) (prev : Int64), j + m = L → rlv g q a m j prev e = true →
    (0 < m → prev < g (16 * cN (q (a + 2 + j)) + 1)) ∧ (∀ i, j ≤ i → i + 1 < L → g (16 * cN (q (a + 2 + i)) + 2 * cN (g (16 * cN (q (a + 2 + i)))) - 1) < g (16 * cN (q (a + 2 + (i + 1))) + 1)) ∧ q (a + 18) = lN (e + csum (fun i => cN (g (16 * cN (q (a + 2 + i))))) m j) := by
  induction m with
  | zero =>
    intro j e prev h1 h
    simp only [rlv, decide_eq_true_eq] at h
    exact ⟨fun h => by omega, fun i h2 h3 => by omega, h⟩
  | succ m ih =>
    intro j e prev h1 h
    simp only [rlv, Bool.and_eq_true, decide_eq_true_eq] at h
    obtain ⟨h2, h3, h4, h5⟩ := h
    obtain ⟨i1, i2, i3⟩ := ih (j + 1) _ _ (by omega) h5
    refine ⟨fun _ => h4, fun i q1 q2 => ?_, ?_⟩
    · by_cases e : i = j
      · rw [e]; exact i1 (by omega)
      · exact i2 i (by omega) q2
    · rw [i3, csum, Nat.add_assoc]
theorem rr_of {P : Nat} {g q : Nat → Int64} {r : Nat} (hP : P ≤ 64) (h : rrt P g q r = true) : ∃ L pl c, RR P g q r L pl c := by
  simp only [rrt, Bool.and_eq_true] at h
  obtain ⟨-, h2, h3⟩ := h
  obtain ⟨L, hL, he, hs⟩ := snd_spec hP h2
  rw [he, cN_lN (by omega)] at h3
  obtain ⟨-, f2, f3⟩ := rlv_facts hP hs L 0 0 (-1) (by omega) h3
  have hpg := rlv_pages hs hP L 0 0 (-1) (by omega) h3
  have hpl : ∀ i, i < L → cN (q (20 * r + 2 + i)) < P ∧ q (20 * r + 2 + i) = lN (cN (q (20 * r + 2 + i))) := by
    intro i hi
    obtain ⟨p, hp, e⟩ := hs i hi
    rw [e, cN_lN (by omega)]; exact ⟨hp, rfl⟩
  have hc : ∀ i, i < L → 1 ≤ cN (g (16 * cN (q (20 * r + 2 + i)))) ∧ cN (g (16 * cN (q (20 * r + 2 + i)))) ≤ 7 ∧ g (16 * cN (q (20 * r + 2 + i))) = lN (cN (g (16 * cN (q (20 * r + 2 + i))))) ∧ rpg g (cN (q (20 * r + 2 + i))) = true := by
    intro i hi
    obtain ⟨p, c, hp, e, h1, h7, hg, hr⟩ := hpg i (by omega) hi
    rw [e, cN_lN (by omega), hg, cN_lN (by omega)]
    exact ⟨h1, h7, rfl, hr⟩
  refine ⟨L, fun i => cN (q (20 * r + 2 + i)), fun i => cN (g (16 * cN (q (20 * r + 2 + i)))), hL, he, fun i hi => (hpl i hi).1, fun i hi => (hpl i hi).2, fun i hi => (hc i hi).1, fun i hi => (hc i hi).2.1, fun i hi => (hc i hi).2.2.1, ?_, fun i hi => f2 i (by omega) hi, ?_⟩
  · intro i hi j k hjk hk
    have hr := (hc i hi).2.2.2
    simp only [rpg, Bool.and_eq_true] at hr
    exact (asc_up _ 0 (-1) hr.2.2.1).2 j k (by omega) hjk (by rw [Nat.zero_add]; exact hk)
  · rw [f3, Nat.zero_add]
theorem RR.bnd {P : Nat} {g q : Nat → Int64} {r L : Nat} {pl c : Nat → Nat} (h : RR P g q r L pl c) : csum c L 0 ≤ 112 := by
  have : ∀ m j, j + m = L → csum c m j ≤ 7 * m := by
    intro m
    induction m with
    | zero => intro j _; exact Nat.le_refl _
    | succ m ih =>
      intro j hj
      rw [csum]
      have := ih (j + 1) (by omega)
      have := h.c7 j (by omega)
      omega
  have h1 := this L 0 (by omega)
  have := h.l16
  omega
/-- the leaf for a key -/
def lfr (F : Nat → Int64) (y : Int64) : Nat → Nat → Nat → Nat
  | 0, _, acc => acc
  | m + 1, j, acc => lfr F y m (j + 1) (if F j ≤ y then j else acc)
theorem lfr_spec {F : Nat → Int64} {y : Int64} (m : Nat) : ∀ j acc, acc < j → (lfr F y m j acc = acc ∨ (j ≤ lfr F y m j acc ∧ lfr F y m j acc < j + m ∧ F (lfr F y m j acc) ≤ y)) ∧ ∀ i, j ≤ i → i < j + m → lfr F y m j acc < i → y < F i := by
  induction m with
  | zero => intro j acc _; exact ⟨Or.inl rfl, fun i h1 h2 => by omega⟩
  | succ m ih =>
    intro j acc ha
    rw [lfr]
    by_cases c : F j ≤ y
    · rw [if_pos c]
      obtain ⟨h1, h2⟩ := ih (j + 1) j (by omega)
      refine ⟨Or.inr ?_, fun i q1 q2 q3 => ?_⟩
      · rcases h1 with h1 | ⟨h3, h4, h5⟩
        · rw [h1]; exact ⟨Nat.le_refl _, by omega, c⟩
        · exact ⟨by omega, by omega, h5⟩
      · by_cases e : i = j
        · exfalso
          rcases h1 with h1 | ⟨h3, h4, h5⟩ <;> omega
        · exact h2 i (by omega) (by omega) q3
    · rw [if_neg c]
      obtain ⟨h1, h2⟩ := ih (j + 1) acc (by omega)
      refine ⟨?_, fun i q1 q2 q3 => ?_⟩
      · rcases h1 with h1 | ⟨h3, h4, h5⟩
        · exact Or.inl h1
        · exact Or.inr ⟨by omega, by omega, h5⟩
      · by_cases e : i = j
        · rw [e]; exact Int64.not_le.mp c
        · exact h2 i (by omega) (by omega) q3
/-- of a root with leaves: the leaf, and what is known of it -/
def lfI (g : Nat → Int64) (pl : Nat → Nat) (L : Nat) (y : Int64) : Nat := lfr (fun i => g (16 * pl i + 1)) y (L - 1) 1 0
theorem lfI_lt {g : Nat → Int64} {pl : Nat → Nat} {L : Nat} {y : Int64} (h : 0 < L) : lfI g pl L y < L := by
  have := (lfr_spec (F := fun i => g (16 * pl i + 1)) (y := y) (L - 1) 1 0 (by omega)).1
  unfold lfI
  rcases this with e | ⟨h1, h2, -⟩
  · rw [e]; exact h
  · omega
theorem fb_lf_go (n : Nat) (st : BSt) {r L : Nat} {pl c : Nat → Nat} (hr : r < 8) (hP : bs_P st ≤ 64) (h : RR (bs_P st) (bs_pages st) (bs_roots st) r L pl c) (y : Int32) (m : Nat) : ∀ (k j acc : Nat), j + m = L → m < k → fb_leafFor_18 n k st (nI r) y (nI L) (nI acc) (nI j) = some (nI (lfr (fun i => bs_pages st (16 * pl i + 1)) y.toInt64 m j acc)) := by
  have h16 := h.l16
  induction m with
  | zero =>
    intro k j acc h1 h2
    obtain ⟨k, rfl⟩ : ∃ i, k = i + 1 := ⟨k - 1, by omega⟩
    rw [fb_leafFor_18, if_pos (nI_le (by omega) (by omega))]; rfl
  | succ m ih =>
    intro k j acc h1 h2
    obtain ⟨k, rfl⟩ : ∃ i, k = i + 1 := ⟨k - 1, by omega⟩
    rw [fb_leafFor_18, if_neg (nI_ge (by omega) (by omega)), fb_pageOfE hr (by omega), bind_s, h.pq j (by omega), lN_i, fb_firstE (h.pp j (by omega)) hP, bind_s, lfr, nI_1]
    by_cases cc : bs_pages st (16 * pl j + 1) ≤ y.toInt64
    · rw [if_neg (fun q => absurd (lgc_gt.mp q) (Int64.not_lt.mpr cc)), if_pos cc]; exact ih k (j + 1) j (by omega) (by omega)
    · rw [if_pos (lgc_gt.mpr (Int64.not_le.mp cc)), if_neg cc]; exact ih k (j + 1) acc (by omega) (by omega)
theorem fb_lf {n : Nat} {st : BSt} {r L : Nat} {pl c : Nat → Nat} (hr : r < 8) (hP : bs_P st ≤ 64) (hn : 20 < n) (h : RR (bs_P st) (bs_pages st) (bs_roots st) r L pl c) (y : Int32) : fb_leafFor n st (nI r) y = some (if L = 0 then -1 else nI (lfI (bs_pages st) pl L y.toInt64)) := by
  have h16 := h.l16
  rw [fb_leafFor, fb_leavesOfE hr, bind_s, h.lv, lN_i]
  by_cases c0 : L = 0
  · rw [if_pos (by rw [c0]; rfl), if_pos c0]
  · rw [if_neg (nI_ne0 (by omega) (by omega)), if_neg c0]
    exact fb_lf_go n st hr hP h y (L - 1) n 1 0 (by omega) (by omega)
/-! the model reads the same words -/
theorem sw_p {P : Nat} {g q w : Nat → Int64} (h : SameW P g q w) {x : Nat} (hx : x < 16 * P) : w x = g x := (h.1 x hx).symm
theorem sw_r {P : Nat} {g q w : Nat → Int64} (h : SameW P g q w) {x : Nat} (hx : x < 160) : w (1024 + x) = q x := (h.2 x hx).symm
theorem fm_leavesE {n : Nat} {ms : MSt} {P : Nat} {g q : Nat → Int64} {v : Nat} (hv : v < 2 ^ 31) (hw : SameW P g q (qbs_words ms)) : fm_leavesOf n ms (nI v) = some (q (20 * (v % 8) + 1)).toInt32 := by
  have hr : v % 8 < 8 := by omega
  rw [fm_leavesOf, fm_rem hv, lt32 20, lt32 1024, pk_mul, nI_add, nI_1, rdL_n (by omega) (by omega), bind_s, Nat.add_assoc, sw_r hw (by omega)]
theorem fm_entriesE {n : Nat} {ms : MSt} {P : Nat} {g q : Nat → Int64} {v : Nat} (hv : v < 2 ^ 31) (hw : SameW P g q (qbs_words ms)) : fm_entriesOf n ms (nI v) = some (q (20 * (v % 8) + 18)).toInt32 := by
  have hr : v % 8 < 8 := by omega
  rw [fm_entriesOf, fm_rem hv, lt32 20, lt32 18, lt32 1024, pk_mul, nI_add, nI_add, rdL_n (by omega) (by omega), bind_s, Nat.add_assoc, sw_r hw (by omega)]
theorem fm_leafOfE {n : Nat} {ms : MSt} {P : Nat} {g q : Nat → Int64} {v j : Nat} (hv : v < 2 ^ 31) (hj : j < 18) (hw : SameW P g q (qbs_words ms)) : fm_leafOf n ms (nI v) (nI j) = some (q (20 * (v % 8) + 2 + j)).toInt32 := by
  have hr : v % 8 < 8 := by omega
  rw [fm_leafOf, fm_rem hv, lt32 20, lt32 2, lt32 1024, pk_mul, nI_add, nI_add, nI_add, rdL_n (by omega) (by omega), bind_s, Nat.add_assoc, Nat.add_assoc, ← Nat.add_assoc (20 * (v % 8)), sw_r hw (by omega)]
theorem fm_lf_go (n : Nat) (ms : MSt) {P : Nat} {g q : Nat → Int64} {v L : Nat} {pl c : Nat → Nat} (hv : v < 2 ^ 31) (hP : P ≤ 64) (hw : SameW P g q (qbs_words ms)) (hnw : qbs_newest ms = nI v) (h : RR P g q (v % 8) L pl c) (y : Int32) (m : Nat) : ∀ (k j acc : Nat), j + m = L → m < k → fm_leafFor_19 n k ms y (nI acc) (nI j) = some (nI (lfr (fun i => g (16 * pl i + 1)) y.toInt64 m j acc)) := by
  have h16 := h.l16
  induction m with
  | zero =>
    intro k j acc h1 h2
    obtain ⟨k, rfl⟩ : ∃ i, k = i + 1 := ⟨k - 1, by omega⟩
    rw [fm_leafFor_19, hnw, fm_leavesE hv hw, bind_s, h.lv, lN_i, if_pos (nI_le (by omega) (by omega))]; rfl
  | succ m ih =>
    intro k j acc h1 h2
    obtain ⟨k, rfl⟩ : ∃ i, k = i + 1 := ⟨k - 1, by omega⟩
    have hp := h.pp j (by omega)
    rw [fm_leafFor_19, hnw, fm_leavesE hv hw, bind_s, h.lv, lN_i, if_neg (nI_ge (by omega) (by omega)), fm_leafOfE hv (by omega) hw, bind_s, h.pq j (by omega), lN_i, lt32 16, pk_mul, nI_1, rdL_n (by omega) (by omega), bind_s, sw_p hw (by omega), lfr, nI_1]
    by_cases cc : g (16 * pl j + 1) ≤ y.toInt64
    · rw [if_neg (fun q => absurd (lgc_gt.mp q) (Int64.not_lt.mpr cc)), if_pos cc]; exact ih k (j + 1) j (by omega) (by omega)
    · rw [if_pos (lgc_gt.mpr (Int64.not_le.mp cc)), if_neg cc]; exact ih k (j + 1) acc (by omega) (by omega)
theorem fm_lf {n : Nat} {ms : MSt} {P : Nat} {g q : Nat → Int64} {v L : Nat} {pl c : Nat → Nat} (hv : v < 2 ^ 31) (hP : P ≤ 64) (hn : 20 < n) (hw : SameW P g q (qbs_words ms)) (hnw : qbs_newest ms = nI v) (h : RR P g q (v % 8) L pl c) (y : Int32) : fm_leafFor n ms y = some (if L = 0 then -1 else nI (lfI g pl L y.toInt64)) := by
  have h16 := h.l16
  obtain ⟨n', rfl⟩ : ∃ i, n = i + 1 := ⟨n - 1, by omega⟩
  rw [fm_leafFor, hnw, fm_leavesE hv hw, bind_s, h.lv, lN_i]
  by_cases c0 : L = 0
  · rw [if_pos (by rw [c0]; rfl), if_pos c0, fm_leafFor_19, hnw, fm_leavesE hv hw, bind_s, h.lv, lN_i, if_pos (by rw [c0]; decide)]
  · rw [if_neg (nI_ne0 (by omega) (by omega)), if_neg c0]
    exact fm_lf_go (n' + 1) ms hv hP hw hnw h y (L - 1) (n' + 1) 1 0 (by omega) (by omega)
