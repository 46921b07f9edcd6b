/-! the entries of a RIGHT root, one after the other -/
def eat (pl c : Nat → Nat) : Nat → Nat → Nat → Nat
  | 0, _, _ => 0
  | m + 1, j, k => if k < c j then 16 * pl j + 1 + 2 * k else eat pl c m (j + 1) (k - c j)
theorem eat_ex {pl c : Nat → Nat} (m : Nat) : ∀ j k, k < csum c m j → ∃ i t, j ≤ i ∧ i < j + m ∧ t < c i ∧ eat pl c m j k = 16 * pl i + 1 + 2 * t := by
  induction m with
  | zero => intro j k h; rw [csum] at h; omega
  | succ m ih =>
    intro j k h
    rw [csum] at h
    rw [eat]
    by_cases q : k < c j
    · rw [if_pos q]; exact ⟨j, k, Nat.le_refl _, by omega, q, rfl⟩
    · rw [if_neg q]
      obtain ⟨i, t, h1, h2, h3, h4⟩ := ih (j + 1) (k - c j) (by omega)
      exact ⟨i, t, by omega, by omega, h3, h4⟩
theorem eat_of {pl c : Nat → Nat} (m : Nat) : ∀ j i t, j ≤ i → i < j + m → t < c i → ∃ k, k < csum c m j ∧ eat pl c m j k = 16 * pl i + 1 + 2 * t := by
  induction m with
  | zero => intro j i t h1 h2; omega
  | succ m ih =>
    intro j i t h1 h2 h3
    by_cases q : i = j
    · subst q
      exact ⟨t, by rw [csum]; omega, by rw [eat, if_pos h3]⟩
    · obtain ⟨k, hk, he⟩ := ih (j + 1) i t (by omega) (by omega) h3
      exact ⟨c j + k, by rw [csum]; omega, by rw [eat, if_neg (by omega), Nat.add_sub_cancel_left]; exact he⟩
theorem fm_ent5 (n : Nat) (ms : MSt) {P : Nat} {g q : Nat → Int64} {v L : Nat} {pl c : Nat → Nat} (hv : v < 2 ^ 31) (hP : P ≤ 64) (hw : SameW P g q (qbs_words ms)) (h : RR P g q (v % 8) L pl c) (m : Nat) : ∀ (f j k : Nat), j + m = L → k < csum c m j → csum c m j ≤ 112 → m ≤ f → fm_entry_5 n f ms (nI v) (nI j) (nI k) = some (nI (eat pl c m j k)) := by
  have h16 := h.l16
  induction m with
  | zero => intro f j k h1 h2; rw [csum] at h2; omega
  | succ m ih =>
    intro f j k h1 h2 h3 h4
    obtain ⟨f, rfl⟩ : ∃ i, f = i + 1 := ⟨f - 1, by omega⟩
    have hp := h.pp j (by omega)
    have hc7 := h.c7 j (by omega)
    rw [csum] at h2 h3
    rw [fm_entry_5, fm_leafOfE hv (by omega) hw, bind_s, h.pq j (by omega), lN_i, lt32 16, lt32 2, pk_mul, rdL_n (by omega) (by omega), bind_s, sw_p hw (by omega), h.cg j (by omega), nI_l (by omega), eat]
    by_cases q : k < c j
    · rw [if_pos (lgc_lt.mpr ((lN_lt (by omega) (by omega)).mpr q)), if_pos q, bind_s, pk_mul, pk_mul, nI_1, nI_add]
    · rw [if_neg (fun e => q ((lN_lt (by omega) (by omega)).mp (lgc_lt.mp e))), if_neg q, bind_s, pk_mul, rdL_n (by omega) (by omega), bind_s, sw_p hw (by omega), h.cg j (by omega), lN_i, nI_1, pk_sub (by omega)]
      exact ih f (j + 1) (k - c j) (by omega) (by omega) (by omega) (by omega)
theorem fm_ent {n : Nat} {ms : MSt} {P : Nat} {g q : Nat → Int64} {v L k : Nat} {pl c : Nat → Nat} (hv : v < 2 ^ 31) (hP : P ≤ 64) (hn : 20 < n) (hw : SameW P g q (qbs_words ms)) (h : RR P g q (v % 8) L pl c) (hk : k < csum c L 0) : fm_entry n ms (nI v) (nI k) = some (nI (eat pl c L 0 k)) := by
  have h16 := h.l16
  rw [fm_entry]
  exact fm_ent5 n ms hv hP hw h L n 0 k (by omega) hk h.bnd (by omega)
theorem RR.eat_lt {P : Nat} {g q : Nat → Int64} {r L k : Nat} {pl c : Nat → Nat} (h : RR P g q r L pl c) (hk : k < csum c L 0) : eat pl c L 0 k + 1 < 16 * P := by
  obtain ⟨i, t, h1, h2, h3, h4⟩ := eat_ex (pl := pl) L 0 k hk
  have := h.pp i (by omega)
  have := h.c7 i (by omega)
  omega
theorem fm_place_go (n : Nat) (ms : MSt) {P : Nat} {g q : Nat → Int64} {v L : Nat} {pl c : Nat → Nat} (hv : v < 2 ^ 31) (hP : P ≤ 64) (hn : 20 < n) (hw : SameW P g q (qbs_words ms)) (h : RR P g q (v % 8) L pl c) (y : Int32) (m : Nat) : ∀ (f j : Nat) (x : Int32), j + m = csum c L 0 → m < f → ∃ z, fm_place_5 n f ms (nI v) y x (nI j) = some z ∧ ((z = x ∧ ∀ k, j ≤ k → k < csum c L 0 → g (eat pl c L 0 k) ≠ y.toInt64) ∨ ∃ k, k < csum c L 0 ∧ g (eat pl c L 0 k) = y.toInt64 ∧ z = nI (eat pl c L 0 k)) := by
  have hb := h.bnd
  induction m with
  | zero =>
    intro f j x h1 h2
    obtain ⟨f, rfl⟩ : ∃ i, f = i + 1 := ⟨f - 1, by omega⟩
    refine ⟨x, ?_, Or.inl ⟨rfl, fun k h3 h4 => by omega⟩⟩
    rw [fm_place_5, fm_entriesE hv hw, bind_s, h.en, lN_i, if_pos (nI_le (by omega) (by omega))]
  | succ m ih =>
    intro f j x h1 h2
    obtain ⟨f, rfl⟩ : ∃ i, f = i + 1 := ⟨f - 1, by omega⟩
    have hlt := h.eat_lt (show j < csum c L 0 by omega)
    rw [fm_place_5, fm_entriesE hv hw, bind_s, h.en, lN_i, if_neg (nI_ge (by omega) (by omega)), fm_ent hv hP hn hw h (by omega), bind_s, rdL_n (by omega) (by omega), bind_s, sw_p hw (by omega), nI_1]
    by_cases q : g (eat pl c L 0 j) = y.toInt64
    · rw [if_pos (lgc_eq.mpr q)]
      obtain ⟨z, hz, hh⟩ := ih f (j + 1) (nI (eat pl c L 0 j)) (by omega) (by omega)
      refine ⟨z, hz, Or.inr ?_⟩
      rcases hh with ⟨e, -⟩ | ⟨k, h3, h4, h5⟩
      · exact ⟨j, by omega, q, e⟩
      · exact ⟨k, h3, h4, h5⟩
    · rw [if_neg (fun e => q (lgc_eq.mp e))]
      obtain ⟨z, hz, hh⟩ := ih f (j + 1) x (by omega) (by omega)
      refine ⟨z, hz, ?_⟩
      rcases hh with ⟨e, h3⟩ | h3
      · exact Or.inl ⟨e, fun k h4 h5 => by
          by_cases e2 : k = j
          · rw [e2]; exact q
          · exact h3 k (by omega) h5⟩
      · exact Or.inr h3
theorem fm_placeE {n : Nat} {ms : MSt} {P : Nat} {g q : Nat → Int64} {v L : Nat} {pl c : Nat → Nat} (hv : v < 2 ^ 31) (hP : P ≤ 64) (hn : 120 < n) (hw : SameW P g q (qbs_words ms)) (h : RR P g q (v % 8) L pl c) (y : Int32) : ∃ z, fm_place n ms (nI v) y = some z ∧ ((z = -1 ∧ ∀ i t, i < L → t < c i → g (16 * pl i + 1 + 2 * t) ≠ y.toInt64) ∨ ∃ i t, i < L ∧ t < c i ∧ g (16 * pl i + 1 + 2 * t) = y.toInt64 ∧ z = nI (16 * pl i + 1 + 2 * t)) := by
  have hb := h.bnd
  obtain ⟨z, hz, hh⟩ := fm_place_go n ms hv hP (by omega) hw h y (csum c L 0) n 0 (-1) (by omega) (by omega)
  refine ⟨z, hz, ?_⟩
  rcases hh with ⟨e, h3⟩ | ⟨k, h3, h4, h5⟩
  · refine Or.inl ⟨e, fun i t hi ht => ?_⟩
    obtain ⟨k, hk, he⟩ := eat_of (pl := pl) L 0 i t (by omega) (by omega) ht
    rw [← he]; exact h3 k (by omega) hk
  · obtain ⟨i, t, h6, h7, h8, h9⟩ := eat_ex (pl := pl) L 0 k h3
    rw [h9] at h4 h5
    exact Or.inr ⟨i, t, by omega, h8, h4, h5⟩
theorem hasK_iff {K : Nat → Int64} {y : Int64} {c : Nat} (hup : ∀ j k, j < k → k < c → K j < K k) : hasK K y c = true ↔ ∃ t, t < c ∧ K t = y := by
  unfold hasK
  rw [Bool.and_eq_true, decide_eq_true_eq, decide_eq_true_eq]
  constructor
  · intro h; exact ⟨_, h.1, h.2⟩
  · rintro ⟨t, ht, e⟩
    have h1 : pix K y c 0 ≤ t := by
      rcases Nat.lt_or_ge t (pix K y c 0) with h | h
      · have := pix_lo c 0 t (by omega) h
        rw [e] at this; exact absurd this Int64.lt_irrefl
      · exact h
    have h2 := pix_hi (K := K) (y := y) c 0 (by omega)
    rcases Nat.lt_or_eq_of_le h1 with h3 | h3
    · have := hup _ _ h3 ht
      rw [e] at this; exact absurd this h2
    · rw [h3]; exact ⟨ht, e⟩
/-- the key lies in the leaf for it, or nowhere -/
theorem RR.lo {P : Nat} {g q : Nat → Int64} {r L : Nat} {pl c : Nat → Nat} (h : RR P g q r L pl c) {i t : Nat} (hi : i < L) (ht : t < c i) : g (16 * pl i + 1) ≤ g (16 * pl i + 1 + 2 * t) := by
  by_cases e : t = 0
  · rw [e]; exact Int64.le_refl _
  · exact Int64.le_of_lt (h.up i hi 0 t (by omega) ht)
theorem RR.hi {P : Nat} {g q : Nat → Int64} {r L : Nat} {pl c : Nat → Nat} (h : RR P g q r L pl c) {i t : Nat} (hi : i < L) (ht : t < c i) : g (16 * pl i + 1 + 2 * t) ≤ g (16 * pl i + 2 * c i - 1) := by
  have h1 := h.c1 i hi
  rw [show 16 * pl i + 2 * c i - 1 = 16 * pl i + 1 + 2 * (c i - 1) by omega]
  by_cases e : t = c i - 1
  · rw [← e]; exact Int64.le_refl _
  · exact Int64.le_of_lt (h.up i hi t (c i - 1) (by omega) (by omega))
theorem RR.mono {P : Nat} {g q : Nat → Int64} {r L : Nat} {pl c : Nat → Nat} (h : RR P g q r L pl c) (m : Nat) : ∀ i, i + m + 1 < L → g (16 * pl i + 2 * c i - 1) < g (16 * pl (i + m + 1) + 1) := by
  induction m with
  | zero => intro i hi; exact h.ac i hi
  | succ m ih =>
    intro i hi
    have h1 := ih i (by omega)
    have h2 := h.c1 (i + m + 1) (by omega)
    have h3 := h.hi (i := i + m + 1) (t := 0) (by omega) (by omega)
    exact Int64.lt_trans (Int64.lt_of_lt_of_le h1 h3) (h.ac (i + m + 1) hi)
theorem RR.inleaf {P : Nat} {g q : Nat → Int64} {r L : Nat} {pl c : Nat → Nat} (h : RR P g q r L pl c) {y : Int64} {i t : Nat} (hi : i < L) (ht : t < c i) (e : g (16 * pl i + 1 + 2 * t) = y) : i = lfI g pl L y := by
  have hl := lfI_lt (g := g) (pl := pl) (y := y) (show 0 < L by omega)
  obtain ⟨s1, s2⟩ := lfr_spec (F := fun i => g (16 * pl i + 1)) (y := y) (L - 1) 1 0 (by omega)
  change lfI g pl L y = 0 ∨ (1 ≤ lfI g pl L y ∧ lfI g pl L y < 1 + (L - 1) ∧ g (16 * pl (lfI g pl L y) + 1) ≤ y) at s1
  change ∀ i, 1 ≤ i → i < 1 + (L - 1) → lfI g pl L y < i → y < g (16 * pl i + 1) at s2
  rcases Nat.lt_trichotomy i (lfI g pl L y) with h1 | h1 | h1
  · exfalso
    have h2 := h.mono (lfI g pl L y - i - 1) i (by omega)
    rw [show i + (lfI g pl L y - i - 1) + 1 = lfI g pl L y by omega] at h2
    have h3 := h.hi hi ht
    rw [e] at h3
    rcases s1 with s1 | ⟨-, -, s1⟩
    · omega
    · exact Int64.lt_irrefl (Int64.lt_of_le_of_lt h3 (Int64.lt_of_lt_of_le h2 s1))
  · exact h1
  · exfalso
    have h2 := s2 i (by omega) (by omega) h1
    have h3 := h.lo hi ht
    rw [e] at h3
    exact Int64.lt_irrefl (Int64.lt_of_lt_of_le h2 h3)
