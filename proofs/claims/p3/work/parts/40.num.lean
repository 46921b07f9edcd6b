/-! numbers: ints and longs by their natural numbers; reads and writes by them -/
theorem lt32 (n : Nat) : (OfNat.ofNat n : Int32) = nI n := rfl
theorem lt64 (n : Nat) : (OfNat.ofNat n : Int64) = lN n := rfl
theorem lgc_lt {x y : Int64} : (lg_cmp x y < 0) ↔ x < y := by
  unfold lg_cmp
  split
  · rename_i h; constructor
    · intro h1; exact absurd h1 (by decide)
    · intro h1; exact absurd (Int64.lt_trans h h1) (Int64.lt_irrefl)
  · split
    · rename_i h; subst h; constructor
      · intro h1; exact absurd h1 (by decide)
      · intro h1; exact absurd h1 (Int64.lt_irrefl)
    · rename_i h1 h2; constructor
      · intro _; rcases Int64.lt_or_le x y with h | h
        · exact h
        · exact absurd (Int64.lt_of_le_of_ne h (fun e => h2 e.symm)) h1
      · intro _; decide
theorem lgc_gt {x y : Int64} : (0 < lg_cmp x y) ↔ y < x := by
  unfold lg_cmp
  split
  · rename_i h; exact ⟨fun _ => h, fun _ => by decide⟩
  · split
    · rename_i h1 h2; exact ⟨fun h => absurd h (by decide), fun h => absurd h h1⟩
    · rename_i h1 h2; exact ⟨fun h => absurd h (by decide), fun h => absurd h h1⟩
theorem lgc_eq {x y : Int64} : (lg_cmp x y = 0) ↔ x = y := by
  unfold lg_cmp
  split
  · rename_i h; exact ⟨fun h1 => absurd h1 (by decide), fun h1 => by subst h1; exact absurd h (Int64.lt_irrefl)⟩
  · split
    · rename_i h1 h2; exact ⟨fun _ => h2, fun _ => rfl⟩
    · rename_i h1 h2; exact ⟨fun h => absurd h (by decide), fun h => absurd h h2⟩
theorem lgc_le {x y : Int64} : (lg_cmp x y ≤ 0) ↔ x ≤ y := by
  rw [← Int32.not_lt, lgc_gt, Int64.not_lt]
theorem lgc_ge {x y : Int64} : (0 ≤ lg_cmp x y) ↔ y ≤ x := by
  rw [← Int32.not_lt, lgc_lt, Int64.not_lt]
theorem rdL_n {f : Nat → Int64} {n k : Nat} (h : k < n) (hn : n < 2 ^ 31) : rdL f n (nI k) = some (f k) := by
  unfold rdL
  rw [if_neg (nI_in h hn), nI_clamp (by omega)]
theorem rdI_n {f : Nat → Int32} {n k : Nat} (h : k < n) (hn : n < 2 ^ 31) : rdI f n (nI k) = some (f k) := by
  unfold rdI
  rw [if_neg (nI_in h hn), nI_clamp (by omega)]
theorem wrL_n {f : Nat → Int64} {n k : Nat} {x : Int64} (h : k < n) (hn : n < 2 ^ 31) : wrL f n (nI k) x = some (vp_updL f k x) := by
  unfold wrL
  rw [if_neg (nI_in h hn), nI_clamp (by omega)]
theorem wrI_n {f : Nat → Int32} {n k : Nat} {x : Int32} (h : k < n) (hn : n < 2 ^ 31) : wrI f n (nI k) x = some (upd f k x) := by
  unfold wrI
  rw [if_neg (nI_in h hn), nI_clamp (by omega)]
theorem bind_s {α β : Type} (a : α) (K : α → Option β) : (some a).bind K = K a := rfl
/-- the SUM: one word more -/
def sstep (s w : Int64) : Int64 := (((s ^^^ w) <<< ((5 : Int32).toInt64 &&& 63)) ||| ((s ^^^ w).toUInt64 >>> ((59 : Int32).toInt64.toUInt64 &&& Int64.toUInt64 63)).toInt64) * (-7046029254386353131)
theorem sstep_eq (s w : Int64) : (((s ^^^ w) <<< ((5 : Int32).toInt64 &&& 63)) ||| ((s ^^^ w).toUInt64 >>> ((59 : Int32).toInt64.toUInt64 &&& Int64.toUInt64 63)).toInt64) * (-7046029254386353131) = sstep s w := rfl
/-- a fold over the words from a on, b of them -/
def sgo (F : Int64 → Int64 → Int64) (f : Nat → Int64) (a b : Nat) (s : Int64) : Int64 := Nat.rec (motive := fun _ => Nat → Int64 → Int64) (fun _ s => s) (fun _ ih a s => ih (a + 1) (F s (f a))) b a s
theorem sgo_0 (F : Int64 → Int64 → Int64) (f : Nat → Int64) (a : Nat) (s : Int64) : sgo F f a 0 s = s := rfl
theorem sgo_1 (F : Int64 → Int64 → Int64) (f : Nat → Int64) (a b : Nat) (s : Int64) : sgo F f a (b + 1) s = sgo F f (a + 1) b (F s (f a)) := rfl
def sumN (f : Nat → Int64) (a b : Nat) : Int64 := sgo sstep f a b 0 ^^^ 1
theorem sgo_congr {F : Int64 → Int64 → Int64} {f g : Nat → Int64} (b : Nat) : ∀ (a c : Nat) (s : Int64), (∀ i, i < b → f (a + i) = g (c + i)) → sgo F f a b s = sgo F g c b s := by
  induction b with
  | zero => intro a c s _; rfl
  | succ b ih =>
    intro a c s h
    have h0 : f a = g c := h 0 (by omega)
    rw [sgo_1, sgo_1, h0]
    exact ih (a + 1) (c + 1) _ (fun i hi => by have := h (i + 1) (by omega); rw [show a + 1 + i = a + (i + 1) by omega, show c + 1 + i = c + (i + 1) by omega]; exact this)
theorem sumN_congr {f g : Nat → Int64} {a c b : Nat} (h : ∀ i, i < b → f (a + i) = g (c + i)) : sumN f a b = sumN g c b := by
  unfold sumN; rw [sgo_congr b a c 0 h]
/-- the class's sum -/
theorem fb_sum_go (n : Nat) {f : Nat → Int64} {k0 : Nat} (hk0 : k0 < 2 ^ 30) (m : Nat) : ∀ (k a b i : Nat) (s : Int64), i + m = a + b → a ≤ i → a + b ≤ k0 → m < k → fb_sumOf_5 n f k0 k (nI a) (nI b) s (nI i) = some (sgo sstep f i m s ^^^ 1) := by
  induction m with
  | zero =>
    intro k a b i s h1 h2 h3 h4
    obtain ⟨k, rfl⟩ : ∃ j, k = j + 1 := ⟨k - 1, by omega⟩
    rw [fb_sumOf_5, nI_add, if_pos (by rw [nI_leI (by omega) (by omega)]; omega), sgo_0]
  | succ m ih =>
    intro k a b i s h1 h2 h3 h4
    obtain ⟨k, rfl⟩ : ∃ j, k = j + 1 := ⟨k - 1, by omega⟩
    rw [fb_sumOf_5, nI_add, if_neg (by rw [nI_leI (by omega) (by omega)]; omega), rdL_n (by omega) (by omega), bind_s, nI_1, sstep_eq, sgo_1]
    exact ih k a b (i + 1) _ (by omega) (by omega) h3 (by omega)
theorem fb_sum {n : Nat} {f : Nat → Int64} {k0 a b : Nat} (hk0 : k0 < 2 ^ 30) (h : a + b ≤ k0) (hn : b < n) : fb_sumOf n f k0 (nI a) (nI b) = some (sumN f a b) := by
  rw [fb_sumOf]
  exact fb_sum_go n hk0 b n a b a 0 rfl (Nat.le_refl _) h hn
/-- the model's sum -/
theorem fm_sum_go (n : Nat) (st : MSt) (m : Nat) : ∀ (k a b i : Nat) (s : Int64), i + m = b → a + b ≤ 1184 → m < k → fm_sum_5 n k st (nI a) (nI b) s (nI i) = some (sgo sstep (qbs_words st) (a + i) m s ^^^ 1) := by
  induction m with
  | zero =>
    intro k a b i s h1 h3 h4
    obtain ⟨k, rfl⟩ : ∃ j, k = j + 1 := ⟨k - 1, by omega⟩
    rw [fm_sum_5, if_pos (by rw [nI_leI (by omega) (by omega)]; omega), sgo_0]
  | succ m ih =>
    intro k a b i s h1 h3 h4
    obtain ⟨k, rfl⟩ : ∃ j, k = j + 1 := ⟨k - 1, by omega⟩
    rw [fm_sum_5, if_neg (by rw [nI_leI (by omega) (by omega)]; omega), nI_add, rdL_n (by omega) (by omega), bind_s, nI_1, sstep_eq, sgo_1, Nat.add_assoc]
    exact ih k a b (i + 1) _ (by omega) h3 (by omega)
theorem fm_sumE {n : Nat} {st : MSt} {a b : Nat} (h : a + b ≤ 1184) (hn : b < n) : fm_sum n st (nI a) (nI b) = some (sumN (qbs_words st) a b) := by
  rw [fm_sum]
  exact fm_sum_go n st b n a b 0 0 (by omega) h hn
