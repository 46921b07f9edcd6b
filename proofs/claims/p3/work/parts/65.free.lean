/-! Long.bitCount, by bytes -/
def N8 (b : Nat → Nat) : Nat := b 0 + 256 * (b 1 + 256 * (b 2 + 256 * (b 3 + 256 * (b 4 + 256 * (b 5 + 256 * (b 6 + 256 * b 7))))))
theorem n8_lt {b : Nat → Nat} (h : ∀ i, i < 8 → b i < 256) : N8 b < 2 ^ 64 := by
  unfold N8
  have h0 := h 0 (by omega); have h1 := h 1 (by omega); have h2 := h 2 (by omega); have h3 := h 3 (by omega)
  have h4 := h 4 (by omega); have h5 := h 5 (by omega); have h6 := h 6 (by omega); have h7 := h 7 (by omega)
  omega
theorem and_split {b m x y : Nat} (hb : b < 256) (hm : m < 256) : (b + 256 * x) &&& (m + 256 * y) = (b &&& m) + 256 * (x &&& y) := by
  have hbm : b &&& m < 256 := Nat.lt_of_le_of_lt Nat.and_le_left hb
  apply Nat.eq_of_testBit_eq
  intro i
  rw [Nat.testBit_and, Nat.add_comm b, Nat.add_comm m, Nat.add_comm (b &&& m), show (256 : Nat) = 2 ^ 8 from rfl, Nat.testBit_two_pow_mul_add _ hb, Nat.testBit_two_pow_mul_add _ hm, Nat.testBit_two_pow_mul_add _ hbm]
  split <;> rw [Nat.testBit_and]
theorem n8_and {b : Nat → Nat} {m : Nat} (h : ∀ i, i < 8 → b i < 256) (hm : m < 256) : N8 b &&& N8 (fun _ => m) = N8 (fun i => b i &&& m) := by
  unfold N8
  rw [and_split (h 0 (by omega)) hm, and_split (h 1 (by omega)) hm, and_split (h 2 (by omega)) hm, and_split (h 3 (by omega)) hm, and_split (h 4 (by omega)) hm, and_split (h 5 (by omega)) hm, and_split (h 6 (by omega)) hm]
theorem n8_congr {b c : Nat → Nat} (h : ∀ i, i < 8 → b i = c i) : N8 b = N8 c := by
  unfold N8
  rw [h 0 (by omega), h 1 (by omega), h 2 (by omega), h 3 (by omega), h 4 (by omega), h 5 (by omega), h 6 (by omega), h 7 (by omega)]
def nx (b : Nat → Nat) (i : Nat) : Nat := if i < 7 then b (i + 1) else 0
theorem n8_shr {b : Nat → Nat} (k : Nat) (hk : k = 2 ∨ k = 4 ∨ k = 16) (h : ∀ i, i < 8 → b i < 256) : N8 b / k = N8 (fun i => b i / k + 256 / k * (nx b i % k)) := by
  unfold N8 nx
  have h0 := h 0 (by omega); have h1 := h 1 (by omega); have h2 := h 2 (by omega); have h3 := h 3 (by omega)
  have h4 := h 4 (by omega); have h5 := h 5 (by omega); have h6 := h 6 (by omega); have h7 := h 7 (by omega)
  simp only [show (0 : Nat) < 7 from by omega, show (1 : Nat) < 7 from by omega, show (2 : Nat) < 7 from by omega, show (3 : Nat) < 7 from by omega, show (4 : Nat) < 7 from by omega, show (5 : Nat) < 7 from by omega, show (6 : Nat) < 7 from by omega, show ¬ (7 : Nat) < 7 from by omega, if_true, if_false, Nat.zero_add, Nat.reduceAdd]
  rcases hk with rfl | rfl | rfl <;> omega
def c1 (x : Nat) : Nat := x - ((x / 2) &&& 0x55)
def c2 (x : Nat) : Nat := (x &&& 0x33) + ((x / 4) &&& 0x33)
def pop8 (x : Nat) : Nat := x % 2 + x / 2 % 2 + x / 4 % 2 + x / 8 % 2 + x / 16 % 2 + x / 32 % 2 + x / 64 % 2 + x / 128 % 2
theorem k_1 : ∀ b, b < 256 → ∀ c, c < 2 → (b / 2 + 128 * c) &&& 0x55 = (b / 2) &&& 0x55 := by decide +kernel
theorem k_2 : ∀ b, b < 256 → ∀ c, c < 4 → (b / 4 + 64 * c) &&& 0x33 = (b / 4) &&& 0x33 := by decide +kernel
theorem k_3 : ∀ b, b < 256 → ∀ c, c < 5 → (c2 (c1 b) + (c2 (c1 b) / 16 + 16 * c)) &&& 15 = pop8 b := by decide +kernel
theorem k_4 : ∀ b, b < 256 → c1 b < 256 ∧ c2 (c1 b) ≤ 68 ∧ c2 (c1 b) % 16 < 5 ∧ pop8 b ≤ 8 ∧ (b / 2) &&& 0x55 ≤ b := by decide +kernel
def sS (x : Int64) (k : Int32) : Int64 := (x.toUInt64 >>> (k.toInt64.toUInt64 &&& Int64.toUInt64 63)).toInt64
theorem sS_n {m k : Nat} (hm : m < 2 ^ 64) (hk : k < 64) : sS (lN m) (nI k) = lN (m / 2 ^ k) := wb_shr hm hk
def s1 (x : Int64) : Int64 := x - (sS x 1 &&& 6148914691236517205)
def s2 (x : Int64) : Int64 := (x &&& 3689348814741910323) + (sS x 2 &&& 3689348814741910323)
def s3 (x : Int64) : Int64 := (x + sS x 4) &&& 1085102592571150095
def s4 (x : Int64) : Int64 := x + sS x 8
def s5 (x : Int64) : Int64 := x + sS x 16
def s6 (x : Int64) : Int64 := x + sS x 32
theorem bc_eq (n : Nat) (x : Int64) : fj_bitCount n x = some ((s6 (s5 (s4 (s3 (s2 (s1 x)))))).toInt32 &&& 127) := rfl
theorem s1_n {b : Nat → Nat} (h : ∀ i, i < 8 → b i < 256) : s1 (lN (N8 b)) = lN (N8 (fun i => c1 (b i))) := by
  have e : N8 b / 2 &&& N8 (fun _ => 0x55) = N8 (fun i => (b i / 2) &&& 0x55) := by
    rw [n8_shr 2 (by simp) h, n8_and (fun i hi => ?_) (by omega)]
    · apply n8_congr
      intro i hi
      exact k_1 (b i) (h i hi) _ (Nat.mod_lt _ (by omega))
    · show b i / 2 + 128 * (nx b i % 2) < 256
      have := h i hi; omega
  have hl := n8_lt h
  have hle : ∀ i, i < 8 → (b i / 2) &&& 0x55 ≤ b i := fun i hi => (k_4 _ (h i hi)).2.2.2.2
  have hN : N8 (fun i => (b i / 2) &&& 0x55) ≤ N8 b ∧ N8 b - N8 (fun i => (b i / 2) &&& 0x55) = N8 (fun i => c1 (b i)) := by
    unfold N8 c1
    dsimp only
    have h0 := hle 0 (by omega); have h1 := hle 1 (by omega); have h2 := hle 2 (by omega); have h3 := hle 3 (by omega)
    have h4 := hle 4 (by omega); have h5 := hle 5 (by omega); have h6 := hle 6 (by omega); have h7 := hle 7 (by omega)
    omega
  rw [s1, show sS (lN (N8 b)) 1 = _ from sS_n (k := 1) hl (by omega), show (6148914691236517205 : Int64) = lN (N8 (fun _ => 0x55)) from by decide, wb_and (by omega) (by decide), show 2 ^ 1 = 2 from rfl, e, lN_sub hN.1, hN.2]
theorem s2_n {b : Nat → Nat} (h : ∀ i, i < 8 → b i < 256) : s2 (lN (N8 b)) = lN (N8 (fun i => c2 (b i))) := by
  have e : N8 b / 4 &&& N8 (fun _ => 0x33) = N8 (fun i => (b i / 4) &&& 0x33) := by
    rw [n8_shr 4 (by simp) h, n8_and (fun i hi => ?_) (by omega)]
    · apply n8_congr
      intro i hi
      exact k_2 (b i) (h i hi) _ (Nat.mod_lt _ (by omega))
    · show b i / 4 + 64 * (nx b i % 4) < 256
      have := h i hi; omega
  have hl := n8_lt h
  rw [s2, show sS (lN (N8 b)) 2 = _ from sS_n (k := 2) hl (by omega), show (3689348814741910323 : Int64) = lN (N8 (fun _ => 0x33)) from by decide, wb_and (by omega) (by decide), wb_and (by omega) (by decide), show 2 ^ 2 = 4 from rfl, e, n8_and h (by omega), lN_add]
  congr 1
  unfold N8 c2; dsimp only; omega
theorem s3_n {b : Nat → Nat} (h : ∀ i, i < 8 → b i < 256) : s3 (lN (N8 (fun i => c2 (c1 (b i))))) = lN (N8 (fun i => pop8 (b i))) := by
  have hk := fun i (hi : i < 8) => k_4 (b i) (h i hi)
  have h2 : ∀ i, i < 8 → c2 (c1 (b i)) < 256 := fun i hi => by have := (hk i hi).2.1; omega
  have hl := n8_lt h2
  have hnx : ∀ i, i < 8 → nx (fun i => c2 (c1 (b i))) i % 16 < 5 := by
    intro i hi
    unfold nx
    split
    · exact (hk _ (by omega)).2.2.1
    · omega
  have hs : N8 (fun i => c2 (c1 (b i))) + N8 (fun i => c2 (c1 (b i))) / 16 = N8 (fun i => c2 (c1 (b i)) + (c2 (c1 (b i)) / 16 + 16 * (nx (fun i => c2 (c1 (b i))) i % 16))) := by
    rw [n8_shr 16 (by simp) h2]
    unfold N8
    dsimp only
    omega
  have hlt : ∀ i, i < 8 → c2 (c1 (b i)) + (c2 (c1 (b i)) / 16 + 16 * (nx (fun i => c2 (c1 (b i))) i % 16)) < 256 := by
    intro i hi
    have := hnx i hi; have := (hk i hi).2.1; omega
  have hl2 := n8_lt hlt
  rw [s3, show sS (lN (N8 (fun i => c2 (c1 (b i))))) 4 = _ from sS_n (k := 4) hl (by omega), lN_add, show 2 ^ 4 = 16 from rfl, hs, show (1085102592571150095 : Int64) = lN (N8 (fun _ => 15)) from by decide, wb_and hl2 (by decide), n8_and hlt (by omega)]
  congr 1
  apply n8_congr
  intro i hi
  exact k_3 (b i) (h i hi) _ (hnx i hi)
theorem bc_n {n : Nat} {b : Nat → Nat} (h : ∀ i, i < 8 → b i < 256) : fj_bitCount n (lN (N8 b)) = some (nI (pop8 (b 0) + pop8 (b 1) + pop8 (b 2) + pop8 (b 3) + pop8 (b 4) + pop8 (b 5) + pop8 (b 6) + pop8 (b 7))) := by
  rw [bc_eq, s1_n h, s2_n (fun i hi => (k_4 _ (h i hi)).1), s3_n h]
  have h0 := (k_4 _ (h 0 (by omega))).2.2.2.1; have h1 := (k_4 _ (h 1 (by omega))).2.2.2.1; have h2 := (k_4 _ (h 2 (by omega))).2.2.2.1; have h3 := (k_4 _ (h 3 (by omega))).2.2.2.1
  have h4 := (k_4 _ (h 4 (by omega))).2.2.2.1; have h5 := (k_4 _ (h 5 (by omega))).2.2.2.1; have h6 := (k_4 _ (h 6 (by omega))).2.2.2.1; have h7 := (k_4 _ (h 7 (by omega))).2.2.2.1
  unfold N8
  dsimp only
  generalize pop8 (b 0) = p0 at *
  generalize pop8 (b 1) = p1 at *
  generalize pop8 (b 2) = p2 at *
  generalize pop8 (b 3) = p3 at *
  generalize pop8 (b 4) = p4 at *
  generalize pop8 (b 5) = p5 at *
  generalize pop8 (b 6) = p6 at *
  generalize pop8 (b 7) = p7 at *
  have e4 : ∀ b0 b1 b2 b3 b4 b5 b6 b7 : Nat, b0 ≤ 8 → b1 ≤ 8 → b2 ≤ 8 → b3 ≤ 8 → b4 ≤ 8 → b5 ≤ 8 → b6 ≤ 8 → b7 ≤ 8 → s4 (lN (b0 + 256 * (b1 + 256 * (b2 + 256 * (b3 + 256 * (b4 + 256 * (b5 + 256 * (b6 + 256 * b7)))))))) = lN ((b0 + b1) + 256 * ((b1 + b2) + 256 * ((b2 + b3) + 256 * ((b3 + b4) + 256 * ((b4 + b5) + 256 * ((b5 + b6) + 256 * ((b6 + b7) + 256 * b7))))))) := by
    intro b0 b1 b2 b3 b4 b5 b6 b7 g0 g1 g2 g3 g4 g5 g6 g7
    rw [s4, show ∀ m, sS (lN m) 8 = sS (lN m) (nI 8) from fun _ => rfl, sS_n (by omega) (by omega), lN_add]
    congr 1
    omega
  have e5 : ∀ b0 b1 b2 b3 b4 b5 b6 b7 : Nat, b0 ≤ 16 → b1 ≤ 16 → b2 ≤ 16 → b3 ≤ 16 → b4 ≤ 16 → b5 ≤ 16 → b6 ≤ 16 → b7 ≤ 16 → s5 (lN (b0 + 256 * (b1 + 256 * (b2 + 256 * (b3 + 256 * (b4 + 256 * (b5 + 256 * (b6 + 256 * b7)))))))) = lN ((b0 + b2) + 256 * ((b1 + b3) + 256 * ((b2 + b4) + 256 * ((b3 + b5) + 256 * ((b4 + b6) + 256 * ((b5 + b7) + 256 * (b6 + 256 * b7))))))) := by
    intro b0 b1 b2 b3 b4 b5 b6 b7 g0 g1 g2 g3 g4 g5 g6 g7
    rw [s5, show ∀ m, sS (lN m) 16 = sS (lN m) (nI 16) from fun _ => rfl, sS_n (by omega) (by omega), lN_add]
    congr 1
    omega
  have e6 : ∀ b0 b1 b2 b3 b4 b5 b6 b7 : Nat, b0 ≤ 32 → b1 ≤ 32 → b2 ≤ 32 → b3 ≤ 32 → b4 ≤ 32 → b5 ≤ 32 → b6 ≤ 32 → b7 ≤ 32 → s6 (lN (b0 + 256 * (b1 + 256 * (b2 + 256 * (b3 + 256 * (b4 + 256 * (b5 + 256 * (b6 + 256 * b7)))))))) = lN ((b0 + b4) + 256 * ((b1 + b5) + 256 * ((b2 + b6) + 256 * ((b3 + b7) + 256 * (b4 + 256 * (b5 + 256 * (b6 + 256 * b7))))))) := by
    intro b0 b1 b2 b3 b4 b5 b6 b7 g0 g1 g2 g3 g4 g5 g6 g7
    rw [s6, show ∀ m, sS (lN m) 32 = sS (lN m) (nI 32) from fun _ => rfl, sS_n (by omega) (by omega), lN_add]
    congr 1
    omega
  rw [e4 p0 p1 p2 p3 p4 p5 p6 p7 h0 h1 h2 h3 h4 h5 h6 h7, e5 _ _ _ _ _ _ _ _ (by omega) (by omega) (by omega) (by omega) (by omega) (by omega) (by omega) (by omega), e6 _ _ _ _ _ _ _ _ (by omega) (by omega) (by omega) (by omega) (by omega) (by omega) (by omega) (by omega), lN_i, pk_and _ 7 (by decide)]
  congr 2
  show _ % 2 ^ 32 % 2 ^ 7 = _
  omega
/-- how many of the first k -/
def cnt (f : Nat → Bool) : Nat → Nat
  | 0 => 0
  | k + 1 => cnt f k + (if f k = true then 1 else 0)
theorem cnt_congr {f g : Nat → Bool} (k : Nat) (h : ∀ i, i < k → f i = g i) : cnt f k = cnt g k := by
  induction k with
  | zero => rfl
  | succ k ih => rw [cnt, cnt, ih (fun i hi => h i (by omega)), h k (by omega)]
theorem cnt_le (f : Nat → Bool) (k : Nat) : cnt f k ≤ k := by
  induction k with
  | zero => exact Nat.le_refl _
  | succ k ih => rw [cnt]; split <;> omega
theorem cnt_not (f : Nat → Bool) (k : Nat) : cnt f k + cnt (fun i => !f i) k = k := by
  induction k with
  | zero => rfl
  | succ k ih =>
    rw [cnt, cnt]
    cases f k <;> simp <;> omega
theorem cnt_more {f : Nat → Bool} {a : Nat} (m : Nat) (h : ∀ i, a ≤ i → f i = false) : cnt f (a + m) = cnt f a := by
  induction m with
  | zero => rfl
  | succ m ih => rw [show a + (m + 1) = (a + m) + 1 from rfl, cnt, ih, h _ (by omega)]; rfl
theorem tb_n (m p : Nat) : (if m.testBit p = true then 1 else 0) = m / 2 ^ p % 2 := by
  rw [Nat.testBit_eq_decide_div_mod_eq]
  have := Nat.mod_lt (m / 2 ^ p) (show 0 < 2 by omega)
  simp only [decide_eq_true_eq]
  split <;> omega
theorem pop8_cnt {m : Nat} (x s : Nat) (hx : x = m / 2 ^ s % 256) (f : Nat → Bool) (hf : ∀ p, p < 64 → (if f p = true then 1 else 0) = m / 2 ^ p % 2) (hs : s + 8 ≤ 64) : cnt f (s + 8) = cnt f s + pop8 x := by
  have hd : ∀ j, m / 2 ^ (s + j) = m / 2 ^ s / 2 ^ j := fun j => by rw [Nat.pow_add, Nat.div_div_eq_div_mul]
  simp only [cnt]
  rw [hf s (by omega), hf (s + 1) (by omega), hf (s + 2) (by omega), hf (s + 3) (by omega), hf (s + 4) (by omega), hf (s + 5) (by omega), hf (s + 6) (by omega), hf (s + 7) (by omega), hd 1, hd 2, hd 3, hd 4, hd 5, hd 6, hd 7, hx, pop8]
  generalize m / 2 ^ s = y
  omega
theorem bc_bits {n : Nat} {H : Int64} {f : Nat → Bool} (h : ∀ p, p < 64 → bit H p = f p) : fj_bitCount n H = some (nI (cnt f 64)) := by
  obtain ⟨m, hm, rfl⟩ := wb_of H
  have hf : ∀ p, p < 64 → (if f p = true then 1 else 0) = m / 2 ^ p % 2 := by
    intro p hp
    rw [← h p hp, ← tb_n, bit, wb_tb, BitVec.getLsbD_ofNat]
    simp [hp]
  have hN : N8 (fun i => m / 2 ^ (8 * i) % 256) = m := by
    unfold N8
    show m / 2 ^ 0 % 256 + 256 * (m / 2 ^ 8 % 256 + 256 * (m / 2 ^ 16 % 256 + 256 * (m / 2 ^ 24 % 256 + 256 * (m / 2 ^ 32 % 256 + 256 * (m / 2 ^ 40 % 256 + 256 * (m / 2 ^ 48 % 256 + 256 * (m / 2 ^ 56 % 256))))))) = m
    omega
  have hb := bc_n (n := n) (b := fun i => m / 2 ^ (8 * i) % 256) (fun i _ => Nat.mod_lt _ (by omega))
  rw [hN] at hb
  rw [hb]
  congr 2
  have q0 := pop8_cnt (m := m) _ 0 rfl f hf (by omega)
  have q1 := pop8_cnt (m := m) _ 8 rfl f hf (by omega)
  have q2 := pop8_cnt (m := m) _ 16 rfl f hf (by omega)
  have q3 := pop8_cnt (m := m) _ 24 rfl f hf (by omega)
  have q4 := pop8_cnt (m := m) _ 32 rfl f hf (by omega)
  have q5 := pop8_cnt (m := m) _ 40 rfl f hf (by omega)
  have q6 := pop8_cnt (m := m) _ 48 rfl f hf (by omega)
  have q7 := pop8_cnt (m := m) _ 56 rfl f hf (by omega)
  show pop8 (m / 2 ^ 0 % 256) + pop8 (m / 2 ^ 8 % 256) + pop8 (m / 2 ^ 16 % 256) + pop8 (m / 2 ^ 24 % 256) + pop8 (m / 2 ^ 32 % 256) + pop8 (m / 2 ^ 40 % 256) + pop8 (m / 2 ^ 48 % 256) + pop8 (m / 2 ^ 56 % 256) = cnt f 64
  rw [show (64 : Nat) = 56 + 8 from rfl, q7, show (56 : Nat) = 48 + 8 from rfl, q6, show (48 : Nat) = 40 + 8 from rfl, q5, show (40 : Nat) = 32 + 8 from rfl, q4, show (32 : Nat) = 24 + 8 from rfl, q3, show (24 : Nat) = 16 + 8 from rfl, q2, show (16 : Nat) = 8 + 8 from rfl, q1, show cnt f 8 = _ from q0]
  show _ = 0 + _ + _ + _ + _ + _ + _ + _ + _
  rw [Nat.zero_add]
/-- a page that the book doesn't have is held by none -/
theorem hldR_out {P : Nat} {q : Nat → Int64} {a L p : Nat} (hP : P ≤ 64) (hp : P ≤ p) (hp2 : p < 64) (hs : ∀ i, i < L → ∃ p, p < P ∧ q (a + 2 + i) = lN p) (m : Nat) : ∀ j, j + m = L → hldR q a p m j = false := by
  induction m with
  | zero => intro j _; rfl
  | succ m ih =>
    intro j h
    obtain ⟨p', hp', he⟩ := hs j (by omega)
    rw [hldR, he, ih (j + 1) (by omega), decide_eq_false (fun e => by have := (lN_eq (by omega) (by omega)).mp e; omega)]; rfl
theorem hld_out {P : Nat} {q : Nat → Int64} {nw : Int64} {p : Nat} (hP : P ≤ 64) (hp : P ≤ p) (hp2 : p < 64) : hld P q nw p = false := by
  have : ∀ m r, hldG P q nw p m r = false := by
    intro m
    induction m with
    | zero => intro r; rfl
    | succ m ih =>
      intro r
      rw [hldG, ih (r + 1), Bool.or_false, hld1]
      cases c : snd P q r with
      | false => simp
      | true =>
        obtain ⟨L, hL, he, hs⟩ := snd_spec hP c
        rw [he, cN_lN (by omega), hldR_out hP hp hp2 hs L 0 (by omega)]; simp
  exact this 8 0
theorem fm_free_go (n : Nat) (st : MSt) {P : Nat} (h0 : 0 < P) (hP : P ≤ 64) (hp : qbs_pages st = nI P) (ht : qbs_thrown st = 0) (hn : 20 < n) (m : Nat) : ∀ (k j : Nat), j + m = P → m < k → fm_free_20 n k st (nI (cnt (fun p => !hld P (rtw (qbs_words st)) (qbs_newest st).toInt64 p) j)) (nI j) = some (nI (cnt (fun p => !hld P (rtw (qbs_words st)) (qbs_newest st).toInt64 p) P), st) := by
  induction m with
  | zero =>
    intro k j h1 h3
    obtain ⟨k, rfl⟩ : ∃ i, k = i + 1 := ⟨k - 1, by omega⟩
    obtain rfl : j = P := by omega
    rw [fm_free_20, hp, if_pos (nI_le (by omega) (by omega))]
  | succ m ih =>
    intro k j h1 h3
    obtain ⟨k, rfl⟩ : ∃ i, k = i + 1 := ⟨k - 1, by omega⟩
    have := ih k (j + 1) (by omega) (by omega)
    rw [cnt] at this
    rw [fm_free_20, hp, if_neg (nI_ge (by omega) (by omega)), if_pos ht, fm_fr (by omega) h0 hP hp hn, bind_s]
    cases c : hld P (rtw (qbs_words st)) (qbs_newest st).toInt64 j with
    | true =>
      rw [if_pos (show b2i (!true) = 0 from rfl), nI_1, ← this]
      rw [c]; rfl
    | false =>
      rw [if_neg (by decide), nI_1, nI_1, ← this]
      rw [c]; rfl
theorem pr_8 : ps_8 Rel := by
  intro d st ms h
  have hp8 := h.p8
  have hp64 := h.p64
  obtain ⟨v, hv, h1, h2⟩ := h.nw
  by_cases c : bs_closed st = 0
  · obtain ⟨H, hH, hb⟩ := fb_heldE (st := st) (n := 100) h.p64 (by omega)
    have e1 : ∀ p, hld (bs_P st) (rtw (qbs_words ms)) (qbs_newest ms).toInt64 p = hld (bs_P st) (bs_roots st) (bs_newest st).toInt64 p := fun p => by rw [h1, h2, hld_congr h.p64 h.sw]
    have hc := cnt_not (hld (bs_P st) (bs_roots st) (bs_newest st).toInt64) (bs_P st)
    have hm : cnt (fun p => decide (p < 64) && hld (bs_P st) (bs_roots st) (bs_newest st).toInt64 p) 64 = cnt (hld (bs_P st) (bs_roots st) (bs_newest st).toInt64) (bs_P st) := by
      have := cnt_more (f := fun p => decide (p < 64) && hld (bs_P st) (bs_roots st) (bs_newest st).toInt64 p) (a := bs_P st) (64 - bs_P st) (fun i hi => by
        by_cases c : i < 64
        · simp [hld_out h.p64 hi c]
        · simp [c])
      rw [show bs_P st + (64 - bs_P st) = 64 by omega] at this
      rw [this]
      exact cnt_congr _ (fun i hi => by simp [show i < 64 by omega])
    refine ⟨100, 100, 0, qbs_put_thrown 0 ms, nI (cnt (fun p => !hld (bs_P st) (bs_roots st) (bs_newest st).toInt64 p) (bs_P st)), 0, .inl (nI (cnt (fun p => !hld (bs_P st) (bs_roots st) (bs_newest st).toInt64 p) (bs_P st))), ?_, ?_, rfl, h.thr 0, Or.inl ⟨_, rfl, rfl, rfl⟩⟩
    · rw [fb_free, fb_requireOpen, if_pos c]
      show (fb_heldPages 100 st).bind _ = _
      rw [hH, bind_s, bc_bits (f := fun p => decide (p < 64) && hld (bs_P st) (bs_roots st) (bs_newest st).toInt64 p) (fun p hp => by rw [hb p hp]; simp [hp]), bind_s, hm, pk_sub (by omega)]
      congr 3
      omega
    · rw [fm_free, if_pos (by rw [← h.cl]; exact c)]
      have := fm_free_go 100 (qbs_put_thrown 0 ms) (show 0 < bs_P st by omega) h.p64 h.pg rfl (by omega) (bs_P st) 100 0 (by omega) (by omega)
      rw [show fm_free_20 100 100 (qbs_put_thrown 0 ms) 0 0 = _ from this]
      congr 3
      exact cnt_congr _ (fun i hi => by rw [show hld (bs_P st) (rtw (qbs_words (qbs_put_thrown 0 ms))) (qbs_newest (qbs_put_thrown 0 ms)).toInt64 i = _ from e1 i])
  · refine ⟨100, 100, 0, qbs_put_thrown 1 ms, 0, 1, .inr 0, ?_, ?_, rfl, h.thr 1, Or.inr ⟨rfl, rfl⟩⟩
    · rw [fb_free, fb_requireOpen, if_neg c]; rfl
    · rw [fm_free, if_neg (by rw [← h.cl]; exact c), fm_free_20]
      show (if qbs_pages ms ≤ 0 then _ else if (1 : Int32) = 0 then _ else _) = _
      rw [h.pg, if_neg (nI_nle (by omega) (by omega)), if_neg (by decide)]
