/-! the words of a leaf, of a root -/
def leafB (c : Nat) (K V : Nat → Int64) (i : Nat) : Int64 := if i = 0 then lN c else if i % 2 = 1 then (if i / 2 < c then K (i / 2) else 0) else if i / 2 - 1 < c then V (i / 2 - 1) else 0
def leafV (c : Nat) (K V : Nat → Int64) (i : Nat) : Int64 := if i = 15 then sumN (leafB c K V) 0 15 else leafB c K V i
def rootB (ver L : Nat) (nl : Nat → Nat) (E : Int64) (i : Nat) : Int64 := if i = 0 then lN ver else if i = 1 then lN L else if i < 18 then (if i - 2 < L then lN (nl (i - 2)) else 0) else E
def rootV (ver L : Nat) (nl : Nat → Nat) (E : Int64) (i : Nat) : Int64 := if i = 19 then sumN (rootB ver L nl E) 0 19 else rootB ver L nl E i
theorem leafB_k {c : Nat} {K V : Nat → Int64} {k : Nat} : leafB c K V (1 + 2 * k) = if k < c then K k else 0 := by
  unfold leafB
  rw [if_neg (by omega), if_pos (by omega), show (1 + 2 * k) / 2 = k by omega]
theorem leafB_v {c : Nat} {K V : Nat → Int64} {k : Nat} : leafB c K V (2 + 2 * k) = if k < c then V k else 0 := by
  unfold leafB
  rw [if_neg (by omega), if_neg (by omega), show (2 + 2 * k) / 2 - 1 = k by omega]
theorem leafB_congr {c : Nat} {K V K' V' : Nat → Int64} (hK : ∀ i, i < c → K i = K' i) (hV : ∀ i, i < c → V i = V' i) : leafB c K V = leafB c K' V' := by
  funext i
  unfold leafB
  by_cases q0 : i = 0
  · rw [if_pos q0, if_pos q0]
  · rw [if_neg q0, if_neg q0]
    by_cases q1 : i % 2 = 1
    · rw [if_pos q1, if_pos q1]
      by_cases q2 : i / 2 < c
      · rw [if_pos q2, if_pos q2, hK _ q2]
      · rw [if_neg q2, if_neg q2]
    · rw [if_neg q1, if_neg q1]
      by_cases q2 : i / 2 - 1 < c
      · rw [if_pos q2, if_pos q2, hV _ q2]
      · rw [if_neg q2, if_neg q2]
theorem leafV_congr {c : Nat} {K V K' V' : Nat → Int64} (hK : ∀ i, i < c → K i = K' i) (hV : ∀ i, i < c → V i = V' i) : leafV c K V = leafV c K' V' := by
  funext i; unfold leafV; rw [leafB_congr hK hV]
/-! the model writes word by word, and keeps what was there -/
def wW (w : Nat → Int64) (a m : Nat) (val : Nat → Int64) : Nat → Int64 := fun x => if a ≤ x ∧ x < a + m then val (x - a) else w x
def wB2 (b w : Nat → Int64) (a t m : Nat) : Nat → Int64 := fun i => if t ≤ i ∧ i < t + m then w (a + (i - t)) else b i
def wP (p : Nat → Int32) (a t m : Nat) : Nat → Int32 := fun i => if t ≤ i ∧ i < t + m then nI (a + (i - t)) else p i
theorem wW_0 (w : Nat → Int64) (a : Nat) (val : Nat → Int64) : wW w a 0 val = w := by
  funext x; unfold wW; rw [if_neg (by omega)]
theorem wB2_0 (b w : Nat → Int64) (a t : Nat) : wB2 b w a t 0 = b := by
  funext x; unfold wB2; rw [if_neg (by omega)]
theorem wP_0 (p : Nat → Int32) (a t : Nat) : wP p a t 0 = p := by
  funext x; unfold wP; rw [if_neg (by omega)]
theorem wW_s (w : Nat → Int64) (a m : Nat) (val : Nat → Int64) : vp_updL (wW w a m val) (a + m) (val m) = wW w a (m + 1) val := by
  funext x; unfold vp_updL wW
  by_cases c : x = a + m
  · rw [if_pos c, if_pos (by omega), show x - a = m by omega]
  · by_cases c2 : a ≤ x ∧ x < a + m
    · rw [if_neg c, if_pos c2, if_pos (by omega)]
    · rw [if_neg c, if_neg c2, if_neg (by omega)]
theorem wB2_s (b w : Nat → Int64) (a t m : Nat) : vp_updL (wB2 b w a t m) (t + m) (w (a + m)) = wB2 b w a t (m + 1) := by
  funext x; unfold vp_updL wB2
  by_cases c : x = t + m
  · rw [if_pos c, if_pos (by omega), show x - t = m by omega]
  · by_cases c2 : t ≤ x ∧ x < t + m
    · rw [if_neg c, if_pos c2, if_pos (by omega)]
    · rw [if_neg c, if_neg c2, if_neg (by omega)]
theorem wP_s (p : Nat → Int32) (a t m : Nat) : upd (wP p a t m) (t + m) (nI (a + m)) = wP p a t (m + 1) := by
  funext x; unfold upd wP
  by_cases c : x = t + m
  · rw [if_pos c, if_pos (by omega), show x - t = m by omega]
  · by_cases c2 : t ≤ x ∧ x < t + m
    · rw [if_neg c, if_pos c2, if_pos (by omega)]
    · rw [if_neg c, if_neg c2, if_neg (by omega)]
/-- m words are written at a, from the t-th of the writing on -/
abbrev Wr (st : MSt) (a t m : Nat) (val : Nat → Int64) (st' : MSt) : Prop := (qbs_pages st' = qbs_pages st) ∧ (qbs_newest st' = qbs_newest st) ∧ (qbs_closed st' = qbs_closed st) ∧ (qbs_altered st' = qbs_altered st) ∧ (qbs_keys st' = qbs_keys st) ∧ (qbs_values st' = qbs_values st) ∧ (qbs_many st' = qbs_many st) ∧ (qbs_leaves st' = qbs_leaves st) ∧ (qbs_leafCount st' = qbs_leafCount st) ∧ (qbs_written st' = nI (t + m)) ∧ (qbs_words st' = wW (qbs_words st) a m val) ∧ (qbs_before st' = wB2 (qbs_before st) (qbs_words st) a t m) ∧ (qbs_places st' = wP (qbs_places st) a t m)
theorem Wr.pg {st : MSt} {a t m : Nat} {val : Nat → Int64} {st' : MSt} (h : Wr st a t m val st') : qbs_pages st' = qbs_pages st := h.1
theorem Wr.nw {st : MSt} {a t m : Nat} {val : Nat → Int64} {st' : MSt} (h : Wr st a t m val st') : qbs_newest st' = qbs_newest st := h.2.1
theorem Wr.cl {st : MSt} {a t m : Nat} {val : Nat → Int64} {st' : MSt} (h : Wr st a t m val st') : qbs_closed st' = qbs_closed st := h.2.2.1
theorem Wr.al {st : MSt} {a t m : Nat} {val : Nat → Int64} {st' : MSt} (h : Wr st a t m val st') : qbs_altered st' = qbs_altered st := h.2.2.2.1
theorem Wr.ks {st : MSt} {a t m : Nat} {val : Nat → Int64} {st' : MSt} (h : Wr st a t m val st') : qbs_keys st' = qbs_keys st := h.2.2.2.2.1
theorem Wr.vs {st : MSt} {a t m : Nat} {val : Nat → Int64} {st' : MSt} (h : Wr st a t m val st') : qbs_values st' = qbs_values st := h.2.2.2.2.2.1
theorem Wr.mn {st : MSt} {a t m : Nat} {val : Nat → Int64} {st' : MSt} (h : Wr st a t m val st') : qbs_many st' = qbs_many st := h.2.2.2.2.2.2.1
theorem Wr.lv {st : MSt} {a t m : Nat} {val : Nat → Int64} {st' : MSt} (h : Wr st a t m val st') : qbs_leaves st' = qbs_leaves st := h.2.2.2.2.2.2.2.1
theorem Wr.lc {st : MSt} {a t m : Nat} {val : Nat → Int64} {st' : MSt} (h : Wr st a t m val st') : qbs_leafCount st' = qbs_leafCount st := h.2.2.2.2.2.2.2.2.1
theorem Wr.wn {st : MSt} {a t m : Nat} {val : Nat → Int64} {st' : MSt} (h : Wr st a t m val st') : qbs_written st' = nI (t + m) := h.2.2.2.2.2.2.2.2.2.1
theorem Wr.wd {st : MSt} {a t m : Nat} {val : Nat → Int64} {st' : MSt} (h : Wr st a t m val st') : qbs_words st' = wW (qbs_words st) a m val := h.2.2.2.2.2.2.2.2.2.2.1
theorem Wr.bf {st : MSt} {a t m : Nat} {val : Nat → Int64} {st' : MSt} (h : Wr st a t m val st') : qbs_before st' = wB2 (qbs_before st) (qbs_words st) a t m := h.2.2.2.2.2.2.2.2.2.2.2.1
theorem Wr.pl {st : MSt} {a t m : Nat} {val : Nat → Int64} {st' : MSt} (h : Wr st a t m val st') : qbs_places st' = wP (qbs_places st) a t m := h.2.2.2.2.2.2.2.2.2.2.2.2
theorem Wr.nil {st : MSt} {a t : Nat} {val : Nat → Int64} (h : qbs_written st = nI t) : Wr st a t 0 val st := ⟨rfl, rfl, rfl, rfl, rfl, rfl, rfl, rfl, rfl, h, (wW_0 _ _ _).symm, (wB2_0 _ _ _ _).symm, (wP_0 _ _ _).symm⟩
def wrS (a1 : Nat → Int32) (a3 a4 : Nat → Int64) (w : Int32) (st : MSt) : MSt := qbs_put_written w (qbs_put_words a4 (qbs_put_before a3 (qbs_put_places a1 st)))
theorem wrS_wr (a1 : Nat → Int32) (a3 a4 : Nat → Int64) (w : Int32) (s : MSt) : qbs_pages (wrS a1 a3 a4 w s) = qbs_pages s ∧ qbs_newest (wrS a1 a3 a4 w s) = qbs_newest s ∧ qbs_closed (wrS a1 a3 a4 w s) = qbs_closed s ∧ qbs_altered (wrS a1 a3 a4 w s) = qbs_altered s ∧ qbs_keys (wrS a1 a3 a4 w s) = qbs_keys s ∧ qbs_values (wrS a1 a3 a4 w s) = qbs_values s ∧ qbs_many (wrS a1 a3 a4 w s) = qbs_many s ∧ qbs_leaves (wrS a1 a3 a4 w s) = qbs_leaves s ∧ qbs_leafCount (wrS a1 a3 a4 w s) = qbs_leafCount s ∧ qbs_written (wrS a1 a3 a4 w s) = w ∧ qbs_words (wrS a1 a3 a4 w s) = a4 ∧ qbs_before (wrS a1 a3 a4 w s) = a3 ∧ qbs_places (wrS a1 a3 a4 w s) = a1 := ⟨rfl, rfl, rfl, rfl, rfl, rfl, rfl, rfl, rfl, rfl, rfl, rfl, rfl⟩
theorem Wr.step {n : Nat} {st s : MSt} {a t m : Nat} {val : Nat → Int64} (h : Wr st a t m val s) (ht : t + m < 64) (ha : a + m < 1184) {x : Int64} (hx : x = val m) : ∃ s', fm_write n s (nI (a + m)) x = some s' ∧ Wr st a t (m + 1) val s' := by
  subst hx
  have hr : wW (qbs_words st) a m val (a + m) = qbs_words st (a + m) := by unfold wW; rw [if_neg (by omega)]
  refine ⟨wrS (upd (qbs_places s) (t + m) (nI (a + m))) (vp_updL (qbs_before s) (t + m) (qbs_words s (a + m))) (vp_updL (qbs_words s) (a + m) (val m)) (nI (t + m + 1)) s, ?_, ?_⟩
  · rw [fm_write, h.wn, wrI_n ht (by omega), bind_s, rdL_n ha (by omega), bind_s, wrL_n ht (by omega), bind_s, wrL_n ha (by omega), bind_s, nI_1]; rfl
  · obtain ⟨e1, e2, e3, e4, e5, e6, e7, e8, e9, e10, e11, e12, e13⟩ := wrS_wr (upd (qbs_places s) (t + m) (nI (a + m))) (vp_updL (qbs_before s) (t + m) (qbs_words s (a + m))) (vp_updL (qbs_words s) (a + m) (val m)) (nI (t + m + 1)) s
    exact ⟨e1.trans h.pg, e2.trans h.nw, e3.trans h.cl, e4.trans h.al, e5.trans h.ks, e6.trans h.vs, e7.trans h.mn, e8.trans h.lv, e9.trans h.lc, e10, by rw [e11, h.wd]; exact wW_s _ _ _ _, by rw [e12, h.bf, h.wd, hr]; exact wB2_s _ _ _ _ _, by rw [e13, h.pl]; exact wP_s _ _ _ _⟩
theorem Wr.sum {st s : MSt} {n a t m : Nat} {val : Nat → Int64} (h : Wr st a t m val s) (ha : a + m ≤ 1184) (hn : m < n) : fm_sum n s (nI a) (nI m) = some (sumN val 0 m) := by
  rw [fm_sumE ha hn, h.wd]
  refine congrArg some (sumN_congr (fun i hi => ?_))
  unfold wW
  rw [if_pos (by omega), show a + i - a = 0 + i by omega]
theorem fm_wl_go (n : Nat) (st : MSt) {p t fr c : Nat} (hp : p < 64) (ht : t + 16 ≤ 64) (hf : fr + c ≤ 8) (hc : c ≤ 7) (hn : 20 < n) (m : Nat) : ∀ (k j : Nat) (s : MSt), j + m = 7 → m < k → Wr st (16 * p) t (1 + 2 * j) (leafV c (fun i => qbs_keys st (fr + i)) (fun i => qbs_values st (fr + i))) s → ∃ s', fm_writeLeaf_17 n k s (nI fr) (nI c) (nI (16 * p)) (nI j) = some s' ∧ Wr st (16 * p) t 16 (leafV c (fun i => qbs_keys st (fr + i)) (fun i => qbs_values st (fr + i))) s' := by
  induction m with
  | zero =>
    intro k j s h1 h2 h
    obtain ⟨k, rfl⟩ : ∃ i, k = i + 1 := ⟨k - 1, by omega⟩
    obtain rfl : j = 7 := by omega
    have e : sumN (leafV c (fun i => qbs_keys st (fr + i)) (fun i => qbs_values st (fr + i))) 0 15 = sumN (leafB c (fun i => qbs_keys st (fr + i)) (fun i => qbs_values st (fr + i))) 0 15 := sumN_congr (fun i hi => by unfold leafV; rw [if_neg (by omega)])
    obtain ⟨s', hs, hW⟩ := h.step (n := n) (x := sumN (leafB c (fun i => qbs_keys st (fr + i)) (fun i => qbs_values st (fr + i))) 0 15) (by omega) (by omega) (by unfold leafV; rw [if_pos (by omega)])
    refine ⟨s', ?_, hW⟩
    rw [fm_writeLeaf_17, if_pos (by decide), lt32 15, h.sum (m := 15) (by omega) (by omega), bind_s, nI_add, e, hs, bind_s]
  | succ m ih =>
    intro k j s h1 h2 h
    obtain ⟨k, rfl⟩ : ∃ i, k = i + 1 := ⟨k - 1, by omega⟩
    have ev1 : leafV c (fun i => qbs_keys st (fr + i)) (fun i => qbs_values st (fr + i)) (1 + 2 * j) = if j < c then qbs_keys st (fr + j) else 0 := by
      unfold leafV; rw [if_neg (by omega), leafB_k]
    have ev2 : leafV c (fun i => qbs_keys st (fr + i)) (fun i => qbs_values st (fr + i)) (1 + 2 * j + 1) = if j < c then qbs_values st (fr + j) else 0 := by
      unfold leafV; rw [if_neg (by omega), show 1 + 2 * j + 1 = 2 + 2 * j by omega, leafB_v]
    obtain ⟨s1, hs1, hW1⟩ := h.step (n := n) (x := if j < c then qbs_keys st (fr + j) else 0) (by omega) (by omega) ev1.symm
    obtain ⟨s2, hs2, hW2⟩ := hW1.step (n := n) (x := if j < c then qbs_values st (fr + j) else 0) (by omega) (by omega) ev2.symm
    obtain ⟨s', hs', hW'⟩ := ih k (j + 1) s2 (by omega) (by omega) hW2
    refine ⟨s', ?_, hW'⟩
    rw [fm_writeLeaf_17, if_neg (by rw [lt32 7, nI_leI (by omega) (by omega)]; omega), lt32 2, lt32 1, pk_mul, nI_add, nI_add, nI_add, nI_add, nI_add, nI_add, show 16 * p + 1 + 2 * j = 16 * p + (1 + 2 * j) by omega, show 16 * p + 2 + 2 * j = 16 * p + (1 + 2 * j + 1) by omega]
    by_cases q : j < c
    · rw [if_pos q] at hs1 hs2
      rw [if_neg (nI_ge q (by omega)), h.ks, rdL_n (by omega) (by omega), bind_s, hs1, bind_s, if_neg (nI_ge q (by omega)), hW1.vs, rdL_n (by omega) (by omega), bind_s, hs2, bind_s]
      exact hs'
    · rw [if_neg q] at hs1 hs2
      rw [if_pos (nI_le (by omega) (by omega)), hs1, bind_s, if_pos (nI_le (by omega) (by omega)), hs2, bind_s]
      exact hs'
theorem fm_wl {n : Nat} {st : MSt} {p t fr c : Nat} (hp : p < 64) (ht : t + 16 ≤ 64) (hf : fr + c ≤ 8) (hc : c ≤ 7) (hn : 20 < n) (hw : qbs_written st = nI t) : ∃ s', fm_writeLeaf n st (nI p) (nI fr) (nI c) = some s' ∧ Wr st (16 * p) t 16 (leafV c (fun i => qbs_keys st (fr + i)) (fun i => qbs_values st (fr + i))) s' := by
  obtain ⟨s1, hs1, hW1⟩ := (Wr.nil (a := 16 * p) (val := leafV c (fun i => qbs_keys st (fr + i)) (fun i => qbs_values st (fr + i))) hw).step (n := n) (x := lN c) (by omega) (by omega) (by unfold leafV leafB; rw [if_neg (by omega), if_pos rfl])
  obtain ⟨s', hs', hW'⟩ := fm_wl_go n st hp ht hf hc hn 7 n 0 s1 (by omega) (by omega) hW1
  refine ⟨s', ?_, hW'⟩
  rw [fm_writeLeaf, lt32 16, pk_mul, nI_l (by omega)]
  rw [Nat.add_zero] at hs1
  rw [hs1, bind_s]
  exact hs'
theorem fm_wr_go (n : Nat) (st : MSt) {r t u L : Nat} {nl : Nat → Nat} {E : Int64} (hr : r < 8) (ht : t + 20 ≤ 64) (hL : L ≤ 16) (hnl : ∀ i, i < L → nl i < 64) (hlv : ∀ i, i < L → qbs_leaves st i = nI (nl i)) (hlc : qbs_leafCount st = nI L) (hn : 20 < n) (m : Nat) : ∀ (k j : Nat) (s : MSt), j + m = 16 → m < k → Wr st (1024 + 20 * r) t (2 + j) (rootV u L nl E) s → ∃ s', fm_writeRoot_37 n k s E (nI (1024 + 20 * r)) (nI j) = some s' ∧ Wr st (1024 + 20 * r) t 20 (rootV u L nl E) s' := by
  induction m with
  | zero =>
    intro k j s h1 h2 h
    obtain ⟨k, rfl⟩ : ∃ i, k = i + 1 := ⟨k - 1, by omega⟩
    obtain rfl : j = 16 := by omega
    obtain ⟨s1, hs1, hW1⟩ := h.step (n := n) (x := E) (by omega) (by omega) (by unfold rootV rootB; rw [if_neg (by omega), if_neg (by omega), if_neg (by omega), if_neg (by omega)])
    have e : sumN (rootV u L nl E) 0 19 = sumN (rootB u L nl E) 0 19 := sumN_congr (fun i hi => by unfold rootV; rw [if_neg (by omega)])
    obtain ⟨s', hs, hW⟩ := hW1.step (n := n) (x := sumN (rootB u L nl E) 0 19) (by omega) (by omega) (by unfold rootV; rw [if_pos (by omega)])
    refine ⟨s', ?_, hW⟩
    rw [fm_writeRoot_37, if_pos (by decide), lt32 18, lt32 19, nI_add, hs1, bind_s, hW1.sum (m := 19) (by omega) (by omega), bind_s, nI_add, e, hs, bind_s]
  | succ m ih =>
    intro k j s h1 h2 h
    obtain ⟨k, rfl⟩ : ∃ i, k = i + 1 := ⟨k - 1, by omega⟩
    have ev : rootV u L nl E (2 + j) = if j < L then lN (nl j) else 0 := by
      unfold rootV rootB; rw [if_neg (by omega), if_neg (by omega), if_neg (by omega), if_pos (by omega), show 2 + j - 2 = j by omega]
    obtain ⟨s1, hs1, hW1⟩ := h.step (n := n) (x := if j < L then lN (nl j) else 0) (by omega) (by omega) ev.symm
    obtain ⟨s', hs', hW'⟩ := ih k (j + 1) s1 (by omega) (by omega) hW1
    refine ⟨s', ?_, hW'⟩
    rw [fm_writeRoot_37, if_neg (by rw [lt32 16, nI_leI (by omega) (by omega)]; omega), lt32 2, nI_add, nI_add, h.lc, hlc, h.lv, nI_1, show 1024 + 20 * r + 2 + j = 1024 + 20 * r + (2 + j) by omega]
    by_cases q : j < L
    · rw [if_pos q] at hs1
      have := hnl j q
      rw [if_neg (nI_ge q (by omega)), rdI_n (by omega) (by omega), bind_s, hlv j q, nI_l (by omega), hs1, bind_s]
      exact hs'
    · rw [if_neg q] at hs1
      rw [if_pos (nI_le (by omega) (by omega)), hs1, bind_s]
      exact hs'
theorem fm_wr {n : Nat} {st : MSt} {t u L : Nat} {nl : Nat → Nat} {E : Int64} (hu : u < 2 ^ 31) (ht : t + 20 ≤ 64) (hL : L ≤ 16) (hnl : ∀ i, i < L → nl i < 64) (hlv : ∀ i, i < L → qbs_leaves st i = nI (nl i)) (hlc : qbs_leafCount st = nI L) (hn : 20 < n) (hw : qbs_written st = nI t) : ∃ s', fm_writeRoot n st (nI u) E = some s' ∧ Wr st (1024 + 20 * (u % 8)) t 20 (rootV u L nl E) s' := by
  have hr : u % 8 < 8 := by omega
  obtain ⟨s1, hs1, hW1⟩ := (Wr.nil (a := 1024 + 20 * (u % 8)) (val := rootV u L nl E) hw).step (n := n) (x := lN u) (by omega) (by omega) (by unfold rootV rootB; rw [if_neg (by omega), if_pos rfl])
  obtain ⟨s2, hs2, hW2⟩ := hW1.step (n := n) (x := lN L) (by omega) (by omega) (by unfold rootV rootB; rw [if_neg (by omega), if_neg (by omega), if_pos rfl])
  obtain ⟨s', hs', hW'⟩ := fm_wr_go n st hr ht hL hnl hlv hlc hn 16 n 0 s2 (by omega) (by omega) hW2
  refine ⟨s', ?_, hW'⟩
  rw [Nat.add_zero] at hs1
  rw [fm_writeRoot, fm_rem hu, lt32 20, lt32 1024, pk_mul, nI_add, nI_l hu, hs1, bind_s, hW1.lc, hlc, nI_l (by omega), nI_1, hs2, bind_s]
  exact hs'
