/-! AN ACT, the model's side -/
abbrev FrL (st st' : MSt) : Prop := (FrM st st') ∧ (qbs_keys st' = qbs_keys st) ∧ (qbs_values st' = qbs_values st) ∧ (qbs_many st' = qbs_many st)
theorem FrL.fr {st st' : MSt} (h : FrL st st') : FrM st st' := h.1
theorem FrL.ks {st st' : MSt} (h : FrL st st') : qbs_keys st' = qbs_keys st := h.2.1
theorem FrL.vs {st st' : MSt} (h : FrL st st') : qbs_values st' = qbs_values st := h.2.2.1
theorem FrL.mn {st st' : MSt} (h : FrL st st') : qbs_many st' = qbs_many st := h.2.2.2
theorem FrL.refl (st : MSt) : FrL st st := ⟨FrM.refl _, rfl, rfl, rfl⟩
theorem FrL.trans {a b c : MSt} (h : FrL a b) (k : FrL b c) : FrL a c := ⟨h.fr.trans k.fr, k.ks.trans h.ks, k.vs.trans h.vs, k.mn.trans h.mn⟩
theorem FrL.lv (v : Nat → Int32) (st : MSt) : FrL st (qbs_put_leaves v st) := ⟨FrM.lv _ _, rfl, rfl, rfl⟩
theorem FrL.lc (v : Int32) (st : MSt) : FrL st (qbs_put_leafCount v st) := ⟨FrM.lc _ _, rfl, rfl, rfl⟩
theorem FrL.tk (v : Nat → Int32) (st : MSt) : FrL st (qbs_put_taken v st) := ⟨FrM.tk _ _, rfl, rfl, rfl⟩
/-- one leaf more in the list -/
def addL (p : Int32) (st : MSt) : MSt := qbs_put_leafCount (qbs_leafCount st + 1) (qbs_put_leaves (upd (qbs_leaves st) (qbs_leafCount st).toNatClampNeg p) st)
theorem tk_put (v : Nat → Int32) (st : MSt) : qbs_taken (qbs_put_taken v st) = v := rfl
theorem lc_f (v : Int32) (l : Nat → Int32) (st : MSt) : qbs_leafCount (qbs_put_leafCount v (qbs_put_leaves l st)) = v ∧ qbs_leaves (qbs_put_leafCount v (qbs_put_leaves l st)) = l ∧ qbs_taken (qbs_put_leafCount v (qbs_put_leaves l st)) = qbs_taken st := ⟨rfl, rfl, rfl⟩
theorem lct_f (v : Int32) (l t : Nat → Int32) (st : MSt) : qbs_leafCount (qbs_put_leafCount v (qbs_put_leaves l (qbs_put_taken t st))) = v ∧ qbs_leaves (qbs_put_leafCount v (qbs_put_leaves l (qbs_put_taken t st))) = l ∧ qbs_taken (qbs_put_leafCount v (qbs_put_leaves l (qbs_put_taken t st))) = t := ⟨rfl, rfl, rfl⟩
theorem lc0_f (v : Int32) (st : MSt) : qbs_leafCount (qbs_put_leafCount v st) = v ∧ qbs_leaves (qbs_put_leafCount v st) = qbs_leaves st ∧ qbs_taken (qbs_put_leafCount v st) = qbs_taken st := ⟨rfl, rfl, rfl⟩
theorem fm_act39 (n : Nat) (st : MSt) (x1 x2 x3 x4 : Int32) (m : Nat) : ∀ (k j : Nat) (s : MSt), j + m = 64 → m < k → FrL st s → (∀ i, i < j → qbs_taken s i = 0) → ∃ s', fm_act_39 n k s x1 x2 x3 x4 (nI j) = fm_act_68 n n s' x1 x2 x3 x4 0 ∧ FrL st s' ∧ qbs_leafCount s' = nI 0 ∧ ∀ i, i < 64 → qbs_taken s' i = 0 := by
  induction m with
  | zero =>
    intro k j s h1 h2 hf ht
    obtain ⟨k, rfl⟩ : ∃ i, k = i + 1 := ⟨k - 1, by omega⟩
    obtain rfl : j = 64 := by omega
    obtain ⟨e1, e2, e3⟩ := lc0_f 0 s
    refine ⟨qbs_put_leafCount 0 s, ?_, hf.trans (FrL.lc _ _), e1, fun i hi => by rw [e3]; exact ht i hi⟩
    rw [fm_act_39, if_pos (by decide)]
  | succ m ih =>
    intro k j s h1 h2 hf ht
    obtain ⟨k, rfl⟩ : ∃ i, k = i + 1 := ⟨k - 1, by omega⟩
    rw [fm_act_39, if_neg (by rw [lt32 64, nI_leI (by omega) (by omega)]; omega), wrI_n (by omega) (by omega), bind_s, nI_1]
    refine ih k (j + 1) _ (by omega) (by omega) (hf.trans (FrL.tk _ _)) (fun i hi => ?_)
    rw [tk_put]
    by_cases e : i = j
    · rw [e, pk_us]
    · rw [pk_un e]; exact ht i (by omega)
theorem fm_act68 (n : Nat) (st : MSt) {P : Nat} {g q : Nat → Int64} {v L lb : Nat} {pl cnt : Nat → Nat} (hv : v < 2 ^ 31) (hw : SameW P g q (qbs_words st)) (hnw : qbs_newest st = nI v) (h : RR P g q (v % 8) L pl cnt) (hlb : lb ≤ L) (x2 x3 x4 : Int32) (m : Nat) : ∀ (k j : Nat) (s : MSt), j + m = lb → m < k → FrL st s → qbs_leafCount s = nI j → (∀ i, i < j → qbs_leaves s i = nI (pl i)) → (∀ i, i < 64 → qbs_taken s i = 0) → ∃ s', fm_act_68 n k s (nI lb) x2 x3 x4 (nI j) = fm_act_118 n n s' (nI lb) x2 x3 x4 (nI lb) 0 ∧ FrL st s' ∧ qbs_leafCount s' = nI lb ∧ (∀ i, i < lb → qbs_leaves s' i = nI (pl i)) ∧ ∀ i, i < 64 → qbs_taken s' i = 0 := by
  have h16 := h.l16
  induction m with
  | zero =>
    intro k j s h1 h2 hf hc hl ht
    obtain ⟨k, rfl⟩ : ∃ i, k = i + 1 := ⟨k - 1, by omega⟩
    obtain rfl : j = lb := by omega
    refine ⟨s, ?_, hf, hc, hl, ht⟩
    rw [fm_act_68, if_pos (nI_le (by omega) (by omega)), hc]
  | succ m ih =>
    intro k j s h1 h2 hf hc hl ht
    obtain ⟨k, rfl⟩ : ∃ i, k = i + 1 := ⟨k - 1, by omega⟩
    obtain ⟨e1, e2, e3⟩ := lc_f (nI (j + 1)) (upd (qbs_leaves s) j (nI (pl j))) s
    rw [fm_act_68, if_neg (nI_ge (by omega) (by omega)), hf.fr.nw, hnw, fm_leafOfE hv (by omega) (by rw [hf.fr.wd]; exact hw), bind_s, h.pq j (by omega), lN_i, hc, wrI_n (by omega) (by omega), bind_s, nI_1]
    refine ih k (j + 1) _ (by omega) (by omega) (hf.trans ((FrL.lv _ _).trans (FrL.lc _ _))) e1 (fun i hi => ?_) (fun i hi => by rw [e3]; exact ht i hi)
    rw [e2]
    by_cases e : i = j
    · rw [e, pk_us]
    · rw [pk_un e]; exact hl i (by omega)
/-- the pages are taken one after the other -/
theorem fstN_taken {f : Nat → Bool} {P p : Nat} (h : fstN f P 0 = some p) : fstN (fun i => f i || decide (i = p)) P 0 = fstN f (P - (p + 1)) (p + 1) := by
  have h1 := fstN_some _ _ _ h
  rw [show P = (p + 1) + (P - (p + 1)) by omega, fstN_skip (p + 1) 0 (P - (p + 1)) (fun i _ hi => ?_), show p + 1 + (P - (p + 1)) - (p + 1) = P - (p + 1) by omega, Nat.zero_add]
  · apply fstN_congr
    intro i h2 h3
    rw [decide_eq_false (by omega), Bool.or_false]
  · by_cases e : i = p
    · rw [decide_eq_true e, Bool.or_true]
    · rw [h1.2.2.2 i (by omega) (by omega)]; rfl
theorem fm_act118s {n k : Nat} {s : MSt} {T lb j p : Nat} {x2 x4 : Int32} (hj : j < T) (hT : T ≤ 2) (hlb : lb + j < 18) (hp : p < 64) (hnf : fm_nextFree n s = some (nI p)) (hc : qbs_leafCount s = nI (lb + j)) : fm_act_118 n (k + 1) s (nI lb) x2 (nI T) x4 (nI lb) (nI j) = fm_act_118 n k (qbs_put_leafCount (nI (lb + j + 1)) (qbs_put_leaves (upd (qbs_leaves s) (lb + j) (nI p)) (qbs_put_taken (upd (qbs_taken s) p 1) s))) (nI lb) x2 (nI T) x4 (nI lb) (nI (j + 1)) := by
  rw [fm_act_118, if_neg (nI_ge hj (by omega)), hnf, bind_s, if_neg (nI_m1 (by omega)), wrI_n hp (by omega), bind_s, hc, wrI_n hlb (by omega), bind_s, nI_1, nI_1]
theorem fm_act118n {n k : Nat} {s : MSt} {T lb j : Nat} {x2 x4 : Int32} (hj : j < T) (hT : T ≤ 2) (hnf : fm_nextFree n s = some (-1)) : fm_act_118 n (k + 1) s (nI lb) x2 (nI T) x4 (nI lb) (nI j) = some (0, s) := by
  rw [fm_act_118, if_neg (nI_ge hj (by omega)), hnf, bind_s, if_pos rfl]
theorem fm_act118e {n k : Nat} {s : MSt} {T lb : Nat} {x2 x4 : Int32} (hT : T ≤ 2) : fm_act_118 n (k + 1) s (nI lb) x2 (nI T) x4 (nI lb) (nI T) = fm_act_178 n n s x2 (nI T) x4 (nI lb) (nI (lb + 1)) := by
  rw [fm_act_118, if_pos (nI_le (by omega) (by omega)), nI_1]
theorem fm_act118 {n : Nat} {st s : MSt} {P : Nat} {f : Nat → Bool} {T lb : Nat} {x2 x4 : Int32} {pl : Nat → Nat} (h0 : 0 < P) (hP : P ≤ 64) (hpg : qbs_pages st = nI P) (hf : ∀ p, hld P (rtw (qbs_words st)) (qbs_newest st).toInt64 p = f p) (hT : T ≤ 2) (hlb : lb ≤ 16) (hn : 70 < n) (hs : FrL st s) (hc : qbs_leafCount s = nI lb) (hl : ∀ i, i < lb → qbs_leaves s i = nI (pl i)) (ht : ∀ i, i < 64 → qbs_taken s i = 0) :
    (∀ pg, PgS f P T pg → ∃ s', fm_act_118 n n s (nI lb) x2 (nI T) x4 (nI lb) 0 = fm_act_178 n n s' x2 (nI T) x4 (nI lb) (nI (lb + 1)) ∧ FrL st s' ∧ qbs_leafCount s' = nI (lb + T) ∧ (∀ i, i < lb → qbs_leaves s' i = nI (pl i)) ∧ ∀ i, i < T → qbs_leaves s' (lb + i) = nI (pg i)) ∧
    (PgN f P T → ∃ s', fm_act_118 n n s (nI lb) x2 (nI T) x4 (nI lb) 0 = some (0, s') ∧ FrL st s') := by
  obtain ⟨n, rfl⟩ : ∃ i, n = i + 3 := ⟨n - 3, by omega⟩
  have nf0 : fm_nextFree (n + 3) s = some (o2i (fstN f P 0)) := by
    refine fm_nf h0 hP (hs.fr.pg.trans hpg) (by omega) (fun p hp => ?_)
    rw [hs.fr.wd, hs.fr.nw, hf, ht p (by omega)]; simp
  have step1 : ∀ p, 1 ≤ T → fstN f P 0 = some p → ∃ s1, fm_act_118 (n + 3) (n + 3) s (nI lb) x2 (nI T) x4 (nI lb) 0 = fm_act_118 (n + 3) (n + 2) s1 (nI lb) x2 (nI T) x4 (nI lb) (nI 1) ∧ FrL st s1 ∧ qbs_leafCount s1 = nI (lb + 1) ∧ (∀ i, i < lb → qbs_leaves s1 i = nI (pl i)) ∧ qbs_leaves s1 lb = nI p ∧ (∀ i, i < 64 → qbs_taken s1 i = if i = p then 1 else 0) := by
    intro p h1 h2
    have hp := fstN_some _ _ _ h2
    rw [h2] at nf0
    obtain ⟨e1, e2, e3⟩ := lct_f (nI (lb + 0 + 1)) (upd (qbs_leaves s) (lb + 0) (nI p)) (upd (qbs_taken s) p 1) s
    refine ⟨_, fm_act118s (k := n + 2) (j := 0) (by omega) hT (by omega) (by omega) nf0 hc, hs.trans (((FrL.tk _ _).trans (FrL.lv _ _)).trans (FrL.lc _ _)), e1, fun i hi => ?_, ?_, fun i hi => ?_⟩
    · rw [e2, pk_un (by omega)]; exact hl i hi
    · rw [e2, Nat.add_zero, pk_us]
    · rw [e3]
      by_cases e : i = p
      · rw [e, pk_us, if_pos rfl]
      · rw [pk_un e, if_neg e]; exact ht i hi
  have nf1 : ∀ p s1, fstN f P 0 = some p → FrL st s1 → (∀ i, i < 64 → qbs_taken s1 i = if i = p then 1 else 0) → fm_nextFree (n + 3) s1 = some (o2i (fstN f (P - (p + 1)) (p + 1))) := by
    intro p s1 h1 h2 h3
    rw [← fstN_taken h1]
    refine fm_nf h0 hP (h2.fr.pg.trans hpg) (by omega) (fun i hi => ?_)
    rw [h2.fr.wd, h2.fr.nw, hf, h3 i (by omega)]
    by_cases e : i = p
    · rw [if_pos e]; simp [e]
    · rw [if_neg e]; simp [e]
  constructor
  · intro pg hpgs
    rcases (show T = 0 ∨ T = 1 ∨ T = 2 by omega) with rfl | rfl | rfl
    · exact ⟨s, fm_act118e (k := n + 2) hT, hs, hc, hl, fun i hi => by omega⟩
    · obtain ⟨s1, e, f1, c1, l1, g1, -⟩ := step1 (pg 0) (by omega) (hpgs.1 (by omega))
      refine ⟨s1, e.trans (fm_act118e (k := n + 1) hT), f1, c1, l1, fun i hi => ?_⟩
      rw [show i = 0 by omega]; exact g1
    · obtain ⟨s1, e, f1, c1, l1, g1, t1⟩ := step1 (pg 0) (by omega) (hpgs.1 (by omega))
      have hp := fstN_some _ _ _ (hpgs.2 rfl)
      have hp0 := fstN_some _ _ _ (hpgs.1 (by omega))
      have nf := nf1 (pg 0) s1 (hpgs.1 (by omega)) f1 t1
      rw [hpgs.2 rfl] at nf
      obtain ⟨e1, e2, e3⟩ := lct_f (nI (lb + 1 + 1)) (upd (qbs_leaves s1) (lb + 1) (nI (pg 1))) (upd (qbs_taken s1) (pg 1) 1) s1
      refine ⟨_, (e.trans (fm_act118s (k := n + 1) (j := 1) (by omega) hT (by omega) (by omega) nf c1)).trans (fm_act118e (k := n) hT), f1.trans (((FrL.tk _ _).trans (FrL.lv _ _)).trans (FrL.lc _ _)), e1, fun i hi => ?_, fun i hi => ?_⟩
      · rw [e2, pk_un (by omega)]; exact l1 i hi
      · rw [e2]
        rcases (show i = 0 ∨ i = 1 by omega) with rfl | rfl
        · rw [pk_un (by omega)]; exact g1
        · rw [pk_us]
  · intro hpn
    rcases hpn with ⟨h1, h2⟩ | ⟨h1, p, h2, h3⟩
    · rw [h2] at nf0
      exact ⟨s, fm_act118n (k := n + 2) (j := 0) (by omega) hT nf0, hs⟩
    · obtain ⟨s1, e, f1, c1, l1, g1, t1⟩ := step1 p (by omega) h2
      have nf := nf1 p s1 h2 f1 t1
      rw [h3] at nf
      exact ⟨s1, e.trans (fm_act118n (k := n + 1) (j := 1) (by omega) hT nf), f1⟩
theorem fm_act178 (n : Nat) (st : MSt) {P : Nat} {g q : Nat → Int64} {v L lb T : Nat} {pl cnt pg : Nat → Nat} (hv : v < 2 ^ 31) (hw : SameW P g q (qbs_words st)) (hnw : qbs_newest st = nI v) (h : RR P g q (v % 8) L pl cnt) (hlb : (L = 0 ∧ lb = 0) ∨ lb < L) (hT : T ≤ 2) (x2 : Int32) (m : Nat) : ∀ (k j : Nat) (s : MSt), lb + 1 ≤ j → j + m = max L (lb + 1) → m < k → FrL st s → qbs_leafCount s = nI (j - 1 + T) → (∀ i, i < j - 1 + T → qbs_leaves s i = nI (nlf lb T pl pg i)) → ∃ s', FrL st s' ∧ (lb + T + (L - (lb + 1)) ≤ 16 → fm_act_178 n k s x2 (nI T) (nI L) (nI lb) (nI j) = fm_act_252 n n (qbs_put_written 0 s') (nI T) (nI lb) (((q (20 * (v % 8) + 18)).toInt32 + x2).toInt64) 0) ∧ (¬ lb + T + (L - (lb + 1)) ≤ 16 → fm_act_178 n k s x2 (nI T) (nI L) (nI lb) (nI j) = some (0, s')) ∧ qbs_leafCount s' = nI (lb + T + (L - (lb + 1))) ∧ ∀ i, i < lb + T + (L - (lb + 1)) → qbs_leaves s' i = nI (nlf lb T pl pg i) := by
  have h16 := h.l16
  have hlbL : lb ≤ L := by rcases hlb with h1 | h1 <;> omega
  induction m with
  | zero =>
    intro k j s hj h1 h2 hf hc hl
    obtain ⟨k, rfl⟩ : ∃ i, k = i + 1 := ⟨k - 1, by omega⟩
    have ej : j - 1 + T = lb + T + (L - (lb + 1)) := by omega
    rw [ej] at hc hl
    refine ⟨s, hf, fun hN => ?_, fun hN => ?_, hc, hl⟩
    · rw [fm_act_178, if_pos (nI_le (by omega) (by omega)), hc, if_pos (by rw [lt32 16, nI_leI (by omega) (by omega)]; exact hN), hf.fr.nw, hnw, fm_entriesE hv (by rw [hf.fr.wd]; exact hw), bind_s]
    · rw [fm_act_178, if_pos (nI_le (by omega) (by omega)), hc, if_neg (by rw [lt32 16, nI_leI (by omega) (by omega)]; exact hN)]
  | succ m ih =>
    intro k j s hj h1 h2 hf hc hl
    obtain ⟨k, rfl⟩ : ∃ i, k = i + 1 := ⟨k - 1, by omega⟩
    have hjL : j < L := by omega
    obtain ⟨e1, e2, e3⟩ := lc_f (nI (j - 1 + T + 1)) (upd (qbs_leaves s) (j - 1 + T) (nI (pl j))) s
    rw [fm_act_178, if_neg (nI_ge hjL (by omega)), hf.fr.nw, hnw, fm_leafOfE hv (by omega) (by rw [hf.fr.wd]; exact hw), bind_s, h.pq j hjL, lN_i, hc, wrI_n (by omega) (by omega), bind_s, nI_1, nI_1]
    refine ih k (j + 1) _ (by omega) (by omega) (by omega) (hf.trans ((FrL.lv _ _).trans (FrL.lc _ _))) (by rw [e1, show j - 1 + T + 1 = j + 1 - 1 + T by omega]) (fun i hi => ?_)
    rw [e2]
    by_cases e : i = j - 1 + T
    · rw [e, pk_us]; unfold nlf; rw [if_neg (by omega), if_neg (by omega), show j - 1 + T + 1 - T = j by omega]
    · rw [pk_un e]; exact hl i (by omega)
