theorem fm_ent_go (n : Nat) (st : MSt) {c : Nat} (hc : qbs_many st = nI c) (h8 : c ≤ 8) (y : Int32) (x : Int64) (m : Nat) : ∀ (k j : Nat), j + m = c → m < k → fm_enter_3 n k st y x (nI j) = fm_enter_31 n st y x (nI (pix (qbs_keys st) y.toInt64 m j)) := by
  induction m with
  | zero =>
    intro k j h1 h2
    obtain ⟨k, rfl⟩ : ∃ i, k = i + 1 := ⟨k - 1, by omega⟩
    rw [fm_enter_3, hc, if_pos (nI_le (by omega) (by omega))]; rfl
  | succ m ih =>
    intro k j h1 h2
    obtain ⟨k, rfl⟩ : ∃ i, k = i + 1 := ⟨k - 1, by omega⟩
    rw [fm_enter_3, hc, if_neg (nI_ge (by omega) (by omega)), rdL_n (by omega) (by omega), bind_s, pix, nI_1]
    by_cases q : qbs_keys st j < y.toInt64
    · rw [if_neg (fun h => absurd (lgc_ge.mp h) (Int64.not_le.mpr q)), if_pos q]; exact ih k (j + 1) (by omega) (by omega)
    · rw [if_pos (lgc_ge.mpr (Int64.not_lt.mp q)), if_neg q]
theorem fm_putD {n : Nat} {st : MSt} {c : Nat} (hc : qbs_many st = nI c) (h7 : c ≤ 7) (hn : 20 < n) (y : Int32) (x : Int64) : ∃ st', fm_enter n st y x = some st' ∧ FrM st st' ∧ qbs_many st' = nI (putC (qbs_keys st) y.toInt64 c) ∧ ∀ i, i < putC (qbs_keys st) y.toInt64 c → qbs_keys st' i = putF (qbs_keys st) y.toInt64 c (qbs_keys st) y.toInt64 i ∧ qbs_values st' i = putF (qbs_keys st) y.toInt64 c (qbs_values st) x i := by
  have hp := pix_le (K := qbs_keys st) (y := y.toInt64) c 0
  rw [fm_enter, show fm_enter_3 n n st y x 0 = _ from fm_ent_go n st hc (by omega) y x c n 0 (by omega) (by omega), fm_enter_31, hc]
  have sh := mshift n (px := pix (qbs_keys st) y.toInt64 c 0) y x (c - pix (qbs_keys st) y.toInt64 c 0) n st (by omega) (by omega)
  rw [show pix (qbs_keys st) y.toInt64 c 0 + (c - pix (qbs_keys st) y.toInt64 c 0) = c by omega] at sh
  have ins : hasK (qbs_keys st) y.toInt64 c = false → ∃ st', fm_enter_59 n n st y x (nI (pix (qbs_keys st) y.toInt64 c 0)) (nI c) = some st' ∧ FrM st st' ∧ qbs_many st' = nI (putC (qbs_keys st) y.toInt64 c) ∧ ∀ i, i < putC (qbs_keys st) y.toInt64 c → qbs_keys st' i = putF (qbs_keys st) y.toInt64 c (qbs_keys st) y.toInt64 i ∧ qbs_values st' i = putF (qbs_keys st) y.toInt64 c (qbs_values st) x i := by
    intro q
    obtain ⟨st', e, hf, hd, hk⟩ := sh
    refine ⟨st', e, hf, by rw [hd, putC_f q, hc, nI_1], fun i hi => ?_⟩
    · rw [putC_f q] at hi
      obtain ⟨k1, k2⟩ := hk i
      exact ⟨k1.trans (putF_ins q (by omega)), k2.trans (putF_ins q (by omega))⟩
  by_cases q1 : pix (qbs_keys st) y.toInt64 c 0 = c
  · rw [if_pos (by rw [q1])]
    exact ins (by unfold hasK; rw [decide_eq_false (by omega)]; rfl)
  · rw [if_neg (fun e => q1 ((nI_eq (by omega) (by omega)).mp e)), rdL_n (by omega) (by omega), bind_s]
    by_cases q2 : qbs_keys st (pix (qbs_keys st) y.toInt64 c 0) = y.toInt64
    · have q : hasK (qbs_keys st) y.toInt64 c = true := by unfold hasK; rw [decide_eq_true (by omega), decide_eq_true q2]; rfl
      refine ⟨qbs_put_values (vp_updL (qbs_values st) (pix (qbs_keys st) y.toInt64 c 0) x) (qbs_put_keys (vp_updL (qbs_keys st) (pix (qbs_keys st) y.toInt64 c 0) y.toInt64) st), ?_, (FrM.dk _ _).trans (FrM.dv _ _), by rw [putC_t q]; exact hc, fun i hi => ?_⟩
      · rw [if_pos (lgc_eq.mpr q2), wrL_n (by omega) (by omega), bind_s, wrL_n (by omega) (by omega), bind_s]
      · exact ⟨putF_has q i, putF_has q i⟩
    · rw [if_neg (fun h => q2 (lgc_eq.mp h))]
      exact ins (by unfold hasK; rw [decide_eq_false q2]; simp)
theorem fm_load_go (n : Nat) {P : Nat} {g q : Nat → Int64} {v l p c : Nat} (hv : v < 2 ^ 31) (hP : P ≤ 64) (hp : p < P) (hl : l < 16) (hq : q (20 * (v % 8) + 2 + l) = lN p) (hc : c ≤ 7) (m : Nat) : ∀ (k j : Nat) (st : MSt), SameW P g q (qbs_words st) → qbs_newest st = nI v → qbs_many st = nI c → j + m = c → m < k → ∃ st', fm_load_33 n k st (nI l) (nI j) = some st' ∧ FrM st st' ∧ qbs_many st' = nI c ∧ (∀ i, i < j → qbs_keys st' i = qbs_keys st i ∧ qbs_values st' i = qbs_values st i) ∧ ∀ i, j ≤ i → i < c → qbs_keys st' i = g (16 * p + 1 + 2 * i) ∧ qbs_values st' i = g (16 * p + 2 + 2 * i) := by
  induction m with
  | zero =>
    intro k j st hw hnw hm h1 h2
    obtain ⟨k, rfl⟩ : ∃ i, k = i + 1 := ⟨k - 1, by omega⟩
    refine ⟨st, ?_, FrM.refl _, hm, fun i hi => ⟨rfl, rfl⟩, fun i h3 h4 => by omega⟩
    rw [fm_load_33, hm, if_pos (nI_le (by omega) (by omega))]
  | succ m ih =>
    intro k j st hw hnw hm h1 h2
    obtain ⟨k, rfl⟩ : ∃ i, k = i + 1 := ⟨k - 1, by omega⟩
    obtain ⟨st', e, hf, hd, ha, hb⟩ := ih k (j + 1) (qbs_put_values (vp_updL (qbs_values st) j (g (16 * p + 2 + 2 * j))) (qbs_put_keys (vp_updL (qbs_keys st) j (g (16 * p + 1 + 2 * j))) st)) (by rw [w_kv]; exact hw) (by rw [n_kv]; exact hnw) (by rw [m_kv]; exact hm) (by omega) (by omega)
    rw [mk_kv, mv_kv] at ha
    refine ⟨st', ?_, ((FrM.dk _ _).trans (FrM.dv _ _)).trans hf, hd, fun i hi => ?_, fun i h3 h4 => ?_⟩
    · rw [fm_load_33, hm, if_neg (nI_ge (by omega) (by omega)), hnw, fm_leafOfE hv (by omega) hw, bind_s, hq, lN_i, lt32 16, lt32 2, pk_mul, pk_mul, nI_1, nI_add, rdL_n (by omega) (by omega), bind_s, wrL_n (by omega) (by omega), bind_s, show fm_leafOf n (qbs_put_keys (vp_updL (qbs_keys st) j (qbs_words st (16 * p + 1 + 2 * j))) st) (nI v) (nI l) = _ from fm_leafOfE (ms := qbs_put_keys (vp_updL (qbs_keys st) j (qbs_words st (16 * p + 1 + 2 * j))) st) hv (by omega) hw, bind_s, hq, lN_i, pk_mul, nI_add, nI_add, rdL_n (by omega) (by omega), bind_s, wrL_n (by omega) (by omega), bind_s, nI_1, sw_p hw (by omega), sw_p hw (by omega)]
      exact e
    · obtain ⟨k1, k2⟩ := ha i (by omega)
      exact ⟨k1.trans (pk_uLn (by omega)), k2.trans (pk_uLn (by omega))⟩
    · by_cases e : i = j
      · subst e
        obtain ⟨k1, k2⟩ := ha i (by omega)
        exact ⟨k1.trans pk_uLs, k2.trans pk_uLs⟩
      · exact hb i (by omega) h4
theorem fm_loadE {n : Nat} {st : MSt} {P : Nat} {g q : Nat → Int64} {v L l : Nat} {pl c : Nat → Nat} (hv : v < 2 ^ 31) (hP : P ≤ 64) (hn : 20 < n) (hw : SameW P g q (qbs_words st)) (hnw : qbs_newest st = nI v) (h : RR P g q (v % 8) L pl c) (hl : l < L) : ∃ st', fm_load n st (nI l) = some st' ∧ FrM st st' ∧ qbs_many st' = nI (c l) ∧ ∀ i, i < c l → qbs_keys st' i = g (16 * pl l + 1 + 2 * i) ∧ qbs_values st' i = g (16 * pl l + 2 + 2 * i) := by
  have h16 := h.l16
  have h7 := h.c7 l hl
  have hp := h.pp l hl
  obtain ⟨st', e, hf, hd, -, hb⟩ := fm_load_go n hv hP (h.pp l hl) (show l < 16 by omega) (h.pq l hl) h7 (c l) n 0 (qbs_put_many (nI (c l)) st) hw hnw (gm_put _ _) (by omega) (by omega)
  refine ⟨st', ?_, (FrM.dc _ _).trans hf, hd, fun i hi => hb i (by omega) hi⟩
  rw [fm_load, if_neg (nI_m1 (by omega)), hnw, fm_leafOfE hv (by omega) hw, bind_s, h.pq l hl, lN_i, lt32 16, pk_mul, rdL_n (by omega) (by omega), bind_s, sw_p hw (by omega), h.cg l hl, lN_i]
  exact e
theorem fm_dropD_go (n : Nat) {px c : Nat} (y : Int32) (h7 : c ≤ 7) (hpx : px < c) (m : Nat) : ∀ (k j t : Nat) (st : MSt), qbs_many st = nI c → ((t = j ∧ j ≤ px) ∨ (t + 1 = j ∧ px < j)) → (j ≤ px → qbs_keys st px = y.toInt64) → (∀ i, j ≤ i → i < c → i ≠ px → qbs_keys st i ≠ y.toInt64) → j + m = c → m < k → ∃ st', fm_remove_4 n k st y (nI t) (nI j) = some st' ∧ FrM st st' ∧ qbs_many st' = nI (c - 1) ∧ (∀ i, i < t → qbs_keys st' i = qbs_keys st i ∧ qbs_values st' i = qbs_values st i) ∧ ∀ i, t ≤ i → i + 1 < c → qbs_keys st' i = (if i < px then qbs_keys st i else qbs_keys st (i + 1)) ∧ qbs_values st' i = (if i < px then qbs_values st i else qbs_values st (i + 1)) := by
  induction m with
  | zero =>
    intro k j t st hm ht hk hn h1 h2
    obtain ⟨k, rfl⟩ : ∃ i, k = i + 1 := ⟨k - 1, by omega⟩
    refine ⟨qbs_put_many (nI t) st, ?_, FrM.dc _ _, by rw [show c - 1 = t by omega]; exact gm_put _ _, fun i hi => ⟨rfl, rfl⟩, fun i h3 h4 => by omega⟩
    rw [fm_remove_4, hm, if_pos (nI_le (by omega) (by omega))]
  | succ m ih =>
    intro k j t st hm ht hk hn h1 h2
    obtain ⟨k, rfl⟩ : ∃ i, k = i + 1 := ⟨k - 1, by omega⟩
    rw [fm_remove_4, hm, if_neg (nI_ge (by omega) (by omega)), rdL_n (by omega) (by omega), bind_s, nI_1]
    by_cases e : j = px
    · subst e
      rw [if_pos (lgc_eq.mpr (hk (Nat.le_refl _)))]
      obtain ⟨st', e1, hf, hd, ha, hb⟩ := ih k (j + 1) t st hm (Or.inr (by omega)) (fun h => by omega) (fun i q1 q2 q3 => hn i (by omega) q2 q3) (by omega) (by omega)
      exact ⟨st', e1, hf, hd, ha, hb⟩
    · rw [if_neg (fun h => hn j (Nat.le_refl _) (by omega) e (lgc_eq.mp h)), bind_s, wrL_n (by omega) (by omega), bind_s, rdL_n (by omega) (by omega), bind_s, wrL_n (by omega) (by omega), bind_s, nI_1]
      obtain ⟨st', e1, hf, hd, ha, hb⟩ := ih k (j + 1) (t + 1) (qbs_put_values (vp_updL (qbs_values st) t (qbs_values st j)) (qbs_put_keys (vp_updL (qbs_keys st) t (qbs_keys st j)) st)) (by rw [m_kv]; exact hm) (by omega) (fun h => by rw [mk_kv, pk_uLn (by omega)]; exact hk (by omega)) (fun i q1 q2 q3 => by
        rw [mk_kv, pk_uLn (by omega)]; exact hn i (by omega) q2 q3) (by omega) (by omega)
      rw [mk_kv, mv_kv] at ha hb
      refine ⟨st', e1, ((FrM.dk _ _).trans (FrM.dv _ _)).trans hf, hd, fun i hi => ?_, fun i q1 q2 => ?_⟩
      · obtain ⟨k1, k2⟩ := ha i (by omega)
        exact ⟨k1.trans (pk_uLn (by omega)), k2.trans (pk_uLn (by omega))⟩
      · by_cases e2 : i = t
        · subst e2
          obtain ⟨k1, k2⟩ := ha i (by omega)
          have k1' := k1.trans (show vp_updL (qbs_keys st) i (qbs_keys st j) i = _ from pk_uLs)
          have k2' := k2.trans (show vp_updL (qbs_values st) i (qbs_values st j) i = _ from pk_uLs)
          rw [k1', k2']
          rcases ht with ⟨h3, h4⟩ | ⟨h3, h4⟩
          · rw [if_pos (by omega), if_pos (by omega), h3]; exact ⟨rfl, rfl⟩
          · rw [if_neg (by omega), if_neg (by omega), h3]; exact ⟨rfl, rfl⟩
        · obtain ⟨k1, k2⟩ := hb i (by omega) q2
          rw [k1, k2]
          rw [pk_uLn (by omega), pk_uLn (by omega), pk_uLn (by omega), pk_uLn (by omega)]; exact ⟨rfl, rfl⟩
theorem fm_dropD {n : Nat} {st : MSt} {c : Nat} (hc : qbs_many st = nI c) (h7 : c ≤ 7) (hn : 20 < n) (y : Int32) (hup : ∀ j k, j < k → k < c → qbs_keys st j < qbs_keys st k) (hh : hasK (qbs_keys st) y.toInt64 c = true) : ∃ st', fm_remove n st y = some st' ∧ FrM st st' ∧ qbs_many st' = nI (c - 1) ∧ ∀ i, i + 1 < c → qbs_keys st' i = dropF (qbs_keys st) y.toInt64 c (qbs_keys st) i ∧ qbs_values st' i = dropF (qbs_keys st) y.toInt64 c (qbs_values st) i := by
  simp only [hasK, Bool.and_eq_true, decide_eq_true_eq] at hh
  obtain ⟨st', e, hf, hd, -, hb⟩ := fm_dropD_go n (px := pix (qbs_keys st) y.toInt64 c 0) y h7 hh.1 c n 0 0 st hc (Or.inl ⟨rfl, by omega⟩) (fun _ => hh.2) (fun i h1 h2 h3 q => by
    rcases Nat.lt_or_gt_of_ne h3 with h4 | h4
    · have := hup i _ h4 hh.1; rw [q, hh.2] at this; exact Int64.lt_irrefl this
    · have := hup _ i h4 h2; rw [q, hh.2] at this; exact Int64.lt_irrefl this) (by omega) (by omega)
  refine ⟨st', ?_, hf, hd, fun i hi => hb i (by omega) hi⟩
  rw [fm_remove]; exact e
