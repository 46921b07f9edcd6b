/-! has, find, count, key, same: alike, unless the class keeps a version below 0 -/
def KC (st : BSt) (y : Int32) : Prop := 0 ≤ y ∨ fb_isKept 200 st y = some 0
/-- KEPT on both sides -/
theorem kept_or {d : Nat} {st : BSt} {ms : MSt} (h : Rel d st ms) (y : Int32) : (fb_isKept 200 st y = some 0 ∧ fm_isKept 200 ms y = some 0) ∨ (∃ u L pl c, u < 2 ^ 31 ∧ y = nI u ∧ fb_isKept 200 st y = some 1 ∧ fm_isKept 200 ms y = some 1 ∧ fb_rootOf 200 y = some (nI (u % 8)) ∧ RR (bs_P st) (bs_pages st) (bs_roots st) (u % 8) L pl c) ∨ (¬ KC st y ∧ ∃ r L pl c, r < 8 ∧ fb_isKept 200 st y = some 1 ∧ fm_isKept 200 ms y = some 0 ∧ fb_rootOf 200 y = some (nI r) ∧ RR (bs_P st) (bs_pages st) (bs_roots st) r L pl c) := by
  have hp8 := h.p8
  obtain ⟨v, hv, h1, h2⟩ := h.nw
  obtain ⟨r, hr, hx, hm⟩ := fb_root 200 y
  have ek := fb_kpt (n := 200) (st := st) hr hx h.p64 (by omega)
  by_cases c : 0 ≤ y
  · obtain ⟨u, hu, rfl⟩ := nI_of (Int32.not_lt.mpr c)
    have er := hm u hu rfl
    have em := fm_kpt (n := 200) (st := ms) (v := u) hu (show 0 < bs_P st by omega) h.p64 h.pg (by omega)
    rw [h2, ← kpt_congr h.p64 h.sw (by omega), ← er] at em
    rw [h1] at ek
    cases q : kpt (bs_P st) (bs_pages st) (bs_roots st) (nI v) (nI u) r with
    | false => left; rw [ek, em, q]; exact ⟨rfl, rfl⟩
    | true =>
      right; left
      have q1 := q
      simp only [kpt, Bool.and_eq_true, decide_eq_true_eq] at q1
      obtain ⟨L, pl, cc, hR⟩ := rr_of h.p64 q1.2.2
      exact ⟨u, L, pl, cc, hu, rfl, by rw [ek, q]; rfl, by rw [em, q]; rfl, by rw [← er]; exact hx, by rw [← er]; exact hR⟩
  · have em : fm_isKept 200 ms y = some 0 := fm_kpt_neg (Int32.not_le.mp c)
    cases q : kpt (bs_P st) (bs_pages st) (bs_roots st) (bs_newest st) y r with
    | false => left; rw [ek, em, q]; exact ⟨rfl, rfl⟩
    | true =>
      right; right
      have e1 : fb_isKept 200 st y = some 1 := by rw [ek, q]; rfl
      simp only [kpt, Bool.and_eq_true, decide_eq_true_eq] at q
      obtain ⟨L, pl, cc, hR⟩ := rr_of h.p64 q.2.2
      refine ⟨fun hk => ?_, r, L, pl, cc, hr, e1, em, hx, hR⟩
      rcases hk with hk | hk
      · exact c hk
      · rw [e1] at hk; exact absurd (Option.some.inj hk) (by decide)
theorem fb_ewk33 (n : Nat) (st : BSt) {p c : Nat} (hP : bs_P st ≤ 64) (hp : p < bs_P st) (hc : c ≤ 7) (y : Int32) (m : Nat) : ∀ (k j : Nat), j + m = c → m < k → ∃ z, fb_entryWithKey_33 n k st y (nI p) (nI c) (nI j) = some z ∧ ((z = -1 ∧ ∀ t, j ≤ t → t < c → bs_pages st (16 * p + 1 + 2 * t) ≠ y.toInt64) ∨ ∃ t, t < c ∧ bs_pages st (16 * p + 1 + 2 * t) = y.toInt64 ∧ z = nI (16 * p + 1 + 2 * t)) := by
  induction m with
  | zero =>
    intro k j h1 h2
    obtain ⟨k, rfl⟩ : ∃ i, k = i + 1 := ⟨k - 1, by omega⟩
    exact ⟨-1, by rw [fb_entryWithKey_33, if_pos (nI_le (by omega) (by omega))], Or.inl ⟨rfl, fun t h3 h4 => by omega⟩⟩
  | succ m ih =>
    intro k j h1 h2
    obtain ⟨k, rfl⟩ : ∃ i, k = i + 1 := ⟨k - 1, by omega⟩
    rw [fb_entryWithKey_33, if_neg (nI_ge (by omega) (by omega)), fb_entryAtE, bind_s, rdL_n (by omega) (by omega), bind_s]
    by_cases q : bs_pages st (16 * p + 1 + 2 * j) = y.toInt64
    · exact ⟨_, by rw [if_pos (lgc_eq.mpr q), bind_s], Or.inr ⟨j, by omega, q, rfl⟩⟩
    · rw [if_neg (fun e => q (lgc_eq.mp e)), nI_1]
      obtain ⟨z, hz, hh⟩ := ih k (j + 1) (by omega) (by omega)
      refine ⟨z, hz, ?_⟩
      rcases hh with ⟨e, h3⟩ | h3
      · exact Or.inl ⟨e, fun t h4 h5 => by
          by_cases e2 : t = j
          · rw [e2]; exact q
          · exact h3 t (by omega) h5⟩
      · exact Or.inr h3
theorem fb_ewk {n : Nat} {st : BSt} {r L : Nat} {pl c : Nat → Nat} (hr : r < 8) (hP : bs_P st ≤ 64) (hn : 20 < n) (h : RR (bs_P st) (bs_pages st) (bs_roots st) r L pl c) (y : Int32) : ∃ z, fb_entryWithKey n st (nI r) y = some z ∧ ((z = -1 ∧ ∀ i t, i < L → t < c i → bs_pages st (16 * pl i + 1 + 2 * t) ≠ y.toInt64) ∨ ∃ i t, i < L ∧ t < c i ∧ bs_pages st (16 * pl i + 1 + 2 * t) = y.toInt64 ∧ z = nI (16 * pl i + 1 + 2 * t)) := by
  have h16 := h.l16
  rw [fb_entryWithKey, fb_lf hr hP hn h y, bind_s]
  by_cases L0 : L = 0
  · exact ⟨-1, by rw [if_pos L0, if_pos rfl], Or.inl ⟨rfl, fun i t hi => by omega⟩⟩
  · have hl := lfI_lt (g := bs_pages st) (pl := pl) (y := y.toInt64) (show 0 < L by omega)
    have hc7 := h.c7 _ hl
    obtain ⟨z, hz, hh⟩ := fb_ewk33 n st hP (h.pp _ hl) hc7 y (c (lfI (bs_pages st) pl L y.toInt64)) n 0 (by omega) (by omega)
    refine ⟨z, ?_, ?_⟩
    · rw [if_neg L0, if_neg (nI_m1 (by omega)), fb_pageOfE hr (by omega), bind_s, h.pq _ hl, lN_i, fb_entriesE (h.pp _ hl) hP, bind_s, h.cg _ hl, lN_i]
      exact hz
    · rcases hh with ⟨e, h3⟩ | ⟨t, h3, h4, h5⟩
      · refine Or.inl ⟨e, fun i t hi ht he => ?_⟩
        have el := h.inleaf hi ht he
        rw [el] at ht he
        exact h3 t (by omega) ht he
      · exact Or.inr ⟨_, t, hl, h3, h4, h5⟩
/-- both find the same place -/
theorem place_eq {P : Nat} {g q : Nat → Int64} {r L : Nat} {pl c : Nat → Nat} (h : RR P g q r L pl c) {y : Int64} {z z' : Int32} (h1 : (z = -1 ∧ ∀ i t, i < L → t < c i → g (16 * pl i + 1 + 2 * t) ≠ y) ∨ ∃ i t, i < L ∧ t < c i ∧ g (16 * pl i + 1 + 2 * t) = y ∧ z = nI (16 * pl i + 1 + 2 * t)) (h2 : (z' = -1 ∧ ∀ i t, i < L → t < c i → g (16 * pl i + 1 + 2 * t) ≠ y) ∨ ∃ i t, i < L ∧ t < c i ∧ g (16 * pl i + 1 + 2 * t) = y ∧ z' = nI (16 * pl i + 1 + 2 * t)) : z' = z := by
  rcases h1 with ⟨e1, n1⟩ | ⟨i, t, hi, ht, he, e1⟩
  · rcases h2 with ⟨e2, -⟩ | ⟨i', t', hi', ht', he', e2⟩
    · rw [e1, e2]
    · exact absurd he' (n1 i' t' hi' ht')
  · rcases h2 with ⟨e2, n2⟩ | ⟨i', t', hi', ht', he', e2⟩
    · exact absurd he (n2 i t hi ht)
    · have a1 := h.inleaf hi ht he
      have a2 := h.inleaf hi' ht' he'
      have ei : i' = i := by rw [a1, a2]
      subst ei
      have et : t' = t := by
        rcases Nat.lt_trichotomy t' t with q | q | q
        · have := h.up i' hi t' t q ht; rw [he, he'] at this; exact absurd this Int64.lt_irrefl
        · exact q
        · have := h.up i' hi t t' q ht'; rw [he, he'] at this; exact absurd this Int64.lt_irrefl
      rw [e1, e2, et]
theorem nI_lt_of {P : Nat} {g q : Nat → Int64} {r L : Nat} {pl c : Nat → Nat} (h : RR P g q r L pl c) {y : Int64} {z : Int32} (h1 : (z = -1 ∧ ∀ i t, i < L → t < c i → g (16 * pl i + 1 + 2 * t) ≠ y) ∨ ∃ i t, i < L ∧ t < c i ∧ g (16 * pl i + 1 + 2 * t) = y ∧ z = nI (16 * pl i + 1 + 2 * t)) : z = -1 ∨ ∃ a, a + 1 < 16 * P ∧ z = nI a := by
  rcases h1 with ⟨e1, -⟩ | ⟨i, t, hi, ht, he, e1⟩
  · exact Or.inl e1
  · have := h.pp i hi; have := h.c7 i hi
    exact Or.inr ⟨_, by omega, e1⟩
theorem check_1 {ms : MSt} (x : Int32) (h : ¬ qbs_closed ms = 0) : fm_check 200 ms x = some 1 := by rw [fm_check, if_neg h]
theorem check_2 {ms : MSt} (h : qbs_closed ms = 0) : fm_check 200 ms 0 = some 2 := by rw [fm_check, if_pos h, if_pos rfl]
theorem check_0 {ms : MSt} (h : qbs_closed ms = 0) : fm_check 200 ms 1 = some 0 := by rw [fm_check, if_pos h, if_neg (by decide)]
theorem rk_0 {st : BSt} {y : Int32} (h : fb_isKept 200 st y = some 0) : fb_requireKept 200 st y = some (.inr 2) := by rw [fb_requireKept, h, bind_s, if_pos rfl]
theorem rk_1 {st : BSt} {y : Int32} (h : fb_isKept 200 st y = some 1) : fb_requireKept 200 st y = some (.inl ()) := by rw [fb_requireKept, h, bind_s, if_neg (by decide)]
theorem kept_some {d : Nat} {st : BSt} {ms : MSt} (h : Rel d st ms) (y : Int32) : ∃ b, fm_isKept 200 ms y = some b := by
  rcases kept_or h y with ⟨-, e⟩ | ⟨_, _, _, _, -, -, -, e, -, -⟩ | ⟨-, _, _, _, _, -, -, e, -, -⟩ <;> exact ⟨_, e⟩
theorem pr_3 : ∀ (d : Nat) (st : BSt) (ms : MSt) (y1 y2 : Int32), Rel (d + 1) st ms → ∃ (ms' : MSt) (z k : Int32) (r : Int32 ⊕ Nat), fb_has 200 st y1 y2 = some r ∧ fm_has 200 ms y1 y2 = some (z, ms') ∧ fm_thrown 0 ms' = some k ∧ Rel d st ms' ∧ ((∃ v, r = .inl v) ∨ r = .inr 0 ∨ r = .inr 2) ∧ (KC st y1 → ((∃ v, r = .inl v ∧ k = 0 ∧ (if v = 0 then (0 : Int64) else 1) = if z = 0 then 0 else 1) ∨ (r = .inr 0 ∧ k = 1) ∨ (r = .inr 2 ∧ k = 2))) := by
  intro d st ms y1 y2 h
  by_cases c : bs_closed st = 0
  · have c' : qbs_closed ms = 0 := by rw [← h.cl]; exact c
    have e0 : fb_has 200 st y1 y2 = thn (fb_requireKept 200 st y1) fun _ => (fb_rootOf 200 y1).bind fun r5 => (fb_entryWithKey 200 st r5 y2).bind fun r7 => if (r7 : Int32) = (-1) then some (.inl 0) else some (.inl 1) := by
      rw [fb_has, fb_requireOpen, if_pos c]; rfl
    rcases kept_or h y1 with ⟨k1, k2⟩ | ⟨u, L, pl, cc, hu, rfl, k1, k2, hx, hR⟩ | ⟨hk, r, L, pl, cc, hr, k1, k2, hx, hR⟩
    · refine ⟨qbs_put_thrown 2 ms, 0, 2, .inr 2, ?_, ?_, rfl, h.thr 2, Or.inr (Or.inr rfl), fun _ => Or.inr (Or.inr ⟨rfl, rfl⟩)⟩
      · rw [e0, rk_0 k1]; rfl
      · rw [fm_has, k2, bind_s, check_2 c', bind_s, if_neg (by decide)]
    · obtain ⟨z, hz, hzz⟩ := fb_ewk (n := 200) (st := st) (show u % 8 < 8 by omega) h.p64 (by omega) hR y2
      obtain ⟨z', hz', hzz'⟩ := fm_placeE (n := 200) (ms := qbs_put_thrown 0 ms) hu h.p64 (by omega) h.sw hR y2
      have e := place_eq hR hzz hzz'
      subst e
      have e1 : fb_has 200 st (nI u) y2 = some (.inl (if z' = -1 then 0 else 1)) := by
        rw [e0, rk_1 k1]
        show (fb_rootOf 200 (nI u)).bind _ = _
        rw [hx, bind_s, hz, bind_s]; split <;> rfl
      have e2 : fm_has 200 ms (nI u) y2 = some (if z' = -1 then 0 else 1, qbs_put_thrown 0 ms) := by
        rw [fm_has, k2, bind_s, check_0 c', bind_s, if_pos rfl, hz', bind_s]; split <;> rfl
      exact ⟨_, _, 0, _, e1, e2, rfl, h.thr 0, Or.inl ⟨_, rfl⟩, fun _ => Or.inl ⟨_, rfl, rfl, rfl⟩⟩
    · obtain ⟨z, hz, hzz⟩ := fb_ewk (n := 200) (st := st) hr h.p64 (by omega) hR y2
      have e1 : fb_has 200 st y1 y2 = some (.inl (if z = -1 then 0 else 1)) := by
        rw [e0, rk_1 k1]
        show (fb_rootOf 200 y1).bind _ = _
        rw [hx, bind_s, hz, bind_s]; split <;> rfl
      refine ⟨qbs_put_thrown 2 ms, 0, 2, _, e1, ?_, rfl, h.thr 2, Or.inl ⟨_, rfl⟩, fun q => absurd q hk⟩
      rw [fm_has, k2, bind_s, check_2 c', bind_s, if_neg (by decide)]
  · have c' : ¬ qbs_closed ms = 0 := by rw [← h.cl]; exact c
    obtain ⟨b, hb⟩ := kept_some h y1
    refine ⟨qbs_put_thrown 1 ms, 0, 1, .inr 0, ?_, ?_, rfl, h.thr 1, Or.inr (Or.inl rfl), fun _ => Or.inr (Or.inl ⟨rfl, rfl⟩)⟩
    · rw [fb_has, fb_requireOpen, if_neg c]; rfl
    · rw [fm_has, hb, bind_s, check_1 _ c', bind_s, if_neg (by decide)]
theorem pr_4 : ∀ (d : Nat) (st : BSt) (ms : MSt) (y1 y2 : Int32), Rel (d + 1) st ms → ∃ (ms' : MSt) (z : Int64) (k : Int32) (r : Int64 ⊕ Nat), fb_find 200 st y1 y2 = some r ∧ fm_find 200 ms y1 y2 = some (z, ms') ∧ fm_thrown 0 ms' = some k ∧ Rel d st ms' ∧ ((∃ v, r = .inl v) ∨ r = .inr 0 ∨ r = .inr 2) ∧ (KC st y1 → ((∃ v, r = .inl v ∧ k = 0 ∧ v = z) ∨ (r = .inr 0 ∧ k = 1) ∨ (r = .inr 2 ∧ k = 2))) := by
  intro d st ms y1 y2 h
  have hp64 := h.p64
  by_cases c : bs_closed st = 0
  · have c' : qbs_closed ms = 0 := by rw [← h.cl]; exact c
    have e0 : fb_find 200 st y1 y2 = thn (fb_requireKept 200 st y1) fun _ => (fb_rootOf 200 y1).bind fun r5 => (fb_entryWithKey 200 st r5 y2).bind fun r7 => if (r7 : Int32) = (-1) then some (.inl 0) else (rdL (bs_pages st) (16 * bs_P st) (r7 + 1)).bind fun r9 => some (.inl r9) := by
      rw [fb_find, fb_requireOpen, if_pos c]; rfl
    rcases kept_or h y1 with ⟨k1, k2⟩ | ⟨u, L, pl, cc, hu, rfl, k1, k2, hx, hR⟩ | ⟨hk, r, L, pl, cc, hr, k1, k2, hx, hR⟩
    · refine ⟨qbs_put_thrown 2 ms, 0, 2, .inr 2, ?_, ?_, rfl, h.thr 2, Or.inr (Or.inr rfl), fun _ => Or.inr (Or.inr ⟨rfl, rfl⟩)⟩
      · rw [e0, rk_0 k1]; rfl
      · rw [fm_find, k2, bind_s, check_2 c', bind_s, if_neg (by decide)]
    · obtain ⟨z, hz, hzz⟩ := fb_ewk (n := 200) (st := st) (show u % 8 < 8 by omega) h.p64 (by omega) hR y2
      obtain ⟨z', hz', hzz'⟩ := fm_placeE (n := 200) (ms := qbs_put_thrown 0 ms) hu h.p64 (by omega) h.sw hR y2
      have e := place_eq hR hzz hzz'
      subst e
      have e1 : fb_find 200 st (nI u) y2 = if z' = -1 then some (.inl 0) else (rdL (bs_pages st) (16 * bs_P st) (z' + 1)).bind fun r9 => some (.inl r9) := by
        rw [e0, rk_1 k1]
        show (fb_rootOf 200 (nI u)).bind _ = _
        rw [hx, bind_s, hz, bind_s]
      have e2 : fm_find 200 ms (nI u) y2 = if z' = -1 then some (0, qbs_put_thrown 0 ms) else (rdL (qbs_words ms) 1184 (z' + 1)).bind fun r7 => some (r7, qbs_put_thrown 0 ms) := by
        rw [fm_find, k2, bind_s, check_0 c', bind_s, if_pos (by decide), hz', bind_s]
      rcases nI_lt_of hR hzz with q | ⟨a, ha, q⟩
      · rw [if_pos q] at e1 e2
        exact ⟨_, _, 0, _, e1, e2, rfl, h.thr 0, Or.inl ⟨_, rfl⟩, fun _ => Or.inl ⟨_, rfl, rfl, rfl⟩⟩
      · rw [if_neg (by rw [q]; exact nI_m1 (by omega)), q, nI_1, rdL_n (by omega) (by omega), bind_s] at e1 e2
        exact ⟨_, _, 0, _, e1, e2, rfl, h.thr 0, Or.inl ⟨_, rfl⟩, fun _ => Or.inl ⟨_, rfl, rfl, h.sw.1 _ (by omega)⟩⟩
    · obtain ⟨z, hz, hzz⟩ := fb_ewk (n := 200) (st := st) hr h.p64 (by omega) hR y2
      have e1 : ∃ w, fb_find 200 st y1 y2 = some (.inl w) := by
        rw [e0, rk_1 k1]
        show ∃ w, (fb_rootOf 200 y1).bind _ = _
        rw [hx, bind_s, hz, bind_s]
        rcases nI_lt_of hR hzz with q | ⟨a, ha, q⟩
        · exact ⟨_, by rw [if_pos q]⟩
        · exact ⟨_, by rw [if_neg (by rw [q]; exact nI_m1 (by omega)), q, nI_1, rdL_n (by omega) (by omega), bind_s]⟩
      obtain ⟨w, e1⟩ := e1
      refine ⟨qbs_put_thrown 2 ms, 0, 2, _, e1, ?_, rfl, h.thr 2, Or.inl ⟨_, rfl⟩, fun q => absurd q hk⟩
      rw [fm_find, k2, bind_s, check_2 c', bind_s, if_neg (by decide)]
  · have c' : ¬ qbs_closed ms = 0 := by rw [← h.cl]; exact c
    obtain ⟨b, hb⟩ := kept_some h y1
    refine ⟨qbs_put_thrown 1 ms, 0, 1, .inr 0, ?_, ?_, rfl, h.thr 1, Or.inr (Or.inl rfl), fun _ => Or.inr (Or.inl ⟨rfl, rfl⟩)⟩
    · rw [fb_find, fb_requireOpen, if_neg c]; rfl
    · rw [fm_find, hb, bind_s, check_1 _ c', bind_s, if_neg (by decide)]
theorem pr_5 : ∀ (d : Nat) (st : BSt) (ms : MSt) (y1 y2 : Int32), Rel (d + 1) st ms → ∃ (ms' : MSt) (z k : Int32) (r : Int32 ⊕ Nat), fb_count 200 st y1 y2 = some r ∧ fm_count 200 ms y1 y2 = some (z, ms') ∧ fm_thrown 0 ms' = some k ∧ Rel d st ms' ∧ ((∃ v, r = .inl v) ∨ r = .inr 0 ∨ r = .inr 2 ∨ r = .inr 1) ∧ (KC st y1 → ((∃ v, r = .inl v ∧ k = 0 ∧ v.toInt64 = z.toInt64) ∨ (r = .inr 0 ∧ k = 1) ∨ (r = .inr 2 ∧ k = 2) ∨ (r = .inr 1 ∧ k = 3))) := by
  intro d st ms y1 y2 h
  by_cases c : bs_closed st = 0
  · have c' : qbs_closed ms = 0 := by rw [← h.cl]; exact c
    have e0 : ∀ r, r < 8 → fb_isKept 200 st y1 = some 1 → fb_rootOf 200 y1 = some (nI r) → fb_count 200 st y1 y2 = if y2 = 0 then some (.inl (bs_roots st (20 * r + 18)).toInt32) else if y2 = 1 then some (.inl (bs_roots st (20 * r + 1)).toInt32) else some (.inr 1) := by
      intro r hr hk hx
      rw [fb_count, fb_requireOpen, if_pos c]
      show thn (fb_requireKept 200 st y1) _ = _
      rw [rk_1 hk]
      show (if y2 = 0 then _ else _) = _
      rw [hx, bind_s, fb_entriesRE hr, fb_leavesOfE hr]
      by_cases q0 : y2 = 0
      · rw [if_pos q0, if_pos q0, if_pos q0]; rfl
      · rw [if_neg q0, if_neg q0, if_neg q0]; rfl
    have m2 : fm_isKept 200 ms y1 = some 0 → fm_count 200 ms y1 y2 = some (0, qbs_put_thrown 2 (qbs_put_thrown 2 ms)) := by
      intro k2
      rw [fm_count, k2, bind_s, check_2 c', bind_s, if_neg (by decide), fm_count_38, if_neg (by decide)]
    rcases kept_or h y1 with ⟨k1, k2⟩ | ⟨u, L, pl, cc, hu, rfl, k1, k2, hx, hR⟩ | ⟨hk, r, L, pl, cc, hr, k1, k2, hx, hR⟩
    · refine ⟨qbs_put_thrown 2 (qbs_put_thrown 2 ms), 0, 2, .inr 2, ?_, m2 k2, rfl, h.thr 2, Or.inr (Or.inr (Or.inl rfl)), fun _ => Or.inr (Or.inr (Or.inl ⟨rfl, rfl⟩))⟩
      rw [fb_count, fb_requireOpen, if_pos c]
      show thn (fb_requireKept 200 st y1) _ = _
      rw [rk_0 k1]; rfl
    · have e1 := e0 (u % 8) (by omega) k1 hx
      have e2 : ∀ t, fm_count_38 200 (qbs_put_thrown 0 ms) (nI u) y2 t = if t ≤ 0 then (if y2 = 0 then some ((bs_roots st (20 * (u % 8) + 18)).toInt32, qbs_put_thrown t (qbs_put_thrown 0 ms)) else some ((bs_roots st (20 * (u % 8) + 1)).toInt32, qbs_put_thrown t (qbs_put_thrown 0 ms))) else some (0, qbs_put_thrown t (qbs_put_thrown 0 ms)) := by
        intro t
        rw [fm_count_38, fm_entriesE (ms := qbs_put_thrown t (qbs_put_thrown 0 ms)) hu h.sw, fm_leavesE (ms := qbs_put_thrown t (qbs_put_thrown 0 ms)) hu h.sw, bind_s, bind_s]
      have e3 : fm_count 200 ms (nI u) y2 = if y2 = 0 then fm_count_38 200 (qbs_put_thrown 0 ms) (nI u) y2 0 else if y2 = 1 then fm_count_38 200 (qbs_put_thrown 0 ms) (nI u) y2 0 else fm_count_38 200 (qbs_put_thrown 0 ms) (nI u) y2 3 := by
        rw [fm_count, k2, bind_s, check_0 c', bind_s, if_pos rfl]
      by_cases q0 : y2 = 0
      · rw [if_pos q0] at e1 e3
        rw [e2, if_pos (by decide), if_pos q0] at e3
        exact ⟨_, _, 0, _, e1, e3, rfl, h.thr 0, Or.inl ⟨_, rfl⟩, fun _ => Or.inl ⟨_, rfl, rfl, rfl⟩⟩
      · by_cases q1 : y2 = 1
        · rw [if_neg q0, if_pos q1] at e1 e3
          rw [e2, if_pos (by decide), if_neg q0] at e3
          exact ⟨_, _, 0, _, e1, e3, rfl, h.thr 0, Or.inl ⟨_, rfl⟩, fun _ => Or.inl ⟨_, rfl, rfl, rfl⟩⟩
        · rw [if_neg q0, if_neg q1] at e1 e3
          rw [e2, if_neg (by decide)] at e3
          exact ⟨_, _, 3, _, e1, e3, rfl, h.thr 3, Or.inr (Or.inr (Or.inr rfl)), fun _ => Or.inr (Or.inr (Or.inr ⟨rfl, rfl⟩))⟩
    · have e1 := e0 r hr k1 hx
      have : ∃ w : Int32 ⊕ Nat, fb_count 200 st y1 y2 = some w ∧ ((∃ v, w = .inl v) ∨ w = .inr 0 ∨ w = .inr 2 ∨ w = .inr 1) := by
        rw [e1]
        split
        · exact ⟨_, rfl, Or.inl ⟨_, rfl⟩⟩
        · split
          · exact ⟨_, rfl, Or.inl ⟨_, rfl⟩⟩
          · exact ⟨_, rfl, Or.inr (Or.inr (Or.inr rfl))⟩
      obtain ⟨w, ew, hw⟩ := this
      exact ⟨_, _, 2, w, ew, m2 k2, rfl, h.thr 2, hw, fun q => absurd q hk⟩
  · have c' : ¬ qbs_closed ms = 0 := by rw [← h.cl]; exact c
    obtain ⟨b, hb⟩ := kept_some h y1
    refine ⟨qbs_put_thrown 1 (qbs_put_thrown 1 ms), 0, 1, .inr 0, ?_, ?_, rfl, h.thr 1, Or.inr (Or.inl rfl), fun _ => Or.inr (Or.inl ⟨rfl, rfl⟩)⟩
    · rw [fb_count, fb_requireOpen, if_neg c]; rfl
    · rw [fm_count, hb, bind_s, check_1 _ c', bind_s, if_neg (by decide), fm_count_38, if_neg (by decide)]
