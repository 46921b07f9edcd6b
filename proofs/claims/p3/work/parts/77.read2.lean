/-! key, same -/
theorem fb_ebn18 (n : Nat) (st : BSt) {r L : Nat} {pl c : Nat → Nat} (hr : r < 8) (hP : bs_P st ≤ 64) (h : RR (bs_P st) (bs_pages st) (bs_roots st) r L pl c) (m : Nat) : ∀ (f j k : Nat), j + m = L → m < f → k < 2 ^ 31 → fb_entryByNumber_18 n f st (nI r) (nI k) (nI L) (nI j) = some (if k < csum c m j then nI (eat pl c m j k) else -1) := by
  have h16 := h.l16
  induction m with
  | zero =>
    intro f j k h1 h2 h3
    obtain ⟨f, rfl⟩ : ∃ i, f = i + 1 := ⟨f - 1, by omega⟩
    rw [fb_entryByNumber_18, if_pos (nI_le (by omega) (by omega)), csum, if_neg (by omega)]
  | succ m ih =>
    intro f j k h1 h2 h3
    obtain ⟨f, rfl⟩ : ∃ i, f = i + 1 := ⟨f - 1, by omega⟩
    have hc7 := h.c7 j (by omega)
    rw [fb_entryByNumber_18, if_neg (nI_ge (by omega) (by omega)), fb_pageOfE hr (by omega), bind_s, h.pq j (by omega), lN_i, fb_entriesE (h.pp j (by omega)) hP, bind_s, h.cg j (by omega), lN_i, csum, eat]
    by_cases q : k < c j
    · rw [if_neg (nI_ge q (by omega)), fb_entryAtE, bind_s, if_pos (by omega), if_pos q]
    · rw [if_pos (nI_le (by omega) (by omega)), pk_sub (by omega), nI_1, ih f (j + 1) (k - c j) (by omega) (by omega) (by omega), if_neg q]
      by_cases q2 : k - c j < csum c m (j + 1)
      · rw [if_pos q2, if_pos (by omega)]
      · rw [if_neg q2, if_neg (by omega)]
theorem fb_ebn {n : Nat} {st : BSt} {r L k : Nat} {pl c : Nat → Nat} (hr : r < 8) (hP : bs_P st ≤ 64) (hn : 20 < n) (h : RR (bs_P st) (bs_pages st) (bs_roots st) r L pl c) (hk : k < 2 ^ 31) : fb_entryByNumber n st (nI r) (nI k) = some (if k < csum c L 0 then nI (eat pl c L 0 k) else -1) := by
  have h16 := h.l16
  rw [fb_entryByNumber, if_pos (nI_pos' hk), fb_leavesOfE hr, bind_s, h.lv, lN_i]
  exact fb_ebn18 n st hr hP h L n 0 k (by omega) (by omega) hk
theorem pr_6 : ∀ (d : Nat) (st : BSt) (ms : MSt) (y1 y2 : Int32), Rel (d + 1) st ms → ∃ (ms' : MSt) (z k : Int32) (r : Int32 ⊕ Nat), fb_key 200 st y1 y2 = some r ∧ fm_key 200 ms y1 y2 = some (z, ms') ∧ fm_thrown 0 ms' = some k ∧ Rel d st ms' ∧ ((∃ v, r = .inl v) ∨ r = .inr 0 ∨ r = .inr 2) ∧ (KC st y1 → ((∃ v, r = .inl v ∧ k = 0 ∧ v.toInt64 = z.toInt64) ∨ (r = .inr 0 ∧ k = 1) ∨ (r = .inr 2 ∧ k = 2))) := by
  intro d st ms y1 y2 h
  have hp64 := h.p64
  have no : fm_key_30 200 ms y1 y2 0 = if qbs_closed ms = 0 then some (0, qbs_put_thrown 2 ms) else some (0, qbs_put_thrown 1 ms) := by
    rw [fm_key_30]
    by_cases c' : qbs_closed ms = 0
    · rw [check_2 c', bind_s, if_neg (by decide), if_pos c']
    · rw [check_1 _ c', bind_s, if_neg (by decide), if_neg c']
  by_cases c : bs_closed st = 0
  · have c' : qbs_closed ms = 0 := by rw [← h.cl]; exact c
    rw [if_pos c'] at no
    have e0 : fb_key 200 st y1 y2 = thn (fb_requireKept 200 st y1) fun _ => (fb_rootOf 200 y1).bind fun r5 => (fb_entryByNumber 200 st r5 y2).bind fun r7 => if (r7 : Int32) = (-1) then some (.inr 2) else (rdL (bs_pages st) (16 * bs_P st) r7).bind fun r9 => some (.inl r9.toInt32) := by
      rw [fb_key, fb_requireOpen, if_pos c]; rfl
    have cls : ∀ r L pl cc, r < 8 → RR (bs_P st) (bs_pages st) (bs_roots st) r L pl cc → fb_isKept 200 st y1 = some 1 → fb_rootOf 200 y1 = some (nI r) → (fb_key 200 st y1 y2 = some (.inr 2) ∧ (y2 < 0 ∨ ∃ k, y2 = nI k ∧ k < 2 ^ 31 ∧ ¬ k < csum cc L 0)) ∨ ∃ k, y2 = nI k ∧ k < csum cc L 0 ∧ fb_key 200 st y1 y2 = some (.inl (bs_pages st (eat pl cc L 0 k)).toInt32) := by
      intro r L pl cc hr hR k1 hx
      have e1 : fb_key 200 st y1 y2 = (fb_entryByNumber 200 st (nI r) y2).bind fun r7 => if (r7 : Int32) = (-1) then some (.inr 2) else (rdL (bs_pages st) (16 * bs_P st) r7).bind fun r9 => some (.inl r9.toInt32) := by
        rw [e0, rk_1 k1]
        show (fb_rootOf 200 y1).bind _ = _
        rw [hx, bind_s]
      rw [e1]
      by_cases y0 : 0 ≤ y2
      · obtain ⟨k, hk, rfl⟩ := nI_of (Int32.not_lt.mpr y0)
        rw [fb_ebn hr h.p64 (by omega) hR hk, bind_s]
        by_cases q : k < csum cc L 0
        · right
          have hlt := hR.eat_lt q
          refine ⟨k, rfl, q, ?_⟩
          rw [if_pos q, if_neg (nI_m1 (by omega)), rdL_n (by omega) (by omega), bind_s]
        · left
          rw [if_neg q, if_pos rfl]
          exact ⟨rfl, Or.inr ⟨k, rfl, hk, q⟩⟩
      · left
        rw [fb_entryByNumber, if_neg y0, bind_s, if_pos rfl]
        exact ⟨rfl, Or.inl (Int32.not_le.mp y0)⟩
    rcases kept_or h y1 with ⟨k1, k2⟩ | ⟨u, L, pl, cc, hu, rfl, k1, k2, hx, hR⟩ | ⟨hk, r, L, pl, cc, hr, k1, k2, hx, hR⟩
    · refine ⟨qbs_put_thrown 2 ms, 0, 2, .inr 2, ?_, ?_, rfl, h.thr 2, Or.inr (Or.inr rfl), fun _ => Or.inr (Or.inr ⟨rfl, rfl⟩)⟩
      · rw [e0, rk_0 k1]; rfl
      · rw [fm_key, k2, bind_s, if_pos rfl, no]
    · have hb := hR.bnd
      rcases cls (u % 8) L pl cc (by omega) hR k1 hx with ⟨e1, hy⟩ | ⟨k, rfl, hk, e1⟩
      · refine ⟨qbs_put_thrown 2 ms, 0, 2, .inr 2, e1, ?_, rfl, h.thr 2, Or.inr (Or.inr rfl), fun _ => Or.inr (Or.inr ⟨rfl, rfl⟩)⟩
        rw [fm_key, k2, bind_s, if_neg (by decide), no]
        rcases hy with hy | ⟨k, rfl, hk, hk2⟩
        · rw [if_pos hy]
        · rw [if_neg (nI_pos hk), fm_entriesE hu h.sw, bind_s, hR.en, lN_i, if_pos (nI_le (by omega) hk)]
      · have hlt := hR.eat_lt hk
        refine ⟨qbs_put_thrown 0 ms, (bs_pages st (eat pl cc L 0 k)).toInt32, 0, _, e1, ?_, rfl, h.thr 0, Or.inl ⟨_, rfl⟩, fun _ => Or.inl ⟨_, rfl, rfl, rfl⟩⟩
        rw [fm_key, k2, bind_s, if_neg (by decide), if_neg (nI_pos (by omega)), fm_entriesE hu h.sw, bind_s, hR.en, lN_i, if_neg (nI_ge hk (by omega)), fm_key_30, check_0 c', bind_s, if_pos (by decide), fm_ent (ms := qbs_put_thrown 0 ms) hu h.p64 (by omega) h.sw hR hk, bind_s, rdL_n (by omega) (by omega), bind_s, sw_p h.sw (by omega)]
    · have m2 : fm_key 200 ms y1 y2 = some (0, qbs_put_thrown 2 ms) := by rw [fm_key, k2, bind_s, if_pos rfl, no]
      rcases cls r L pl cc hr hR k1 hx with ⟨e1, hy⟩ | ⟨k, -, hk2, e1⟩
      · exact ⟨_, _, 2, _, e1, m2, rfl, h.thr 2, Or.inr (Or.inr rfl), fun q => absurd q hk⟩
      · exact ⟨_, _, 2, _, e1, m2, rfl, h.thr 2, Or.inl ⟨_, rfl⟩, fun q => absurd q hk⟩
  · have c' : ¬ qbs_closed ms = 0 := by rw [← h.cl]; exact c
    rw [if_neg c'] at no
    refine ⟨qbs_put_thrown 1 ms, 0, 1, .inr 0, ?_, ?_, rfl, h.thr 1, Or.inr (Or.inl rfl), fun _ => Or.inr (Or.inl ⟨rfl, rfl⟩)⟩
    · rw [fb_key, fb_requireOpen, if_neg c]; rfl
    · have yes : fm_key_30 200 ms y1 y2 1 = some (0, qbs_put_thrown 1 ms) := by rw [fm_key_30, check_1 _ c', bind_s, if_neg (by decide)]
      rcases kept_or h y1 with ⟨k1, k2⟩ | ⟨u, L, pl, cc, hu, rfl, k1, k2, hx, hR⟩ | ⟨hk, r, L, pl, cc, hr, k1, k2, hx, hR⟩
      · rw [fm_key, k2, bind_s, if_pos rfl, no]
      · rw [fm_key, k2, bind_s, if_neg (by decide), fm_entriesE hu h.sw, bind_s, no, yes]
        split
        · rfl
        · split <;> rfl
      · rw [fm_key, k2, bind_s, if_pos rfl, no]
/-- the entries of two roots, held against each other -/
def smGo (g : Nat → Int64) (a b : Nat → Nat) : Nat → Nat → Bool
  | 0, _ => true
  | m + 1, k => decide (g (a k) = g (b k)) && (decide (g (a k + 1) = g (b k + 1)) && smGo g a b m (k + 1))
theorem fb_sm20 (n : Nat) (st : BSt) {r L r2 L2 : Nat} {pl c pl2 c2 : Nat → Nat} (hr : r < 8) (hr2 : r2 < 8) (hP : bs_P st ≤ 64) (hn : 20 < n) (h : RR (bs_P st) (bs_pages st) (bs_roots st) r L pl c) (h2 : RR (bs_P st) (bs_pages st) (bs_roots st) r2 L2 pl2 c2) (he : csum c L 0 = csum c2 L2 0) (m : Nat) : ∀ (f k : Nat), k + m = csum c L 0 → m < f → fb_haveSameEntries_20 n f st (nI r) (nI r2) (nI (csum c L 0)) (nI k) = some (b2i (smGo (bs_pages st) (eat pl c L 0) (eat pl2 c2 L2 0) m k)) := by
  have hb := h.bnd
  induction m with
  | zero =>
    intro f k h1 h3
    obtain ⟨f, rfl⟩ : ∃ i, f = i + 1 := ⟨f - 1, by omega⟩
    rw [fb_haveSameEntries_20, if_pos (nI_le (by omega) (by omega))]; rfl
  | succ m ih =>
    intro f k h1 h3
    obtain ⟨f, rfl⟩ : ∃ i, f = i + 1 := ⟨f - 1, by omega⟩
    have l1 := h.eat_lt (show k < csum c L 0 by omega)
    have l2 := h2.eat_lt (show k < csum c2 L2 0 by omega)
    rw [fb_haveSameEntries_20, if_neg (nI_ge (by omega) (by omega)), fb_ebn hr hP hn h (by omega), bind_s, fb_ebn hr2 hP hn h2 (by omega), bind_s, if_pos (show k < csum c L 0 by omega), if_pos (show k < csum c2 L2 0 by omega), if_neg (nI_m1 (by omega)), if_neg (nI_m1 (by omega)), rdL_n (by omega) (by omega), bind_s, rdL_n (by omega) (by omega), bind_s, smGo]
    by_cases q : bs_pages st (eat pl c L 0 k) = bs_pages st (eat pl2 c2 L2 0 k)
    · rw [if_pos (lgc_eq.mpr q), nI_1, nI_1, rdL_n (by omega) (by omega), bind_s, rdL_n (by omega) (by omega), bind_s, nI_1]
      by_cases q2 : bs_pages st (eat pl c L 0 k + 1) = bs_pages st (eat pl2 c2 L2 0 k + 1)
      · rw [if_pos (lgc_eq.mpr q2), ih f (k + 1) (by omega) (by omega)]; simp [q, q2]
      · rw [if_neg (fun e => q2 (lgc_eq.mp e))]; simp [q2, b2i]
    · rw [if_neg (fun e => q (lgc_eq.mp e))]; simp [q, b2i]
theorem fm_sm60_0 (n f : Nat) (st : MSt) (x1 x2 x4 : Int32) : fm_same_60 n (f + 1) st x1 x2 0 x4 = some (0, st) := rfl
theorem fm_sm60 (n : Nat) (ms : MSt) {P : Nat} {g q : Nat → Int64} {u u2 L L2 : Nat} {pl c pl2 c2 : Nat → Nat} (hu : u < 2 ^ 31) (hu2 : u2 < 2 ^ 31) (hP : P ≤ 64) (hn : 20 < n) (hw : SameW P g q (qbs_words ms)) (h : RR P g q (u % 8) L pl c) (h2 : RR P g q (u2 % 8) L2 pl2 c2) (he : csum c L 0 = csum c2 L2 0) (m : Nat) : ∀ (f k : Nat), k + m = csum c L 0 → m + 1 < f → fm_same_60 n f ms (nI u) (nI u2) 1 (nI k) = some (b2i (smGo g (eat pl c L 0) (eat pl2 c2 L2 0) m k), ms) := by
  have hb := h.bnd
  induction m with
  | zero =>
    intro f k h1 h3
    obtain ⟨f, rfl⟩ : ∃ i, f = i + 1 := ⟨f - 1, by omega⟩
    rw [fm_same_60, if_neg (by decide), fm_entriesE hu hw, bind_s, h.en, lN_i, if_pos (nI_le (by omega) (by omega))]; rfl
  | succ m ih =>
    intro f k h1 h3
    obtain ⟨f, rfl⟩ : ∃ i, f = i + 1 + 1 := ⟨f - 2, by omega⟩
    have l1 := h.eat_lt (show k < csum c L 0 by omega)
    have l2 := h2.eat_lt (show k < csum c2 L2 0 by omega)
    rw [fm_same_60, if_neg (by decide), fm_entriesE hu hw, bind_s, h.en, lN_i, if_neg (nI_ge (by omega) (by omega)), fm_ent hu hP hn hw h (by omega), bind_s, fm_ent hu2 hP hn hw h2 (by omega), bind_s, rdL_n (by omega) (by omega), bind_s, rdL_n (by omega) (by omega), bind_s, sw_p hw (by omega), sw_p hw (by omega), smGo]
    by_cases q : g (eat pl c L 0 k) = g (eat pl2 c2 L2 0 k)
    · rw [if_pos (lgc_eq.mpr q), nI_1, nI_1, rdL_n (by omega) (by omega), bind_s, rdL_n (by omega) (by omega), bind_s, nI_1, sw_p hw (by omega), sw_p hw (by omega)]
      by_cases q2 : g (eat pl c L 0 k + 1) = g (eat pl2 c2 L2 0 k + 1)
      · rw [if_pos (lgc_eq.mpr q2), ih (f + 1) (k + 1) (by omega) (by omega)]; simp [q, q2]
      · rw [if_neg (fun e => q2 (lgc_eq.mp e)), fm_sm60_0]; simp [q2, b2i]
    · rw [if_neg (fun e => q (lgc_eq.mp e)), fm_sm60_0]; simp [q, b2i]
theorem zb_b (b : Bool) : zb (b2i b) = some (b2i b) := by cases b <;> rfl
def smE (g : Nat → Int64) (pl c pl2 c2 : Nat → Nat) (L L2 : Nat) : Bool := decide (csum c L 0 = csum c2 L2 0) && smGo g (eat pl c L 0) (eat pl2 c2 L2 0) (csum c L 0) 0
theorem fb_smE {st : BSt} {r L r2 L2 : Nat} {pl c pl2 c2 : Nat → Nat} (hr : r < 8) (hr2 : r2 < 8) (hP : bs_P st ≤ 64) (h : RR (bs_P st) (bs_pages st) (bs_roots st) r L pl c) (h2 : RR (bs_P st) (bs_pages st) (bs_roots st) r2 L2 pl2 c2) : fb_haveSameEntries 200 st (nI r) (nI r2) = some (b2i (smE (bs_pages st) pl c pl2 c2 L L2)) := by
  have hb := h.bnd
  have hb2 := h2.bnd
  rw [fb_haveSameEntries, fb_entriesRE hr, bind_s, fb_entriesRE hr2, bind_s, h.en, h2.en, lN_i, lN_i, smE]
  by_cases q : csum c L 0 = csum c2 L2 0
  · rw [if_pos (by rw [q]), decide_eq_true q, Bool.true_and]
    exact fb_sm20 200 st hr hr2 hP (by omega) h h2 q (csum c L 0) 200 0 (by omega) (by omega)
  · rw [if_neg (fun e => q ((nI_eq (by omega) (by omega)).mp e)), decide_eq_false q]; rfl
theorem pr_7 : ∀ (d : Nat) (st : BSt) (ms : MSt) (y1 y2 : Int32), Rel (d + 1) st ms → ∃ (ms' : MSt) (z k : Int32) (r : Int32 ⊕ Nat), fb_same 200 st y1 y2 = some r ∧ fm_same 200 ms y1 y2 = some (z, ms') ∧ fm_thrown 0 ms' = some k ∧ Rel d st ms' ∧ ((∃ v, r = .inl v) ∨ r = .inr 0 ∨ r = .inr 2) ∧ (KC st y1 → KC st y2 → ((∃ v, r = .inl v ∧ k = 0 ∧ (if v = 0 then (0 : Int64) else 1) = if z = 0 then 0 else 1) ∨ (r = .inr 0 ∧ k = 1) ∨ (r = .inr 2 ∧ k = 2))) := by
  intro d st ms y1 y2 h
  have hp64 := h.p64
  by_cases c : bs_closed st = 0
  · have c' : qbs_closed ms = 0 := by rw [← h.cl]; exact c
    have e0 : fb_same 200 st y1 y2 = thn (fb_requireKept 200 st y1) fun _ => thn (fb_requireKept 200 st y2) fun _ => (fb_rootOf 200 y1).bind fun r7 => (fb_rootOf 200 y2).bind fun r9 => (fb_haveSameEntries 200 st r7 r9).bind fun r11 => (zb r11).bind fun _ => some (.inl r11) := by
      rw [fb_same, fb_requireOpen, if_pos c]; rfl
    have no : fm_same_23 200 ms y1 y2 0 = some (0, qbs_put_thrown 2 ms) := by rw [fm_same_23, check_2 c', bind_s, if_neg (by decide)]
    have val : ∀ r L pl cc r2 L2 pl2 cc2, r < 8 → r2 < 8 → RR (bs_P st) (bs_pages st) (bs_roots st) r L pl cc → RR (bs_P st) (bs_pages st) (bs_roots st) r2 L2 pl2 cc2 → fb_isKept 200 st y1 = some 1 → fb_isKept 200 st y2 = some 1 → fb_rootOf 200 y1 = some (nI r) → fb_rootOf 200 y2 = some (nI r2) → fb_same 200 st y1 y2 = some (.inl (b2i (smE (bs_pages st) pl cc pl2 cc2 L L2))) := by
      intro r L pl cc r2 L2 pl2 cc2 hr hr2 hR hR2 k1 k2 x1 x2
      rw [e0, rk_1 k1]
      show thn (fb_requireKept 200 st y2) _ = _
      rw [rk_1 k2]
      show (fb_rootOf 200 y1).bind _ = _
      rw [x1, bind_s, x2, bind_s, fb_smE hr hr2 h.p64 hR hR2, bind_s, zb_b, bind_s]
    have thr : fb_same 200 st y1 y2 = some (.inr 2) → fm_same 200 ms y1 y2 = some (0, qbs_put_thrown 2 ms) → ∃ (ms' : MSt) (z k : Int32) (r : Int32 ⊕ Nat), fb_same 200 st y1 y2 = some r ∧ fm_same 200 ms y1 y2 = some (z, ms') ∧ fm_thrown 0 ms' = some k ∧ Rel d st ms' ∧ ((∃ v, r = .inl v) ∨ r = .inr 0 ∨ r = .inr 2) ∧ (KC st y1 → KC st y2 → ((∃ v, r = .inl v ∧ k = 0 ∧ (if v = 0 then (0 : Int64) else 1) = if z = 0 then 0 else 1) ∨ (r = .inr 0 ∧ k = 1) ∨ (r = .inr 2 ∧ k = 2))) :=
      fun a b => ⟨_, _, 2, _, a, b, rfl, h.thr 2, Or.inr (Or.inr rfl), fun _ _ => Or.inr (Or.inr ⟨rfl, rfl⟩)⟩
    have t1 : fb_isKept 200 st y1 = some 0 → fb_same 200 st y1 y2 = some (.inr 2) := fun k1 => by rw [e0, rk_0 k1]; rfl
    have t2 : fb_isKept 200 st y1 = some 1 → fb_isKept 200 st y2 = some 0 → fb_same 200 st y1 y2 = some (.inr 2) := fun k1 k2 => by
      rw [e0, rk_1 k1]
      show thn (fb_requireKept 200 st y2) _ = _
      rw [rk_0 k2]; rfl
    have m1 : fm_isKept 200 ms y1 = some 0 → fm_same 200 ms y1 y2 = some (0, qbs_put_thrown 2 ms) := fun k1 => by rw [fm_same, k1, bind_s, if_pos rfl, no]
    have m2 : fm_isKept 200 ms y1 = some 1 → fm_isKept 200 ms y2 = some 0 → fm_same 200 ms y1 y2 = some (0, qbs_put_thrown 2 ms) := fun k1 k2 => by rw [fm_same, k1, bind_s, if_neg (by decide), k2, bind_s, if_pos rfl, no]
    rcases kept_or h y1 with ⟨k1, k2⟩ | ⟨u, L, pl, cc, hu, hy, k1, k2, hx, hR⟩ | ⟨hk, r, L, pl, cc, hr, k1, k2, hx, hR⟩
    · exact thr (t1 k1) (m1 k2)
    · rcases kept_or h y2 with ⟨k3, k4⟩ | ⟨u2, L2, pl2, cc2, hu2, hy2, k3, k4, hx2, hR2⟩ | ⟨hk2, r2, L2, pl2, cc2, hr2, k3, k4, hx2, hR2⟩
      · exact thr (t2 k1 k3) (m2 k2 k4)
      · have e1 := val (u % 8) L pl cc (u2 % 8) L2 pl2 cc2 (by omega) (by omega) hR hR2 k1 k3 hx hx2
        have hb := hR.bnd
        have hb2 := hR2.bnd
        refine ⟨qbs_put_thrown 0 ms, b2i (smE (bs_pages st) pl cc pl2 cc2 L L2), 0, _, e1, ?_, rfl, h.thr 0, Or.inl ⟨_, rfl⟩, fun _ _ => Or.inl ⟨_, rfl, rfl, rfl⟩⟩
        rw [fm_same, k2, bind_s, if_neg (by decide), k4, bind_s, if_neg (by decide), fm_same_23, check_0 c', bind_s, if_pos (by decide), hy, hy2, fm_entriesE (ms := qbs_put_thrown 0 ms) hu h.sw, bind_s, fm_entriesE (ms := qbs_put_thrown 0 ms) hu2 h.sw, bind_s, hR.en, hR2.en, lN_i, lN_i, smE]
        by_cases q : csum cc L 0 = csum cc2 L2 0
        · rw [if_pos (by rw [q]), decide_eq_true q, Bool.true_and]
          exact fm_sm60 200 (qbs_put_thrown 0 ms) hu hu2 h.p64 (by omega) h.sw hR hR2 q (csum cc L 0) 200 0 (by omega) (by omega)
        · rw [if_neg (fun e => q ((nI_eq (by omega) (by omega)).mp e)), decide_eq_false q]; rfl
      · exact ⟨_, _, 2, _, val (u % 8) L pl cc r2 L2 pl2 cc2 (by omega) hr2 hR hR2 k1 k3 hx hx2, m2 k2 k4, rfl, h.thr 2, Or.inl ⟨_, rfl⟩, fun _ q => absurd q hk2⟩
    · rcases kept_or h y2 with ⟨k3, k4⟩ | ⟨u2, L2, pl2, cc2, hu2, hy2, k3, k4, hx2, hR2⟩ | ⟨hk2, r2, L2, pl2, cc2, hr2, k3, k4, hx2, hR2⟩
      · exact thr (t2 k1 k3) (m1 k2)
      · exact ⟨_, _, 2, _, val r L pl cc (u2 % 8) L2 pl2 cc2 hr (by omega) hR hR2 k1 k3 hx hx2, m1 k2, rfl, h.thr 2, Or.inl ⟨_, rfl⟩, fun q _ => absurd q hk⟩
      · exact ⟨_, _, 2, _, val r L pl cc r2 L2 pl2 cc2 hr hr2 hR hR2 k1 k3 hx hx2, m1 k2, rfl, h.thr 2, Or.inl ⟨_, rfl⟩, fun q _ => absurd q hk⟩
  · have c' : ¬ qbs_closed ms = 0 := by rw [← h.cl]; exact c
    obtain ⟨b, hb⟩ := kept_some h y1
    obtain ⟨b2, hb2⟩ := kept_some h y2
    refine ⟨qbs_put_thrown 1 ms, 0, 1, .inr 0, ?_, ?_, rfl, h.thr 1, Or.inr (Or.inl rfl), fun _ _ => Or.inr (Or.inl ⟨rfl, rfl⟩)⟩
    · rw [fb_same, fb_requireOpen, if_neg c]; rfl
    · have e : ∀ x, fm_same_23 200 ms y1 y2 x = some (0, qbs_put_thrown 1 ms) := fun x => by rw [fm_same_23, check_1 _ c', bind_s, if_neg (by decide)]
      rw [fm_same, hb, bind_s, hb2, bind_s, e, e]
      split
      · rfl
      · split <;> rfl
