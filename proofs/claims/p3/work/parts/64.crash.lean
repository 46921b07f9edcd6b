/-! CUT: the words that were before come back -/
def cw (g q : Nat → Int64) (x : Nat) : Int64 := if x < 1024 then g x else q (x - 1024)
theorem cw_p {g q : Nat → Int64} {a : Nat} {v : Int64} (h : a < 1024) : cw (vp_updL g a v) q = vp_updL (cw g q) a v := by
  funext x; unfold cw vp_updL
  by_cases c : x = a
  · rw [if_pos (by omega), if_pos c, if_pos c]
  · rw [if_neg c, if_neg c]
theorem cw_r {g q : Nat → Int64} {a : Nat} {v : Int64} : cw g (vp_updL q a v) = vp_updL (cw g q) (1024 + a) v := by
  funext x; unfold cw vp_updL
  by_cases c : x = 1024 + a
  · rw [if_neg (by omega), if_pos (by omega), if_pos c]
  · by_cases c2 : x < 1024
    · rw [if_pos c2, if_neg c]; exact (if_pos c2).symm
    · rw [if_neg c2, if_neg (by omega), if_neg c]; exact (if_neg c2).symm
/-- a row of words put at their places, whatever the order -/
def Rst (A : Nat → Nat) (b : Nat → Int64) (k E : Nat) (w w' : Nat → Int64) : Prop := (∀ i, k ≤ i → i < E → w' (A i) = b i) ∧ ∀ x, (∀ i, k ≤ i → i < E → A i ≠ x) → w' x = w x
theorem Rst.up {A : Nat → Nat} {b : Nat → Int64} {k E : Nat} {w w' : Nat → Int64} (hk : k < E) (hA : ∀ i j, i < E → j < E → A i = A j → i = j) (h : Rst A b (k + 1) E (vp_updL w (A k) (b k)) w') : Rst A b k E w w' := by
  refine ⟨fun i h1 h2 => ?_, fun x hx => ?_⟩
  · by_cases c : i = k
    · subst c
      rw [h.2 (A i) (fun j h3 h4 e => by have := hA j i h4 h2 e; omega), pk_uLs]
    · exact h.1 i (by omega) h2
  · rw [h.2 x (fun i h3 h4 => hx i (by omega) h4), pk_uLn (fun e => hx k (Nat.le_refl _) hk e.symm)]
theorem Rst.down {A : Nat → Nat} {b : Nat → Int64} {k e : Nat} {w w' : Nat → Int64} (hk : k ≤ e) (hA : ∀ i j, i < e + 1 → j < e + 1 → A i = A j → i = j) (h : Rst A b k e (vp_updL w (A e) (b e)) w') : Rst A b k (e + 1) w w' := by
  refine ⟨fun i h1 h2 => ?_, fun x hx => ?_⟩
  · by_cases c : i = e
    · subst c
      rw [h.2 (A i) (fun j h3 h4 q => by have := hA j i (by omega) h2 q; omega), pk_uLs]
    · exact h.1 i h1 (by omega)
  · rw [h.2 x (fun i h3 h4 => hx i h3 (by omega)), pk_uLn (fun q => hx e hk (by omega) q.symm)]
theorem Rst.none {A : Nat → Nat} {b : Nat → Int64} {k E : Nat} {w : Nat → Int64} (h : E ≤ k) : Rst A b k E w w := ⟨fun i h1 h2 => by omega, fun x _ => rfl⟩
theorem Rst.eq {A : Nat → Nat} {b c : Nat → Int64} {k E : Nat} {w w' v v' : Nat → Int64} (h : Rst A b k E w w') (h2 : Rst A c k E v v') (hb : ∀ i, k ≤ i → i < E → b i = c i) {x : Nat} (hx : w x = v x) : w' x = v' x := by
  rcases Classical.em (∃ i, k ≤ i ∧ i < E ∧ A i = x) with ⟨i, h3, h4, rfl⟩ | hn
  · rw [h.1 i h3 h4, h2.1 i h3 h4, hb i h3 h4]
  · have : ∀ i, k ≤ i → i < E → A i ≠ x := fun i h3 h4 e => hn ⟨i, h3, h4, e⟩
    rw [h.2 x this, h2.2 x this, hx]
theorem adr_inj {T r : Nat} {pl : Nat → Nat} (hp : ∀ k, k < T → pl k < 64) (hd : ∀ j k, j < T → k < T → pl j = pl k → j = k) : ∀ i j, i < 16 * T + 20 → j < 16 * T + 20 → adr T r pl i = adr T r pl j → i = j := by
  intro i j hi hj e
  unfold adr at e
  by_cases ci : i < 16 * T
  · have h1 := hp (i / 16) (by omega)
    by_cases cj : j < 16 * T
    · rw [if_pos ci, if_pos cj] at e
      have := hd (i / 16) (j / 16) (by omega) (by omega) (by omega)
      omega
    · rw [if_pos ci, if_neg cj] at e; omega
  · by_cases cj : j < 16 * T
    · have h1 := hp (j / 16) (by omega)
      rw [if_neg ci, if_pos cj] at e; omega
    · rw [if_neg ci, if_neg cj] at e; omega
theorem fb_rst_go (n : Nat) {T r : Nat} {pl : Nat → Nat} (hT : T ≤ 2) (hr : r < 8) (m : Nat) : ∀ (f k : Nat) (st : BSt), bs_P st ≤ 64 → (∀ j, j < T → pl j < bs_P st) → (∀ i j, i < T → j < T → pl i = pl j → i = j) → (∀ j, j < T → bs_takenPages st j = nI (pl j)) → bs_writtenRoot st = nI r → k + m = 16 * T + 20 → m < f →
    ∃ G Q, fb_restoreFrom_16 n f st (nI (16 * T)) (nI (16 * T + 20)) (nI k) = some (bs_put_pages G (bs_put_roots Q st)) ∧ Rst (adr T r pl) (bs_wordsBefore st) k (16 * T + 20) (cw (bs_pages st) (bs_roots st)) (cw G Q) := by
  induction m with
  | zero =>
    intro f k st hP hp hd ht hw h1 h2
    obtain ⟨f, rfl⟩ : ∃ i, f = i + 1 := ⟨f - 1, by omega⟩
    refine ⟨bs_pages st, bs_roots st, ?_, Rst.none (by omega)⟩
    rw [fb_restoreFrom_16, if_pos (nI_le (by omega) (by omega))]; rfl
  | succ m ih =>
    intro f k st hP hp hd ht hw h1 h2
    obtain ⟨f, rfl⟩ : ∃ i, f = i + 1 := ⟨f - 1, by omega⟩
    have inj := adr_inj (T := T) (r := r) (pl := pl) (fun k hk => by have := hp k hk; omega) hd
    rw [fb_restoreFrom_16, if_neg (nI_ge (by omega) (by omega)), rdL_n (by omega) (by omega), bind_s]
    by_cases c : k < 16 * T
    · have hk := hp (k / 16) (by omega)
      have ea : adr T r pl k = 16 * pl (k / 16) + k % 16 := if_pos c
      rw [if_neg (nI_ge c (by omega)), lt32 16, pk_rem (by omega) (by omega) (by omega), pk_div (by omega) (by omega) (by omega), rdI_n (by omega) (by omega), bind_s, ht (k / 16) (by omega), bind_s, pk_mul, nI_add, Nat.mul_comm (pl (k / 16)) 16, wrL_n (by omega) (by omega), bind_s, nI_1]
      obtain ⟨G, Q, e, hR⟩ := ih f (k + 1) (bs_put_pages (vp_updL (bs_pages st) (16 * pl (k / 16) + k % 16) (bs_wordsBefore st k)) st) hP hp hd ht hw (by omega) (by omega)
      refine ⟨G, Q, e, Rst.up (by omega) inj ?_⟩
      rw [ea, ← cw_p (by omega)]
      exact hR
    · have ea : adr T r pl k = 1024 + (20 * r + (k - 16 * T)) := by unfold adr; rw [if_neg c]; omega
      rw [if_pos (nI_le (by omega) (by omega)), hw, lt32 20, pk_mul, nI_add, pk_sub (by omega), show r * 20 + k - 16 * T = 20 * r + (k - 16 * T) by omega, wrL_n (by omega) (by omega), bind_s, nI_1]
      obtain ⟨G, Q, e, hR⟩ := ih f (k + 1) (bs_put_roots (vp_updL (bs_roots st) (20 * r + (k - 16 * T)) (bs_wordsBefore st k)) st) hP hp hd ht hw (by omega) (by omega)
      refine ⟨G, Q, e, Rst.up (by omega) inj ?_⟩
      rw [ea, ← cw_r]
      exact hR
theorem adr_lt {T r P : Nat} {pl : Nat → Nat} (hr : r < 8) (hP : P ≤ 64) (hp : ∀ k, k < T → pl k < P) {i : Nat} (hi : i < 16 * T + 20) : adr T r pl i < 1184 := by
  unfold adr
  split
  · have := hp (i / 16) (by omega); omega
  · omega
theorem fm_rst_go (n : Nat) {T r P : Nat} {pl : Nat → Nat} (hT : T ≤ 2) (hr : r < 8) (hP : P ≤ 64) (hp : ∀ j, j < T → pl j < P) (hd : ∀ i j, i < T → j < T → pl i = pl j → i = j) (x2 : Int32) (k : Nat) (hk : k < 2 ^ 31) (e : Nat) : ∀ (f : Nat) (st : MSt), (∀ i, i < 16 * T + 20 → qbs_places st i = nI (adr T r pl i)) → e ≤ 16 * T + 20 → e < f →
    ∃ W, fm_crash_57 n f st (nI k) x2 (nI e + (-1)) = some (x2, qbs_put_closed 1 (qbs_put_words W st)) ∧ Rst (adr T r pl) (qbs_before st) k e (qbs_words st) W := by
  induction e with
  | zero =>
    intro f st hpl h1 h2
    obtain ⟨f, rfl⟩ : ∃ i, f = i + 1 := ⟨f - 1, by omega⟩
    refine ⟨qbs_words st, ?_, Rst.none (by omega)⟩
    rw [fm_crash_57, if_pos (Int32.lt_of_lt_of_le (b := 0) (by decide) (nI_pos' hk))]; rfl
  | succ e ih =>
    intro f st hpl h1 h2
    obtain ⟨f, rfl⟩ : ∃ i, f = i + 1 := ⟨f - 1, by omega⟩
    rw [pk_m1, fm_crash_57]
    by_cases c : e < k
    · refine ⟨qbs_words st, ?_, Rst.none (by omega)⟩
      rw [if_pos (nI_lt c hk)]; rfl
    · have ha := adr_lt (T := T) (r := r) (pl := pl) hr hP hp (show e < 16 * T + 20 by omega)
      rw [if_neg (nI_nlt (by omega) (by omega)), rdI_n (by omega) (by omega), bind_s, rdL_n (by omega) (by omega), bind_s, hpl e (by omega), wrL_n ha (by omega), bind_s]
      obtain ⟨W, hW, hR⟩ := ih f (qbs_put_words (vp_updL (qbs_words st) (adr T r pl e) (qbs_before st e)) st) hpl (by omega) (by omega)
      refine ⟨W, hW, Rst.down (by omega) ?_ hR⟩
      intro i j hi hj q
      exact adr_inj (fun k hk => by have := hp k hk; omega) hd i j (by omega) (by omega) q
theorem pr_9 : ps_9 Rel := by
  intro d st ms y1 h
  have hp64 := h.p64
  have hd' := h.dd
  obtain ⟨v, hv, h1, h2⟩ := h.nw
  by_cases c : bs_closed st = 0
  · have c' : qbs_closed ms = 0 := by rw [← h.cl]; exact c
    rcases h.ct with ⟨hc, hm⟩ | ⟨hc, ha, T, r, pl, hT, hr, hpl, hdis, htc, htp, hwr, hwn, hbp⟩
    · refine ⟨0, 0, 0, st, qbs_put_thrown 1 ms, 0, 1, .inr 0, ?_, ?_, rfl, h.thr 1, Or.inr (Or.inl ⟨rfl, rfl⟩)⟩
      · rw [fb_crash, fb_requireOpen, if_pos c]
        show (if bs_canBeCut st = 0 then _ else _) = _
        rw [if_pos hc]
      · rw [fm_crash, if_pos c']
        by_cases cw : qbs_written ms = -1
        · rw [if_pos cw]; rfl
        · rw [if_neg cw, if_neg (hm.resolve_left cw)]; rfl
    · by_cases cy : 0 ≤ y1
      · obtain ⟨k, hk, rfl⟩ := nI_of (Int32.not_lt.mpr cy)
        have e1 : fb_crash 100 st (nI k) = (fb_restoreFrom 100 st (nI k)).bind fun st3 => (fb_writtenWords 100 (bs_put_closed 1 st3)).bind fun r5 => some (.inl r5, bs_put_closed 1 st3) := by
          rw [fb_crash, fb_requireOpen, if_pos c]
          show (if bs_canBeCut st = 0 then _ else _) = _
          rw [if_neg hc, if_pos cy]
        have e2 : fm_crash 100 ms (nI k) = fm_crash_57 100 100 (qbs_put_thrown 0 ms) (nI k) (nI (16 * T + 20)) (nI (16 * T + 20) + (-1)) := by
          rw [fm_crash, if_pos c', if_neg (by rw [hwn]; exact nI_m1 (by omega)), if_pos ha, if_pos cy, hwn, Int32.sub_eq_add_neg]
        obtain ⟨W, hW, hRm⟩ := fm_rst_go 100 (P := bs_P st) hT hr h.p64 hpl hdis (nI (16 * T + 20)) k hk (16 * T + 20) 100 (qbs_put_thrown 0 ms) (fun i hi => (hbp i hi).2) (Nat.le_refl _) (by omega)
        have hcl : ∃ G Q, fb_restoreFrom 100 st (nI k) = some (bs_put_pages G (bs_put_roots Q st)) ∧ Rst (adr T r pl) (bs_wordsBefore st) k (16 * T + 20) (cw (bs_pages st) (bs_roots st)) (cw G Q) := by
          rw [fb_restoreFrom, fb_writtenWords, bind_s, htc, lt32 16, lt32 20, pk_mul, nI_add, Nat.mul_comm T 16]
          by_cases ck : k ≤ 16 * T + 20
          · exact fb_rst_go 100 hT hr (16 * T + 20 - k) 100 k st h.p64 hpl hdis htp hwr (by omega) (by omega)
          · refine ⟨bs_pages st, bs_roots st, ?_, Rst.none (by omega)⟩
            rw [fb_restoreFrom_16, if_pos (nI_le (by omega) hk)]; rfl
        obtain ⟨G, Q, hG, hRc⟩ := hcl
        have eqv : ∀ x, cw (bs_pages st) (bs_roots st) x = qbs_words ms x → cw G Q x = W x := fun x hx => hRc.eq hRm (fun i _ hi => ((hbp i hi).1).symm) hx
        refine ⟨100, 100, 0, bs_put_closed 1 (bs_put_pages G (bs_put_roots Q st)), qbs_put_closed 1 (qbs_put_words W (qbs_put_thrown 0 ms)), nI (16 * T + 20), 0, .inl (nI (16 * T + 20)), ?_, e2.trans hW, rfl, ?_, Or.inl ⟨_, rfl, rfl, rfl⟩⟩
        · rw [e1, hG, bind_s, fb_writtenWords, bind_s]
          show some (Sum.inl (bs_takenCount st * 16 + 20), _) = _
          rw [htc, lt32 16, lt32 20, pk_mul, nI_add, Nat.mul_comm T 16]
        · refine ⟨by omega, h.p8, h.p64, h.pg, ⟨fun i hi => ?_, fun i hi => ?_⟩, ⟨v, by omega, h1, h2⟩, rfl, Or.inr ⟨hc, ha, T, r, pl, hT, hr, hpl, hdis, htc, htp, hwr, hwn, hbp⟩⟩
          · have hi' : i < 16 * bs_P st := hi
            have := eqv i (by unfold cw; rw [if_pos (by omega)]; exact h.sw.1 i hi')
            unfold cw at this; rw [if_pos (by omega)] at this; exact this
          · have := eqv (1024 + i) (by unfold cw; rw [if_neg (by omega), Nat.add_sub_cancel_left]; exact h.sw.2 i hi)
            unfold cw at this; rw [if_neg (by omega), Nat.add_sub_cancel_left] at this; exact this
      · refine ⟨0, 0, 0, st, qbs_put_thrown 2 ms, 0, 2, .inr 1, ?_, ?_, rfl, h.thr 2, Or.inr (Or.inr ⟨rfl, rfl⟩)⟩
        · rw [fb_crash, fb_requireOpen, if_pos c]
          show (if bs_canBeCut st = 0 then _ else _) = _
          rw [if_neg hc, if_neg cy]
        · rw [fm_crash, if_pos c', if_neg (by rw [hwn]; exact nI_m1 (by omega)), if_pos ha, if_neg cy]
  · refine ⟨0, 0, 0, st, qbs_put_thrown 1 ms, 0, 1, .inr 0, ?_, ?_, rfl, h.thr 1, Or.inr (Or.inl ⟨rfl, rfl⟩)⟩
    · rw [fb_crash, fb_requireOpen, if_neg c]; rfl
    · rw [fm_crash, if_neg (by rw [← h.cl]; exact c)]; rfl
