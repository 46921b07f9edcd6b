/-! what is asked of a relation, call by call, where both sides answer alike -/
def ps_0 (Rr : Nat → BSt → MSt → Prop) : Prop := ∀ (d : Nat) (st : BSt) (ms : MSt) (y1 : Int32) (y2 : Int32) (y3 : Int32), Rr (d + 1) st ms → ∃ (n1 n2 n3 : Nat) (st' : BSt) (ms' : MSt) (z : Int32) (k : Int32) (r : Int32 ⊕ Nat), fb_put n1 st y1 (lvl y2 y3) = some (r, st') ∧ fm_put n2 ms y1 (lvl y2 y3) = some (z, ms') ∧ fm_thrown n3 ms' = some k ∧ Rr d st' ms' ∧ ((∃ v, r = .inl v ∧ k = 0 ∧ v.toInt64 = z.toInt64) ∨ (r = .inr 0 ∧ k = 1) ∨ (r = .inr 1 ∧ k = 2))
def ps_1 (Rr : Nat → BSt → MSt → Prop) : Prop := ∀ (d : Nat) (st : BSt) (ms : MSt) (y1 : Int32), Rr (d + 1) st ms → ∃ (n1 n2 n3 : Nat) (st' : BSt) (ms' : MSt) (z : Int32) (k : Int32) (r : Int32 ⊕ Nat), fb_drop n1 st y1 = some (r, st') ∧ fm_drop n2 ms y1 = some (z, ms') ∧ fm_thrown n3 ms' = some k ∧ Rr d st' ms' ∧ ((∃ v, r = .inl v ∧ k = 0 ∧ v.toInt64 = z.toInt64) ∨ (r = .inr 0 ∧ k = 1) ∨ (r = .inr 1 ∧ k = 2))
def ps_2 (Rr : Nat → BSt → MSt → Prop) : Prop := ∀ (d : Nat) (st : BSt) (ms : MSt), Rr (d + 1) st ms → ∃ (n1 n2 n3 : Nat) (ms' : MSt) (z : Int32) (k : Int32) (r : Int32 ⊕ Nat), fb_version n1 st = some r ∧ fm_version n2 ms = some (z, ms') ∧ fm_thrown n3 ms' = some k ∧ Rr d st ms' ∧ ((∃ v, r = .inl v ∧ k = 0 ∧ v.toInt64 = z.toInt64) ∨ (r = .inr 0 ∧ k = 1))
def ps_8 (Rr : Nat → BSt → MSt → Prop) : Prop := ∀ (d : Nat) (st : BSt) (ms : MSt), Rr (d + 1) st ms → ∃ (n1 n2 n3 : Nat) (ms' : MSt) (z : Int32) (k : Int32) (r : Int32 ⊕ Nat), fb_free n1 st = some r ∧ fm_free n2 ms = some (z, ms') ∧ fm_thrown n3 ms' = some k ∧ Rr d st ms' ∧ ((∃ v, r = .inl v ∧ k = 0 ∧ v.toInt64 = z.toInt64) ∨ (r = .inr 0 ∧ k = 1))
def ps_9 (Rr : Nat → BSt → MSt → Prop) : Prop := ∀ (d : Nat) (st : BSt) (ms : MSt) (y1 : Int32), Rr (d + 1) st ms → ∃ (n1 n2 n3 : Nat) (st' : BSt) (ms' : MSt) (z : Int32) (k : Int32) (r : Int32 ⊕ Nat), fb_crash n1 st y1 = some (r, st') ∧ fm_crash n2 ms y1 = some (z, ms') ∧ fm_thrown n3 ms' = some k ∧ Rr d st' ms' ∧ ((∃ v, r = .inl v ∧ k = 0 ∧ v.toInt64 = z.toInt64) ∨ (r = .inr 0 ∧ k = 1) ∨ (r = .inr 1 ∧ k = 2))
def ps_10 (Rr : Nat → BSt → MSt → Prop) : Prop := ∀ (d : Nat) (st : BSt) (ms : MSt), Rr (d + 1) st ms → ∃ (n1 n2 : Nat) (st' : BSt) (ms' : MSt) (z : Int32), fb_reopen n1 st = some (z, st') ∧ fm_reopen n2 ms = some (z, ms') ∧ Rr d st' ms'
def ps_11 (Rr : Nat → BSt → MSt → Prop) : Prop := ∀ (d : Nat) (st : BSt) (ms : MSt) (y1 : Int32) (y2 : Int32), Rr (d + 1) st ms → ∃ (n1 n2 n3 : Nat) (ms' : MSt) (z : Int64) (k : Int32) (r : Int64 ⊕ Nat), fb_wordAt n1 st y1 y2 = some r ∧ fm_wordAt n2 ms y1 y2 = some (z, ms') ∧ fm_thrown n3 ms' = some k ∧ Rr d st ms' ∧ ((∃ v, r = .inl v ∧ k = 0 ∧ v = z) ∨ (r = .inr 2 ∧ k = 1))
def ps_12 (Rr : Nat → BSt → MSt → Prop) : Prop := ∀ (d : Nat) (st : BSt) (ms : MSt) (y1 : Int32) (y2 : Int32), Rr (d + 1) st ms → ∃ (n1 n2 n3 : Nat) (ms' : MSt) (z : Int64) (k : Int32) (r : Int64 ⊕ Nat), fb_rootAt n1 st y1 y2 = some r ∧ fm_rootAt n2 ms y1 y2 = some (z, ms') ∧ fm_thrown n3 ms' = some k ∧ Rr d st ms' ∧ ((∃ v, r = .inl v ∧ k = 0 ∧ v = z) ∨ (r = .inr 2 ∧ k = 1))
def ps_13 (Rr : Nat → BSt → MSt → Prop) : Prop := ∀ (d : Nat) (st : BSt) (ms : MSt) (y1 : Int32) (y2 : Int32) (y3 : Int32) (y4 : Int32), Rr (d + 1) st ms → ∃ (n1 n2 n3 : Nat) (st' : BSt) (ms' : MSt) (k : Int32) (r : Unit ⊕ Nat), fb_poke n1 st y1 y2 (lvl y3 y4) = some (r, st') ∧ fm_poke n2 ms y1 y2 (lvl y3 y4) = some ms' ∧ fm_thrown n3 ms' = some k ∧ Rr d st' ms' ∧ ((∃ v, r = .inl v ∧ k = 0 ∧ True) ∨ (r = .inr 2 ∧ k = 1) ∨ (r = .inr 1 ∧ k = 2))
def ps_14 (Rr : Nat → BSt → MSt → Prop) : Prop := ∀ (d : Nat) (st : BSt) (ms : MSt) (y1 : Int32) (y2 : Int32) (y3 : Int32) (y4 : Int32), Rr (d + 1) st ms → ∃ (n1 n2 n3 : Nat) (st' : BSt) (ms' : MSt) (k : Int32) (r : Unit ⊕ Nat), fb_pokeRoot n1 st y1 y2 (lvl y3 y4) = some (r, st') ∧ fm_pokeRoot n2 ms y1 y2 (lvl y3 y4) = some ms' ∧ fm_thrown n3 ms' = some k ∧ Rr d st' ms' ∧ ((∃ v, r = .inl v ∧ k = 0 ∧ True) ∨ (r = .inr 2 ∧ k = 1) ∨ (r = .inr 1 ∧ k = 2))
def ps_15 (Rr : Nat → BSt → MSt → Prop) : Prop := ∀ (d : Nat) (st : BSt) (ms : MSt), Rr (d + 1) st ms → ∃ (n1 n2 : Nat) (ms' : MSt) (z : Int32), fb_badAt n1 st = some z ∧ fm_badAt n2 ms = some (z, ms') ∧ Rr d st ms'
/-! THE RELATION of the class's state and the model's -/
/-- where the i-th word of a writing lies: T pages, then a root -/
def adr (T r : Nat) (pl : Nat → Nat) (i : Nat) : Nat := if i < 16 * T then 16 * pl (i / 16) + i % 16 else 1024 + 20 * r + (i - 16 * T)
def CutR (st : BSt) (ms : MSt) : Prop := ∃ (T r : Nat) (pl : Nat → Nat), T ≤ 2 ∧ r < 8 ∧ (∀ k, k < T → pl k < bs_P st) ∧ (∀ j k, j < T → k < T → pl j = pl k → j = k) ∧ bs_takenCount st = nI T ∧ (∀ k, k < T → bs_takenPages st k = nI (pl k)) ∧ bs_writtenRoot st = nI r ∧ qbs_written ms = nI (16 * T + 20) ∧ ∀ i, i < 16 * T + 20 → qbs_before ms i = bs_wordsBefore st i ∧ qbs_places ms i = nI (adr T r pl i)
abbrev Rel (d : Nat) (st : BSt) (ms : MSt) : Prop := (d ≤ 512) ∧ (8 ≤ bs_P st) ∧ (bs_P st ≤ 64) ∧ (qbs_pages ms = nI (bs_P st)) ∧ (SameW (bs_P st) (bs_pages st) (bs_roots st) (qbs_words ms)) ∧ (∃ v, v + d ≤ 1000000512 ∧ bs_newest st = nI v ∧ qbs_newest ms = nI v) ∧ (bs_closed st = qbs_closed ms) ∧ ((bs_canBeCut st = 0 ∧ (qbs_written ms = -1 ∨ qbs_altered ms ≠ 0)) ∨ (bs_canBeCut st ≠ 0 ∧ qbs_altered ms = 0 ∧ CutR st ms))
theorem Rel.dd {d : Nat} {st : BSt} {ms : MSt} (h : Rel d st ms) : d ≤ 512 := h.1
theorem Rel.p8 {d : Nat} {st : BSt} {ms : MSt} (h : Rel d st ms) : 8 ≤ bs_P st := h.2.1
theorem Rel.p64 {d : Nat} {st : BSt} {ms : MSt} (h : Rel d st ms) : bs_P st ≤ 64 := h.2.2.1
theorem Rel.pg {d : Nat} {st : BSt} {ms : MSt} (h : Rel d st ms) : qbs_pages ms = nI (bs_P st) := h.2.2.2.1
theorem Rel.sw {d : Nat} {st : BSt} {ms : MSt} (h : Rel d st ms) : SameW (bs_P st) (bs_pages st) (bs_roots st) (qbs_words ms) := h.2.2.2.2.1
theorem Rel.nw {d : Nat} {st : BSt} {ms : MSt} (h : Rel d st ms) : ∃ v, v + d ≤ 1000000512 ∧ bs_newest st = nI v ∧ qbs_newest ms = nI v := h.2.2.2.2.2.1
theorem Rel.cl {d : Nat} {st : BSt} {ms : MSt} (h : Rel d st ms) : bs_closed st = qbs_closed ms := h.2.2.2.2.2.2.1
theorem Rel.ct {d : Nat} {st : BSt} {ms : MSt} (h : Rel d st ms) : (bs_canBeCut st = 0 ∧ (qbs_written ms = -1 ∨ qbs_altered ms ≠ 0)) ∨ (bs_canBeCut st ≠ 0 ∧ qbs_altered ms = 0 ∧ CutR st ms) := h.2.2.2.2.2.2.2
theorem Rel.thr {d : Nat} {st : BSt} {ms : MSt} (h : Rel (d + 1) st ms) (k : Int32) : Rel d st (qbs_put_thrown k ms) := by
  obtain ⟨v, hv, h1, h2⟩ := h.nw
  exact ⟨by have := h.dd; omega, h.p8, h.p64, h.pg, h.sw, ⟨v, by omega, h1, h2⟩, h.cl, h.ct⟩
theorem nI_m1 {k : Nat} (h : k < 2 ^ 31) : nI k ≠ -1 := fun e => nI_pos h (by rw [e]; decide)
/-- version -/
theorem pr_2 : ps_2 Rel := by
  intro d st ms h
  obtain ⟨v, hv, h1, h2⟩ := h.nw
  by_cases c : bs_closed st = 0
  · refine ⟨0, 0, 0, qbs_put_thrown 0 ms, qbs_newest ms, 0, .inl (bs_newest st), ?_, ?_, rfl, h.thr 0, Or.inl ⟨_, rfl, rfl, by rw [h1, h2]⟩⟩
    · rw [fb_version, fb_requireOpen, if_pos c]; rfl
    · rw [fm_version, if_pos (by rw [← h.cl]; exact c)]
  · refine ⟨0, 0, 0, qbs_put_thrown 1 ms, 0, 1, .inr 0, ?_, ?_, rfl, h.thr 1, Or.inr ⟨rfl, rfl⟩⟩
    · rw [fb_version, fb_requireOpen, if_neg c]; rfl
    · rw [fm_version, if_neg (by rw [← h.cl]; exact c)]
/-- a page and a word of it -/
theorem rq_page (n : Nat) {d : Nat} {st : BSt} {ms : MSt} (h : Rel d st ms) (x1 x2 : Int32) : (fb_requirePageWord n st x1 x2 = some (.inr 2) ∧ fm_noWord n ms x1 x2 = some 1) ∨ ∃ p i, p < bs_P st ∧ i < 16 ∧ x1 = nI p ∧ x2 = nI i ∧ fb_requirePageWord n st x1 x2 = some (.inl ()) ∧ fm_noWord n ms x1 x2 = some 0 := by
  have hp := h.p64
  rw [fb_requirePageWord, fm_noWord, h.pg]
  rcases pk_ix x1 (n := bs_P st) (by omega) with c | c | ⟨p, hp1, rfl⟩
  · left; rw [if_pos c, if_pos c]; exact ⟨rfl, rfl⟩
  · left; rw [if_pos c, if_pos c]; constructor <;> split <;> rfl
  · rw [if_neg (nI_pos (by omega)), if_neg (nI_pos (by omega)), if_neg (nI_ge hp1 (by omega)), if_neg (nI_ge hp1 (by omega))]
    rcases pk_ix x2 (n := 16) (by omega) with c | c | ⟨i, hi, rfl⟩
    · left; rw [if_pos c, if_pos c]; exact ⟨rfl, rfl⟩
    · left
      have c' : ¬ x2 < 16 := Int32.not_lt.mpr c
      rw [if_neg c', if_neg c']; constructor <;> split <;> rfl
    · right
      have c' : nI i < 16 := nI_lt (b := 16) hi (by omega)
      rw [if_neg (nI_pos (by omega)), if_neg (nI_pos (by omega)), if_pos c', if_pos c']
      exact ⟨p, i, hp1, hi, rfl, rfl, rfl, rfl⟩
theorem rq_root (n : Nat) (st : BSt) (x1 x2 : Int32) : (fb_requireRootWord n st x1 x2 = some (.inr 2) ∧ fm_noRoot n x1 x2 = some 1) ∨ ∃ p i, p < 8 ∧ i < 20 ∧ x1 = nI p ∧ x2 = nI i ∧ fb_requireRootWord n st x1 x2 = some (.inl ()) ∧ fm_noRoot n x1 x2 = some 0 := by
  rw [fb_requireRootWord, fm_noRoot]
  have e7 : ∀ x : Int32, ((7 : Int32) < x) ↔ ((8 : Int32) ≤ x) := by
    intro x
    rw [Int32.lt_iff_toInt_lt, Int32.le_iff_toInt_le, show (7 : Int32).toInt = 7 from by decide, show (8 : Int32).toInt = 8 from by decide]
    omega
  rcases pk_ix x1 (n := 8) (by omega) with c | c | ⟨p, hp1, rfl⟩
  · left; rw [if_pos c, if_pos c]; exact ⟨rfl, rfl⟩
  · left
    have c1 : (8 : Int32) ≤ x1 := c
    rw [if_pos c1, if_pos ((e7 _).mpr c1)]; constructor <;> split <;> rfl
  · have c1 : ¬ (8 : Int32) ≤ nI p := nI_ge (b := 8) hp1 (by omega)
    rw [if_neg (nI_pos (by omega)), if_neg (nI_pos (by omega)), if_neg c1, if_neg (fun h => c1 ((e7 _).mp h))]
    rcases pk_ix x2 (n := 20) (by omega) with c | c | ⟨i, hi, rfl⟩
    · left; rw [if_pos c, if_pos c]; exact ⟨rfl, rfl⟩
    · left
      have c' : ¬ x2 < 20 := Int32.not_lt.mpr c
      rw [if_neg c', if_neg c']; constructor <;> split <;> rfl
    · right
      have c' : nI i < 20 := nI_lt (b := 20) hi (by omega)
      rw [if_neg (nI_pos (by omega)), if_neg (nI_pos (by omega)), if_pos c', if_pos c']
      exact ⟨p, i, hp1, hi, rfl, rfl, rfl, rfl⟩
theorem nI_mul_add {a b c : Nat} : nI a * OfNat.ofNat b + nI c = nI (b * a + c) := by
  rw [lt32, pk_mul, nI_add, Nat.mul_comm]
/-- wordAt, rootAt -/
theorem pr_11 : ps_11 Rel := by
  intro d st ms y1 y2 h
  have hp64 := h.p64
  rcases rq_page 0 h y1 y2 with ⟨e1, e2⟩ | ⟨p, i, hp, hi, rfl, rfl, e1, e2⟩
  · refine ⟨0, 0, 0, qbs_put_thrown 1 ms, 0, 1, .inr 2, ?_, ?_, rfl, h.thr 1, Or.inr ⟨rfl, rfl⟩⟩
    · rw [fb_wordAt, e1]; rfl
    · rw [fm_wordAt, e2]; rfl
  · refine ⟨0, 0, 0, qbs_put_thrown 0 ms, qbs_words ms (16 * p + i), 0, .inl (bs_pages st (16 * p + i)), ?_, ?_, rfl, h.thr 0, Or.inl ⟨_, rfl, rfl, h.sw.1 _ (by omega)⟩⟩
    · rw [fb_wordAt, e1]
      show (rdL _ _ _).bind _ = _
      rw [lt32 16, pk_mul, nI_add, Nat.mul_comm p 16, rdL_n (by omega) (by omega), bind_s]
    · rw [fm_wordAt, e2, bind_s, if_pos rfl, fm_wordAt_15, if_pos (by decide), lt32 16, pk_mul, nI_add, rdL_n (by omega) (by omega), bind_s]
theorem pr_12 : ps_12 Rel := by
  intro d st ms y1 y2 h
  rcases rq_root 0 st y1 y2 with ⟨e1, e2⟩ | ⟨p, i, hp, hi, rfl, rfl, e1, e2⟩
  · refine ⟨0, 0, 0, qbs_put_thrown 1 ms, 0, 1, .inr 2, ?_, ?_, rfl, h.thr 1, Or.inr ⟨rfl, rfl⟩⟩
    · rw [fb_rootAt, e1]; rfl
    · rw [fm_rootAt, e2]; rfl
  · refine ⟨0, 0, 0, qbs_put_thrown 0 ms, qbs_words ms (1024 + 20 * p + i), 0, .inl (bs_roots st (20 * p + i)), ?_, ?_, rfl, h.thr 0, Or.inl ⟨_, rfl, rfl, ?_⟩⟩
    · rw [fb_rootAt, e1]
      show (rdL _ _ _).bind _ = _
      rw [lt32 20, pk_mul, nI_add, Nat.mul_comm p 20, rdL_n (by omega) (by omega), bind_s]
    · rw [fm_rootAt, e2, bind_s, if_pos rfl, fm_rootAt_14, if_pos (by decide), lt32 20, lt32 1024, pk_mul, nI_add, nI_add, rdL_n (by omega) (by omega), bind_s]
    · rw [h.sw.2 _ (by omega)]; unfold rtw; rw [Nat.add_assoc]
theorem sw_updP {P : Nat} {g q w : Nat → Int64} (h : SameW P g q w) (hP : P ≤ 64) {a : Nat} (ha : a < 16 * P) (x : Int64) : SameW P (vp_updL g a x) q (vp_updL w a x) := by
  refine ⟨fun i hi => ?_, fun i hi => ?_⟩
  · unfold vp_updL; split
    · rfl
    · exact h.1 i hi
  · rw [h.2 i hi]; unfold rtw; rw [pk_uLn (by omega)]
theorem sw_updR {P : Nat} {g q w : Nat → Int64} (h : SameW P g q w) (hP : P ≤ 64) {a : Nat} (x : Int64) : SameW P g (vp_updL q a x) (vp_updL w (1024 + a) x) := by
  refine ⟨fun i hi => ?_, fun i hi => ?_⟩
  · rw [pk_uLn (by omega)]; exact h.1 i hi
  · unfold rtw vp_updL
    by_cases c : i = a
    · rw [if_pos c, if_pos (by omega)]
    · rw [if_neg c, if_neg (by omega)]; exact h.2 i hi
theorem pr_13 : ps_13 Rel := by
  intro d st ms y1 y2 y3 y4 h
  have hp64 := h.p64
  rcases rq_page 0 h y1 y2 with ⟨e1, e2⟩ | ⟨p, i, hp, hi, rfl, rfl, e1, e2⟩
  · refine ⟨0, 0, 0, st, qbs_put_thrown 1 ms, 1, .inr 2, ?_, ?_, rfl, h.thr 1, Or.inr (Or.inl ⟨rfl, rfl⟩)⟩
    · rw [fb_poke, e1]; rfl
    · rw [fm_poke, e2]; rfl
  · generalize lvl y3 y4 = x
    by_cases cx : x = 0
    · refine ⟨0, 0, 0, st, qbs_put_thrown 2 ms, 2, .inr 1, ?_, ?_, rfl, h.thr 2, Or.inr (Or.inr ⟨rfl, rfl⟩)⟩
      · rw [fb_poke, e1]
        show thnS st (fb_requireMask 0 st x) _ = _
        rw [fb_requireMask, if_pos (lgc_eq.mpr cx)]; rfl
      · rw [fm_poke, e2, bind_s, if_pos rfl, if_pos (lgc_eq.mpr cx)]; rfl
    · obtain ⟨v, hv, h1, h2⟩ := h.nw
      refine ⟨0, 0, 0, bs_put_canBeCut 0 (bs_put_pages (vp_updL (bs_pages st) (16 * p + i) (bs_pages st (16 * p + i) ^^^ x)) st), qbs_put_altered 1 (qbs_put_words (vp_updL (qbs_words ms) (16 * p + i) (qbs_words ms (16 * p + i) ^^^ x)) (qbs_put_thrown 0 ms)), 0, .inl (), ?_, ?_, rfl, ?_, Or.inl ⟨_, rfl, rfl, trivial⟩⟩
      · rw [fb_poke, e1]
        show thnS st (fb_requireMask 0 st x) _ = _
        rw [fb_requireMask, if_neg (fun q => cx (lgc_eq.mp q))]
        show (rdL _ _ _).bind _ = _
        rw [lt32 16, pk_mul, nI_add, Nat.mul_comm p 16, rdL_n (by omega) (by omega), bind_s, wrL_n (by omega) (by omega), bind_s]
      · rw [fm_poke, e2, bind_s, if_pos rfl, if_neg (fun q => cx (lgc_eq.mp q)), fm_poke_25, if_pos rfl, lt32 16, pk_mul, nI_add, rdL_n (by omega) (by omega), bind_s, wrL_n (by omega) (by omega), bind_s]
      · rw [h.sw.1 (16 * p + i) (by omega)]
        exact ⟨by have := h.dd; omega, h.p8, h.p64, h.pg, sw_updP h.sw h.p64 (by omega) _, ⟨v, by omega, h1, h2⟩, h.cl, Or.inl ⟨rfl, Or.inr (by show (1 : Int32) ≠ 0; decide)⟩⟩
theorem pr_14 : ps_14 Rel := by
  intro d st ms y1 y2 y3 y4 h
  rcases rq_root 0 st y1 y2 with ⟨e1, e2⟩ | ⟨p, i, hp, hi, rfl, rfl, e1, e2⟩
  · refine ⟨0, 0, 0, st, qbs_put_thrown 1 ms, 1, .inr 2, ?_, ?_, rfl, h.thr 1, Or.inr (Or.inl ⟨rfl, rfl⟩)⟩
    · rw [fb_pokeRoot, e1]; rfl
    · rw [fm_pokeRoot, e2]; rfl
  · generalize lvl y3 y4 = x
    by_cases cx : x = 0
    · refine ⟨0, 0, 0, st, qbs_put_thrown 2 ms, 2, .inr 1, ?_, ?_, rfl, h.thr 2, Or.inr (Or.inr ⟨rfl, rfl⟩)⟩
      · rw [fb_pokeRoot, e1]
        show thnS st (fb_requireMask 0 st x) _ = _
        rw [fb_requireMask, if_pos (lgc_eq.mpr cx)]; rfl
      · rw [fm_pokeRoot, e2, bind_s, if_pos rfl, if_pos (lgc_eq.mpr cx)]; rfl
    · obtain ⟨v, hv, h1, h2⟩ := h.nw
      have hq : bs_roots st (20 * p + i) = qbs_words ms (1024 + (20 * p + i)) := h.sw.2 _ (by omega)
      refine ⟨0, 0, 0, bs_put_canBeCut 0 (bs_put_roots (vp_updL (bs_roots st) (20 * p + i) (bs_roots st (20 * p + i) ^^^ x)) st), qbs_put_altered 1 (qbs_put_words (vp_updL (qbs_words ms) (1024 + (20 * p + i)) (qbs_words ms (1024 + (20 * p + i)) ^^^ x)) (qbs_put_thrown 0 ms)), 0, .inl (), ?_, ?_, rfl, ?_, Or.inl ⟨_, rfl, rfl, trivial⟩⟩
      · rw [fb_pokeRoot, e1]
        show thnS st (fb_requireMask 0 st x) _ = _
        rw [fb_requireMask, if_neg (fun q => cx (lgc_eq.mp q))]
        show (rdL _ _ _).bind _ = _
        rw [lt32 20, pk_mul, nI_add, Nat.mul_comm p 20, rdL_n (by omega) (by omega), bind_s, wrL_n (by omega) (by omega), bind_s]
      · rw [fm_pokeRoot, e2, bind_s, if_pos rfl, if_neg (fun q => cx (lgc_eq.mp q)), fm_pokeRoot_24, if_pos rfl, lt32 20, lt32 1024, pk_mul, nI_add, nI_add, Nat.add_assoc, rdL_n (by omega) (by omega), bind_s, wrL_n (by omega) (by omega), bind_s]
      · rw [hq]
        exact ⟨by have := h.dd; omega, h.p8, h.p64, h.pg, sw_updR h.sw h.p64 _, ⟨v, by omega, h1, h2⟩, h.cl, Or.inl ⟨rfl, Or.inr (by show (1 : Int32) ≠ 0; decide)⟩⟩
