/-! the class writes a leaf -/
abbrev FrP (st st' : BSt) : Prop := (bs_P st' = bs_P st) ∧ (bs_roots st' = bs_roots st) ∧ (bs_newest st' = bs_newest st) ∧ (bs_closed st' = bs_closed st) ∧ (bs_takenPages st' = bs_takenPages st) ∧ (bs_takenCount st' = bs_takenCount st) ∧ (bs_writtenRoot st' = bs_writtenRoot st) ∧ (bs_wordsBefore st' = bs_wordsBefore st) ∧ (bs_draftKeys st' = bs_draftKeys st) ∧ (bs_draftValues st' = bs_draftValues st) ∧ (bs_draftCount st' = bs_draftCount st)
theorem FrP.P {st st' : BSt} (h : FrP st st') : bs_P st' = bs_P st := h.1
theorem FrP.rt {st st' : BSt} (h : FrP st st') : bs_roots st' = bs_roots st := h.2.1
theorem FrP.nw {st st' : BSt} (h : FrP st st') : bs_newest st' = bs_newest st := h.2.2.1
theorem FrP.cl {st st' : BSt} (h : FrP st st') : bs_closed st' = bs_closed st := h.2.2.2.1
theorem FrP.tp {st st' : BSt} (h : FrP st st') : bs_takenPages st' = bs_takenPages st := h.2.2.2.2.1
theorem FrP.tc {st st' : BSt} (h : FrP st st') : bs_takenCount st' = bs_takenCount st := h.2.2.2.2.2.1
theorem FrP.wr {st st' : BSt} (h : FrP st st') : bs_writtenRoot st' = bs_writtenRoot st := h.2.2.2.2.2.2.1
theorem FrP.wb {st st' : BSt} (h : FrP st st') : bs_wordsBefore st' = bs_wordsBefore st := h.2.2.2.2.2.2.2.1
theorem FrP.dk {st st' : BSt} (h : FrP st st') : bs_draftKeys st' = bs_draftKeys st := h.2.2.2.2.2.2.2.2.1
theorem FrP.dv {st st' : BSt} (h : FrP st st') : bs_draftValues st' = bs_draftValues st := h.2.2.2.2.2.2.2.2.2.1
theorem FrP.dc {st st' : BSt} (h : FrP st st') : bs_draftCount st' = bs_draftCount st := h.2.2.2.2.2.2.2.2.2.2
theorem FrP.refl (st : BSt) : FrP st st := ⟨rfl, rfl, rfl, rfl, rfl, rfl, rfl, rfl, rfl, rfl, rfl⟩
theorem FrP.put (v : Nat → Int64) (st : BSt) : FrP st (bs_put_pages v st) := ⟨rfl, rfl, rfl, rfl, rfl, rfl, rfl, rfl, rfl, rfl, rfl⟩
theorem FrP.trans {a b c : BSt} (h : FrP a b) (k : FrP b c) : FrP a c := ⟨k.P.trans h.P, k.rt.trans h.rt, k.nw.trans h.nw, k.cl.trans h.cl, k.tp.trans h.tp, k.tc.trans h.tc, k.wr.trans h.wr, k.wb.trans h.wb, k.dk.trans h.dk, k.dv.trans h.dv, k.dc.trans h.dc⟩
theorem g_put (v : Nat → Int64) (st : BSt) : bs_pages (bs_put_pages v st) = v := rfl
def zf (g : Nat → Int64) (a b : Nat) : Nat → Int64 := fun x => if a ≤ x ∧ x < b then 0 else g x
def pf (g : Nat → Int64) (a j : Nat) (B : Nat → Int64) : Nat → Int64 := fun x => if a ≤ x ∧ x < a + 16 then (if x - a < j then B (x - a) else 0) else g x
theorem zf_0 (g : Nat → Int64) (a : Nat) : zf g a a = g := by funext x; unfold zf; rw [if_neg (by omega)]
theorem zf_s (g : Nat → Int64) (a j : Nat) : vp_updL (zf g a (a + j)) (a + j) 0 = zf g a (a + (j + 1)) := by
  funext x; unfold vp_updL zf
  by_cases c : x = a + j
  · rw [if_pos c, if_pos (by omega)]
  · by_cases c2 : a ≤ x ∧ x < a + j
    · rw [if_neg c, if_pos c2, if_pos (by omega)]
    · rw [if_neg c, if_neg c2, if_neg (by omega)]
theorem zf_pf (g : Nat → Int64) (a : Nat) (B : Nat → Int64) : zf g a (a + 16) = pf g a 0 B := by
  funext x; unfold zf pf
  by_cases c : a ≤ x ∧ x < a + 16
  · rw [if_pos c, if_pos c, if_neg (by omega)]
  · rw [if_neg c, if_neg c]
theorem pf_s (g : Nat → Int64) (a j : Nat) (B : Nat → Int64) (hj : j < 16) {x : Int64} (hx : x = B j) : vp_updL (pf g a j B) (a + j) x = pf g a (j + 1) B := by
  subst hx
  funext x; unfold vp_updL pf
  by_cases c : x = a + j
  · rw [if_pos c, if_pos (by omega), if_pos (by omega), show x - a = j by omega]
  · by_cases c2 : a ≤ x ∧ x < a + 16
    · rw [if_neg c, if_pos c2, if_pos c2]
      by_cases c3 : x - a < j
      · rw [if_pos c3, if_pos (by omega)]
      · rw [if_neg c3, if_neg (by omega)]
    · rw [if_neg c, if_neg c2, if_neg c2]
theorem fb_wl9 (n : Nat) (st : BSt) {p : Nat} (hP : bs_P st ≤ 64) (hp : p < bs_P st) (x1 x2 x3 : Int32) (m : Nat) : ∀ (k j : Nat) (s : BSt), j + m = 16 → m < k → FrP st s → bs_pages s = zf (bs_pages st) (16 * p) (16 * p + j) →
    ∃ s', fb_writeLeaf_9 n k s x1 x2 x3 (nI (16 * p)) (nI j) = (wrL (bs_pages s') (16 * bs_P s') (nI (16 * p)) ((x3 - x2).toInt64)).bind (fun a1 => fb_writeLeaf_47 n n (bs_put_pages a1 s') x1 x2 x3 (nI (16 * p)) x2) ∧ FrP st s' ∧ bs_pages s' = zf (bs_pages st) (16 * p) (16 * p + 16) := by
  induction m with
  | zero =>
    intro k j s h1 h2 hf hg
    obtain ⟨k, rfl⟩ : ∃ i, k = i + 1 := ⟨k - 1, by omega⟩
    obtain rfl : j = 16 := by omega
    exact ⟨s, by rw [fb_writeLeaf_9, if_pos (by decide)], hf, hg⟩
  | succ m ih =>
    intro k j s h1 h2 hf hg
    obtain ⟨k, rfl⟩ : ∃ i, k = i + 1 := ⟨k - 1, by omega⟩
    have hPs := hf.P
    rw [fb_writeLeaf_9, if_neg (by rw [lt32 16, nI_leI (by omega) (by omega)]; omega), nI_add, wrL_n (by omega) (by omega), bind_s, nI_1]
    exact ih k (j + 1) _ (by omega) (by omega) (hf.trans (FrP.put _ _)) (by rw [g_put, hg]; exact zf_s _ _ _)
theorem leafB_0 {c : Nat} {K V : Nat → Int64} {i : Nat} (h : 1 + 2 * c ≤ i) : leafB c K V i = 0 := by
  unfold leafB
  rw [if_neg (by omega)]
  by_cases q : i % 2 = 1
  · rw [if_pos q, if_neg (by omega)]
  · rw [if_neg q, if_neg (by omega)]
theorem fb_wl47 (n : Nat) (st : BSt) {p fr c : Nat} (hP : bs_P st ≤ 64) (hp : p < bs_P st) (hfr : fr + c ≤ 8) (hc : c ≤ 7) (hn : 20 < n) (m : Nat) : ∀ (k j : Nat) (s : BSt), j + m = c → m < k → FrP st s → bs_pages s = pf (bs_pages st) (16 * p) (1 + 2 * j) (leafB c (fun i => bs_draftKeys st (fr + i)) (fun i => bs_draftValues st (fr + i))) →
    ∃ s', fb_writeLeaf_47 n k s (nI p) (nI fr) (nI (fr + c)) (nI (16 * p)) (nI (fr + j)) = some s' ∧ FrP st s' ∧ ∀ x, bs_pages s' x = if 16 * p ≤ x ∧ x < 16 * p + 16 then leafV c (fun i => bs_draftKeys st (fr + i)) (fun i => bs_draftValues st (fr + i)) (x - 16 * p) else bs_pages st x := by
  induction m with
  | zero =>
    intro k j s h1 h2 hf hg
    obtain ⟨k, rfl⟩ : ∃ i, k = i + 1 := ⟨k - 1, by omega⟩
    obtain rfl : j = c := by omega
    have hPs := hf.P
    have e : sumN (bs_pages s) (16 * p) 15 = sumN (leafB j (fun i => bs_draftKeys st (fr + i)) (fun i => bs_draftValues st (fr + i))) 0 15 := by
      apply sumN_congr
      intro i hi
      rw [hg]; unfold pf
      rw [if_pos (by omega), show 16 * p + i - 16 * p = 0 + i by omega]
      by_cases q : 0 + i < 1 + 2 * j
      · rw [if_pos q]
      · rw [if_neg q, leafB_0 (by omega)]
    refine ⟨bs_put_pages (vp_updL (bs_pages s) (16 * p + 15) (sumN (bs_pages s) (16 * p) 15)) s, ?_, hf.trans (FrP.put _ _), fun x => ?_⟩
    · rw [fb_writeLeaf_47, if_pos (nI_le (by omega) (by omega)), lt32 15, fb_sum (by omega) (by omega) (by omega), bind_s, nI_add, wrL_n (by omega) (by omega), bind_s]
    · rw [g_put, e]
      unfold vp_updL
      by_cases q : x = 16 * p + 15
      · rw [if_pos q, if_pos (by omega)]; unfold leafV; rw [if_pos (by omega)]
      · rw [if_neg q, hg]
        unfold pf leafV
        by_cases q2 : 16 * p ≤ x ∧ x < 16 * p + 16
        · have q4 : ¬ x - 16 * p = 15 := by omega
          rw [if_pos q2, if_pos q2, if_neg q4]
          by_cases q3 : x - 16 * p < 1 + 2 * j
          · rw [if_pos q3]
          · rw [if_neg q3, leafB_0 (by omega)]
        · rw [if_neg q2, if_neg q2]
  | succ m ih =>
    intro k j s h1 h2 hf hg
    obtain ⟨k, rfl⟩ : ∃ i, k = i + 1 := ⟨k - 1, by omega⟩
    have hPs := hf.P
    have p1 : vp_updL (bs_pages s) (16 * p + 1 + 2 * j) (bs_draftKeys st (fr + j)) = pf (bs_pages st) (16 * p) (1 + 2 * j + 1) (leafB c (fun i => bs_draftKeys st (fr + i)) (fun i => bs_draftValues st (fr + i))) := by
      rw [hg, show 16 * p + 1 + 2 * j = 16 * p + (1 + 2 * j) by omega]
      exact pf_s _ _ _ _ (by omega) (by rw [leafB_k, if_pos (by omega)])
    have p2 : vp_updL (vp_updL (bs_pages s) (16 * p + 1 + 2 * j) (bs_draftKeys st (fr + j))) (16 * p + 1 + 2 * j + 1) (bs_draftValues st (fr + j)) = pf (bs_pages st) (16 * p) (1 + 2 * (j + 1)) (leafB c (fun i => bs_draftKeys st (fr + i)) (fun i => bs_draftValues st (fr + i))) := by
      rw [p1, show 16 * p + 1 + 2 * j + 1 = 16 * p + (1 + 2 * j + 1) by omega]
      exact pf_s _ _ _ _ (by omega) (by rw [show 1 + 2 * j + 1 = 2 + 2 * j by omega, leafB_v, if_pos (by omega)])
    rw [fb_writeLeaf_47, if_neg (nI_ge (by omega) (by omega)), pk_sub (by omega), show fr + j - fr = j by omega, fb_entryAtE, bind_s, rdL_n (by omega) (by omega), bind_s, wrL_n (by omega) (by omega), bind_s, bind_s, rdL_n (by omega) (by omega), bind_s, nI_1, wrL_n (by omega) (by omega), bind_s, nI_1, hf.dk, hf.dv, p2]
    exact ih k (j + 1) _ (by omega) (by omega) ((hf.trans (FrP.put _ _)).trans (FrP.put _ _)) (g_put _ _)
theorem fb_wl {n : Nat} {st : BSt} {p fr c : Nat} (hP : bs_P st ≤ 64) (hp : p < bs_P st) (hfr : fr + c ≤ 8) (hc : c ≤ 7) (hn : 20 < n) : ∃ s', fb_writeLeaf n st (nI p) (nI fr) (nI (fr + c)) = some s' ∧ FrP st s' ∧ ∀ x, bs_pages s' x = if 16 * p ≤ x ∧ x < 16 * p + 16 then leafV c (fun i => bs_draftKeys st (fr + i)) (fun i => bs_draftValues st (fr + i)) (x - 16 * p) else bs_pages st x := by
  obtain ⟨s1, e1, f1, g1⟩ := fb_wl9 n st hP hp (nI p) (nI fr) (nI (fr + c)) 16 n 0 st (by omega) (by omega) (FrP.refl _) (by rw [Nat.add_zero, zf_0])
  have hPs := f1.P
  have e0 : vp_updL (bs_pages s1) (16 * p) (lN c) = pf (bs_pages st) (16 * p) (1 + 2 * 0) (leafB c (fun i => bs_draftKeys st (fr + i)) (fun i => bs_draftValues st (fr + i))) := by
    rw [g1, zf_pf _ _ (leafB c (fun i => bs_draftKeys st (fr + i)) (fun i => bs_draftValues st (fr + i)))]
    exact pf_s _ (16 * p) 0 _ (by omega) (by unfold leafB; rw [if_pos rfl])
  obtain ⟨s', e2, f2, g2⟩ := fb_wl47 n st hP hp hfr hc hn c n 0 (bs_put_pages (vp_updL (bs_pages s1) (16 * p) (lN c)) s1) (by omega) (by omega) (f1.trans (FrP.put _ _)) (by rw [g_put]; exact e0)
  refine ⟨s', ?_, f2, g2⟩
  rw [fb_writeLeaf, lt32 16, pk_mul, Nat.mul_comm p 16, show fb_writeLeaf_9 n n st (nI p) (nI fr) (nI (fr + c)) (nI (16 * p)) 0 = _ from e1, wrL_n (by omega) (by omega), bind_s, pk_sub (by omega), show fr + c - fr = c by omega, nI_l (by omega)]
  exact e2
/-! the words that were before are kept -/
abbrev FrW (st st' : BSt) : Prop := (bs_P st' = bs_P st) ∧ (bs_pages st' = bs_pages st) ∧ (bs_roots st' = bs_roots st) ∧ (bs_newest st' = bs_newest st) ∧ (bs_closed st' = bs_closed st) ∧ (bs_takenPages st' = bs_takenPages st) ∧ (bs_takenCount st' = bs_takenCount st) ∧ (bs_writtenRoot st' = bs_writtenRoot st) ∧ (bs_draftKeys st' = bs_draftKeys st) ∧ (bs_draftValues st' = bs_draftValues st) ∧ (bs_draftCount st' = bs_draftCount st)
theorem FrW.P {st st' : BSt} (h : FrW st st') : bs_P st' = bs_P st := h.1
theorem FrW.pg {st st' : BSt} (h : FrW st st') : bs_pages st' = bs_pages st := h.2.1
theorem FrW.rt {st st' : BSt} (h : FrW st st') : bs_roots st' = bs_roots st := h.2.2.1
theorem FrW.nw {st st' : BSt} (h : FrW st st') : bs_newest st' = bs_newest st := h.2.2.2.1
theorem FrW.cl {st st' : BSt} (h : FrW st st') : bs_closed st' = bs_closed st := h.2.2.2.2.1
theorem FrW.tp {st st' : BSt} (h : FrW st st') : bs_takenPages st' = bs_takenPages st := h.2.2.2.2.2.1
theorem FrW.tc {st st' : BSt} (h : FrW st st') : bs_takenCount st' = bs_takenCount st := h.2.2.2.2.2.2.1
theorem FrW.wr {st st' : BSt} (h : FrW st st') : bs_writtenRoot st' = bs_writtenRoot st := h.2.2.2.2.2.2.2.1
theorem FrW.dk {st st' : BSt} (h : FrW st st') : bs_draftKeys st' = bs_draftKeys st := h.2.2.2.2.2.2.2.2.1
theorem FrW.dv {st st' : BSt} (h : FrW st st') : bs_draftValues st' = bs_draftValues st := h.2.2.2.2.2.2.2.2.2.1
theorem FrW.dc {st st' : BSt} (h : FrW st st') : bs_draftCount st' = bs_draftCount st := h.2.2.2.2.2.2.2.2.2.2
theorem FrW.refl (st : BSt) : FrW st st := ⟨rfl, rfl, rfl, rfl, rfl, rfl, rfl, rfl, rfl, rfl, rfl⟩
theorem FrW.put (v : Nat → Int64) (st : BSt) : FrW st (bs_put_wordsBefore v st) := ⟨rfl, rfl, rfl, rfl, rfl, rfl, rfl, rfl, rfl, rfl, rfl⟩
theorem FrW.trans {a b c : BSt} (h : FrW a b) (k : FrW b c) : FrW a c := ⟨k.P.trans h.P, k.pg.trans h.pg, k.rt.trans h.rt, k.nw.trans h.nw, k.cl.trans h.cl, k.tp.trans h.tp, k.tc.trans h.tc, k.wr.trans h.wr, k.dk.trans h.dk, k.dv.trans h.dv, k.dc.trans h.dc⟩
theorem wb_put (v : Nat → Int64) (st : BSt) : bs_wordsBefore (bs_put_wordsBefore v st) = v := rfl
theorem cpL_n {f g : Nat → Int64} {n0 n1 sp dp m : Nat} (h1 : sp + m ≤ n0) (h2 : dp + m ≤ n1) (h3 : n0 < 2 ^ 31) (h4 : n1 < 2 ^ 31) : cpL f n0 (nI sp) g n1 (nI dp) (nI m) = some (va_cpy f g sp dp m) := by
  unfold cpL
  rw [nI_clamp (by omega), nI_clamp (by omega), nI_clamp (by omega), if_pos ⟨nI_pos (by omega), nI_pos (by omega), nI_pos (by omega), h1, h2⟩]
theorem fb_sv_go (n : Nat) (st : BSt) {T r : Nat} {pl : Nat → Nat} (hT : T ≤ 2) (hr : r < 8) (hP : bs_P st ≤ 64) (hp : ∀ k, k < T → pl k < bs_P st) (htc : bs_takenCount st = nI T) (htp : ∀ k, k < T → bs_takenPages st k = nI (pl k)) (hwr : bs_writtenRoot st = nI r) (m : Nat) : ∀ (k j : Nat) (s : BSt), j + m = T → m < k → FrW st s → (∀ i, i < 16 * j → bs_wordsBefore s i = cw (bs_pages st) (bs_roots st) (adr T r pl i)) →
    ∃ s', fb_saveWordsBefore_2 n k s (nI j) = some s' ∧ FrW st s' ∧ ∀ i, i < 16 * T + 20 → bs_wordsBefore s' i = cw (bs_pages st) (bs_roots st) (adr T r pl i) := by
  induction m with
  | zero =>
    intro k j s h1 h2 hf hb
    obtain ⟨k, rfl⟩ : ∃ i, k = i + 1 := ⟨k - 1, by omega⟩
    obtain rfl : j = T := by omega
    refine ⟨bs_put_wordsBefore (va_cpy (bs_roots st) (bs_wordsBefore s) (20 * r) (16 * j) 20) s, ?_, hf.trans (FrW.put _ _), fun i hi => ?_⟩
    · rw [fb_saveWordsBefore_2, hf.tc, htc, if_pos (nI_le (by omega) (by omega)), hf.wr, hwr, hf.rt, lt32 20, lt32 16, pk_mul, pk_mul, Nat.mul_comm r 20, Nat.mul_comm j 16, cpL_n (by omega) (by omega) (by omega) (by omega), bind_s]
    · rw [wb_put]
      by_cases q : i < 16 * j
      · rw [pk_cpy_out (by omega)]; exact hb i q
      · rw [pk_cpy_in (by omega) (by omega)]
        unfold cw adr
        rw [if_neg q, if_neg (by omega), show 1024 + 20 * r + (i - 16 * j) - 1024 = 20 * r + (i - 16 * j) by omega]
  | succ m ih =>
    intro k j s h1 h2 hf hb
    obtain ⟨k, rfl⟩ : ∃ i, k = i + 1 := ⟨k - 1, by omega⟩
    have hpj := hp j (by omega)
    rw [fb_saveWordsBefore_2, hf.tc, htc, if_neg (nI_ge (by omega) (by omega)), rdI_n (by omega) (by omega), bind_s, hf.tp, htp j (by omega), hf.pg, hf.P, lt32 16, pk_mul, pk_mul, Nat.mul_comm (pl j) 16, Nat.mul_comm j 16, cpL_n (by omega) (by omega) (by omega) (by omega), bind_s, nI_1]
    refine ih k (j + 1) _ (by omega) (by omega) (hf.trans (FrW.put _ _)) (fun i hi => ?_)
    rw [wb_put]
    by_cases q : i < 16 * j
    · rw [pk_cpy_out (by omega)]; exact hb i q
    · rw [pk_cpy_in (by omega) (by omega)]
      unfold cw adr
      have e : i / 16 = j := by omega
      rw [if_pos (show i < 16 * T by omega), e, if_pos (by omega), show i % 16 = i - 16 * j by omega]
theorem fb_sv {n : Nat} {st : BSt} {T r : Nat} {pl : Nat → Nat} (hT : T ≤ 2) (hr : r < 8) (hP : bs_P st ≤ 64) (hp : ∀ k, k < T → pl k < bs_P st) (htc : bs_takenCount st = nI T) (htp : ∀ k, k < T → bs_takenPages st k = nI (pl k)) (hwr : bs_writtenRoot st = nI r) (hn : 20 < n) : ∃ s', fb_saveWordsBefore n st = some s' ∧ FrW st s' ∧ ∀ i, i < 16 * T + 20 → bs_wordsBefore s' i = cw (bs_pages st) (bs_roots st) (adr T r pl i) := by
  rw [fb_saveWordsBefore]
  exact fb_sv_go n st hT hr hP hp htc htp hwr T n 0 st (by omega) (by omega) (FrW.refl _) (fun i hi => by omega)
/-! the class writes a root -/
abbrev FrR (st st' : BSt) : Prop := (bs_P st' = bs_P st) ∧ (bs_pages st' = bs_pages st) ∧ (bs_newest st' = bs_newest st) ∧ (bs_closed st' = bs_closed st) ∧ (bs_takenPages st' = bs_takenPages st) ∧ (bs_takenCount st' = bs_takenCount st) ∧ (bs_writtenRoot st' = bs_writtenRoot st) ∧ (bs_wordsBefore st' = bs_wordsBefore st) ∧ (bs_draftCount st' = bs_draftCount st)
theorem FrR.P {st st' : BSt} (h : FrR st st') : bs_P st' = bs_P st := h.1
theorem FrR.pg {st st' : BSt} (h : FrR st st') : bs_pages st' = bs_pages st := h.2.1
theorem FrR.nw {st st' : BSt} (h : FrR st st') : bs_newest st' = bs_newest st := h.2.2.1
theorem FrR.cl {st st' : BSt} (h : FrR st st') : bs_closed st' = bs_closed st := h.2.2.2.1
theorem FrR.tp {st st' : BSt} (h : FrR st st') : bs_takenPages st' = bs_takenPages st := h.2.2.2.2.1
theorem FrR.tc {st st' : BSt} (h : FrR st st') : bs_takenCount st' = bs_takenCount st := h.2.2.2.2.2.1
theorem FrR.wr {st st' : BSt} (h : FrR st st') : bs_writtenRoot st' = bs_writtenRoot st := h.2.2.2.2.2.2.1
theorem FrR.wb {st st' : BSt} (h : FrR st st') : bs_wordsBefore st' = bs_wordsBefore st := h.2.2.2.2.2.2.2.1
theorem FrR.dc {st st' : BSt} (h : FrR st st') : bs_draftCount st' = bs_draftCount st := h.2.2.2.2.2.2.2.2
theorem FrR.refl (st : BSt) : FrR st st := ⟨rfl, rfl, rfl, rfl, rfl, rfl, rfl, rfl, rfl⟩
theorem FrR.put (v : Nat → Int64) (st : BSt) : FrR st (bs_put_roots v st) := ⟨rfl, rfl, rfl, rfl, rfl, rfl, rfl, rfl, rfl⟩
theorem FrR.trans {a b c : BSt} (h : FrR a b) (k : FrR b c) : FrR a c := ⟨k.P.trans h.P, k.pg.trans h.pg, k.nw.trans h.nw, k.cl.trans h.cl, k.tp.trans h.tp, k.tc.trans h.tc, k.wr.trans h.wr, k.wb.trans h.wb, k.dc.trans h.dc⟩
theorem q_put (v : Nat → Int64) (st : BSt) : bs_roots (bs_put_roots v st) = v := rfl
def rf (q : Nat → Int64) (a k : Nat) (B : Nat → Int64) : Nat → Int64 := fun x => if a ≤ x ∧ x < a + 20 then (if 2 ≤ x - a ∧ x - a < 2 + k then B (x - a) else 0) else q x
theorem rf_out {q : Nat → Int64} {a k : Nat} {B : Nat → Int64} {x : Nat} (h : x < a ∨ a + 20 ≤ x) : rf q a k B x = q x := by unfold rf; rw [if_neg (by omega)]
theorem rf_s (q : Nat → Int64) (a k : Nat) (B : Nat → Int64) (hk : k < 16) {x : Int64} (hx : x = B (2 + k)) : vp_updL (rf q a k B) (a + 2 + k) x = rf q a (k + 1) B := by
  subst hx
  funext x; unfold vp_updL rf
  by_cases c : x = a + 2 + k
  · rw [if_pos c, if_pos (by omega), if_pos (by omega), show x - a = 2 + k by omega]
  · by_cases c2 : a ≤ x ∧ x < a + 20
    · rw [if_neg c, if_pos c2, if_pos c2]
      by_cases c3 : 2 ≤ x - a ∧ x - a < 2 + k
      · rw [if_pos c3, if_pos (by omega)]
      · rw [if_neg c3, if_neg (by omega)]
    · rw [if_neg c, if_neg c2, if_neg c2]
def nlf (lb T : Nat) (pl pg : Nat → Nat) (k : Nat) : Nat := if k < lb then pl k else if k < lb + T then pg (k - lb) else pl (k + 1 - T)
theorem rootB_l {u L : Nat} {nl : Nat → Nat} {E : Int64} {k : Nat} (h : k < L) (h16 : k < 16) : rootB u L nl E (2 + k) = lN (nl k) := by
  unfold rootB; rw [if_neg (by omega), if_neg (by omega), if_pos (by omega), show 2 + k - 2 = k by omega, if_pos h]
/-- what is fixed while a root is written -/
abbrev WRc (st : BSt) (r r' L lb T u : Nat) (pl pg : Nat → Nat) : Prop := (r < 8) ∧ (r' < 8) ∧ (r ≠ r') ∧ (L ≤ 16) ∧ (lb ≤ L) ∧ (T ≤ 2) ∧ (lb + T + (L - (lb + 1)) ≤ 16) ∧ (∀ i, i < L → pl i < 64) ∧ (∀ i, i < T → pg i < 64) ∧ (bs_roots st (20 * r + 1) = lN L) ∧ (∀ i, i < L → bs_roots st (20 * r + 2 + i) = lN (pl i)) ∧ (bs_takenCount st = nI T) ∧ (∀ i, i < T → bs_takenPages st i = nI (pg i)) ∧ (bs_newest st + 1 = nI u) ∧ (u < 2 ^ 31)
theorem WRc.hr {st : BSt} {r r' L lb T u : Nat} {pl pg : Nat → Nat} (h : WRc st r r' L lb T u pl pg) : r < 8 := h.1
theorem WRc.hr' {st : BSt} {r r' L lb T u : Nat} {pl pg : Nat → Nat} (h : WRc st r r' L lb T u pl pg) : r' < 8 := h.2.1
theorem WRc.ne {st : BSt} {r r' L lb T u : Nat} {pl pg : Nat → Nat} (h : WRc st r r' L lb T u pl pg) : r ≠ r' := h.2.2.1
theorem WRc.L16 {st : BSt} {r r' L lb T u : Nat} {pl pg : Nat → Nat} (h : WRc st r r' L lb T u pl pg) : L ≤ 16 := h.2.2.2.1
theorem WRc.lbL {st : BSt} {r r' L lb T u : Nat} {pl pg : Nat → Nat} (h : WRc st r r' L lb T u pl pg) : lb ≤ L := h.2.2.2.2.1
theorem WRc.T2 {st : BSt} {r r' L lb T u : Nat} {pl pg : Nat → Nat} (h : WRc st r r' L lb T u pl pg) : T ≤ 2 := h.2.2.2.2.2.1
theorem WRc.N16 {st : BSt} {r r' L lb T u : Nat} {pl pg : Nat → Nat} (h : WRc st r r' L lb T u pl pg) : lb + T + (L - (lb + 1)) ≤ 16 := h.2.2.2.2.2.2.1
theorem WRc.p64 {st : BSt} {r r' L lb T u : Nat} {pl pg : Nat → Nat} (h : WRc st r r' L lb T u pl pg) : ∀ i, i < L → pl i < 64 := h.2.2.2.2.2.2.2.1
theorem WRc.g64 {st : BSt} {r r' L lb T u : Nat} {pl pg : Nat → Nat} (h : WRc st r r' L lb T u pl pg) : ∀ i, i < T → pg i < 64 := h.2.2.2.2.2.2.2.2.1
theorem WRc.lv {st : BSt} {r r' L lb T u : Nat} {pl pg : Nat → Nat} (h : WRc st r r' L lb T u pl pg) : bs_roots st (20 * r + 1) = lN L := h.2.2.2.2.2.2.2.2.2.1
theorem WRc.pq {st : BSt} {r r' L lb T u : Nat} {pl pg : Nat → Nat} (h : WRc st r r' L lb T u pl pg) : ∀ i, i < L → bs_roots st (20 * r + 2 + i) = lN (pl i) := h.2.2.2.2.2.2.2.2.2.2.1
theorem WRc.tc {st : BSt} {r r' L lb T u : Nat} {pl pg : Nat → Nat} (h : WRc st r r' L lb T u pl pg) : bs_takenCount st = nI T := h.2.2.2.2.2.2.2.2.2.2.2.1
theorem WRc.tp {st : BSt} {r r' L lb T u : Nat} {pl pg : Nat → Nat} (h : WRc st r r' L lb T u pl pg) : ∀ i, i < T → bs_takenPages st i = nI (pg i) := h.2.2.2.2.2.2.2.2.2.2.2.2.1
theorem WRc.nw {st : BSt} {r r' L lb T u : Nat} {pl pg : Nat → Nat} (h : WRc st r r' L lb T u pl pg) : bs_newest st + 1 = nI u := h.2.2.2.2.2.2.2.2.2.2.2.2.2.1
theorem WRc.u31 {st : BSt} {r r' L lb T u : Nat} {pl pg : Nat → Nat} (h : WRc st r r' L lb T u pl pg) : u < 2 ^ 31 := h.2.2.2.2.2.2.2.2.2.2.2.2.2.2
theorem fb_wr143 (n : Nat) (st : BSt) {r r' L lb T u : Nat} {pl pg : Nat → Nat} (h : WRc st r r' L lb T u pl pg) {x4 : Int32} {E : Int64} (hE : E = (((bs_roots st (20 * r + 18)).toInt32 - x4) + bs_draftCount st).toInt64) (hn : 20 < n) (m : Nat) : ∀ (k j : Nat) (s : BSt), lb + 1 ≤ j → j + m = max L (lb + 1) → m < k → FrR st s → bs_roots s = rf (bs_roots st) (20 * r') (j - 1 + T) (rootB u (lb + T + (L - (lb + 1))) (nlf lb T pl pg) E) →
    ∃ s', fb_writeRoot_143 n k s (nI r) (nI (20 * r')) x4 (nI L) (nI (j - 1 + T)) (nI j) = some s' ∧ FrR st s' ∧ ∀ x, bs_roots s' x = if 20 * r' ≤ x ∧ x < 20 * r' + 20 then rootV u (lb + T + (L - (lb + 1))) (nlf lb T pl pg) E (x - 20 * r') else bs_roots st x := by
  have hr := h.hr; have hr' := h.hr'; have hne := h.ne; have hL := h.L16; have hT := h.T2; have hN := h.N16; have hlb := h.lbL; have hu := h.u31
  generalize hB : rootB u (lb + T + (L - (lb + 1))) (nlf lb T pl pg) E = B
  generalize hNN : lb + T + (L - (lb + 1)) = N
  rw [hNN] at hB hN
  induction m with
  | zero =>
    intro k j s hj h1 h2 hf hg
    obtain ⟨k, rfl⟩ : ∃ i, k = i + 1 := ⟨k - 1, by omega⟩
    have ej : j - 1 + T = N := by omega
    rw [ej] at hg ⊢
    have b0 : B 0 = lN u := by rw [← hB]; unfold rootB; rw [if_pos rfl]
    have b1 : B 1 = lN N := by rw [← hB]; unfold rootB; rw [if_neg (by omega), if_pos rfl]
    have b18 : B 18 = E := by rw [← hB]; unfold rootB; rw [if_neg (by omega), if_neg (by omega), if_neg (by omega)]
    have bz : ∀ i, 2 + N ≤ i → i < 18 → B i = 0 := by
      intro i q1 q2
      rw [← hB]; unfold rootB; rw [if_neg (by omega), if_neg (by omega), if_pos q2, if_neg (by omega)]
    have hX : ∀ x, vp_updL (vp_updL (vp_updL (bs_roots s) (20 * r') (lN u)) (20 * r' + 1) (lN N)) (20 * r' + 18) E x = if 20 * r' ≤ x ∧ x < 20 * r' + 20 then (if x - 20 * r' < 19 then B (x - 20 * r') else 0) else bs_roots st x := by
      intro x
      rw [hg]
      unfold vp_updL rf
      by_cases q : 20 * r' ≤ x ∧ x < 20 * r' + 20
      · rw [if_pos q]
        by_cases q18 : x = 20 * r' + 18
        · rw [if_pos q18, if_pos (by omega), show x - 20 * r' = 18 by omega, b18, if_pos (by omega)]
        · rw [if_neg q18]
          by_cases q1 : x = 20 * r' + 1
          · rw [if_pos q1, if_pos (by omega), show x - 20 * r' = 1 by omega, b1, if_pos (by omega)]
          · rw [if_neg q1]
            by_cases q0 : x = 20 * r'
            · rw [if_pos q0, if_pos (by omega), show x - 20 * r' = 0 by omega, b0, if_pos (by omega)]
            · rw [if_neg q0, if_pos q]
              by_cases q2 : 2 ≤ x - 20 * r' ∧ x - 20 * r' < 2 + N
              · rw [if_pos q2, if_pos (by omega)]
              · rw [if_neg q2]
                by_cases q3 : x - 20 * r' < 19
                · rw [if_pos q3, bz _ (by omega) (by omega)]
                · rw [if_neg q3]
      · rw [if_neg (by omega), if_neg (by omega), if_neg (by omega), if_neg q, if_neg q]
    generalize hX' : vp_updL (vp_updL (vp_updL (bs_roots s) (20 * r') (lN u)) (20 * r' + 1) (lN N)) (20 * r' + 18) E = X at hX
    have e : sumN X (20 * r') 19 = sumN B 0 19 := by
      apply sumN_congr
      intro i hi
      rw [hX, if_pos (by omega), if_pos (by omega), show 20 * r' + i - 20 * r' = 0 + i by omega]
    have e18 : vp_updL (vp_updL (bs_roots s) (20 * r') (lN u)) (20 * r' + 1) (lN N) (20 * r + 18) = bs_roots st (20 * r + 18) := by
      rw [pk_uLn (by omega), pk_uLn (by omega), hg, rf_out (by omega)]
    refine ⟨bs_put_roots (vp_updL X (20 * r' + 19) (sumN B 0 19)) (bs_put_roots X (bs_put_roots (vp_updL (vp_updL (bs_roots s) (20 * r') (lN u)) (20 * r' + 1) (lN N)) (bs_put_roots (vp_updL (bs_roots s) (20 * r') (lN u)) s))), ?_, (((hf.trans (FrR.put _ _)).trans (FrR.put _ _)).trans (FrR.put _ _)).trans (FrR.put _ _), fun x => ?_⟩
    · rw [fb_writeRoot_143, if_pos (by rw [nI_leI (by omega) (by omega)]; omega), hf.nw, h.nw, nI_l hu, wrL_n (by omega) (by omega), bind_s, nI_1, nI_l (by omega), wrL_n (by omega) (by omega), bind_s, fb_entriesRE hr, q_put, e18, bind_s, hf.dc, ← hE, lt32 18, nI_add, wrL_n (by omega) (by omega), bind_s, hX', lt32 19, fb_sum (by omega) (by omega) (by omega), bind_s, e, nI_add, wrL_n (by omega) (by omega), bind_s]
    · rw [q_put]
      unfold rootV vp_updL
      by_cases q19 : x = 20 * r' + 19
      · rw [if_pos q19, if_pos (by omega), if_pos (by omega), hB]
      · rw [if_neg q19, hX]
        by_cases q : 20 * r' ≤ x ∧ x < 20 * r' + 20
        · rw [if_pos q, if_pos q, if_pos (by omega), if_neg (by omega), hB]
        · rw [if_neg q, if_neg q]
  | succ m ih =>
    intro k j s hj h1 h2 hf hg
    obtain ⟨k, rfl⟩ : ∃ i, k = i + 1 := ⟨k - 1, by omega⟩
    have hjL : j < L := by omega
    have hpl := h.p64 j hjL
    have e : vp_updL (bs_roots s) (20 * r' + 2 + (j - 1 + T)) (lN (pl j)) = rf (bs_roots st) (20 * r') (j + 1 - 1 + T) B := by
      rw [hg, show j + 1 - 1 + T = j - 1 + T + 1 by omega]
      refine rf_s _ _ _ _ (by omega) ?_
      rw [← hB, rootB_l (by omega) (by omega)]
      unfold nlf
      rw [if_neg (by omega), if_neg (by omega), show j - 1 + T + 1 - T = j by omega]
    rw [fb_writeRoot_143, if_neg (nI_ge hjL (by omega)), fb_pageOfE hr (by omega), bind_s, hg, rf_out (by omega), h.pq j hjL, lN_i, nI_l (by omega), lt32 2, nI_add, nI_add, ← hg, wrL_n (by omega) (by omega), bind_s, nI_1, nI_1, e, show j - 1 + T + 1 = j + 1 - 1 + T by omega]
    exact ih k (j + 1) _ (by omega) (by omega) (by omega) (hf.trans (FrR.put _ _)) (q_put _ _)
theorem fb_wr100 (n : Nat) (st : BSt) {r r' L lb T u : Nat} {pl pg : Nat → Nat} (h : WRc st r r' L lb T u pl pg) {x4 : Int32} {E : Int64} (hE : E = (((bs_roots st (20 * r + 18)).toInt32 - x4) + bs_draftCount st).toInt64) (hn : 20 < n) (m : Nat) : ∀ (k j : Nat) (s : BSt), j + m = T → m < k → FrR st s → bs_roots s = rf (bs_roots st) (20 * r') (lb + j) (rootB u (lb + T + (L - (lb + 1))) (nlf lb T pl pg) E) →
    ∃ s', fb_writeRoot_100 n k s (nI r) (nI (20 * r')) x4 (nI lb) (nI L) (nI (lb + j)) (nI j) = some s' ∧ FrR st s' ∧ ∀ x, bs_roots s' x = if 20 * r' ≤ x ∧ x < 20 * r' + 20 then rootV u (lb + T + (L - (lb + 1))) (nlf lb T pl pg) E (x - 20 * r') else bs_roots st x := by
  have hr := h.hr; have hr' := h.hr'; have hne := h.ne; have hL := h.L16; have hT := h.T2; have hN := h.N16; have hlb := h.lbL
  induction m with
  | zero =>
    intro k j s h1 h2 hf hg
    obtain ⟨k, rfl⟩ : ∃ i, k = i + 1 := ⟨k - 1, by omega⟩
    obtain rfl : j = T := by omega
    rw [fb_writeRoot_100, hf.tc, h.tc, if_pos (nI_le (by omega) (by omega)), nI_1]
    have := fb_wr143 n st h hE hn (max L (lb + 1) - (lb + 1)) n (lb + 1) s (by omega) (by omega) (by omega) hf (by rw [show lb + 1 - 1 + j = lb + j by omega]; exact hg)
    rw [show lb + 1 - 1 + j = lb + j by omega] at this
    exact this
  | succ m ih =>
    intro k j s h1 h2 hf hg
    obtain ⟨k, rfl⟩ : ∃ i, k = i + 1 := ⟨k - 1, by omega⟩
    have hpl := h.g64 j (by omega)
    have e : vp_updL (bs_roots s) (20 * r' + 2 + (lb + j)) (lN (pg j)) = rf (bs_roots st) (20 * r') (lb + (j + 1)) (rootB u (lb + T + (L - (lb + 1))) (nlf lb T pl pg) E) := by
      rw [hg]
      refine rf_s _ _ _ _ (by omega) ?_
      rw [rootB_l (by omega) (by omega)]
      unfold nlf
      rw [if_neg (by omega), if_pos (by omega), show lb + j - lb = j by omega]
    rw [fb_writeRoot_100, hf.tc, h.tc, if_neg (nI_ge (by omega) (by omega)), rdI_n (by omega) (by omega), bind_s, hf.tp, h.tp j (by omega), nI_l (by omega), lt32 2, nI_add, nI_add, wrL_n (by omega) (by omega), bind_s, nI_1, nI_1, e]
    exact ih k (j + 1) _ (by omega) (by omega) (hf.trans (FrR.put _ _)) (q_put _ _)
theorem fb_wr62 (n : Nat) (st : BSt) {r r' L lb T u : Nat} {pl pg : Nat → Nat} (h : WRc st r r' L lb T u pl pg) {x4 : Int32} {E : Int64} (hE : E = (((bs_roots st (20 * r + 18)).toInt32 - x4) + bs_draftCount st).toInt64) (hn : 20 < n) (m : Nat) : ∀ (k j : Nat) (s : BSt), j + m = lb → m < k → FrR st s → bs_roots s = rf (bs_roots st) (20 * r') j (rootB u (lb + T + (L - (lb + 1))) (nlf lb T pl pg) E) →
    ∃ s', fb_writeRoot_62 n k s (nI r) (nI (20 * r')) x4 (nI lb) (nI L) (nI j) (nI j) = some s' ∧ FrR st s' ∧ ∀ x, bs_roots s' x = if 20 * r' ≤ x ∧ x < 20 * r' + 20 then rootV u (lb + T + (L - (lb + 1))) (nlf lb T pl pg) E (x - 20 * r') else bs_roots st x := by
  have hr := h.hr; have hr' := h.hr'; have hne := h.ne; have hL := h.L16; have hT := h.T2; have hN := h.N16; have hlb := h.lbL
  induction m with
  | zero =>
    intro k j s h1 h2 hf hg
    obtain ⟨k, rfl⟩ : ∃ i, k = i + 1 := ⟨k - 1, by omega⟩
    obtain rfl : j = lb := by omega
    rw [fb_writeRoot_62, if_pos (nI_le (by omega) (by omega))]
    exact fb_wr100 n st h hE hn T n 0 s (by omega) (by omega) hf (by rw [Nat.add_zero]; exact hg)
  | succ m ih =>
    intro k j s h1 h2 hf hg
    obtain ⟨k, rfl⟩ : ∃ i, k = i + 1 := ⟨k - 1, by omega⟩
    have hpl := h.p64 j (by omega)
    have e : vp_updL (bs_roots s) (20 * r' + 2 + j) (lN (pl j)) = rf (bs_roots st) (20 * r') (j + 1) (rootB u (lb + T + (L - (lb + 1))) (nlf lb T pl pg) E) := by
      rw [hg]
      refine rf_s _ _ _ _ (by omega) ?_
      rw [rootB_l (by omega) (by omega)]
      unfold nlf
      rw [if_pos (by omega)]
    rw [fb_writeRoot_62, if_neg (nI_ge (by omega) (by omega)), fb_pageOfE hr (by omega), bind_s, hg, rf_out (by omega), h.pq j (by omega), lN_i, nI_l (by omega), lt32 2, nI_add, nI_add, ← hg, wrL_n (by omega) (by omega), bind_s, nI_1, e]
    exact ih k (j + 1) _ (by omega) (by omega) (hf.trans (FrR.put _ _)) (q_put _ _)
theorem fb_wr27 {n : Nat} {st : BSt} {r r' L lb T u : Nat} {pl pg : Nat → Nat} (h : WRc st r r' L lb T u pl pg) {x2 x4 : Int32} {E : Int64} (hE : E = (((bs_roots st (20 * r + 18)).toInt32 - x4) + bs_draftCount st).toInt64) (hn : 20 < n) (hwr : bs_writtenRoot st = nI r') (hx : (x2 = -1 ∧ lb = 0) ∨ x2 = nI lb) :
    ∃ s', fb_writeRoot_27 n st (nI r) x2 (nI (20 * r')) x4 = some s' ∧ FrR st s' ∧ ∀ x, bs_roots s' x = if 20 * r' ≤ x ∧ x < 20 * r' + 20 then rootV u (lb + T + (L - (lb + 1))) (nlf lb T pl pg) E (x - 20 * r') else bs_roots st x := by
  obtain ⟨Q, hQ, hq⟩ := fb_clr (st := st) (n := n) h.hr' hn
  have hr := h.hr; have hL := h.L16; have hlb := h.lbL
  have h0 : Q = rf (bs_roots st) (20 * r') 0 (rootB u (lb + T + (L - (lb + 1))) (nlf lb T pl pg) E) := by
    funext x
    rw [hq]; unfold rf
    by_cases c : 20 * r' ≤ x ∧ x < 20 * r' + 20
    · rw [if_pos c, if_pos c, if_neg (by omega)]
    · rw [if_neg c, if_neg c]
  have go := fb_wr62 n st h hE hn lb n 0 (bs_put_roots Q st) (by omega) (by omega) (FrR.put _ _) (by rw [q_put]; exact h0)
  rw [fb_writeRoot_27, fb_leavesOfE hr, bind_s, bind_s, h.lv, lN_i, hwr, hQ, bind_s, bind_s]
  rcases hx with ⟨rfl, rfl⟩ | rfl
  · rw [if_pos rfl]; exact go
  · rw [if_neg (nI_m1 (by omega))]; exact go
