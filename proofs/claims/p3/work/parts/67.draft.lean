/-! the draft of an ACT: both sides load, enter, take out alike -/
def pix (K : Nat → Int64) (y : Int64) : Nat → Nat → Nat
  | 0, j => j
  | m + 1, j => if K j < y then pix K y m (j + 1) else j
theorem pix_le {K : Nat → Int64} {y : Int64} (m : Nat) : ∀ j, j ≤ pix K y m j ∧ pix K y m j ≤ j + m := by
  induction m with
  | zero => intro j; exact ⟨Nat.le_refl _, Nat.le_refl _⟩
  | succ m ih =>
    intro j
    rw [pix]
    split
    · have := ih (j + 1); omega
    · omega
theorem pix_lo {K : Nat → Int64} {y : Int64} (m : Nat) : ∀ j i, j ≤ i → i < pix K y m j → K i < y := by
  induction m with
  | zero => intro j i h1 h2; rw [pix] at h2; omega
  | succ m ih =>
    intro j i h1 h2
    rw [pix] at h2
    split at h2
    · rename_i c
      by_cases e : i = j
      · rw [e]; exact c
      · exact ih (j + 1) i (by omega) h2
    · omega
theorem pix_hi {K : Nat → Int64} {y : Int64} (m : Nat) : ∀ j, pix K y m j < j + m → ¬ K (pix K y m j) < y := by
  induction m with
  | zero => intro j h; rw [pix] at h; omega
  | succ m ih =>
    intro j h
    rw [pix] at h ⊢
    split
    · rename_i c
      rw [if_pos c] at h
      exact ih (j + 1) (by omega)
    · rename_i c; exact c
theorem pix_congr {K K' : Nat → Int64} {y : Int64} (m : Nat) : ∀ j, (∀ i, j ≤ i → i < j + m → K i = K' i) → pix K y m j = pix K' y m j := by
  induction m with
  | zero => intro j _; rfl
  | succ m ih =>
    intro j h
    rw [pix, pix, h j (by omega) (by omega), ih (j + 1) (fun i h1 h2 => h i (by omega) (by omega))]
def hasK (K : Nat → Int64) (y : Int64) (c : Nat) : Bool := decide (pix K y c 0 < c) && decide (K (pix K y c 0) = y)
theorem hasK_congr {K K' : Nat → Int64} {y : Int64} {c : Nat} (h : ∀ i, i < c → K i = K' i) : hasK K y c = hasK K' y c := by
  unfold hasK
  rw [pix_congr c 0 (fun i _ hi => h i (by omega))]
  by_cases q : pix K' y c 0 < c
  · rw [h _ q]
  · simp [q]
def putC (K : Nat → Int64) (y : Int64) (c : Nat) : Nat := if hasK K y c = true then c else c + 1
def putF (K : Nat → Int64) (y : Int64) (c : Nat) (F : Nat → Int64) (x : Int64) (i : Nat) : Int64 := if i < pix K y c 0 then F i else if i = pix K y c 0 then x else if hasK K y c = true then F i else F (i - 1)
theorem putF_has {K F : Nat → Int64} {y x : Int64} {c : Nat} (q : hasK K y c = true) (i : Nat) : vp_updL F (pix K y c 0) x i = putF K y c F x i := by
  unfold putF vp_updL
  rw [q, if_pos rfl]
  by_cases e : i = pix K y c 0
  · rw [if_pos e, if_neg (by omega)]
  · rw [if_neg e]; split <;> rfl
theorem putF_ins {K F : Nat → Int64} {y x : Int64} {c : Nat} (q : hasK K y c = false) {i : Nat} (hi : i ≤ c) : (if i = pix K y c 0 then x else if pix K y c 0 < i ∧ i ≤ c then F (i - 1) else F i) = putF K y c F x i := by
  unfold putF
  rw [q, if_neg (show ¬ false = true by decide)]
  by_cases e : i = pix K y c 0
  · rw [if_pos e, if_neg (by omega), if_pos e]
  · rw [if_neg e, if_neg e]
    by_cases e2 : i < pix K y c 0
    · rw [if_neg (by omega), if_pos e2]
    · rw [if_pos (by omega), if_neg e2]
theorem putC_t {K : Nat → Int64} {y : Int64} {c : Nat} (q : hasK K y c = true) : putC K y c = c := by unfold putC; rw [q]; rfl
theorem putC_f {K : Nat → Int64} {y : Int64} {c : Nat} (q : hasK K y c = false) : putC K y c = c + 1 := by unfold putC; rw [q]; rfl
def dropF (K : Nat → Int64) (y : Int64) (c : Nat) (F : Nat → Int64) (i : Nat) : Int64 := if i < pix K y c 0 then F i else F (i + 1)
theorem putF_congr {K K' F F' : Nat → Int64} {y x : Int64} {c : Nat} (h : ∀ i, i < c → K i = K' i) (hF : ∀ i, i < c → F i = F' i) {i : Nat} (hi : i < putC K y c) : putF K y c F x i = putF K' y c F' x i := by
  have e1 := hasK_congr (y := y) h
  have e2 : pix K y c 0 = pix K' y c 0 := pix_congr c 0 (fun i _ hi => h i (by omega))
  have hp := pix_le (K := K) (y := y) c 0
  unfold putF
  unfold putC at hi
  rw [← e1, ← e2]
  by_cases q1 : i < pix K y c 0
  · rw [if_pos q1, if_pos q1, hF i (by omega)]
  · rw [if_neg q1, if_neg q1]
    by_cases q2 : i = pix K y c 0
    · rw [if_pos q2, if_pos q2]
    · rw [if_neg q2, if_neg q2]
      cases q3 : hasK K y c with
      | true => rw [q3, if_pos rfl] at hi; rw [if_pos rfl, if_pos rfl, hF i hi]
      | false => rw [q3] at hi; rw [if_neg (by decide), if_neg (by decide), hF (i - 1) (by simp at hi; omega)]
theorem dropF_congr {K K' F F' : Nat → Int64} {y : Int64} {c : Nat} (h : ∀ i, i < c → K i = K' i) (hF : ∀ i, i < c → F i = F' i) {i : Nat} (hi : i + 1 < c) : dropF K y c F i = dropF K' y c F' i := by
  have e2 : pix K y c 0 = pix K' y c 0 := pix_congr c 0 (fun i _ hi => h i (by omega))
  unfold dropF
  rw [← e2, hF i (by omega), hF (i + 1) hi]
theorem gc_put (v : Int32) (st : BSt) : bs_draftCount (bs_put_draftCount v st) = v := rfl
theorem gm_put (v : Int32) (st : MSt) : qbs_many (qbs_put_many v st) = v := rfl
theorem P_kv (K V : Nat → Int64) (st : BSt) : bs_P (bs_put_draftValues V (bs_put_draftKeys K st)) = bs_P st := rfl
theorem c_kv (K V : Nat → Int64) (st : BSt) : bs_draftCount (bs_put_draftValues V (bs_put_draftKeys K st)) = bs_draftCount st := rfl
theorem w_kv (K V : Nat → Int64) (st : MSt) : qbs_words (qbs_put_values V (qbs_put_keys K st)) = qbs_words st := rfl
theorem n_kv (K V : Nat → Int64) (st : MSt) : qbs_newest (qbs_put_values V (qbs_put_keys K st)) = qbs_newest st := rfl
theorem m_kv (K V : Nat → Int64) (st : MSt) : qbs_many (qbs_put_values V (qbs_put_keys K st)) = qbs_many st := rfl
theorem pg_kv (K V : Nat → Int64) (st : BSt) : bs_pages (bs_put_draftValues V (bs_put_draftKeys K st)) = bs_pages st := rfl
theorem k_kv (K V : Nat → Int64) (st : BSt) : bs_draftKeys (bs_put_draftValues V (bs_put_draftKeys K st)) = K := rfl
theorem v_kv (K V : Nat → Int64) (st : BSt) : bs_draftValues (bs_put_draftValues V (bs_put_draftKeys K st)) = V := rfl
theorem mk_kv (K V : Nat → Int64) (st : MSt) : qbs_keys (qbs_put_values V (qbs_put_keys K st)) = K := rfl
theorem mv_kv (K V : Nat → Int64) (st : MSt) : qbs_values (qbs_put_values V (qbs_put_keys K st)) = V := rfl
/-- all but the draft is the same -/
abbrev FrB (st st' : BSt) : Prop := (bs_P st' = bs_P st) ∧ (bs_pages st' = bs_pages st) ∧ (bs_roots st' = bs_roots st) ∧ (bs_newest st' = bs_newest st) ∧ (bs_closed st' = bs_closed st) ∧ (bs_canBeCut st' = bs_canBeCut st) ∧ (bs_takenPages st' = bs_takenPages st) ∧ (bs_takenCount st' = bs_takenCount st) ∧ (bs_writtenRoot st' = bs_writtenRoot st) ∧ (bs_wordsBefore st' = bs_wordsBefore st)
theorem FrB.P {st st' : BSt} (h : FrB st st') : bs_P st' = bs_P st := h.1
theorem FrB.pg {st st' : BSt} (h : FrB st st') : bs_pages st' = bs_pages st := h.2.1
theorem FrB.rt {st st' : BSt} (h : FrB st st') : bs_roots st' = bs_roots st := h.2.2.1
theorem FrB.nw {st st' : BSt} (h : FrB st st') : bs_newest st' = bs_newest st := h.2.2.2.1
theorem FrB.cl {st st' : BSt} (h : FrB st st') : bs_closed st' = bs_closed st := h.2.2.2.2.1
theorem FrB.cb {st st' : BSt} (h : FrB st st') : bs_canBeCut st' = bs_canBeCut st := h.2.2.2.2.2.1
theorem FrB.tp {st st' : BSt} (h : FrB st st') : bs_takenPages st' = bs_takenPages st := h.2.2.2.2.2.2.1
theorem FrB.tc {st st' : BSt} (h : FrB st st') : bs_takenCount st' = bs_takenCount st := h.2.2.2.2.2.2.2.1
theorem FrB.wr {st st' : BSt} (h : FrB st st') : bs_writtenRoot st' = bs_writtenRoot st := h.2.2.2.2.2.2.2.2.1
theorem FrB.wb {st st' : BSt} (h : FrB st st') : bs_wordsBefore st' = bs_wordsBefore st := h.2.2.2.2.2.2.2.2.2
theorem FrB.refl (st : BSt) : FrB st st := ⟨rfl, rfl, rfl, rfl, rfl, rfl, rfl, rfl, rfl, rfl⟩
theorem FrB.trans {a b c : BSt} (h : FrB a b) (k : FrB b c) : FrB a c := ⟨k.P.trans h.P, k.pg.trans h.pg, k.rt.trans h.rt, k.nw.trans h.nw, k.cl.trans h.cl, k.cb.trans h.cb, k.tp.trans h.tp, k.tc.trans h.tc, k.wr.trans h.wr, k.wb.trans h.wb⟩
theorem FrB.dk (v : Nat → Int64) (st : BSt) : FrB st (bs_put_draftKeys v st) := ⟨rfl, rfl, rfl, rfl, rfl, rfl, rfl, rfl, rfl, rfl⟩
theorem FrB.dv (v : Nat → Int64) (st : BSt) : FrB st (bs_put_draftValues v st) := ⟨rfl, rfl, rfl, rfl, rfl, rfl, rfl, rfl, rfl, rfl⟩
theorem FrB.dc (v : Int32) (st : BSt) : FrB st (bs_put_draftCount v st) := ⟨rfl, rfl, rfl, rfl, rfl, rfl, rfl, rfl, rfl, rfl⟩
abbrev FrM (st st' : MSt) : Prop := (qbs_pages st' = qbs_pages st) ∧ (qbs_words st' = qbs_words st) ∧ (qbs_newest st' = qbs_newest st) ∧ (qbs_closed st' = qbs_closed st) ∧ (qbs_written st' = qbs_written st) ∧ (qbs_places st' = qbs_places st) ∧ (qbs_before st' = qbs_before st) ∧ (qbs_altered st' = qbs_altered st)
theorem FrM.pg {st st' : MSt} (h : FrM st st') : qbs_pages st' = qbs_pages st := h.1
theorem FrM.wd {st st' : MSt} (h : FrM st st') : qbs_words st' = qbs_words st := h.2.1
theorem FrM.nw {st st' : MSt} (h : FrM st st') : qbs_newest st' = qbs_newest st := h.2.2.1
theorem FrM.cl {st st' : MSt} (h : FrM st st') : qbs_closed st' = qbs_closed st := h.2.2.2.1
theorem FrM.wn {st st' : MSt} (h : FrM st st') : qbs_written st' = qbs_written st := h.2.2.2.2.1
theorem FrM.pl {st st' : MSt} (h : FrM st st') : qbs_places st' = qbs_places st := h.2.2.2.2.2.1
theorem FrM.bf {st st' : MSt} (h : FrM st st') : qbs_before st' = qbs_before st := h.2.2.2.2.2.2.1
theorem FrM.al {st st' : MSt} (h : FrM st st') : qbs_altered st' = qbs_altered st := h.2.2.2.2.2.2.2
theorem FrM.refl (st : MSt) : FrM st st := ⟨rfl, rfl, rfl, rfl, rfl, rfl, rfl, rfl⟩
theorem FrM.trans {a b c : MSt} (h : FrM a b) (k : FrM b c) : FrM a c := ⟨k.pg.trans h.pg, k.wd.trans h.wd, k.nw.trans h.nw, k.cl.trans h.cl, k.wn.trans h.wn, k.pl.trans h.pl, k.bf.trans h.bf, k.al.trans h.al⟩
theorem FrM.dk (v : Nat → Int64) (st : MSt) : FrM st (qbs_put_keys v st) := ⟨rfl, rfl, rfl, rfl, rfl, rfl, rfl, rfl⟩
theorem FrM.dv (v : Nat → Int64) (st : MSt) : FrM st (qbs_put_values v st) := ⟨rfl, rfl, rfl, rfl, rfl, rfl, rfl, rfl⟩
theorem FrM.dc (v : Int32) (st : MSt) : FrM st (qbs_put_many v st) := ⟨rfl, rfl, rfl, rfl, rfl, rfl, rfl, rfl⟩
theorem FrM.thr (v : Int32) (st : MSt) : FrM st (qbs_put_thrown v st) := ⟨rfl, rfl, rfl, rfl, rfl, rfl, rfl, rfl⟩
theorem FrM.lv (v : Nat → Int32) (st : MSt) : FrM st (qbs_put_leaves v st) := ⟨rfl, rfl, rfl, rfl, rfl, rfl, rfl, rfl⟩
theorem FrM.lc (v : Int32) (st : MSt) : FrM st (qbs_put_leafCount v st) := ⟨rfl, rfl, rfl, rfl, rfl, rfl, rfl, rfl⟩
theorem FrM.tk (v : Nat → Int32) (st : MSt) : FrM st (qbs_put_taken v st) := ⟨rfl, rfl, rfl, rfl, rfl, rfl, rfl, rfl⟩
theorem bshift (n : Nat) {px : Nat} (y : Int32) (x : Int64) (m : Nat) : ∀ (f : Nat) (st : BSt), px + m ≤ 7 → m < f → ∃ st', fb_putInDraft_23 n f st y x (nI px) (nI (px + m)) = some st' ∧ FrB st st' ∧ bs_draftCount st' = bs_draftCount st + 1 ∧ ∀ i, bs_draftKeys st' i = (if i = px then y.toInt64 else if px < i ∧ i ≤ px + m then bs_draftKeys st (i - 1) else bs_draftKeys st i) ∧ bs_draftValues st' i = (if i = px then x else if px < i ∧ i ≤ px + m then bs_draftValues st (i - 1) else bs_draftValues st i) := by
  induction m with
  | zero =>
    intro f st h1 h2
    obtain ⟨f, rfl⟩ : ∃ i, f = i + 1 := ⟨f - 1, by omega⟩
    refine ⟨bs_put_draftValues (vp_updL (bs_draftValues st) px x) (bs_put_draftKeys (vp_updL (bs_draftKeys st) px y.toInt64) (bs_put_draftCount (bs_draftCount st + 1) st)), ?_, ((FrB.dc _ _).trans (FrB.dk _ _)).trans (FrB.dv _ _), rfl, fun i => ?_⟩
    · rw [fb_putInDraft_23, if_pos (nI_le (by omega) (by omega)), wrL_n (by omega) (by omega), bind_s, wrL_n (by omega) (by omega), bind_s]
    · show vp_updL (bs_draftKeys st) px y.toInt64 i = _ ∧ vp_updL (bs_draftValues st) px x i = _
      unfold vp_updL
      by_cases c : i = px
      · rw [if_pos c, if_pos c, if_pos c, if_pos c]; exact ⟨rfl, rfl⟩
      · rw [if_neg c, if_neg c, if_neg c, if_neg c, if_neg (by omega), if_neg (by omega)]; exact ⟨rfl, rfl⟩
  | succ m ih =>
    intro f st h1 h2
    obtain ⟨f, rfl⟩ : ∃ i, f = i + 1 := ⟨f - 1, by omega⟩
    obtain ⟨st', e, hf, hc, hk⟩ := ih f (bs_put_draftValues (vp_updL (bs_draftValues st) (px + m + 1) (bs_draftValues st (px + m))) (bs_put_draftKeys (vp_updL (bs_draftKeys st) (px + m + 1) (bs_draftKeys st (px + m))) st)) (by omega) (by omega)
    refine ⟨st', ?_, ((FrB.dk _ _).trans (FrB.dv _ _)).trans hf, hc, fun i => ?_⟩
    · rw [fb_putInDraft_23, if_neg (nI_ge (by omega) (by omega)), show px + (m + 1) = px + m + 1 from rfl, nI_pred, rdL_n (by omega) (by omega), bind_s, wrL_n (by omega) (by omega), bind_s, rdL_n (by omega) (by omega), bind_s, wrL_n (by omega) (by omega), bind_s, pk_m1]
      exact e
    · obtain ⟨k1, k2⟩ := hk i
      have ek : bs_draftKeys (bs_put_draftValues (vp_updL (bs_draftValues st) (px + m + 1) (bs_draftValues st (px + m))) (bs_put_draftKeys (vp_updL (bs_draftKeys st) (px + m + 1) (bs_draftKeys st (px + m))) st)) = vp_updL (bs_draftKeys st) (px + m + 1) (bs_draftKeys st (px + m)) := rfl
      have ev : bs_draftValues (bs_put_draftValues (vp_updL (bs_draftValues st) (px + m + 1) (bs_draftValues st (px + m))) (bs_put_draftKeys (vp_updL (bs_draftKeys st) (px + m + 1) (bs_draftKeys st (px + m))) st)) = vp_updL (bs_draftValues st) (px + m + 1) (bs_draftValues st (px + m)) := rfl
      rw [ek] at k1
      rw [ev] at k2
      rw [k1, k2]
      by_cases c1 : i = px
      · rw [if_pos c1, if_pos c1, if_pos c1, if_pos c1]; exact ⟨rfl, rfl⟩
      · rw [if_neg c1, if_neg c1, if_neg c1, if_neg c1]
        by_cases c2 : px < i ∧ i ≤ px + m
        · rw [if_pos c2, if_pos c2, if_pos (by omega), if_pos (by omega), pk_uLn (by omega), pk_uLn (by omega)]; exact ⟨rfl, rfl⟩
        · rw [if_neg c2, if_neg c2]
          by_cases c3 : i = px + m + 1
          · rw [if_pos (by omega), if_pos (by omega), c3, pk_uLs, pk_uLs]; exact ⟨rfl, rfl⟩
          · rw [if_neg (by omega), if_neg (by omega), pk_uLn c3, pk_uLn c3]; exact ⟨rfl, rfl⟩
theorem mshift (n : Nat) {px : Nat} (y : Int32) (x : Int64) (m : Nat) : ∀ (f : Nat) (st : MSt), px + m ≤ 7 → m < f → ∃ st', fm_enter_59 n f st y x (nI px) (nI (px + m)) = some st' ∧ FrM st st' ∧ qbs_many st' = qbs_many st + 1 ∧ ∀ i, qbs_keys st' i = (if i = px then y.toInt64 else if px < i ∧ i ≤ px + m then qbs_keys st (i - 1) else qbs_keys st i) ∧ qbs_values st' i = (if i = px then x else if px < i ∧ i ≤ px + m then qbs_values st (i - 1) else qbs_values st i) := by
  induction m with
  | zero =>
    intro f st h1 h2
    obtain ⟨f, rfl⟩ : ∃ i, f = i + 1 := ⟨f - 1, by omega⟩
    refine ⟨qbs_put_values (vp_updL (qbs_values st) px x) (qbs_put_keys (vp_updL (qbs_keys st) px y.toInt64) (qbs_put_many (qbs_many st + 1) st)), ?_, ((FrM.dc _ _).trans (FrM.dk _ _)).trans (FrM.dv _ _), rfl, fun i => ?_⟩
    · rw [fm_enter_59, if_pos (nI_le (by omega) (by omega)), wrL_n (by omega) (by omega), bind_s, wrL_n (by omega) (by omega), bind_s]
    · show vp_updL (qbs_keys st) px y.toInt64 i = _ ∧ vp_updL (qbs_values st) px x i = _
      unfold vp_updL
      by_cases c : i = px
      · rw [if_pos c, if_pos c, if_pos c, if_pos c]; exact ⟨rfl, rfl⟩
      · rw [if_neg c, if_neg c, if_neg c, if_neg c, if_neg (by omega), if_neg (by omega)]; exact ⟨rfl, rfl⟩
  | succ m ih =>
    intro f st h1 h2
    obtain ⟨f, rfl⟩ : ∃ i, f = i + 1 := ⟨f - 1, by omega⟩
    obtain ⟨st', e, hf, hc, hk⟩ := ih f (qbs_put_values (vp_updL (qbs_values st) (px + m + 1) (qbs_values st (px + m))) (qbs_put_keys (vp_updL (qbs_keys st) (px + m + 1) (qbs_keys st (px + m))) st)) (by omega) (by omega)
    refine ⟨st', ?_, ((FrM.dk _ _).trans (FrM.dv _ _)).trans hf, hc, fun i => ?_⟩
    · rw [fm_enter_59, if_neg (nI_ge (by omega) (by omega)), show px + (m + 1) = px + m + 1 from rfl, nI_pred, rdL_n (by omega) (by omega), bind_s, wrL_n (by omega) (by omega), bind_s, rdL_n (by omega) (by omega), bind_s, wrL_n (by omega) (by omega), bind_s, pk_m1]
      exact e
    · obtain ⟨k1, k2⟩ := hk i
      have ek : qbs_keys (qbs_put_values (vp_updL (qbs_values st) (px + m + 1) (qbs_values st (px + m))) (qbs_put_keys (vp_updL (qbs_keys st) (px + m + 1) (qbs_keys st (px + m))) st)) = vp_updL (qbs_keys st) (px + m + 1) (qbs_keys st (px + m)) := rfl
      have ev : qbs_values (qbs_put_values (vp_updL (qbs_values st) (px + m + 1) (qbs_values st (px + m))) (qbs_put_keys (vp_updL (qbs_keys st) (px + m + 1) (qbs_keys st (px + m))) st)) = vp_updL (qbs_values st) (px + m + 1) (qbs_values st (px + m)) := rfl
      rw [ek] at k1
      rw [ev] at k2
      rw [k1, k2]
      by_cases c1 : i = px
      · rw [if_pos c1, if_pos c1, if_pos c1, if_pos c1]; exact ⟨rfl, rfl⟩
      · rw [if_neg c1, if_neg c1, if_neg c1, if_neg c1]
        by_cases c2 : px < i ∧ i ≤ px + m
        · rw [if_pos c2, if_pos c2, if_pos (by omega), if_pos (by omega), pk_uLn (by omega), pk_uLn (by omega)]; exact ⟨rfl, rfl⟩
        · rw [if_neg c2, if_neg c2]
          by_cases c3 : i = px + m + 1
          · rw [if_pos (by omega), if_pos (by omega), c3, pk_uLs, pk_uLs]; exact ⟨rfl, rfl⟩
          · rw [if_neg (by omega), if_neg (by omega), pk_uLn c3, pk_uLn c3]; exact ⟨rfl, rfl⟩
theorem fb_pid_go (n : Nat) (st : BSt) {c : Nat} (hc : bs_draftCount st = nI c) (h8 : c ≤ 8) (y : Int32) (m : Nat) : ∀ (k j : Nat), j + m = c → m < k → fb_placeInDraft_2 n k st y (nI j) = some (nI (pix (bs_draftKeys st) y.toInt64 m j)) := by
  induction m with
  | zero =>
    intro k j h1 h2
    obtain ⟨k, rfl⟩ : ∃ i, k = i + 1 := ⟨k - 1, by omega⟩
    rw [fb_placeInDraft_2, hc, if_pos (nI_le (by omega) (by omega))]; rfl
  | succ m ih =>
    intro k j h1 h2
    obtain ⟨k, rfl⟩ : ∃ i, k = i + 1 := ⟨k - 1, by omega⟩
    rw [fb_placeInDraft_2, hc, if_neg (nI_ge (by omega) (by omega)), rdL_n (by omega) (by omega), bind_s, pix, nI_1]
    by_cases q : bs_draftKeys st j < y.toInt64
    · rw [if_neg (fun h => absurd (lgc_ge.mp h) (Int64.not_le.mpr q)), if_pos q]; exact ih k (j + 1) (by omega) (by omega)
    · rw [if_pos (lgc_ge.mpr (Int64.not_lt.mp q)), if_neg q]
theorem fb_pid {n : Nat} {st : BSt} {c : Nat} (hc : bs_draftCount st = nI c) (h8 : c ≤ 8) (hn : 20 < n) (y : Int32) : fb_placeInDraft n st y = some (nI (pix (bs_draftKeys st) y.toInt64 c 0)) := by
  rw [fb_placeInDraft]; exact fb_pid_go n st hc h8 y c n 0 (by omega) (by omega)
theorem fb_dha {n : Nat} {st : BSt} {c : Nat} (hc : bs_draftCount st = nI c) (h8 : c ≤ 8) (y : Int32) : fb_draftHasAt n st (nI (pix (bs_draftKeys st) y.toInt64 c 0)) y = some (b2i (hasK (bs_draftKeys st) y.toInt64 c)) := by
  have hp := pix_le (K := bs_draftKeys st) (y := y.toInt64) c 0
  rw [fb_draftHasAt, hc, hasK]
  by_cases q : pix (bs_draftKeys st) y.toInt64 c 0 < c
  · rw [if_neg (nI_ge q (by omega)), rdL_n (by omega) (by omega), bind_s]
    by_cases q2 : bs_draftKeys st (pix (bs_draftKeys st) y.toInt64 c 0) = y.toInt64
    · rw [if_pos (lgc_eq.mpr q2)]; simp [q, q2, b2i]
    · rw [if_neg (fun h => q2 (lgc_eq.mp h))]; simp [q2, b2i]
  · rw [if_pos (nI_le (by omega) (by omega))]; simp [q, b2i]
theorem fb_putD {n : Nat} {st : BSt} {c : Nat} (hc : bs_draftCount st = nI c) (h7 : c ≤ 7) (hn : 20 < n) (y : Int32) (x : Int64) : ∃ st', fb_putInDraft n st y x = some st' ∧ FrB st st' ∧ bs_draftCount st' = nI (putC (bs_draftKeys st) y.toInt64 c) ∧ ∀ i, i < putC (bs_draftKeys st) y.toInt64 c → bs_draftKeys st' i = putF (bs_draftKeys st) y.toInt64 c (bs_draftKeys st) y.toInt64 i ∧ bs_draftValues st' i = putF (bs_draftKeys st) y.toInt64 c (bs_draftValues st) x i := by
  have hp := pix_le (K := bs_draftKeys st) (y := y.toInt64) c 0
  rw [fb_putInDraft, fb_pid hc (by omega) hn, bind_s, fb_dha hc (by omega), bind_s, hc]
  cases q : hasK (bs_draftKeys st) y.toInt64 c with
  | true =>
    have q1 := q
    simp only [hasK, Bool.and_eq_true, decide_eq_true_eq] at q1
    refine ⟨bs_put_draftValues (vp_updL (bs_draftValues st) (pix (bs_draftKeys st) y.toInt64 c 0) x) (bs_put_draftKeys (vp_updL (bs_draftKeys st) (pix (bs_draftKeys st) y.toInt64 c 0) y.toInt64) st), ?_, (FrB.dk _ _).trans (FrB.dv _ _), by rw [putC_t q]; exact hc, fun i hi => ?_⟩
    · rw [if_neg (by decide), wrL_n (by omega) (by omega), bind_s, wrL_n (by omega) (by omega), bind_s]
    · exact ⟨putF_has q i, putF_has q i⟩
  | false =>
    obtain ⟨st', e, hf, hd, hk⟩ := bshift n (px := pix (bs_draftKeys st) y.toInt64 c 0) y x (c - pix (bs_draftKeys st) y.toInt64 c 0) n st (by omega) (by omega)
    rw [show pix (bs_draftKeys st) y.toInt64 c 0 + (c - pix (bs_draftKeys st) y.toInt64 c 0) = c by omega] at e hk
    refine ⟨st', ?_, hf, by rw [hd, putC_f q, hc, nI_1], fun i hi => ?_⟩
    · rw [if_pos (show b2i false = 0 from rfl), e]
    · rw [putC_f q] at hi
      obtain ⟨k1, k2⟩ := hk i
      exact ⟨k1.trans (putF_ins q (by omega)), k2.trans (putF_ins q (by omega))⟩
theorem fb_load_go (n : Nat) {p c : Nat} (hc : c ≤ 7) (m : Nat) : ∀ (k j : Nat) (st : BSt), p < bs_P st → bs_P st ≤ 64 → j + m = c → m < k → ∃ st', fb_loadDraft_28 n k st (nI p) (nI c) (nI j) = some st' ∧ FrB st st' ∧ bs_draftCount st' = nI c ∧ (∀ i, i < j → bs_draftKeys st' i = bs_draftKeys st i ∧ bs_draftValues st' i = bs_draftValues st i) ∧ ∀ i, j ≤ i → i < c → bs_draftKeys st' i = bs_pages st (16 * p + 1 + 2 * i) ∧ bs_draftValues st' i = bs_pages st (16 * p + 2 + 2 * i) := by
  induction m with
  | zero =>
    intro k j st hp hP h1 h2
    obtain ⟨k, rfl⟩ : ∃ i, k = i + 1 := ⟨k - 1, by omega⟩
    refine ⟨bs_put_draftCount (nI c) st, ?_, FrB.dc _ _, rfl, fun i hi => ⟨rfl, rfl⟩, fun i h3 h4 => by omega⟩
    rw [fb_loadDraft_28, if_pos (nI_le (by omega) (by omega))]
  | succ m ih =>
    intro k j st hp hP h1 h2
    obtain ⟨k, rfl⟩ : ∃ i, k = i + 1 := ⟨k - 1, by omega⟩
    obtain ⟨st', e, hf, hd, ha, hb⟩ := ih k (j + 1) (bs_put_draftValues (vp_updL (bs_draftValues st) j (bs_pages st (16 * p + 1 + 2 * j + 1))) (bs_put_draftKeys (vp_updL (bs_draftKeys st) j (bs_pages st (16 * p + 1 + 2 * j))) st)) (by rw [P_kv]; exact hp) (by rw [P_kv]; exact hP) (by omega) (by omega)
    rw [k_kv, v_kv] at ha
    rw [pg_kv] at hb
    refine ⟨st', ?_, ((FrB.dk _ _).trans (FrB.dv _ _)).trans hf, hd, fun i hi => ?_, fun i h3 h4 => ?_⟩
    · rw [fb_loadDraft_28, if_neg (nI_ge (by omega) (by omega)), fb_entryAtE, bind_s, rdL_n (by omega) (by omega), bind_s, wrL_n (by omega) (by omega), bind_s, bind_s, nI_1, rdL_n (by omega) (by omega), bind_s, wrL_n (by omega) (by omega), bind_s, nI_1]
      exact e
    · obtain ⟨k1, k2⟩ := ha i (by omega)
      exact ⟨k1.trans (pk_uLn (by omega)), k2.trans (pk_uLn (by omega))⟩
    · by_cases e : i = j
      · subst e
        obtain ⟨k1, k2⟩ := ha i (by omega)
        exact ⟨k1.trans pk_uLs, k2.trans (by rw [show 16 * p + 2 + 2 * i = 16 * p + 1 + 2 * i + 1 by omega]; exact pk_uLs)⟩
      · exact hb i (by omega) h4
theorem fb_loadE {n : Nat} {st : BSt} {r L l : Nat} {pl c : Nat → Nat} (hr : r < 8) (hP : bs_P st ≤ 64) (hn : 20 < n) (h : RR (bs_P st) (bs_pages st) (bs_roots st) r L pl c) (hl : l < L) : ∃ st', fb_loadDraft n st (nI r) (nI l) = some st' ∧ FrB st st' ∧ bs_draftCount st' = nI (c l) ∧ ∀ i, i < c l → bs_draftKeys st' i = bs_pages st (16 * pl l + 1 + 2 * i) ∧ bs_draftValues st' i = bs_pages st (16 * pl l + 2 + 2 * i) := by
  have h16 := h.l16
  have h7 := h.c7 l hl
  obtain ⟨st', e, hf, hd, -, hb⟩ := fb_load_go n (p := pl l) h7 (c l) n 0 (bs_put_draftCount 0 st) (h.pp l hl) hP (by omega) (by omega)
  refine ⟨st', ?_, (FrB.dc _ _).trans hf, hd, fun i hi => hb i (by omega) hi⟩
  rw [fb_loadDraft, if_neg (nI_m1 (by omega)), fb_pageOfE hr (by omega), bind_s, show bs_roots (bs_put_draftCount 0 st) = bs_roots st from rfl, h.pq l hl, lN_i, fb_entriesE (st := bs_put_draftCount 0 st) (h.pp l hl) hP, bind_s, show bs_pages (bs_put_draftCount 0 st) = bs_pages st from rfl, h.cg l hl, lN_i]
  exact e
theorem fb_dropD_go (n : Nat) {px c : Nat} (hc : c ≤ 7) (m : Nat) : ∀ (k j : Nat) (st : BSt), bs_draftCount st = nI c → j + m = c → m < k → ∃ st', fb_dropFromDraft_29 n k st (nI j) = some (1, st') ∧ FrB st st' ∧ bs_draftCount st' = nI c ∧ ∀ i, bs_draftKeys st' i = (if j ≤ i ∧ i < c then bs_draftKeys st (i + 1) else bs_draftKeys st i) ∧ bs_draftValues st' i = (if j ≤ i ∧ i < c then bs_draftValues st (i + 1) else bs_draftValues st i) := by
  induction m with
  | zero =>
    intro k j st hd h1 h2
    obtain ⟨k, rfl⟩ : ∃ i, k = i + 1 := ⟨k - 1, by omega⟩
    refine ⟨st, ?_, FrB.refl _, hd, fun i => ?_⟩
    · rw [fb_dropFromDraft_29, hd, if_pos (nI_le (by omega) (by omega))]
    · rw [if_neg (by omega), if_neg (by omega)]; exact ⟨rfl, rfl⟩
  | succ m ih =>
    intro k j st hd h1 h2
    obtain ⟨k, rfl⟩ : ∃ i, k = i + 1 := ⟨k - 1, by omega⟩
    obtain ⟨st', e, hf, hd', hb⟩ := ih k (j + 1) (bs_put_draftValues (vp_updL (bs_draftValues st) j (bs_draftValues st (j + 1))) (bs_put_draftKeys (vp_updL (bs_draftKeys st) j (bs_draftKeys st (j + 1))) st)) (by rw [c_kv]; exact hd) (by omega) (by omega)
    rw [k_kv, v_kv] at hb
    refine ⟨st', ?_, ((FrB.dk _ _).trans (FrB.dv _ _)).trans hf, hd', fun i => ?_⟩
    · rw [fb_dropFromDraft_29, hd, if_neg (nI_ge (by omega) (by omega)), nI_1, rdL_n (by omega) (by omega), bind_s, wrL_n (by omega) (by omega), bind_s, rdL_n (by omega) (by omega), bind_s, wrL_n (by omega) (by omega), bind_s]
      exact e
    · obtain ⟨k1, k2⟩ := hb i
      rw [k1, k2]
      by_cases e : i = j
      · subst e
        have g1 : ¬ (i + 1 ≤ i ∧ i < c) := by omega
        have g2 : i ≤ i ∧ i < c := by omega
        rw [if_neg g1, if_neg g1, if_pos g2, if_pos g2, pk_uLs, pk_uLs]; exact ⟨rfl, rfl⟩
      · by_cases e2 : j + 1 ≤ i ∧ i < c
        · have g2 : j ≤ i ∧ i < c := by omega
          rw [if_pos e2, if_pos e2, if_pos g2, if_pos g2, pk_uLn (by omega), pk_uLn (by omega)]; exact ⟨rfl, rfl⟩
        · have g2 : ¬ (j ≤ i ∧ i < c) := by omega
          rw [if_neg e2, if_neg e2, if_neg g2, if_neg g2, pk_uLn e, pk_uLn e]; exact ⟨rfl, rfl⟩
theorem fb_dropD {n : Nat} {st : BSt} {c : Nat} (hc : bs_draftCount st = nI c) (h7 : c ≤ 7) (hn : 20 < n) (y : Int32) : (hasK (bs_draftKeys st) y.toInt64 c = false ∧ fb_dropFromDraft n st y = some (0, st)) ∨ (hasK (bs_draftKeys st) y.toInt64 c = true ∧ ∃ st', fb_dropFromDraft n st y = some (1, st') ∧ FrB st st' ∧ bs_draftCount st' = nI (c - 1) ∧ ∀ i, i + 1 < c → bs_draftKeys st' i = dropF (bs_draftKeys st) y.toInt64 c (bs_draftKeys st) i ∧ bs_draftValues st' i = dropF (bs_draftKeys st) y.toInt64 c (bs_draftValues st) i) := by
  have hp := pix_le (K := bs_draftKeys st) (y := y.toInt64) c 0
  rw [fb_dropFromDraft, fb_pid hc (by omega) hn, bind_s, fb_dha hc (by omega), bind_s, hc]
  cases q : hasK (bs_draftKeys st) y.toInt64 c with
  | false => left; exact ⟨rfl, by rw [if_pos (show b2i false = 0 from rfl)]⟩
  | true =>
    right
    have q1 := q
    simp only [hasK, Bool.and_eq_true, decide_eq_true_eq] at q1
    obtain ⟨st', e, hf, hd, hb⟩ := fb_dropD_go n (px := 0) (c := c - 1) (by omega) (c - 1 - pix (bs_draftKeys st) y.toInt64 c 0) n (pix (bs_draftKeys st) y.toInt64 c 0) (bs_put_draftCount (nI (c - 1)) st) (gc_put _ _) (by omega) (by omega)
    refine ⟨rfl, st', ?_, (FrB.dc _ _).trans hf, hd, fun i hi => ?_⟩
    · rw [if_neg (by decide), show nI c - 1 = nI (c - 1) from pk_sub (b := 1) (by omega), e]
    · obtain ⟨k1, k2⟩ := hb i
      rw [k1, k2]
      unfold dropF
      by_cases e2 : i < pix (bs_draftKeys st) y.toInt64 c 0
      · have g1 : ¬ (pix (bs_draftKeys st) y.toInt64 c 0 ≤ i ∧ i < c - 1) := by omega
        rw [if_neg g1, if_neg g1, if_pos e2, if_pos e2]; exact ⟨rfl, rfl⟩
      · have g1 : pix (bs_draftKeys st) y.toInt64 c 0 ≤ i ∧ i < c - 1 := by omega
        rw [if_pos g1, if_pos g1, if_neg e2, if_neg e2]; exact ⟨rfl, rfl⟩
