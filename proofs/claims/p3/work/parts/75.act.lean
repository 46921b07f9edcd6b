/-! AN ACT keeps the relation -/
theorem Gj_congr {g : Nat → Int64} {T c : Nat} {pg : Nat → Nat} {K V K' V' : Nat → Int64} (hcT : (T = 0 ∧ c = 0) ∨ (T = 1 ∧ 1 ≤ c ∧ c ≤ 7) ∨ (T = 2 ∧ c = 8)) (hK : ∀ i, i < c → K i = K' i ∧ V i = V' i) (j : Nat) (hj : j ≤ T) : Gj g T c pg K V j = Gj g T c pg K' V' j := by
  induction j with
  | zero => rfl
  | succ j ih =>
    funext x
    show (if _ then leafV (ccT T c) (fun i => K (frJ T j + i)) (fun i => V (frJ T j + i)) _ else _) = if _ then leafV (ccT T c) (fun i => K' (frJ T j + i)) (fun i => V' (frJ T j + i)) _ else _
    have hb : ∀ i, i < ccT T c → frJ T j + i < c := by
      intro i hi
      unfold ccT at hi
      unfold frJ
      by_cases t : T = 2
      · rw [if_pos t] at hi ⊢; omega
      · rw [if_neg t] at hi ⊢; omega
    rw [leafV_congr (fun i hi => (hK _ (hb i hi)).1) (fun i hi => (hK _ (hb i hi)).2), ih (by omega)]
theorem cw_sw {P : Nat} {g q w : Nat → Int64} (h : SameW P g q w) (hP : P ≤ 64) {x : Nat} (hx : x < 16 * P ∨ (1024 ≤ x ∧ x < 1184)) : cw g q x = w x := by
  unfold cw
  rcases hx with hx | hx
  · rw [if_pos (by omega)]; exact h.1 x hx
  · rw [if_neg (by omega), h.2 _ (by omega)]; unfold rtw; rw [show 1024 + (x - 1024) = x by omega]
theorem thr_f (k : Int32) (ms : MSt) : qbs_pages (qbs_put_thrown k ms) = qbs_pages ms ∧ qbs_words (qbs_put_thrown k ms) = qbs_words ms ∧ qbs_newest (qbs_put_thrown k ms) = qbs_newest ms ∧ qbs_closed (qbs_put_thrown k ms) = qbs_closed ms ∧ qbs_written (qbs_put_thrown k ms) = qbs_written ms ∧ qbs_places (qbs_put_thrown k ms) = qbs_places ms ∧ qbs_before (qbs_put_thrown k ms) = qbs_before ms ∧ qbs_altered (qbs_put_thrown k ms) = qbs_altered ms := ⟨rfl, rfl, rfl, rfl, rfl, rfl, rfl, rfl⟩
theorem CutR.fr {st st' : BSt} {ms ms' : MSt} (h : CutR st ms) (hf : FrB st st') (hm : FrM ms ms') : CutR st' ms' := by
  obtain ⟨T, r, pl, h1, h2, h3, h4, h5, h6, h7, h8, h9⟩ := h
  exact ⟨T, r, pl, h1, h2, fun k hk => by rw [hf.P]; exact h3 k hk, h4, by rw [hf.tc]; exact h5, fun k hk => by rw [hf.tp]; exact h6 k hk, by rw [hf.wr]; exact h7, by rw [hm.wn]; exact h8, fun i hi => by rw [hm.bf, hm.pl, hf.wb]; exact h9 i hi⟩
theorem Rel.fr {d : Nat} {st st' : BSt} {ms ms' : MSt} (h : Rel (d + 1) st ms) (hf : FrB st st') (hm : FrM ms ms') : Rel d st' ms' := by
  obtain ⟨v, hv, h1, h2⟩ := h.nw
  refine ⟨by have := h.dd; omega, by rw [hf.P]; exact h.p8, by rw [hf.P]; exact h.p64, by rw [hm.pg, hf.P]; exact h.pg, by rw [hf.P, hf.pg, hf.rt, hm.wd]; exact h.sw, ⟨v, by omega, by rw [hf.nw]; exact h1, by rw [hm.nw]; exact h2⟩, by rw [hf.cl, hm.cl]; exact h.cl, ?_⟩
  rw [hf.cb, hm.wn, hm.al]
  rcases h.ct with h | ⟨h3, h4, h5⟩
  · exact Or.inl h
  · exact Or.inr ⟨h3, h4, h5.fr hf hm⟩
theorem act_rel {d : Nat} {st st1 : BSt} {ms ms1 : MSt} {v L lb c T : Nat} {pl cnt : Nat → Nat} (h : Rel (d + 1) st ms) (hf : FrB st st1) (hm : FrM ms ms1) (hA : AC (bs_P st) (bs_pages st) (bs_roots st) v L lb c T pl cnt) (hvd : v + (d + 1) ≤ 1000000512) (hn1 : bs_newest st = nI v) (hn2 : qbs_newest ms = nI v) (hd : bs_draftCount st1 = nI c) (hmn : qbs_many ms1 = nI c) (hag : ∀ i, i < c → bs_draftKeys st1 i = qbs_keys ms1 i ∧ bs_draftValues st1 i = qbs_values ms1 i) {x2 xm : Int32} (hx : x2 = if L = 0 then -1 else nI lb) (hE : ((bs_roots st (20 * (v % 8) + 18)).toInt32 - (if L = 0 then 0 else nI (cnt lb))) + nI c = (bs_roots st (20 * (v % 8) + 18)).toInt32 + xm) :
    (∃ st' ms', fb_act 200 st1 (nI (v % 8)) x2 = some (.inl (nI (v + 1)), st') ∧ fm_act 200 ms1 (nI lb) xm = some (1, ms') ∧ qbs_newest ms' = nI (v + 1) ∧ ∀ k, Rel d st' (qbs_put_thrown k ms')) ∨ (∃ ms', fb_act 200 st1 (nI (v % 8)) x2 = some (.inr 0, st1) ∧ fm_act 200 ms1 (nI lb) xm = some (0, ms') ∧ ∀ k, Rel d st1 (qbs_put_thrown k ms')) := by
  have hT2 : T ≤ 2 := by rcases hA.cT with h1 | h1 | h1 <;> omega
  have hP := hA.p64
  have hdd := h.dd
  have hA1 : AC (bs_P st1) (bs_pages st1) (bs_roots st1) v L lb c T pl cnt := by rw [hf.P, hf.pg, hf.rt]; exact hA
  have hnw1 : bs_newest st1 = nI v := by rw [hf.nw]; exact hn1
  have sw1 : SameW (bs_P st) (bs_pages st) (bs_roots st) (qbs_words ms1) := by rw [hm.wd]; exact h.sw
  obtain ⟨c1, c2⟩ := fb_act_36E (n := 200) hA1 (by omega) x2
  obtain ⟨m1, m2⟩ := fm_actE (n := 200) hA sw1 (by rw [hm.pg]; exact h.pg) (by rw [hm.nw]; exact hn2) hmn (by omega) xm
  have eT := fb_act_T (n := 200) hA1 hd hx (nI (v % 8))
  have ef : hld (bs_P st1) (bs_roots st1) (bs_newest st1).toInt64 = hld (bs_P st) (bs_roots st) (nI v).toInt64 := by rw [hf.P, hf.rt, hnw1]
  rw [ef, hf.P] at c1 c2
  rw [eT]
  have fails : (¬ lb + T + (L - (lb + 1)) ≤ 16 ∨ PgN (hld (bs_P st) (bs_roots st) (nI v).toInt64) (bs_P st) T) → ∃ ms', fb_act_36 200 st1 (nI (v % 8)) x2 (nI T) (nI (if L = 0 then 0 else 1)) = some (.inr 0, st1) ∧ fm_act 200 ms1 (nI lb) xm = some (0, ms') ∧ ∀ k, Rel d st1 (qbs_put_thrown k ms') := by
    intro hno
    obtain ⟨ms', e, f⟩ := m2 hno
    exact ⟨ms', c2 hno, e, fun k => h.fr hf ((hm.trans f).trans (FrM.thr _ _))⟩
  by_cases hN : lb + T + (L - (lb + 1)) ≤ 16
  · rcases pg_or (hld (bs_P st) (bs_roots st) (nI v).toInt64) (bs_P st) T hT2 with ⟨pg, hpgs⟩ | hpn
    · left
      obtain ⟨ms', em, hM⟩ := m1 pg hN hpgs
      have hpgs1 : PgS (hld (bs_P st1) (bs_roots st1) (bs_newest st1).toInt64) (bs_P st1) T pg := by rw [ef, hf.P]; exact hpgs
      obtain ⟨st', es, hS⟩ := fb_act_111E (n := 200) hA1 hd hnw1 hx hN hpgs1 (by omega) (E := ((bs_roots st (20 * (v % 8) + 18)).toInt32 + xm).toInt64) (by rw [hf.rt, hE])
      refine ⟨st', ms', (c1 pg hN hpgs).trans es, em, hM.nw, fun k => ?_⟩
      obtain ⟨t1, t2, t3, t4, t5, t6, t7, t8⟩ := thr_f k ms'
      have hPs : bs_P st' = bs_P st := hS.P.trans hf.P
      have hlt := hpgs.lt hT2
      refine ⟨by omega, by rw [hPs]; exact h.p8, by rw [hPs]; exact h.p64, by rw [t1, hM.pgs, hm.pg, hPs]; exact h.pg, ?_, ⟨v + 1, by omega, hS.nw, by rw [t3]; exact hM.nw⟩, by rw [hS.cl, hf.cl, t4, hM.cl, hm.cl]; exact h.cl, Or.inr ⟨by rw [hS.cb]; decide, by rw [t8]; exact hM.al, ?_⟩⟩
      · rw [hPs, t2]
        refine ⟨fun i hi => ?_, fun i hi => ?_⟩
        · rw [hS.gg i, hf.pg, Gj_congr hA.cT hag T (Nat.le_refl _)]; exact hM.sw.1 i hi
        · rw [hS.rt i, hf.rt]; exact hM.sw.2 i hi
      · refine ⟨T, (v + 1) % 8, pg, hT2, by omega, fun k hk => by rw [hPs]; exact (hlt k hk).1, hpgs.inj hT2, hS.tc, hS.tp, hS.wr, by rw [t5]; exact hM.wn, fun i hi => ?_⟩
        obtain ⟨b1, b2⟩ := hM.bp i hi
        rw [t7, t6, b1, b2, hS.wb i hi, hf.pg, hf.rt]
        refine ⟨?_, rfl⟩
        rw [cw_sw sw1 hP]
        unfold adr
        by_cases q : i < 16 * T
        · left; rw [if_pos q]; have := (hlt (i / 16) (by omega)).1; omega
        · right; rw [if_neg q]; omega
    · right; exact fails (Or.inr hpn)
  · right; exact fails (Or.inl hN)
/-! who may write -/
theorem may_or {d : Nat} {st : BSt} {ms : MSt} (h : Rel (d + 1) st ms) {v : Nat} (hv : v + (d + 1) ≤ 1000000512) (h1 : bs_newest st = nI v) (h2 : qbs_newest ms = nI v) (y : Int32) :
    (fb_requireWritable 200 st = some (.inr 0) ∧ fm_may 200 ms y = some 1) ∨ (fb_requireWritable 200 st = some (.inl ()) ∧ fb_requireKey 200 st y = some (.inr 1) ∧ fm_may 200 ms y = some 2) ∨ (fb_requireWritable 200 st = some (.inl ()) ∧ fb_requireKey 200 st y = some (.inl ()) ∧ fm_may 200 ms y = some 0 ∧ bs_roots st (20 * (v % 8)) = lN v ∧ rrt (bs_P st) (bs_pages st) (bs_roots st) (v % 8) = true) := by
  have hp8 := h.p8
  obtain ⟨r, hr, hx, hm⟩ := fb_root 200 (nI v)
  have er := hm v (by omega) rfl
  rw [er] at hx hr
  have ek := fb_kpt (n := 200) (st := st) hr hx h.p64 (by omega)
  have em := fm_kpt (n := 200) (st := ms) (v := v) (by omega) (show 0 < bs_P st by omega) h.p64 h.pg (by omega)
  rw [h1, kpt_congr h.p64 h.sw hr] at ek
  rw [h2] at em
  by_cases c : bs_closed st = 0
  · have c' : qbs_closed ms = 0 := by rw [← h.cl]; exact c
    have e1 : fb_requireWritable 200 st = (fb_isKept 200 st (nI v)).bind fun r3 => if (r3 : Int32) = 0 then some (.inr 0) else some (.inl ()) := by
      rw [fb_requireWritable, fb_requireOpen, if_pos c, h1]; rfl
    rw [e1, ek, bind_s, fm_may, if_pos c', h2, em, bind_s]
    cases q : kpt (bs_P st) (qbs_words ms) (rtw (qbs_words ms)) (nI v) (nI v) (v % 8) with
    | false => left; rw [if_pos (show b2i false = 0 from rfl), if_pos (show b2i false = 0 from rfl)]; exact ⟨rfl, rfl⟩
    | true =>
      right
      rw [if_neg (by decide), if_neg (by decide), fb_requireKey]
      rw [← kpt_congr h.p64 h.sw hr] at q
      simp only [kpt, Bool.and_eq_true, decide_eq_true_eq] at q
      by_cases y0 : y < 0
      · left; rw [if_pos y0, if_pos y0]; exact ⟨rfl, rfl, rfl⟩
      · by_cases y1 : y ≤ 1000000
        · right; rw [if_neg y0, if_neg y0, if_pos y1, if_pos y1]
          exact ⟨rfl, rfl, rfl, by rw [q.2.1, nI_l (by omega)], q.2.2⟩
        · left; rw [if_neg y0, if_neg y0, if_neg y1, if_neg y1]; exact ⟨rfl, rfl, rfl⟩
  · left
    have c' : ¬ qbs_closed ms = 0 := by rw [← h.cl]; exact c
    constructor
    · rw [fb_requireWritable, fb_requireOpen, if_neg c]; rfl
    · rw [fm_may, if_neg c']
/-- the leaf's draft, loaded on both sides -/
theorem load_or {d : Nat} {st : BSt} {ms : MSt} (h : Rel (d + 1) st ms) {v L : Nat} {pl cnt : Nat → Nat} (hv : v + (d + 1) ≤ 1000000512) (h2 : qbs_newest ms = nI v) (hR : RR (bs_P st) (bs_pages st) (bs_roots st) (v % 8) L pl cnt) {l c : Nat} (hl : (L = 0 ∧ l = 0 ∧ c = 0) ∨ (l < L ∧ c = cnt l)) (k : Int32) :
    ∃ st9 ms5, fb_loadDraft 200 st (nI (v % 8)) (if L = 0 then -1 else nI l) = some st9 ∧ fm_load 200 (qbs_put_thrown k ms) (if L = 0 then -1 else nI l) = some ms5 ∧ FrB st st9 ∧ FrM ms ms5 ∧ bs_draftCount st9 = nI c ∧ qbs_many ms5 = nI c ∧ ∀ i, i < c → (bs_draftKeys st9 i = bs_pages st (16 * pl l + 1 + 2 * i) ∧ bs_draftValues st9 i = bs_pages st (16 * pl l + 2 + 2 * i)) ∧ qbs_keys ms5 i = bs_pages st (16 * pl l + 1 + 2 * i) ∧ qbs_values ms5 i = bs_pages st (16 * pl l + 2 + 2 * i) := by
  have hp64 := h.p64
  obtain ⟨t1, t2, t3, t4, t5, t6, t7, t8⟩ := thr_f k ms
  rcases hl with ⟨L0, l0, c0⟩ | ⟨hl, hc⟩
  · subst c0
    refine ⟨bs_put_draftCount 0 st, qbs_put_many 0 (qbs_put_thrown k ms), ?_, ?_, FrB.dc _ _, (FrM.thr _ _).trans (FrM.dc _ _), gc_put _ _, gm_put _ _, fun i hi => by omega⟩
    · rw [if_pos L0, fb_loadDraft, if_pos rfl]
    · rw [if_pos L0, fm_load, if_pos rfl, fm_load_33, gm_put, if_pos (by decide)]
  · subst hc
    obtain ⟨st9, e1, f1, d1, k1⟩ := fb_loadE (n := 200) (st := st) (show v % 8 < 8 by omega) h.p64 (by omega) hR hl
    obtain ⟨ms5, e2, f2, d2, k2⟩ := fm_loadE (n := 200) (st := qbs_put_thrown k ms) (show v < 2 ^ 31 by omega) h.p64 (by omega) (by rw [t2]; exact h.sw) (by rw [t3]; exact h2) hR hl
    refine ⟨st9, ms5, ?_, ?_, f1, (FrM.thr _ _).trans f2, d1, d2, fun i hi => ⟨k1 i hi, k2 i hi⟩⟩
    · rw [if_neg (by omega)]; exact e1
    · rw [if_neg (by omega)]; exact e2
def tOf (c : Nat) : Nat := if c = 0 then 0 else if c = 8 then 2 else 1
theorem tOf_c {c : Nat} (h : c ≤ 8) : (tOf c = 0 ∧ c = 0) ∨ (tOf c = 1 ∧ 1 ≤ c ∧ c ≤ 7) ∨ (tOf c = 2 ∧ c = 8) := by
  unfold tOf
  by_cases h0 : c = 0
  · left; rw [if_pos h0]; exact ⟨rfl, h0⟩
  · by_cases h8 : c = 8
    · right; right; rw [if_neg h0, if_pos h8]; exact ⟨rfl, h8⟩
    · right; left; rw [if_neg h0, if_neg h8]; exact ⟨rfl, by omega, by omega⟩
theorem fm_thrE (k : Int32) (ms : MSt) : fm_thrown 0 (qbs_put_thrown k ms) = some k := rfl
theorem pr_0 : ps_0 Rel := by
  intro d st ms y y2 y3 h
  generalize lvl y2 y3 = x
  obtain ⟨v, hv, h1, h2⟩ := h.nw
  have hp8 := h.p8
  have hp64 := h.p64
  rcases may_or h hv h1 h2 y with ⟨e1, e2⟩ | ⟨e1, e2, e3⟩ | ⟨e1, e2, e3, etv, hrr⟩
  · refine ⟨200, 200, 0, st, qbs_put_thrown 1 ms, 0, 1, .inr 0, ?_, ?_, rfl, h.thr 1, Or.inr (Or.inl ⟨rfl, rfl⟩)⟩
    · rw [fb_put, e1]; rfl
    · rw [fm_put, e2, bind_s, if_neg (by decide)]
  · refine ⟨200, 200, 0, st, qbs_put_thrown 2 ms, 0, 2, .inr 1, ?_, ?_, rfl, h.thr 2, Or.inr (Or.inr ⟨rfl, rfl⟩)⟩
    · rw [fb_put, e1]
      show thnS st (fb_requireKey 200 st y) _ = _
      rw [e2]; rfl
    · rw [fm_put, e3, bind_s, if_neg (by decide)]
  · obtain ⟨L, pl, cnt, hR⟩ := rr_of h.p64 hrr
    have h16 := hR.l16
    obtain ⟨r, hr, hx, hmr⟩ := fb_root 200 (nI v)
    have er := hmr v (by omega) rfl
    rw [er] at hx hr
    have hlf := fb_lf (n := 200) (st := st) hr h.p64 (by omega) hR y
    have hlm := fm_lf (n := 200) (ms := qbs_put_thrown 0 ms) (show v < 2 ^ 31 by omega) h.p64 (by omega) h.sw h2 hR y
    obtain ⟨l, c, hl, hle⟩ : ∃ l c, ((L = 0 ∧ l = 0 ∧ c = 0) ∨ (l < L ∧ c = cnt l)) ∧ (if L = 0 then (-1 : Int32) else nI (lfI (bs_pages st) pl L y.toInt64)) = if L = 0 then -1 else nI l := by
      by_cases L0 : L = 0
      · exact ⟨0, 0, Or.inl ⟨L0, rfl, rfl⟩, by rw [if_pos L0, if_pos L0]⟩
      · exact ⟨_, _, Or.inr ⟨lfI_lt (by omega), rfl⟩, rfl⟩
    rw [hle] at hlf hlm
    have c7 : c ≤ 7 := by
      rcases hl with ⟨-, -, h3⟩ | ⟨h3, h4⟩
      · omega
      · rw [h4]; exact hR.c7 l h3
    obtain ⟨st9, ms5, l1, l2, f9, f5, d9, d5, hk⟩ := load_or h hv h2 hR hl 0
    obtain ⟨st11, p1, f11, d11, k11⟩ := fb_putD (n := 200) d9 c7 (by omega) y x
    obtain ⟨ms7, p2, f7, d7, k7⟩ := fm_putD (n := 200) d5 c7 (by omega) y x
    have ekk : ∀ i, i < c → bs_draftKeys st9 i = qbs_keys ms5 i := fun i hi => by rw [(hk i hi).1.1, (hk i hi).2.1]
    have evv : ∀ i, i < c → bs_draftValues st9 i = qbs_values ms5 i := fun i hi => by rw [(hk i hi).1.2, (hk i hi).2.2]
    have ec : putC (qbs_keys ms5) y.toInt64 c = putC (bs_draftKeys st9) y.toInt64 c := by unfold putC; rw [hasK_congr ekk]
    rw [ec] at d7 k7
    generalize hc1 : putC (bs_draftKeys st9) y.toInt64 c = c1 at *
    have c18 : c1 ≤ 8 := by rw [← hc1]; unfold putC; split <;> omega
    have hA : AC (bs_P st) (bs_pages st) (bs_roots st) v L l c1 (tOf c1) pl cnt := ⟨h.p8, h.p64, by omega, hR, rrt_snd hrr, etv, by rcases hl with h3 | h3 <;> omega, tOf_c c18⟩
    have hag : ∀ i, i < c1 → bs_draftKeys st11 i = qbs_keys ms7 i ∧ bs_draftValues st11 i = qbs_values ms7 i := by
      intro i hi
      rw [(k11 i hi).1, (k11 i hi).2, (k7 i hi).1, (k7 i hi).2]
      exact ⟨putF_congr ekk ekk (by rw [hc1]; exact hi), putF_congr ekk evv (by rw [hc1]; exact hi)⟩
    have hE : ((bs_roots st (20 * (v % 8) + 18)).toInt32 - (if L = 0 then 0 else nI (cnt l))) + nI c1 = (bs_roots st (20 * (v % 8) + 18)).toInt32 + (nI c1 - nI c) := by
      have ecc : (if L = 0 then 0 else nI (cnt l)) = nI c := by
        rcases hl with ⟨h3, h4, h5⟩ | ⟨h3, h4⟩
        · rw [if_pos h3, h5]; rfl
        · rw [if_neg (by omega), h4]
      rw [ecc, Int32.sub_eq_add_neg, Int32.sub_eq_add_neg, Int32.add_assoc, Int32.add_comm (-nI c)]
    have hput : fm_put 200 ms y x = fm_put_57 200 ms7 (nI c) (nI l) := by
      rw [fm_put, e3, bind_s, if_pos (by decide), hlm, bind_s, l2, bind_s, p2, bind_s, d5]
      rcases hl with ⟨h3, h4, h5⟩ | ⟨h3, h4⟩
      · rw [if_pos h3, if_pos rfl, h4]; rfl
      · have L0 : ¬ L = 0 := by omega
        rw [if_neg L0, if_neg (nI_m1 (by omega))]
    have hputc : fb_put 200 st y x = thnM (fb_act 200 st11 (nI (v % 8)) (if L = 0 then -1 else nI l)) fun r13 st14 => some (.inl r13, st14) := by
      rw [fb_put, e1]
      show thnS st (fb_requireKey 200 st y) _ = _
      rw [e2]
      show (fb_rootOf 200 (bs_newest st)).bind _ = _
      rw [h1, hx, bind_s, hlf, bind_s, l1, bind_s, p1, bind_s]
    rw [fm_put_57, d7] at hput
    rcases act_rel h (f9.trans f11) (f5.trans f7) hA hv h1 h2 d11 d7 hag rfl hE with ⟨st', ms', a1, a2, a3, a4⟩ | ⟨ms', a1, a2, a3⟩
    · refine ⟨200, 200, 0, st', qbs_put_thrown 0 ms', nI (v + 1), 0, .inl (nI (v + 1)), ?_, ?_, rfl, a4 0, Or.inl ⟨_, rfl, rfl, rfl⟩⟩
      · rw [hputc, a1]; rfl
      · rw [hput, a2, bind_s]
        show (if (1 : Int32) = 0 then _ else _) = _
        rw [if_neg (by decide), a3]
    · refine ⟨200, 200, 0, st11, qbs_put_thrown 1 ms', 0, 1, .inr 0, ?_, ?_, rfl, a3 1, Or.inr (Or.inl ⟨rfl, rfl⟩)⟩
      · rw [hputc, a1]; rfl
      · rw [hput, a2, bind_s]
        show (if (0 : Int32) = 0 then _ else _) = _
        rw [if_pos rfl]
theorem pr_1 : ps_1 Rel := by
  intro d st ms y h
  obtain ⟨v, hv, h1, h2⟩ := h.nw
  have hp8 := h.p8
  have hp64 := h.p64
  rcases may_or h hv h1 h2 y with ⟨e1, e2⟩ | ⟨e1, e2, e3⟩ | ⟨e1, e2, e3, etv, hrr⟩
  · refine ⟨200, 200, 0, st, qbs_put_thrown 1 ms, 0, 1, .inr 0, ?_, ?_, rfl, h.thr 1, Or.inr (Or.inl ⟨rfl, rfl⟩)⟩
    · rw [fb_drop, e1]; rfl
    · rw [fm_drop, e2, bind_s, if_pos (by decide)]
  · refine ⟨200, 200, 0, st, qbs_put_thrown 2 ms, 0, 2, .inr 1, ?_, ?_, rfl, h.thr 2, Or.inr (Or.inr ⟨rfl, rfl⟩)⟩
    · rw [fb_drop, e1]
      show thnS st (fb_requireKey 200 st y) _ = _
      rw [e2]; rfl
    · rw [fm_drop, e3, bind_s, if_pos (by decide)]
  · obtain ⟨L, pl, cnt, hR⟩ := rr_of h.p64 hrr
    have h16 := hR.l16
    obtain ⟨r, hr, hx, hmr⟩ := fb_root 200 (nI v)
    have er := hmr v (by omega) rfl
    rw [er] at hx hr
    have hlf := fb_lf (n := 200) (st := st) hr h.p64 (by omega) hR y
    have hlm := fm_lf (n := 200) (ms := qbs_put_thrown 0 ms) (show v < 2 ^ 31 by omega) h.p64 (by omega) h.sw h2 hR y
    obtain ⟨z, hz, hzz⟩ := fm_placeE (n := 200) (ms := qbs_put_thrown 0 ms) (show v < 2 ^ 31 by omega) h.p64 (by omega) h.sw hR y
    obtain ⟨l, c, hl, hle, hlL⟩ : ∃ l c, ((L = 0 ∧ l = 0 ∧ c = 0) ∨ (l < L ∧ c = cnt l)) ∧ (if L = 0 then (-1 : Int32) else nI (lfI (bs_pages st) pl L y.toInt64)) = (if L = 0 then -1 else nI l) ∧ (0 < L → l = lfI (bs_pages st) pl L y.toInt64) := by
      by_cases L0 : L = 0
      · exact ⟨0, 0, Or.inl ⟨L0, rfl, rfl⟩, by rw [if_pos L0, if_pos L0], fun q => by omega⟩
      · exact ⟨_, _, Or.inr ⟨lfI_lt (by omega), rfl⟩, rfl, fun _ => rfl⟩
    rw [hle] at hlf hlm
    have c7 : c ≤ 7 := by
      rcases hl with ⟨-, -, h3⟩ | ⟨h3, h4⟩
      · omega
      · rw [h4]; exact hR.c7 l h3
    obtain ⟨st9, ms5, l1, l2, f9, f5, d9, d5, hk⟩ := load_or h hv h2 hR hl 0
    have ekk : ∀ i, i < c → bs_draftKeys st9 i = qbs_keys ms5 i := fun i hi => by rw [(hk i hi).1.1, (hk i hi).2.1]
    have evv : ∀ i, i < c → bs_draftValues st9 i = qbs_values ms5 i := fun i hi => by rw [(hk i hi).1.2, (hk i hi).2.2]
    have hup9 : ∀ j k, j < k → k < c → bs_draftKeys st9 j < bs_draftKeys st9 k := by
      intro j k hjk hkc
      rw [(hk j (by omega)).1.1, (hk k hkc).1.1]
      rcases hl with h3 | ⟨h3, h4⟩
      · omega
      · exact hR.up l h3 j k hjk (by omega)
    have hup5 : ∀ j k, j < k → k < c → qbs_keys ms5 j < qbs_keys ms5 k := by
      intro j k hjk hkc
      rw [← ekk j (by omega), ← ekk k hkc]; exact hup9 j k hjk hkc
    have hdropc : fb_drop 200 st y = (fb_dropFromDraft 200 st9 y).bind fun (r11, st12) => if (r11 : Int32) = 0 then some (.inl 0, st12) else thnM (fb_act 200 st12 (nI (v % 8)) (if L = 0 then -1 else nI l)) fun r14 st15 => some (.inl r14, st15) := by
      rw [fb_drop, e1]
      show thnS st (fb_requireKey 200 st y) _ = _
      rw [e2]
      show (fb_rootOf 200 (bs_newest st)).bind _ = _
      rw [h1, hx, bind_s, hlf, bind_s, l1, bind_s]
    rcases fb_dropD (n := 200) d9 c7 (by omega) y with ⟨hno, ed⟩ | ⟨hyes, st12, ed, f12, d12, k12⟩
    · have hz1 : z = -1 := by
        rcases hzz with ⟨e, -⟩ | ⟨i, t, hi, ht, he, -⟩
        · exact e
        · exfalso
          have e := hR.inleaf hi ht he
          rw [← hlL (by omega)] at e
          have hc : c = cnt l := by rcases hl with h3 | h3 <;> omega
          have : hasK (bs_draftKeys st9) y.toInt64 c = true := (hasK_iff hup9).mpr ⟨t, by rw [hc, ← e]; exact ht, by rw [(hk t (by rw [hc, ← e]; exact ht)).1.1, ← e]; exact he⟩
          rw [hno] at this; cases this
      refine ⟨200, 200, 0, st9, qbs_put_thrown 0 ms, 0, 0, .inl 0, ?_, ?_, rfl, h.fr f9 (FrM.thr _ _), Or.inl ⟨_, rfl, rfl, rfl⟩⟩
      · rw [hdropc, ed, bind_s]
        show (if (0 : Int32) = 0 then _ else _) = _
        rw [if_pos rfl]
      · rw [fm_drop, e3, bind_s, if_neg (by decide), h2, hz, bind_s, if_pos hz1]
    · obtain ⟨t, ht, hte⟩ := (hasK_iff hup9).mp hyes
      have hlL' : l < L ∧ c = cnt l := by rcases hl with ⟨-, -, h3⟩ | h3; · omega
                                          · exact h3
      have hz1 : z ≠ -1 := by
        rcases hzz with ⟨-, hall⟩ | ⟨i, t, hi, ht, he, e⟩
        · exact absurd ((hk t ht).1.1.symm.trans hte) (hall l t hlL'.1 (by omega))
        · rw [e]; have := hR.pp i hi; have := hR.c7 i hi; exact nI_m1 (by omega)
      have hyes5 : hasK (qbs_keys ms5) y.toInt64 c = true := by rw [← hasK_congr ekk]; exact hyes
      obtain ⟨ms9, em, f9m, d9m, k9m⟩ := fm_dropD (n := 200) d5 c7 (by omega) y hup5 hyes5
      have hA : AC (bs_P st) (bs_pages st) (bs_roots st) v L l (c - 1) (tOf (c - 1)) pl cnt := ⟨h.p8, h.p64, by omega, hR, rrt_snd hrr, etv, Or.inr hlL'.1, tOf_c (by omega)⟩
      have hag : ∀ i, i < c - 1 → bs_draftKeys st12 i = qbs_keys ms9 i ∧ bs_draftValues st12 i = qbs_values ms9 i := by
        intro i hi
        rw [(k12 i (by omega)).1, (k12 i (by omega)).2, (k9m i (by omega)).1, (k9m i (by omega)).2]
        exact ⟨dropF_congr ekk ekk (by omega), dropF_congr ekk evv (by omega)⟩
      have L0 : ¬ L = 0 := by omega
      have hE : ((bs_roots st (20 * (v % 8) + 18)).toInt32 - (if L = 0 then 0 else nI (cnt l))) + nI (c - 1) = (bs_roots st (20 * (v % 8) + 18)).toInt32 + (-1) := by
        have e1 : nI (c - 1) = nI c + (-1) := by
          have := pk_m1 (c - 1)
          rw [show c - 1 + 1 = c by omega] at this; exact this.symm
        rw [if_neg L0, ← hlL'.2, e1, ← Int32.add_assoc, Int32.sub_add_cancel]
      rcases act_rel h (f9.trans f12) (f5.trans f9m) hA hv h1 h2 d12 d9m hag rfl hE with ⟨st', ms', a1, a2, a3, a4⟩ | ⟨ms', a1, a2, a3⟩
      · refine ⟨200, 200, 0, st', qbs_put_thrown 0 ms', nI (v + 1), 0, .inl (nI (v + 1)), ?_, ?_, rfl, a4 0, Or.inl ⟨_, rfl, rfl, rfl⟩⟩
        · rw [hdropc, ed, bind_s]
          show (if (1 : Int32) = 0 then _ else _) = _
          rw [if_neg (by decide), a1]; rfl
        · rw [fm_drop, e3, bind_s, if_neg (by decide), h2, hz, bind_s, if_neg hz1, hlm, bind_s, l2, bind_s, em, bind_s, if_neg L0, a2, bind_s]
          show (if (1 : Int32) = 0 then _ else _) = _
          rw [if_neg (by decide), a3]
      · refine ⟨200, 200, 0, st12, qbs_put_thrown 1 ms', 0, 1, .inr 0, ?_, ?_, rfl, a3 1, Or.inr (Or.inl ⟨rfl, rfl⟩)⟩
        · rw [hdropc, ed, bind_s]
          show (if (1 : Int32) = 0 then _ else _) = _
          rw [if_neg (by decide), a1]; rfl
        · rw [fm_drop, e3, bind_s, if_neg (by decide), h2, hz, bind_s, if_neg hz1, hlm, bind_s, l2, bind_s, em, bind_s, if_neg L0, a2, bind_s]
          show (if (0 : Int32) = 0 then _ else _) = _
          rw [if_pos rfl]
